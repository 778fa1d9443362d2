section
-- ===== PART A: goes FIRST, ahead of the names: the tables' words, and 'selects' of the private methods out of them =====
/-- a private method of a class that the tables say can be made, by its rows of tables_1 -/
def lw_okq (q : MethodName × Nat) : Prop := (q.1.cls ≠ "java/lang/invoke/MethodHandle" ∧ q.1.cls ≠ "java/lang/invoke/VarHandle") ∧ Cond.instantiable q.1.cls q.2 ∈ tables_1 ∧ Cond.privateMethod q.1 ∈ tables_1 ∧ Cond.instanceMethod q.1 ∈ tables_1
theorem lw_p0 : lw_okq (⟨"SlabImage", "rowsOf", "(LSlabImage$Variable;)LSlabImage$Selection;"⟩, 8) := ⟨⟨by decide +kernel, by decide +kernel⟩, List.mem_of_getElem? (i := 10) (by decide +kernel), List.mem_of_getElem? (i := 383) (by decide +kernel), List.mem_of_getElem? (i := 384) (by decide +kernel)⟩
theorem lw_p1 : lw_okq (⟨"SlabImage", "columnsOf", "(LSlabImage$Variable;)LSlabImage$Selection;"⟩, 8) := ⟨⟨by decide +kernel, by decide +kernel⟩, List.mem_of_getElem? (i := 10) (by decide +kernel), List.mem_of_getElem? (i := 388) (by decide +kernel), List.mem_of_getElem? (i := 389) (by decide +kernel)⟩
theorem lw_p2 : lw_okq (⟨"SlabImageModel", "dimNamed", "(III)Z"⟩, 26) := ⟨⟨by decide +kernel, by decide +kernel⟩, List.mem_of_getElem? (i := 595) (by decide +kernel), List.mem_of_getElem? (i := 687) (by decide +kernel), List.mem_of_getElem? (i := 688) (by decide +kernel)⟩
theorem lw_p3 : lw_okq (⟨"SlabImageModel", "growing", "(I)I"⟩, 26) := ⟨⟨by decide +kernel, by decide +kernel⟩, List.mem_of_getElem? (i := 595) (by decide +kernel), List.mem_of_getElem? (i := 691) (by decide +kernel), List.mem_of_getElem? (i := 692) (by decide +kernel)⟩
theorem lw_p4 : lw_okq (⟨"SlabImageModel", "isDimension", "(I)Z"⟩, 26) := ⟨⟨by decide +kernel, by decide +kernel⟩, List.mem_of_getElem? (i := 595) (by decide +kernel), List.mem_of_getElem? (i := 699) (by decide +kernel), List.mem_of_getElem? (i := 700) (by decide +kernel)⟩
theorem lw_p5 : lw_okq (⟨"SlabImageModel", "varNamed", "(III)Z"⟩, 26) := ⟨⟨by decide +kernel, by decide +kernel⟩, List.mem_of_getElem? (i := 595) (by decide +kernel), List.mem_of_getElem? (i := 703) (by decide +kernel), List.mem_of_getElem? (i := 704) (by decide +kernel)⟩
theorem lw_p6 : lw_okq (⟨"SlabImageModel", "blank", "(II)V"⟩, 26) := ⟨⟨by decide +kernel, by decide +kernel⟩, List.mem_of_getElem? (i := 595) (by decide +kernel), List.mem_of_getElem? (i := 707) (by decide +kernel), List.mem_of_getElem? (i := 708) (by decide +kernel)⟩
theorem lw_p7 : lw_okq (⟨"SlabImageModel", "isVariable", "(I)Z"⟩, 26) := ⟨⟨by decide +kernel, by decide +kernel⟩, List.mem_of_getElem? (i := 595) (by decide +kernel), List.mem_of_getElem? (i := 719) (by decide +kernel), List.mem_of_getElem? (i := 720) (by decide +kernel)⟩
theorem lw_p8 : lw_okq (⟨"SlabImageModel", "find", "(II)I"⟩, 26) := ⟨⟨by decide +kernel, by decide +kernel⟩, List.mem_of_getElem? (i := 595) (by decide +kernel), List.mem_of_getElem? (i := 726) (by decide +kernel), List.mem_of_getElem? (i := 727) (by decide +kernel)⟩
theorem lw_p9 : lw_okq (⟨"SlabImageModel", "total", "(IJ)J"⟩, 26) := ⟨⟨by decide +kernel, by decide +kernel⟩, List.mem_of_getElem? (i := 595) (by decide +kernel), List.mem_of_getElem? (i := 742) (by decide +kernel), List.mem_of_getElem? (i := 743) (by decide +kernel)⟩
theorem lw_p10 : lw_okq (⟨"SlabImageModel", "beginOf", "(II)I"⟩, 26) := ⟨⟨by decide +kernel, by decide +kernel⟩, List.mem_of_getElem? (i := 595) (by decide +kernel), List.mem_of_getElem? (i := 746) (by decide +kernel), List.mem_of_getElem? (i := 747) (by decide +kernel)⟩
theorem lw_p11 : lw_okq (⟨"SlabImageModel", "isRecord", "(II)Z"⟩, 26) := ⟨⟨by decide +kernel, by decide +kernel⟩, List.mem_of_getElem? (i := 595) (by decide +kernel), List.mem_of_getElem? (i := 750) (by decide +kernel), List.mem_of_getElem? (i := 751) (by decide +kernel)⟩
theorem lw_p12 : lw_okq (⟨"SlabImageModel", "lengthOf", "(III)I"⟩, 26) := ⟨⟨by decide +kernel, by decide +kernel⟩, List.mem_of_getElem? (i := 595) (by decide +kernel), List.mem_of_getElem? (i := 754) (by decide +kernel), List.mem_of_getElem? (i := 755) (by decide +kernel)⟩
theorem lw_p13 : lw_okq (⟨"SlabImageModel", "headerSize", "(I)I"⟩, 26) := ⟨⟨by decide +kernel, by decide +kernel⟩, List.mem_of_getElem? (i := 595) (by decide +kernel), List.mem_of_getElem? (i := 758) (by decide +kernel), List.mem_of_getElem? (i := 759) (by decide +kernel)⟩
theorem lw_p14 : lw_okq (⟨"SlabImageModel", "listSize", "(II)I"⟩, 26) := ⟨⟨by decide +kernel, by decide +kernel⟩, List.mem_of_getElem? (i := 595) (by decide +kernel), List.mem_of_getElem? (i := 762) (by decide +kernel), List.mem_of_getElem? (i := 763) (by decide +kernel)⟩
theorem lw_p15 : lw_okq (⟨"SlabImageModel", "padded", "(II)I"⟩, 26) := ⟨⟨by decide +kernel, by decide +kernel⟩, List.mem_of_getElem? (i := 595) (by decide +kernel), List.mem_of_getElem? (i := 766) (by decide +kernel), List.mem_of_getElem? (i := 767) (by decide +kernel)⟩
def lw_privs_1 : List (MethodName × Nat) := [(⟨"SlabImage", "rowsOf", "(LSlabImage$Variable;)LSlabImage$Selection;"⟩, 8), (⟨"SlabImage", "columnsOf", "(LSlabImage$Variable;)LSlabImage$Selection;"⟩, 8), (⟨"SlabImageModel", "dimNamed", "(III)Z"⟩, 26), (⟨"SlabImageModel", "growing", "(I)I"⟩, 26), (⟨"SlabImageModel", "isDimension", "(I)Z"⟩, 26), (⟨"SlabImageModel", "varNamed", "(III)Z"⟩, 26), (⟨"SlabImageModel", "blank", "(II)V"⟩, 26), (⟨"SlabImageModel", "isVariable", "(I)Z"⟩, 26), (⟨"SlabImageModel", "find", "(II)I"⟩, 26), (⟨"SlabImageModel", "total", "(IJ)J"⟩, 26), (⟨"SlabImageModel", "beginOf", "(II)I"⟩, 26), (⟨"SlabImageModel", "isRecord", "(II)Z"⟩, 26), (⟨"SlabImageModel", "lengthOf", "(III)I"⟩, 26), (⟨"SlabImageModel", "headerSize", "(I)I"⟩, 26), (⟨"SlabImageModel", "listSize", "(II)I"⟩, 26), (⟨"SlabImageModel", "padded", "(II)I"⟩, 26)]
theorem lw_r1 : ∀ q ∈ lw_privs_1, lw_okq q := List.forall_mem_cons.mpr ⟨lw_p0, List.forall_mem_cons.mpr ⟨lw_p1, List.forall_mem_cons.mpr ⟨lw_p2, List.forall_mem_cons.mpr ⟨lw_p3, List.forall_mem_cons.mpr ⟨lw_p4, List.forall_mem_cons.mpr ⟨lw_p5, List.forall_mem_cons.mpr ⟨lw_p6, List.forall_mem_cons.mpr ⟨lw_p7, List.forall_mem_cons.mpr ⟨lw_p8, List.forall_mem_cons.mpr ⟨lw_p9, List.forall_mem_cons.mpr ⟨lw_p10, List.forall_mem_cons.mpr ⟨lw_p11, List.forall_mem_cons.mpr ⟨lw_p12, List.forall_mem_cons.mpr ⟨lw_p13, List.forall_mem_cons.mpr ⟨lw_p14, List.forall_mem_cons.mpr ⟨lw_p15, fun _ h => absurd h List.not_mem_nil⟩⟩⟩⟩⟩⟩⟩⟩⟩⟩⟩⟩⟩⟩⟩⟩
theorem lw_p16 : lw_okq (⟨"SlabImageModel", "cells", "(II)I"⟩, 26) := ⟨⟨by decide +kernel, by decide +kernel⟩, List.mem_of_getElem? (i := 595) (by decide +kernel), List.mem_of_getElem? (i := 770) (by decide +kernel), List.mem_of_getElem? (i := 771) (by decide +kernel)⟩
theorem lw_p17 : lw_okq (⟨"SlabImageModel", "recordSize", "(I)I"⟩, 26) := ⟨⟨by decide +kernel, by decide +kernel⟩, List.mem_of_getElem? (i := 595) (by decide +kernel), List.mem_of_getElem? (i := 777) (by decide +kernel), List.mem_of_getElem? (i := 778) (by decide +kernel)⟩
theorem lw_p18 : lw_okq (⟨"SlabImageModel", "recordVariables", "(I)I"⟩, 26) := ⟨⟨by decide +kernel, by decide +kernel⟩, List.mem_of_getElem? (i := 595) (by decide +kernel), List.mem_of_getElem? (i := 781) (by decide +kernel), List.mem_of_getElem? (i := 782) (by decide +kernel)⟩
theorem lw_p19 : lw_okq (⟨"SlabImageModel", "there", "(IJJZ)Z"⟩, 26) := ⟨⟨by decide +kernel, by decide +kernel⟩, List.mem_of_getElem? (i := 595) (by decide +kernel), List.mem_of_getElem? (i := 794) (by decide +kernel), List.mem_of_getElem? (i := 795) (by decide +kernel)⟩
theorem lw_p20 : lw_okq (⟨"SlabImageModel", "grow", "(IJ)Z"⟩, 26) := ⟨⟨by decide +kernel, by decide +kernel⟩, List.mem_of_getElem? (i := 595) (by decide +kernel), List.mem_of_getElem? (i := 798) (by decide +kernel), List.mem_of_getElem? (i := 799) (by decide +kernel)⟩
theorem lw_p21 : lw_okq (⟨"SlabImageModel", "cellAt", "(IJJ)I"⟩, 26) := ⟨⟨by decide +kernel, by decide +kernel⟩, List.mem_of_getElem? (i := 595) (by decide +kernel), List.mem_of_getElem? (i := 802) (by decide +kernel), List.mem_of_getElem? (i := 803) (by decide +kernel)⟩
theorem lw_p22 : lw_okq (⟨"SlabImageModel", "slabThere", "(IZ)Z"⟩, 26) := ⟨⟨by decide +kernel, by decide +kernel⟩, List.mem_of_getElem? (i := 595) (by decide +kernel), List.mem_of_getElem? (i := 819) (by decide +kernel), List.mem_of_getElem? (i := 820) (by decide +kernel)⟩
theorem lw_p23 : lw_okq (⟨"SlabImageModel", "many", "(II)I"⟩, 26) := ⟨⟨by decide +kernel, by decide +kernel⟩, List.mem_of_getElem? (i := 595) (by decide +kernel), List.mem_of_getElem? (i := 823) (by decide +kernel), List.mem_of_getElem? (i := 824) (by decide +kernel)⟩
theorem lw_p24 : lw_okq (⟨"SlabImageModel", "chosen", "(III)J"⟩, 26) := ⟨⟨by decide +kernel, by decide +kernel⟩, List.mem_of_getElem? (i := 595) (by decide +kernel), List.mem_of_getElem? (i := 827) (by decide +kernel), List.mem_of_getElem? (i := 828) (by decide +kernel)⟩
theorem lw_p25 : lw_okq (⟨"SlabImageModel", "writeImage", "(I)V"⟩, 26) := ⟨⟨by decide +kernel, by decide +kernel⟩, List.mem_of_getElem? (i := 595) (by decide +kernel), List.mem_of_getElem? (i := 851) (by decide +kernel), List.mem_of_getElem? (i := 852) (by decide +kernel)⟩
theorem lw_p26 : lw_okq (⟨"SlabImageModel", "writeValue", "(II)V"⟩, 26) := ⟨⟨by decide +kernel, by decide +kernel⟩, List.mem_of_getElem? (i := 595) (by decide +kernel), List.mem_of_getElem? (i := 856) (by decide +kernel), List.mem_of_getElem? (i := 857) (by decide +kernel)⟩
theorem lw_p27 : lw_okq (⟨"SlabImageModel", "write", "(I)V"⟩, 26) := ⟨⟨by decide +kernel, by decide +kernel⟩, List.mem_of_getElem? (i := 595) (by decide +kernel), List.mem_of_getElem? (i := 860) (by decide +kernel), List.mem_of_getElem? (i := 861) (by decide +kernel)⟩
theorem lw_p28 : lw_okq (⟨"SlabImageModel", "writeCount", "(II)V"⟩, 26) := ⟨⟨by decide +kernel, by decide +kernel⟩, List.mem_of_getElem? (i := 595) (by decide +kernel), List.mem_of_getElem? (i := 864) (by decide +kernel), List.mem_of_getElem? (i := 865) (by decide +kernel)⟩
theorem lw_p29 : lw_okq (⟨"SlabImageModel", "writeName", "(I)V"⟩, 26) := ⟨⟨by decide +kernel, by decide +kernel⟩, List.mem_of_getElem? (i := 595) (by decide +kernel), List.mem_of_getElem? (i := 868) (by decide +kernel), List.mem_of_getElem? (i := 869) (by decide +kernel)⟩
theorem lw_p30 : lw_okq (⟨"SlabImageModel", "writeList", "(II)V"⟩, 26) := ⟨⟨by decide +kernel, by decide +kernel⟩, List.mem_of_getElem? (i := 595) (by decide +kernel), List.mem_of_getElem? (i := 872) (by decide +kernel), List.mem_of_getElem? (i := 873) (by decide +kernel)⟩
theorem lw_p31 : lw_okq (⟨"SlabImageModel", "pad", "(I)V"⟩, 26) := ⟨⟨by decide +kernel, by decide +kernel⟩, List.mem_of_getElem? (i := 595) (by decide +kernel), List.mem_of_getElem? (i := 876) (by decide +kernel), List.mem_of_getElem? (i := 877) (by decide +kernel)⟩
def lw_privs_2 : List (MethodName × Nat) := [(⟨"SlabImageModel", "cells", "(II)I"⟩, 26), (⟨"SlabImageModel", "recordSize", "(I)I"⟩, 26), (⟨"SlabImageModel", "recordVariables", "(I)I"⟩, 26), (⟨"SlabImageModel", "there", "(IJJZ)Z"⟩, 26), (⟨"SlabImageModel", "grow", "(IJ)Z"⟩, 26), (⟨"SlabImageModel", "cellAt", "(IJJ)I"⟩, 26), (⟨"SlabImageModel", "slabThere", "(IZ)Z"⟩, 26), (⟨"SlabImageModel", "many", "(II)I"⟩, 26), (⟨"SlabImageModel", "chosen", "(III)J"⟩, 26), (⟨"SlabImageModel", "writeImage", "(I)V"⟩, 26), (⟨"SlabImageModel", "writeValue", "(II)V"⟩, 26), (⟨"SlabImageModel", "write", "(I)V"⟩, 26), (⟨"SlabImageModel", "writeCount", "(II)V"⟩, 26), (⟨"SlabImageModel", "writeName", "(I)V"⟩, 26), (⟨"SlabImageModel", "writeList", "(II)V"⟩, 26), (⟨"SlabImageModel", "pad", "(I)V"⟩, 26)]
theorem lw_r2 : ∀ q ∈ lw_privs_2, lw_okq q := List.forall_mem_cons.mpr ⟨lw_p16, List.forall_mem_cons.mpr ⟨lw_p17, List.forall_mem_cons.mpr ⟨lw_p18, List.forall_mem_cons.mpr ⟨lw_p19, List.forall_mem_cons.mpr ⟨lw_p20, List.forall_mem_cons.mpr ⟨lw_p21, List.forall_mem_cons.mpr ⟨lw_p22, List.forall_mem_cons.mpr ⟨lw_p23, List.forall_mem_cons.mpr ⟨lw_p24, List.forall_mem_cons.mpr ⟨lw_p25, List.forall_mem_cons.mpr ⟨lw_p26, List.forall_mem_cons.mpr ⟨lw_p27, List.forall_mem_cons.mpr ⟨lw_p28, List.forall_mem_cons.mpr ⟨lw_p29, List.forall_mem_cons.mpr ⟨lw_p30, List.forall_mem_cons.mpr ⟨lw_p31, fun _ h => absurd h List.not_mem_nil⟩⟩⟩⟩⟩⟩⟩⟩⟩⟩⟩⟩⟩⟩⟩⟩
theorem lw_p32 : lw_okq (⟨"SlabImageModel", "writeVariable", "(II)V"⟩, 26) := ⟨⟨by decide +kernel, by decide +kernel⟩, List.mem_of_getElem? (i := 595) (by decide +kernel), List.mem_of_getElem? (i := 880) (by decide +kernel), List.mem_of_getElem? (i := 881) (by decide +kernel)⟩
theorem lw_p33 : lw_okq (⟨"SlabImageModel", "writeCells", "(IIIZ)V"⟩, 26) := ⟨⟨by decide +kernel, by decide +kernel⟩, List.mem_of_getElem? (i := 595) (by decide +kernel), List.mem_of_getElem? (i := 884) (by decide +kernel), List.mem_of_getElem? (i := 885) (by decide +kernel)⟩
theorem lw_p34 : lw_okq (⟨"SlabImageModel", "readHeader", "(I)Z"⟩, 26) := ⟨⟨by decide +kernel, by decide +kernel⟩, List.mem_of_getElem? (i := 595) (by decide +kernel), List.mem_of_getElem? (i := 903) (by decide +kernel), List.mem_of_getElem? (i := 904) (by decide +kernel)⟩
theorem lw_p35 : lw_okq (⟨"SlabImageModel", "read", "(I)I"⟩, 26) := ⟨⟨by decide +kernel, by decide +kernel⟩, List.mem_of_getElem? (i := 595) (by decide +kernel), List.mem_of_getElem? (i := 907) (by decide +kernel), List.mem_of_getElem? (i := 908) (by decide +kernel)⟩
theorem lw_p36 : lw_okq (⟨"SlabImageModel", "readDimensions", "(I)Z"⟩, 26) := ⟨⟨by decide +kernel, by decide +kernel⟩, List.mem_of_getElem? (i := 595) (by decide +kernel), List.mem_of_getElem? (i := 911) (by decide +kernel), List.mem_of_getElem? (i := 912) (by decide +kernel)⟩
theorem lw_p37 : lw_okq (⟨"SlabImageModel", "readCount", "(I)I"⟩, 26) := ⟨⟨by decide +kernel, by decide +kernel⟩, List.mem_of_getElem? (i := 595) (by decide +kernel), List.mem_of_getElem? (i := 915) (by decide +kernel), List.mem_of_getElem? (i := 916) (by decide +kernel)⟩
theorem lw_p38 : lw_okq (⟨"SlabImageModel", "readName", "()I"⟩, 26) := ⟨⟨by decide +kernel, by decide +kernel⟩, List.mem_of_getElem? (i := 595) (by decide +kernel), List.mem_of_getElem? (i := 919) (by decide +kernel), List.mem_of_getElem? (i := 920) (by decide +kernel)⟩
theorem lw_p39 : lw_okq (⟨"SlabImageModel", "readList", "(II)Z"⟩, 26) := ⟨⟨by decide +kernel, by decide +kernel⟩, List.mem_of_getElem? (i := 595) (by decide +kernel), List.mem_of_getElem? (i := 923) (by decide +kernel), List.mem_of_getElem? (i := 924) (by decide +kernel)⟩
theorem lw_p40 : lw_okq (⟨"SlabImageModel", "readOf", "(I)I"⟩, 26) := ⟨⟨by decide +kernel, by decide +kernel⟩, List.mem_of_getElem? (i := 595) (by decide +kernel), List.mem_of_getElem? (i := 927) (by decide +kernel), List.mem_of_getElem? (i := 928) (by decide +kernel)⟩
theorem lw_p41 : lw_okq (⟨"SlabImageModel", "readVariable", "(II)Z"⟩, 26) := ⟨⟨by decide +kernel, by decide +kernel⟩, List.mem_of_getElem? (i := 595) (by decide +kernel), List.mem_of_getElem? (i := 931) (by decide +kernel), List.mem_of_getElem? (i := 932) (by decide +kernel)⟩
theorem lw_p42 : lw_okq (⟨"SlabImageModel", "readAllCells", "(I)V"⟩, 26) := ⟨⟨by decide +kernel, by decide +kernel⟩, List.mem_of_getElem? (i := 595) (by decide +kernel), List.mem_of_getElem? (i := 935) (by decide +kernel), List.mem_of_getElem? (i := 936) (by decide +kernel)⟩
theorem lw_p43 : lw_okq (⟨"SlabImageModel", "readCells", "(IIIZ)V"⟩, 26) := ⟨⟨by decide +kernel, by decide +kernel⟩, List.mem_of_getElem? (i := 595) (by decide +kernel), List.mem_of_getElem? (i := 939) (by decide +kernel), List.mem_of_getElem? (i := 940) (by decide +kernel)⟩
def lw_privs_3 : List (MethodName × Nat) := [(⟨"SlabImageModel", "writeVariable", "(II)V"⟩, 26), (⟨"SlabImageModel", "writeCells", "(IIIZ)V"⟩, 26), (⟨"SlabImageModel", "readHeader", "(I)Z"⟩, 26), (⟨"SlabImageModel", "read", "(I)I"⟩, 26), (⟨"SlabImageModel", "readDimensions", "(I)Z"⟩, 26), (⟨"SlabImageModel", "readCount", "(I)I"⟩, 26), (⟨"SlabImageModel", "readName", "()I"⟩, 26), (⟨"SlabImageModel", "readList", "(II)Z"⟩, 26), (⟨"SlabImageModel", "readOf", "(I)I"⟩, 26), (⟨"SlabImageModel", "readVariable", "(II)Z"⟩, 26), (⟨"SlabImageModel", "readAllCells", "(I)V"⟩, 26), (⟨"SlabImageModel", "readCells", "(IIIZ)V"⟩, 26)]
theorem lw_r3 : ∀ q ∈ lw_privs_3, lw_okq q := List.forall_mem_cons.mpr ⟨lw_p32, List.forall_mem_cons.mpr ⟨lw_p33, List.forall_mem_cons.mpr ⟨lw_p34, List.forall_mem_cons.mpr ⟨lw_p35, List.forall_mem_cons.mpr ⟨lw_p36, List.forall_mem_cons.mpr ⟨lw_p37, List.forall_mem_cons.mpr ⟨lw_p38, List.forall_mem_cons.mpr ⟨lw_p39, List.forall_mem_cons.mpr ⟨lw_p40, List.forall_mem_cons.mpr ⟨lw_p41, List.forall_mem_cons.mpr ⟨lw_p42, List.forall_mem_cons.mpr ⟨lw_p43, fun _ h => absurd h List.not_mem_nil⟩⟩⟩⟩⟩⟩⟩⟩⟩⟩⟩⟩
def lw_privs : List (MethodName × Nat) := lw_privs_1 ++ (lw_privs_2 ++ (lw_privs_3))
def lw_tbl : List Cond := k2_sels lw_privs ++ tables_1
theorem lw_privs_ok : ∀ q ∈ lw_privs, lw_okq q := by
  show ∀ q ∈ lw_privs_1 ++ (lw_privs_2 ++ (lw_privs_3)), lw_okq q
  exact List.forall_mem_append.mpr ⟨lw_r1, List.forall_mem_append.mpr ⟨lw_r2, lw_r3⟩⟩
end
section
/-! names: classes, their fields, methods (printed by my program out of the listing) -/
def RX0 : String := "SlabImage$AttributeList"
def TX0 : u_T := fun k => match k with
  | 0 => ("SlabImage$AttributeList", "count", "I", false)
  | 1 => ("SlabImage$AttributeList", "names", "[I", true)
  | 2 => ("SlabImage$AttributeList", "types", "[I", true)
  | 3 => ("SlabImage$AttributeList", "firsts", "[I", true)
  | _ => ("SlabImage$AttributeList", "seconds", "[I", true)
def tyX0 : Nat → FieldType := fun k => match k with
  | 0 => .int
  | 1 => .array (.int)
  | 2 => .array (.int)
  | 3 => .array (.int)
  | _ => .array (.int)
theorem nmX0 : ∀ a, a < 5 → ∀ b, b < 5 → a ≠ b → (TX0 a).2.1 ≠ (TX0 b).2.1 := by decide +kernel
theorem tyX0_ok : ∀ k, k < 5 → parseFieldDescriptor (TX0 k).2.2.1 = some (tyX0 k) := by decide +kernel
def RX1 : String := "SlabImage$ByteRow"
def TX1 : u_T := fun k => match k with
  | 0 => ("SlabImage$ByteRow", "bytes", "[B", true)
  | 1 => ("SlabImage$ByteRow", "length", "I", false)
  | _ => ("SlabImage$ByteRow", "cursor", "I", false)
def tyX1 : Nat → FieldType := fun k => match k with
  | 0 => .array (.byte)
  | 1 => .int
  | _ => .int
theorem nmX1 : ∀ a, a < 3 → ∀ b, b < 3 → a ≠ b → (TX1 a).2.1 ≠ (TX1 b).2.1 := by decide +kernel
theorem tyX1_ok : ∀ k, k < 3 → parseFieldDescriptor (TX1 k).2.2.1 = some (tyX1 k) := by decide +kernel
def RX2 : String := "SlabImage$Selection"
def TX2 : u_T := fun k => match k with
  | 0 => ("SlabImage$Selection", "start", "I", false)
  | 1 => ("SlabImage$Selection", "count", "I", false)
  | _ => ("SlabImage$Selection", "stride", "I", false)
def tyX2 : Nat → FieldType := fun k => match k with
  | 0 => .int
  | 1 => .int
  | _ => .int
theorem nmX2 : ∀ a, a < 3 → ∀ b, b < 3 → a ≠ b → (TX2 a).2.1 ≠ (TX2 b).2.1 := by decide +kernel
theorem tyX2_ok : ∀ k, k < 3 → parseFieldDescriptor (TX2 k).2.2.1 = some (tyX2 k) := by decide +kernel
def RX3 : String := "SlabImage$Store"
def TX3 : u_T := fun k => match k with
  | 0 => ("SlabImage$Store", "recordCount", "I", false)
  | 1 => ("SlabImage$Store", "dimensionCount", "I", false)
  | 2 => ("SlabImage$Store", "dimensionNames", "[I", true)
  | 3 => ("SlabImage$Store", "dimensionLengths", "[I", true)
  | 4 => ("SlabImage$Store", "variableCount", "I", false)
  | 5 => ("SlabImage$Store", "variableNames", "[I", true)
  | 6 => ("SlabImage$Store", "variables", "[LSlabImage$Variable;", true)
  | _ => ("SlabImage$Store", "attributes", "LSlabImage$AttributeList;", true)
def tyX3 : Nat → FieldType := fun k => match k with
  | 0 => .int
  | 1 => .int
  | 2 => .array (.int)
  | 3 => .array (.int)
  | 4 => .int
  | 5 => .array (.int)
  | 6 => .array (.object "SlabImage$Variable")
  | _ => .object "SlabImage$AttributeList"
theorem nmX3 : ∀ a, a < 8 → ∀ b, b < 8 → a ≠ b → (TX3 a).2.1 ≠ (TX3 b).2.1 := by decide +kernel
theorem tyX3_ok : ∀ k, k < 8 → parseFieldDescriptor (TX3 k).2.2.1 = some (tyX3 k) := by decide +kernel
def RX4 : String := "SlabImage$Variable"
def TX4 : u_T := fun k => match k with
  | 0 => ("SlabImage$Variable", "type", "I", false)
  | 1 => ("SlabImage$Variable", "firstAxis", "I", false)
  | 2 => ("SlabImage$Variable", "secondAxis", "I", false)
  | 3 => ("SlabImage$Variable", "growing", "Z", false)
  | 4 => ("SlabImage$Variable", "rowCount", "I", false)
  | 5 => ("SlabImage$Variable", "columnCount", "I", false)
  | 6 => ("SlabImage$Variable", "attributes", "LSlabImage$AttributeList;", true)
  | _ => ("SlabImage$Variable", "cells", "[I", true)
def tyX4 : Nat → FieldType := fun k => match k with
  | 0 => .int
  | 1 => .int
  | 2 => .int
  | 3 => .boolean
  | 4 => .int
  | 5 => .int
  | 6 => .object "SlabImage$AttributeList"
  | _ => .array (.int)
theorem nmX4 : ∀ a, a < 8 → ∀ b, b < 8 → a ≠ b → (TX4 a).2.1 ≠ (TX4 b).2.1 := by decide +kernel
theorem tyX4_ok : ∀ k, k < 8 → parseFieldDescriptor (TX4 k).2.2.1 = some (tyX4 k) := by decide +kernel
def RX5 : String := "SlabImage"
def TX5 : u_T := fun k => match k with
  | 0 => ("SlabImage", "store", "LSlabImage$Store;", false)
  | 1 => ("SlabImage", "spare", "LSlabImage$Store;", false)
  | 2 => ("SlabImage", "defining", "Z", false)
  | 3 => ("SlabImage", "rowSelection", "LSlabImage$Selection;", true)
  | 4 => ("SlabImage", "columnSelection", "LSlabImage$Selection;", true)
  | 5 => ("SlabImage", "zeroAlone", "LSlabImage$Selection;", true)
  | 6 => ("SlabImage", "draft", "LSlabImage$ByteRow;", true)
  | _ => ("SlabImage", "image", "LSlabImage$ByteRow;", true)
def tyX5 : Nat → FieldType := fun k => match k with
  | 0 => .object "SlabImage$Store"
  | 1 => .object "SlabImage$Store"
  | 2 => .boolean
  | 3 => .object "SlabImage$Selection"
  | 4 => .object "SlabImage$Selection"
  | 5 => .object "SlabImage$Selection"
  | 6 => .object "SlabImage$ByteRow"
  | _ => .object "SlabImage$ByteRow"
theorem nmX5 : ∀ a, a < 8 → ∀ b, b < 8 → a ≠ b → (TX5 a).2.1 ≠ (TX5 b).2.1 := by decide +kernel
theorem tyX5_ok : ∀ k, k < 8 → parseFieldDescriptor (TX5 k).2.2.1 = some (tyX5 k) := by decide +kernel
def RX6 : String := "SlabImageModel"
def TX6 : u_T := fun k => match k with
  | 0 => ("SlabImageModel", "now", "I", false)
  | 1 => ("SlabImageModel", "data", "Z", false)
  | 2 => ("SlabImageModel", "dimensions", "[I", false)
  | 3 => ("SlabImageModel", "dimName", "[I", false)
  | 4 => ("SlabImageModel", "dimLength", "[I", false)
  | 5 => ("SlabImageModel", "variables", "[I", false)
  | 6 => ("SlabImageModel", "varName", "[I", false)
  | 7 => ("SlabImageModel", "varType", "[I", false)
  | 8 => ("SlabImageModel", "axes", "[I", false)
  | 9 => ("SlabImageModel", "axis", "[I", false)
  | 10 => ("SlabImageModel", "attributes", "[I", false)
  | 11 => ("SlabImageModel", "attName", "[I", false)
  | 12 => ("SlabImageModel", "attType", "[I", false)
  | 13 => ("SlabImageModel", "attX", "[I", false)
  | 14 => ("SlabImageModel", "attY", "[I", false)
  | 15 => ("SlabImageModel", "records", "[I", false)
  | 16 => ("SlabImageModel", "cell", "[I", false)
  | 17 => ("SlabImageModel", "start", "[I", false)
  | 18 => ("SlabImageModel", "count", "[I", false)
  | 19 => ("SlabImageModel", "stride", "[I", false)
  | 20 => ("SlabImageModel", "image", "[I", false)
  | 21 => ("SlabImageModel", "length", "I", false)
  | 22 => ("SlabImageModel", "draft", "[I", false)
  | 23 => ("SlabImageModel", "drafted", "I", false)
  | 24 => ("SlabImageModel", "at", "I", false)
  | _ => ("SlabImageModel", "runsOut", "Z", false)
def tyX6 : Nat → FieldType := fun k => match k with
  | 0 => .int
  | 1 => .boolean
  | 2 => .array (.int)
  | 3 => .array (.int)
  | 4 => .array (.int)
  | 5 => .array (.int)
  | 6 => .array (.int)
  | 7 => .array (.int)
  | 8 => .array (.int)
  | 9 => .array (.int)
  | 10 => .array (.int)
  | 11 => .array (.int)
  | 12 => .array (.int)
  | 13 => .array (.int)
  | 14 => .array (.int)
  | 15 => .array (.int)
  | 16 => .array (.int)
  | 17 => .array (.int)
  | 18 => .array (.int)
  | 19 => .array (.int)
  | 20 => .array (.int)
  | 21 => .int
  | 22 => .array (.int)
  | 23 => .int
  | 24 => .int
  | _ => .boolean
theorem nmX6 : ∀ a, a < 26 → ∀ b, b < 26 → a ≠ b → (TX6 a).2.1 ≠ (TX6 b).2.1 := by decide +kernel
theorem tyX6_ok : ∀ k, k < 26 → parseFieldDescriptor (TX6 k).2.2.1 = some (tyX6 k) := by decide +kernel
def am_sn (i : Nat) : String := match i with
  | 0 => "WIDTH"
  | 1 => "FILL"
  | 2 => "LEAST"
  | _ => "GREATEST"
def my_0 : MethodName := ⟨"SlabImage", "<init>", "()V"⟩
def my_1 : MethodName := ⟨"SlabImage$Store", "<init>", "()V"⟩
def my_2 : MethodName := ⟨"SlabImage$Variable", "<init>", "()V"⟩
def my_3 : MethodName := ⟨"SlabImage$AttributeList", "<init>", "()V"⟩
def my_4 : MethodName := ⟨"SlabImage$Selection", "<init>", "()V"⟩
def my_5 : MethodName := ⟨"SlabImage$ByteRow", "<init>", "()V"⟩
def my_6 : MethodName := ⟨"SlabImage", "dimension", "(II)I"⟩
def my_7 : MethodName := ⟨"SlabImage$Store", "defineDimension", "(II)I"⟩
def my_8 : MethodName := ⟨"SlabImage", "isName", "(I)Z"⟩
def my_9 : MethodName := ⟨"SlabImage", "placeOf", "(I[II)I"⟩
def my_10 : MethodName := ⟨"SlabImage$Store", "hasGrowingDimension", "()Z"⟩
def my_11 : MethodName := ⟨"SlabImage", "variable", "(IIII)I"⟩
def my_12 : MethodName := ⟨"SlabImage$Store", "defineVariable", "(IIII)I"⟩
def my_13 : MethodName := ⟨"SlabImage", "isType", "(I)Z"⟩
def my_14 : MethodName := ⟨"SlabImage$Store", "mayBeAxis", "(I)Z"⟩
def my_15 : MethodName := ⟨"SlabImage$Store", "isDimension", "(I)Z"⟩
def my_16 : MethodName := ⟨"SlabImage$Store", "lengthOf", "(I)I"⟩
def my_17 : MethodName := ⟨"SlabImage$Variable", "shape", "(IIII)V"⟩
def my_18 : MethodName := ⟨"SlabImage$Variable", "fill", "(I)V"⟩
def my_19 : MethodName := ⟨"java/util/Arrays", "fill", "([II)V"⟩
def my_20 : MethodName := ⟨"SlabImage", "attribute", "(IIIII)I"⟩
def my_21 : MethodName := ⟨"SlabImage$Store", "attributesOf", "(I)LSlabImage$AttributeList;"⟩
def my_22 : MethodName := ⟨"SlabImage$Store", "variableAt", "(I)LSlabImage$Variable;"⟩
def my_23 : MethodName := ⟨"SlabImage$AttributeList", "assign", "(IIII)I"⟩
def my_24 : MethodName := ⟨"SlabImage", "isValue", "(II)Z"⟩
def my_25 : MethodName := ⟨"SlabImage", "drop", "(II)I"⟩
def my_26 : MethodName := ⟨"SlabImage$AttributeList", "takeOff", "(I)I"⟩
def my_27 : MethodName := ⟨"SlabImage", "rename", "(ZII)I"⟩
def my_28 : MethodName := ⟨"SlabImage$Store", "renameVariable", "(II)I"⟩
def my_29 : MethodName := ⟨"SlabImage$Store", "changeName", "([IIII)I"⟩
def my_30 : MethodName := ⟨"SlabImage$Store", "renameDimension", "(II)I"⟩
def my_31 : MethodName := ⟨"SlabImage", "seal", "()I"⟩
def my_32 : MethodName := ⟨"SlabImage$Store", "imageBytes", "(J)J"⟩
def my_33 : MethodName := ⟨"SlabImage$Store", "headerBytes", "()I"⟩
def my_34 : MethodName := ⟨"SlabImage$AttributeList", "headerBytes", "()I"⟩
def my_35 : MethodName := ⟨"SlabImage", "padded", "(I)I"⟩
def my_36 : MethodName := ⟨"SlabImage$Variable", "headerBytes", "()I"⟩
def my_37 : MethodName := ⟨"SlabImage$Variable", "axisCount", "()I"⟩
def my_38 : MethodName := ⟨"SlabImage$Store", "paddedBytes", "(IZ)I"⟩
def my_39 : MethodName := ⟨"SlabImage$Variable", "paddedSize", "()I"⟩
def my_40 : MethodName := ⟨"SlabImage$Variable", "bytesOfRow", "()I"⟩
def my_41 : MethodName := ⟨"SlabImage$Store", "recordBytes", "()I"⟩
def my_42 : MethodName := ⟨"SlabImage$Store", "recordVariables", "()I"⟩
def my_43 : MethodName := ⟨"SlabImage", "redefine", "()I"⟩
def my_44 : MethodName := ⟨"SlabImage", "put", "(IIII)I"⟩
def my_45 : MethodName := ⟨"SlabImage$Variable", "admits", "(JJ)Z"⟩
def my_46 : MethodName := ⟨"SlabImage$Store", "growToHold", "(LSlabImage$Variable;J)Z"⟩
def my_47 : MethodName := ⟨"SlabImage$Variable", "setCell", "(III)V"⟩
def my_48 : MethodName := ⟨"SlabImage", "get", "(III)J"⟩
def my_49 : MethodName := ⟨"SlabImage$Store", "holds", "(LSlabImage$Variable;JJ)Z"⟩
def my_50 : MethodName := ⟨"SlabImage$Variable", "cell", "(II)I"⟩
def my_51 : MethodName := ⟨"SlabImage", "select", "(IIII)I"⟩
def my_52 : MethodName := ⟨"SlabImage$Selection", "become", "(III)V"⟩
def my_53 : MethodName := ⟨"SlabImage", "putSlab", "(III)I"⟩
def my_54 : MethodName := ⟨"SlabImage", "rowsOf", "(LSlabImage$Variable;)LSlabImage$Selection;"⟩
def my_55 : MethodName := ⟨"SlabImage", "columnsOf", "(LSlabImage$Variable;)LSlabImage$Selection;"⟩
def my_56 : MethodName := ⟨"SlabImage$Selection", "last", "()J"⟩
def my_57 : MethodName := ⟨"SlabImage", "areValues", "(IIII)Z"⟩
def my_58 : MethodName := ⟨"SlabImage$Variable", "setSlab", "(LSlabImage$Selection;LSlabImage$Selection;II)V"⟩
def my_59 : MethodName := ⟨"SlabImage$Selection", "at", "(I)I"⟩
def my_60 : MethodName := ⟨"SlabImage", "getSlab", "(II)J"⟩
def my_61 : MethodName := ⟨"SlabImage", "records", "()I"⟩
def my_62 : MethodName := ⟨"SlabImage", "size", "()I"⟩
def my_63 : MethodName := ⟨"SlabImage", "begin", "(I)I"⟩
def my_64 : MethodName := ⟨"SlabImage$Store", "beginOf", "(I)I"⟩
def my_65 : MethodName := ⟨"SlabImage", "eight", "(I)J"⟩
def my_66 : MethodName := ⟨"SlabImage$Store", "writeTo", "(LSlabImage$ByteRow;)V"⟩
def my_67 : MethodName := ⟨"SlabImage$ByteRow", "clear", "()V"⟩
def my_68 : MethodName := ⟨"SlabImage$ByteRow", "appendWord", "(I)V"⟩
def my_69 : MethodName := ⟨"SlabImage$ByteRow", "appendNumber", "(II)V"⟩
def my_70 : MethodName := ⟨"SlabImage$ByteRow", "append", "(I)V"⟩
def my_71 : MethodName := ⟨"SlabImage$ByteRow", "appendListHead", "(II)V"⟩
def my_72 : MethodName := ⟨"SlabImage$ByteRow", "appendName", "(I)V"⟩
def my_73 : MethodName := ⟨"SlabImage$AttributeList", "writeTo", "(LSlabImage$ByteRow;)V"⟩
def my_74 : MethodName := ⟨"SlabImage$ByteRow", "appendPadding", "()V"⟩
def my_75 : MethodName := ⟨"SlabImage$Store", "writeVariable", "(LSlabImage$ByteRow;II)V"⟩
def my_76 : MethodName := ⟨"SlabImage$Store", "writeCells", "(LSlabImage$ByteRow;)V"⟩
def my_77 : MethodName := ⟨"SlabImage$Variable", "writeRow", "(LSlabImage$ByteRow;I)V"⟩
def my_78 : MethodName := ⟨"SlabImage$Store", "writeRecord", "(LSlabImage$ByteRow;IZ)V"⟩
def my_79 : MethodName := ⟨"SlabImage$ByteRow", "at", "(I)I"⟩
def my_80 : MethodName := ⟨"SlabImage", "add", "(JI)Z"⟩
def my_81 : MethodName := ⟨"SlabImage", "erase", "()V"⟩
def my_82 : MethodName := ⟨"SlabImage", "open", "()I"⟩
def my_83 : MethodName := ⟨"SlabImage$Store", "clear", "()V"⟩
def my_84 : MethodName := ⟨"SlabImage$AttributeList", "clear", "()V"⟩
def my_85 : MethodName := ⟨"SlabImage$Store", "readFrom", "(LSlabImage$ByteRow;)Z"⟩
def my_86 : MethodName := ⟨"SlabImage$ByteRow", "rewind", "()V"⟩
def my_87 : MethodName := ⟨"SlabImage$ByteRow", "takeWord", "()I"⟩
def my_88 : MethodName := ⟨"SlabImage$ByteRow", "takeNumber", "(I)I"⟩
def my_89 : MethodName := ⟨"SlabImage$Store", "readDimensions", "(LSlabImage$ByteRow;)Z"⟩
def my_90 : MethodName := ⟨"SlabImage$ByteRow", "takeCount", "()I"⟩
def my_91 : MethodName := ⟨"SlabImage$ByteRow", "takeName", "()I"⟩
def my_92 : MethodName := ⟨"SlabImage$AttributeList", "readFrom", "(LSlabImage$ByteRow;)Z"⟩
def my_93 : MethodName := ⟨"SlabImage$ByteRow", "takeValue", "(I)I"⟩
def my_94 : MethodName := ⟨"SlabImage$ByteRow", "takePadding", "()V"⟩
def my_95 : MethodName := ⟨"SlabImage$Store", "readVariables", "(LSlabImage$ByteRow;)Z"⟩
def my_96 : MethodName := ⟨"SlabImage$Store", "readVariable", "(LSlabImage$ByteRow;LSlabImage$AttributeList;)Z"⟩
def my_97 : MethodName := ⟨"SlabImage$Store", "readCells", "(LSlabImage$ByteRow;)V"⟩
def my_98 : MethodName := ⟨"SlabImage$Variable", "readRow", "(LSlabImage$ByteRow;I)V"⟩
def my_99 : MethodName := ⟨"SlabImage$Store", "readRecord", "(LSlabImage$ByteRow;IZ)V"⟩
def my_100 : MethodName := ⟨"SlabImage$ByteRow", "matches", "(LSlabImage$ByteRow;)Z"⟩
def my_101 : MethodName := ⟨"SlabImageModel", "<init>", "()V"⟩
def my_102 : MethodName := ⟨"SlabImageModel", "dimension", "(II)I"⟩
def my_103 : MethodName := ⟨"SlabImageModel", "isName", "(I)Z"⟩
def my_104 : MethodName := ⟨"SlabImageModel", "dimNamed", "(III)Z"⟩
def my_105 : MethodName := ⟨"SlabImageModel", "growing", "(I)I"⟩
def my_106 : MethodName := ⟨"SlabImageModel", "variable", "(IIII)I"⟩
def my_107 : MethodName := ⟨"SlabImageModel", "isDimension", "(I)Z"⟩
def my_108 : MethodName := ⟨"SlabImageModel", "varNamed", "(III)Z"⟩
def my_109 : MethodName := ⟨"SlabImageModel", "blank", "(II)V"⟩
def my_110 : MethodName := ⟨"SlabImageModel", "fill", "(I)I"⟩
def my_111 : MethodName := ⟨"SlabImageModel", "attribute", "(IIIII)I"⟩
def my_112 : MethodName := ⟨"SlabImageModel", "isVariable", "(I)Z"⟩
def my_113 : MethodName := ⟨"SlabImageModel", "fits", "(II)Z"⟩
def my_114 : MethodName := ⟨"SlabImageModel", "find", "(II)I"⟩
def my_115 : MethodName := ⟨"SlabImageModel", "drop", "(II)I"⟩
def my_116 : MethodName := ⟨"SlabImageModel", "rename", "(ZII)I"⟩
def my_117 : MethodName := ⟨"SlabImageModel", "seal", "()I"⟩
def my_118 : MethodName := ⟨"SlabImageModel", "total", "(IJ)J"⟩
def my_119 : MethodName := ⟨"SlabImageModel", "beginOf", "(II)I"⟩
def my_120 : MethodName := ⟨"SlabImageModel", "isRecord", "(II)Z"⟩
def my_121 : MethodName := ⟨"SlabImageModel", "lengthOf", "(III)I"⟩
def my_122 : MethodName := ⟨"SlabImageModel", "headerSize", "(I)I"⟩
def my_123 : MethodName := ⟨"SlabImageModel", "listSize", "(II)I"⟩
def my_124 : MethodName := ⟨"SlabImageModel", "padded", "(II)I"⟩
def my_125 : MethodName := ⟨"SlabImageModel", "cells", "(II)I"⟩
def my_126 : MethodName := ⟨"SlabImageModel", "bytes", "(I)I"⟩
def my_127 : MethodName := ⟨"SlabImageModel", "recordSize", "(I)I"⟩
def my_128 : MethodName := ⟨"SlabImageModel", "recordVariables", "(I)I"⟩
def my_129 : MethodName := ⟨"SlabImageModel", "redefine", "()I"⟩
def my_130 : MethodName := ⟨"SlabImageModel", "put", "(IIII)I"⟩
def my_131 : MethodName := ⟨"SlabImageModel", "there", "(IJJZ)Z"⟩
def my_132 : MethodName := ⟨"SlabImageModel", "grow", "(IJ)Z"⟩
def my_133 : MethodName := ⟨"SlabImageModel", "cellAt", "(IJJ)I"⟩
def my_134 : MethodName := ⟨"SlabImageModel", "get", "(III)J"⟩
def my_135 : MethodName := ⟨"SlabImageModel", "select", "(IIII)I"⟩
def my_136 : MethodName := ⟨"SlabImageModel", "putSlab", "(III)I"⟩
def my_137 : MethodName := ⟨"SlabImageModel", "slabThere", "(IZ)Z"⟩
def my_138 : MethodName := ⟨"SlabImageModel", "many", "(II)I"⟩
def my_139 : MethodName := ⟨"SlabImageModel", "chosen", "(III)J"⟩
def my_140 : MethodName := ⟨"SlabImageModel", "getSlab", "(II)J"⟩
def my_141 : MethodName := ⟨"SlabImageModel", "records", "()I"⟩
def my_142 : MethodName := ⟨"SlabImageModel", "size", "()I"⟩
def my_143 : MethodName := ⟨"SlabImageModel", "begin", "(I)I"⟩
def my_144 : MethodName := ⟨"SlabImageModel", "eight", "(I)J"⟩
def my_145 : MethodName := ⟨"SlabImageModel", "writeImage", "(I)V"⟩
def my_146 : MethodName := ⟨"SlabImageModel", "writeValue", "(II)V"⟩
def my_147 : MethodName := ⟨"SlabImageModel", "write", "(I)V"⟩
def my_148 : MethodName := ⟨"SlabImageModel", "writeCount", "(II)V"⟩
def my_149 : MethodName := ⟨"SlabImageModel", "writeName", "(I)V"⟩
def my_150 : MethodName := ⟨"SlabImageModel", "writeList", "(II)V"⟩
def my_151 : MethodName := ⟨"SlabImageModel", "pad", "(I)V"⟩
def my_152 : MethodName := ⟨"SlabImageModel", "writeVariable", "(II)V"⟩
def my_153 : MethodName := ⟨"SlabImageModel", "writeCells", "(IIIZ)V"⟩
def my_154 : MethodName := ⟨"SlabImageModel", "add", "(JI)Z"⟩
def my_155 : MethodName := ⟨"SlabImageModel", "erase", "()V"⟩
def my_156 : MethodName := ⟨"SlabImageModel", "open", "()I"⟩
def my_157 : MethodName := ⟨"SlabImageModel", "readHeader", "(I)Z"⟩
def my_158 : MethodName := ⟨"SlabImageModel", "read", "(I)I"⟩
def my_159 : MethodName := ⟨"SlabImageModel", "readDimensions", "(I)Z"⟩
def my_160 : MethodName := ⟨"SlabImageModel", "readCount", "(I)I"⟩
def my_161 : MethodName := ⟨"SlabImageModel", "readName", "()I"⟩
def my_162 : MethodName := ⟨"SlabImageModel", "readList", "(II)Z"⟩
def my_163 : MethodName := ⟨"SlabImageModel", "readOf", "(I)I"⟩
def my_164 : MethodName := ⟨"SlabImageModel", "readVariable", "(II)Z"⟩
def my_165 : MethodName := ⟨"SlabImageModel", "readAllCells", "(I)V"⟩
def my_166 : MethodName := ⟨"SlabImageModel", "readCells", "(IIIZ)V"⟩
def my_167 : MethodName := ⟨"SlabImageLaw", "law", "([I)Z"⟩
def am_nestM : List (String × Nat × MethodName × String) := [("SlabImage$Store", 49, my_8, "SlabImage"), ("SlabImage$Store", 53, my_9, "SlabImage"), ("SlabImage$Store", 61, my_13, "SlabImage"), ("SlabImage$AttributeList", 28, my_8, "SlabImage"), ("SlabImage$AttributeList", 32, my_13, "SlabImage"), ("SlabImage$AttributeList", 35, my_24, "SlabImage"), ("SlabImage$AttributeList", 39, my_9, "SlabImage"), ("SlabImage$AttributeList", 46, my_35, "SlabImage"), ("SlabImage$Variable", 71, my_35, "SlabImage"), ("SlabImage$ByteRow", 30, my_35, "SlabImage")]
def am_nestF : List (String × Nat × String × String × String × String) := [("SlabImage$Variable", 42, "SlabImage", "FILL", "[I", "SlabImage"), ("SlabImage$AttributeList", 43, "SlabImage", "WIDTH", "[I", "SlabImage"), ("SlabImage$Variable", 64, "SlabImage", "WIDTH", "[I", "SlabImage"), ("SlabImage$ByteRow", 37, "SlabImage", "WIDTH", "[I", "SlabImage")]
end
section
/-! the pure machine: cells (rows of numbers: kind, length, contents; rows of references; objects: class number, fields), heap (next position, slots made, cells), locals, answers -/
abbrev am_C : Type := (Nat × Nat × (Nat → Int32)) ⊕ ((Nat × (Nat → Option Nat)) ⊕ (Nat × List Value))
abbrev am_H : Type := Nat × Nat × (Nat → Option am_C)
abbrev am_L : Type := List (Option Value)
abbrev am_R : Type := Option Value × am_H
abbrev am_F : Type := am_L → List Value → am_H → Option am_R
abbrev am_K : Type := Nat → Nat → am_F
abbrev am_B : Type := am_K → Nat → am_F
def am_run (T : Nat → am_B) : Nat → am_K
  | 0 => fun _ _ _ _ _ => none
  | n + 1 => fun d lab => T lab (am_run T n) d
def am_set (A : am_H) (p : Nat) (e : am_C) : am_H := (A.1, A.2.1, fun q => if q = p then some e else A.2.2 q)
def am_new (A : am_H) (n : Nat) (e : am_C) : am_H := (A.1 + 1, A.2.1 + n, fun q => if q = A.1 then some e else A.2.2 q)
def am_rv (r : Option Nat) : Value := match r with
  | none => .null
  | some p => .ref p
/-- a store into a local: not behind a long -/
def am_put (l : am_L) (i : Nat) (v : Value) : Option am_L := if i < l.length then (match i with
  | 0 => some (l.set 0 (some v))
  | j + 1 => match l[j]? with
    | some (some (.long _)) => none
    | some (some (.double _)) => none
    | _ => some (l.set (j + 1) (some v))) else none
def am_put2 (l : am_L) (i : Nat) (v : Value) : Option am_L := if i + 1 < l.length then (match am_put l i v with
  | some l' => some (l'.set (i + 1) none)
  | none => none) else none
/-- arguments as locals -/
def am_sl : List Value → am_L
  | [] => []
  | v :: vs => if v.category = 2 then some v :: none :: am_sl vs else some v :: am_sl vs
def am_ent (vs : List Value) (n : Nat) : am_L := am_sl vs ++ List.replicate (n - (am_sl vs).length) none
-- constants
def i_int (v : Int32) (f : am_F) : am_F := fun l s A => f l (.int v :: s) A
def i_long (v : Int64) (f : am_F) : am_F := fun l s A => f l (.long v :: s) A
def i_null (f : am_F) : am_F := fun l s A => f l (.null :: s) A
def i_stat (i : Nat) (f : am_F) : am_F := fun l s A => f l (.ref i :: s) A
-- locals
def i_iload (i : Nat) (f : am_F) : am_F := fun l s A => match l[i]? with
  | some (some (.int x)) => f l (.int x :: s) A
  | _ => none
def i_lload (i : Nat) (f : am_F) : am_F := fun l s A => match l[i]? with
  | some (some (.long x)) => f l (.long x :: s) A
  | _ => none
def i_aload (i : Nat) (f : am_F) : am_F := fun l s A => match l[i]? with
  | some (some (.ref p)) => f l (.ref p :: s) A
  | some (some .null) => f l (.null :: s) A
  | _ => none
def i_istore (i : Nat) (f : am_F) : am_F := fun l s A => match s with
  | .int x :: s => (match am_put l i (.int x) with
    | some l' => f l' s A
    | none => none)
  | _ => none
def i_astore (i : Nat) (f : am_F) : am_F := fun l s A => match s with
  | .ref p :: s => (match am_put l i (.ref p) with
    | some l' => f l' s A
    | none => none)
  | .null :: s => (match am_put l i .null with
    | some l' => f l' s A
    | none => none)
  | _ => none
def i_lstore (i : Nat) (f : am_F) : am_F := fun l s A => match s with
  | .long x :: s => (match am_put2 l i (.long x) with
    | some l' => f l' s A
    | none => none)
  | _ => none
def i_iinc (i : Nat) (n : Int32) (f : am_F) : am_F := fun l s A => match l[i]? with
  | some (some (.int x)) => (match am_put l i (.int (x + n)) with
    | some l' => f l' s A
    | none => none)
  | _ => none
-- arithmetic
def i_ii (op : Int32 → Int32 → Int32) (f : am_F) : am_F := fun l s A => match s with
  | .int y :: .int x :: s => f l (.int (op x y) :: s) A
  | _ => none
def i_idz (op : Int32 → Int32 → Int32) (f : am_F) : am_F := fun l s A => match s with
  | .int y :: .int x :: s => if y = 0 then none else f l (.int (op x y) :: s) A
  | _ => none
def i_i (op : Int32 → Int32) (f : am_F) : am_F := fun l s A => match s with
  | .int x :: s => f l (.int (op x) :: s) A
  | _ => none
def i_ll (op : Int64 → Int64 → Int64) (f : am_F) : am_F := fun l s A => match s with
  | .long y :: .long x :: s => f l (.long (op x y) :: s) A
  | _ => none
def i_lsh (op : Int64 → Int32 → Int64) (f : am_F) : am_F := fun l s A => match s with
  | .int y :: .long x :: s => f l (.long (op x y) :: s) A
  | _ => none
def i_i2l (f : am_F) : am_F := fun l s A => match s with
  | .int x :: s => f l (.long x.toInt64 :: s) A
  | _ => none
def i_l2i (f : am_F) : am_F := fun l s A => match s with
  | .long x :: s => f l (.int x.toInt32 :: s) A
  | _ => none
def i_lcmp (f : am_F) : am_F := fun l s A => match s with
  | .long y :: .long x :: s => f l (.int (lg_cmp x y) :: s) A
  | _ => none
-- stack
def i_dup (f : am_F) : am_F := fun l s A => match s with
  | v :: s => if v.category = 1 then f l (v :: v :: s) A else none
  | _ => none
def i_pop (f : am_F) : am_F := fun l s A => match s with
  | v :: s => if v.category = 1 then f l s A else none
  | _ => none
def i_dup2 (f : am_F) : am_F := fun l s A => match s with
  | v :: w :: s => if v.category = 1 then (if w.category = 1 then f l (v :: w :: v :: w :: s) A else none) else none
  | _ => none
-- branches: where it goes when it holds, and when not
def i_ifeq (t f : am_F) : am_F := fun l s A => match s with
  | .int x :: s => if x = 0 then t l s A else f l s A
  | _ => none
def i_ifne (t f : am_F) : am_F := fun l s A => match s with
  | .int x :: s => if ¬ x = 0 then t l s A else f l s A
  | _ => none
def i_iflt (t f : am_F) : am_F := fun l s A => match s with
  | .int x :: s => if x < 0 then t l s A else f l s A
  | _ => none
def i_ifge (t f : am_F) : am_F := fun l s A => match s with
  | .int x :: s => if 0 ≤ x then t l s A else f l s A
  | _ => none
def i_ifgt (t f : am_F) : am_F := fun l s A => match s with
  | .int x :: s => if 0 < x then t l s A else f l s A
  | _ => none
def i_ifle (t f : am_F) : am_F := fun l s A => match s with
  | .int x :: s => if x ≤ 0 then t l s A else f l s A
  | _ => none
def i_cmpeq (t f : am_F) : am_F := fun l s A => match s with
  | .int y :: .int x :: s => if x = y then t l s A else f l s A
  | _ => none
def i_cmpne (t f : am_F) : am_F := fun l s A => match s with
  | .int y :: .int x :: s => if ¬ x = y then t l s A else f l s A
  | _ => none
def i_cmplt (t f : am_F) : am_F := fun l s A => match s with
  | .int y :: .int x :: s => if x < y then t l s A else f l s A
  | _ => none
def i_cmpge (t f : am_F) : am_F := fun l s A => match s with
  | .int y :: .int x :: s => if y ≤ x then t l s A else f l s A
  | _ => none
def i_cmpgt (t f : am_F) : am_F := fun l s A => match s with
  | .int y :: .int x :: s => if y < x then t l s A else f l s A
  | _ => none
def i_cmple (t f : am_F) : am_F := fun l s A => match s with
  | .int y :: .int x :: s => if x ≤ y then t l s A else f l s A
  | _ => none
def i_ifnull (t f : am_F) : am_F := fun l s A => match s with
  | .null :: s => t l s A
  | .ref _ :: s => f l s A
  | _ => none
def i_ifnonnull (t f : am_F) : am_F := fun l s A => match s with
  | .ref _ :: s => t l s A
  | .null :: s => f l s A
  | _ => none
/-- a switch over 0 .. n - 1 -/
def i_switch (ts : List am_F) (dflt : am_F) : am_F := fun l s A => match s with
  | .int x :: s => if x < 0 then dflt l s A else (match ts[x.toNatClampNeg]? with
    | some t => t l s A
    | none => dflt l s A)
  | _ => none
-- cells by kind
def am_obj (A : am_H) (p ci : Nat) : Option (List Value) := match A.2.2 p with
  | some (.inr (.inr (c, fs))) => if c = ci then some fs else none
  | _ => none
def am_row (A : am_H) (p kd : Nat) : Option (Nat × (Nat → Int32)) := match A.2.2 p with
  | some (.inl (k, n, g)) => if k = kd then some (n, g) else none
  | _ => none
def am_refs (A : am_H) (p : Nat) : Option (Nat × (Nat → Option Nat)) := match A.2.2 p with
  | some (.inr (.inl (n, g))) => some (n, g)
  | _ => none
def am_len (A : am_H) (p : Nat) : Option Nat := match A.2.2 p with
  | some (.inl (_, n, _)) => some n
  | some (.inr (.inl (n, _))) => some n
  | _ => none
def am_ix (i : Int32) (n : Nat) : Option Nat := if i < 0 then none else if i.toNatClampNeg < n then some i.toNatClampNeg else none
/-- positions from 5 on may be written -/
def am_own (p : Nat) : Option Unit := if 5 ≤ p then some () else none
-- fields
def i_getf (ci k : Nat) (f : am_F) : am_F := fun l s A => match s with
  | .ref p :: s => (am_obj A p ci).bind fun fs => (fs[k]?).bind fun v => f l (v :: s) A
  | _ => none
def am_wr (ci k : Nat) (v : Value) (f : am_F) (p : Nat) : am_F := fun l s A =>
  (am_obj A p ci).bind fun fs => (fs[k]?).bind fun _ => (am_own p).bind fun _ => f l s (am_set A p (.inr (.inr (ci, fs.set k v))))
def i_putI (ci k : Nat) (f : am_F) : am_F := fun l s A => match s with
  | .int x :: .ref p :: s => am_wr ci k (.int x) f p l s A
  | _ => none
def i_putZ (ci k : Nat) (f : am_F) : am_F := fun l s A => match s with
  | .int x :: .ref p :: s => if x = 0 ∨ x = 1 then am_wr ci k (.int x) f p l s A else none
  | _ => none
def i_putR (ci k : Nat) (f : am_F) : am_F := fun l s A => match s with
  | .ref q :: .ref p :: s => am_wr ci k (.ref q) f p l s A
  | _ => none
-- rows
def i_iald (kd : Nat) (f : am_F) : am_F := fun l s A => match s with
  | .int i :: .ref p :: s => (am_row A p kd).bind fun a => (am_ix i a.1).bind fun j => f l (.int (a.2 j) :: s) A
  | _ => none
def i_iast (kd : Nat) (nar : Int32 → Int32) (f : am_F) : am_F := fun l s A => match s with
  | .int x :: .int i :: .ref p :: s => (am_row A p kd).bind fun a => (am_ix i a.1).bind fun j => (am_own p).bind fun _ => f l s (am_set A p (.inl (kd, a.1, upd a.2 j (nar x))))
  | _ => none
def i_aald (f : am_F) : am_F := fun l s A => match s with
  | .int i :: .ref p :: s => (am_refs A p).bind fun a => (am_ix i a.1).bind fun j => f l (am_rv (a.2 j) :: s) A
  | _ => none
def i_aast (ci : Nat) (f : am_F) : am_F := fun l s A => match s with
  | .ref q :: .int i :: .ref p :: s => (am_refs A p).bind fun a => (am_obj A q ci).bind fun _ => (am_ix i a.1).bind fun j => (am_own p).bind fun _ => f l s (am_set A p (.inr (.inl (a.1, va_up a.2 j (some q)))))
  | _ => none
def i_alen (f : am_F) : am_F := fun l s A => match s with
  | .ref p :: s => (am_len A p).bind fun n => f l (.int (Int32.ofNat n) :: s) A
  | _ => none
/-- new rows: of at most 100000 places -/
def i_newi (kd : Nat) (f : am_F) : am_F := fun l s A => match s with
  | .int n :: s => (am_ix n 100000).bind fun N => f l (.ref A.1 :: s) (am_new A N (.inl (kd, N, fun _ => 0)))
  | _ => none
def i_newq (f : am_F) : am_F := fun l s A => match s with
  | .int n :: s => (am_ix n 100000).bind fun N => f l (.ref A.1 :: s) (am_new A N (.inr (.inl (N, fun _ => none))))
  | _ => none
def i_new (ci : Nat) (fs : List Value) (f : am_F) : am_F := fun l s A => f l (.ref A.1 :: s) (am_new A fs.length (.inr (.inr (ci, fs))))
-- Object.<init>
def i_obj (d : Nat) (f : am_F) : am_F := fun l s A => match d with
  | 0 => none
  | _ + 1 => match s with
    | .ref _ :: s => if (s.map fun v => v.category).sum ≤ 8 then f l s A else none
    | _ => none
-- calls: na arguments (with the receiver), nL locals of the callee
def i_call (k : am_K) (d lab na nL : Nat) (f : am_F) : am_F := fun l s A => match d with
  | 0 => none
  | d' + 1 => if na ≤ s.length ∧ ((s.drop na).map fun v => v.category).sum ≤ 8 ∧ (am_sl (s.take na).reverse).length ≤ nL then (k d' lab (am_ent (s.take na).reverse nL) [] A).bind fun r => f l (r.1.toList ++ s.drop na) r.2 else none
/-- the receiver is an object of that class -/
def i_recv (ci na : Nat) (f : am_F) : am_F := fun l s A => match s[na]? with
  | some (.ref p) => (am_obj A p ci).bind fun _ => f l s A
  | _ => none
-- ends
def i_iret : am_F := fun _ s A => match s with
  | [.int x] => some (some (.int x), A)
  | _ => none
def i_zret : am_F := fun _ s A => match s with
  | [.int x] => if x = 0 ∨ x = 1 then some (some (.int x), A) else none
  | _ => none
def i_lret : am_F := fun _ s A => match s with
  | [.long x] => some (some (.long x), A)
  | _ => none
def i_aret : am_F := fun _ s A => match s with
  | [.ref p] => some (some (.ref p), A)
  | [.null] => some (some .null, A)
  | _ => none
def i_vret : am_F := fun _ s A => match s with
  | [] => some (none, A)
  | _ => none
end
section
/-! how positions, values and cells of the pure machine stand for those of the machine -/
def am_el : String := RX4
abbrev am_cl : List vw_C := [(RX0, TX0, 5), (RX1, TX1, 3), (RX2, TX2, 3), (RX3, TX3, 8), (RX4, TX4, 8), (RX5, TX5, 8), (RX6, TX6, 26)]
def am_ws : List Cond := lw_tbl.filter goodWord
theorem am_good {L : List Cond} (h : ∀ w ∈ L, w ∈ am_ws) : GoodIn am_ws L := fun w hw => ⟨h w hw, good_of_word (List.mem_filter.mp (h w hw)).2⟩
theorem am_in {w : Cond} (i : Nat) (h : lw_tbl[i]? = some w) (hg : goodWord w = true) : w ∈ am_ws := List.mem_filter.mpr ⟨List.mem_of_getElem? h, hg⟩
def am_ty (kd : Nat) : FieldType := match kd with
  | 0 => .int
  | _ => .byte
def am_ad (sA : Nat → Nat) (z p : Nat) : Nat := if p < 5 then sA p else z + (p - 5)
def am_tr (sA : Nat → Nat) (z : Nat) (v : Value) : Value := match v with
  | .ref p => .ref (am_ad sA z p)
  | v => v
theorem am_tr_cat (sA : Nat → Nat) (z : Nat) (v : Value) : (am_tr sA z v).category = v.category := by cases v <;> rfl
theorem am_cats (sA : Nat → Nat) (z : Nat) (st : List Value) : ((st.map (am_tr sA z)).map fun v => v.category).sum = (st.map fun v => v.category).sum := by
  rw [List.map_map]
  congr 1
  exact List.map_congr_left fun v _ => am_tr_cat sA z v
theorem am_ad_ne {sA : Nat → Nat} {z : Nat} (hs : ∀ p, p < 5 → sA p < z) {p q : Nat} (hp : 5 ≤ p) (hne : q ≠ p) : am_ad sA z q ≠ am_ad sA z p := by
  unfold am_ad
  rw [if_neg (Nat.not_lt.mpr hp)]
  by_cases h : q < 5
  · rw [if_pos h]
    have := hs q h
    omega
  · rw [if_neg h]
    omega
theorem am_ad_ge {sA : Nat → Nat} {z p : Nat} (hp : 5 ≤ p) : z ≤ am_ad sA z p := by
  unfold am_ad
  rw [if_neg (Nat.not_lt.mpr hp)]
  omega
def am_at (dC : Nat → ClassId) (dI : Nat → Nat → Nat) (sA : Nat → Nat) (z : Nat) (U : State) (a : Nat) (e : am_C) (H : Heap) : Prop := match e with
  | .inl (kd, n, f) => ∃ cell : Cell, H[a]? = some cell ∧ U.isArrayOf cell (am_ty kd) ∧ cell.vm ≠ .unknown ∧ n ≤ cell.slots.size ∧ cell.slots.size.toInt32 = Int32.ofNat n ∧ ∀ j : Nat, j < n → cell.slots[j]? = some (.int (f j))
  | .inr (.inl (n, g)) => ∃ (cell : Cell) (kA : Class) (comp : ClassId), H[a]? = some cell ∧ cell.vm = .none ∧ U.vm.classes[cell.cls]? = some kA ∧ kA.kind = .array comp (.object am_el) ∧ U.vm.findClass am_el = some comp ∧ cell.slots.size = n ∧ ∀ j : Nat, j < n → cell.slots[j]? = some (am_tr sA z (am_rv (g j)))
  | .inr (.inr (ci, fs)) => ∃ r : vw_C, am_cl[ci]? = some r ∧ t_OB a (dC ci) r.2.2 (dI ci) H (vp_V (fs.map (am_tr sA z)))
theorem am_at.lt {dC : Nat → ClassId} {dI : Nat → Nat → Nat} {sA : Nat → Nat} {z : Nat} {U : State} {a : Nat} {e : am_C} {H : Heap} (h : am_at dC dI sA z U a e H) : a < H.size := by
  rcases e with ⟨kd, n, f⟩ | ⟨n, g⟩ | ⟨ci, fs⟩
  · obtain ⟨cell, h1, -⟩ := h
    exact (Array.getElem?_eq_some_iff.mp h1).1
  · obtain ⟨cell, kA, comp, h1, -⟩ := h
    exact (Array.getElem?_eq_some_iff.mp h1).1
  · obtain ⟨r, -, cell, h1, -⟩ := h
    exact (Array.getElem?_eq_some_iff.mp h1).1
theorem am_at.kept {dC : Nat → ClassId} {dI : Nat → Nat → Nat} {sA : Nat → Nat} {z : Nat} {U : State} {a : Nat} {e : am_C} {H H1 : Heap} (h : am_at dC dI sA z U a e H) (hq : H1[a]? = H[a]?) : am_at dC dI sA z U a e H1 := by
  rcases e with ⟨kd, n, f⟩ | ⟨n, g⟩ | ⟨ci, fs⟩
  · obtain ⟨cell, h1, h2⟩ := h
    exact ⟨cell, hq.trans h1, h2⟩
  · obtain ⟨cell, kA, comp, h1, h2⟩ := h
    exact ⟨cell, kA, comp, hq.trans h1, h2⟩
  · obtain ⟨r, h1, h2⟩ := h
    exact ⟨r, h1, h2.kept hq⟩
theorem am_at.moved {dC : Nat → ClassId} {dI : Nat → Nat → Nat} {sA : Nat → Nat} {z : Nat} {U V : State} {a : Nat} {e : am_C} {H : Heap} (hvm : U.vm.Alike V.vm) (h : am_at dC dI sA z U a e H) : am_at dC dI sA z V a e H := by
  rcases e with ⟨kd, n, f⟩ | ⟨n, g⟩ | ⟨ci, fs⟩
  · obtain ⟨cell, h1, h2, h3⟩ := h
    exact ⟨cell, h1, State.isArrayOf_alike hvm h2, h3⟩
  · obtain ⟨cell, kA, comp, h1, h2, h3, h4, h5, h6⟩ := h
    obtain ⟨k', hk', he⟩ := hvm.2.2 _ _ h3
    exact ⟨cell, k', comp, h1, h2, hk', by rw [he]; exact h4, by rw [hvm.findClass]; exact h5, h6⟩
  · exact h
/-- the pure heap A stands for the cells from z on (position 5 is the first), and for the old rows 0 .. 4 -/
def am_P (dC : Nat → ClassId) (dI : Nat → Nat → Nat) (sA : Nat → Nat) (z : Nat) (U : State) (A : am_H) (H : Heap) : Prop := 5 ≤ A.1 ∧ H.size + 5 = z + A.1 ∧ ∀ (p : Nat) (e : am_C), A.2.2 p = some e → p < A.1 ∧ am_at dC dI sA z U (am_ad sA z p) e H
theorem am_P.moved {dC : Nat → ClassId} {dI : Nat → Nat → Nat} {sA : Nat → Nat} {z : Nat} {U V : State} {A : am_H} {H : Heap} (hvm : U.vm.Alike V.vm) (h : am_P dC dI sA z U A H) : am_P dC dI sA z V A H := ⟨h.1, h.2.1, fun p e hp => ⟨(h.2.2 p e hp).1, (h.2.2 p e hp).2.moved hvm⟩⟩
theorem am_P.set {dC : Nat → ClassId} {dI : Nat → Nat → Nat} {sA : Nat → Nat} {z : Nat} {U : State} {A : am_H} {H H1 : Heap} {p : Nat} {e0 e : am_C} (hs : ∀ p, p < 5 → sA p < z) (h : am_P dC dI sA z U A H) (hp : A.2.2 p = some e0) (h5 : 5 ≤ p) (hz : H1.size = H.size) (ho : ∀ q, q ≠ am_ad sA z p → H1[q]? = H[q]?) (he : am_at dC dI sA z U (am_ad sA z p) e H1) : am_P dC dI sA z U (am_set A p e) H1 := by
  refine ⟨h.1, by rw [hz]; exact h.2.1, fun q x hq => ?_⟩
  by_cases hqp : q = p
  · subst hqp
    have hx : e = x := by simpa [am_set] using hq
    subst hx
    exact ⟨(h.2.2 _ _ hp).1, he⟩
  · have hq' : A.2.2 q = some x := by simpa [am_set, hqp] using hq
    obtain ⟨g1, g2⟩ := h.2.2 q x hq'
    exact ⟨g1, g2.kept (ho _ (am_ad_ne hs h5 hqp))⟩
theorem am_P.new {dC : Nat → ClassId} {dI : Nat → Nat → Nat} {sA : Nat → Nat} {z : Nat} {U : State} {A : am_H} {H H1 : Heap} {n : Nat} {e : am_C} (h : am_P dC dI sA z U A H) (hz : H1.size = H.size + 1) (ho : ∀ q, q < H.size → H1[q]? = H[q]?) (he : am_at dC dI sA z U H.size e H1) : am_P dC dI sA z U (am_new A n e) H1 := by
  obtain ⟨h1, h2, h3⟩ := h
  have ha : am_ad sA z A.1 = H.size := by
    unfold am_ad
    rw [if_neg (Nat.not_lt.mpr h1)]
    omega
  refine ⟨by show 5 ≤ A.1 + 1; omega, by show H1.size + 5 = z + (A.1 + 1); omega, fun q x hq => ?_⟩
  by_cases hqp : q = A.1
  · subst hqp
    have hx : e = x := by simpa [am_new] using hq
    subst hx
    exact ⟨Nat.lt_succ_self _, by rw [ha]; exact he⟩
  · have hq' : A.2.2 q = some x := by simpa [am_new, hqp] using hq
    obtain ⟨g1, g2⟩ := h3 q x hq'
    exact ⟨Nat.lt_succ_of_lt g1, g2.kept (ho _ g2.lt)⟩
theorem am_ad_top {dC : Nat → ClassId} {dI : Nat → Nat → Nat} {sA : Nat → Nat} {z : Nat} {U : State} {A : am_H} {H : Heap} (h : am_P dC dI sA z U A H) : am_ad sA z A.1 = H.size := by
  obtain ⟨h1, h2, h3⟩ := h
  unfold am_ad
  rw [if_neg (Nat.not_lt.mpr h1)]
  omega
theorem am_obj_at {A : am_H} {p ci : Nat} {fs : List Value} (h : am_obj A p ci = some fs) : A.2.2 p = some (.inr (.inr (ci, fs))) := by
  unfold am_obj at h
  split at h
  · rename_i c fs' he
    split at h
    · rename_i hc
      subst hc
      cases h
      exact he
    · cases h
  · cases h
theorem am_row_at {A : am_H} {p kd : Nat} {a : Nat × (Nat → Int32)} (h : am_row A p kd = some a) : A.2.2 p = some (.inl (kd, a.1, a.2)) := by
  unfold am_row at h
  split at h
  · rename_i c n g he
    split at h
    · rename_i hc
      subst hc
      cases h
      exact he
    · cases h
  · cases h
theorem am_refs_at {A : am_H} {p : Nat} {a : Nat × (Nat → Option Nat)} (h : am_refs A p = some a) : A.2.2 p = some (.inr (.inl (a.1, a.2))) := by
  unfold am_refs at h
  split at h
  · rename_i n g he
    cases h
    exact he
  · cases h
theorem am_ix_at {i : Int32} {n j : Nat} (h : am_ix i n = some j) : ¬ i < 0 ∧ i.toNatClampNeg = j ∧ j < n := by
  unfold am_ix at h
  split at h
  · cases h
  · split at h
    · cases h
      exact ⟨by assumption, rfl, by assumption⟩
    · cases h
theorem am_own_at {p : Nat} {u : Unit} (h : am_own p = some u) : 5 ≤ p := by
  unfold am_own at h
  split at h
  · assumption
  · cases h
/-! the nest mates' words, the statics, the classes -/
def am_G (dC : Nat → ClassId) (dI : Nat → Nat → Nat) (sA : Nat → Nat) (z : Nat) (U : State) : Prop :=
  va_K (dC, dI) am_cl [] U ∧ (∀ q ∈ am_nestM, va_Nw (.methodLinkNest q.1 q.2.1 q.2.2.1 q.2.2.2) U) ∧ (∀ q ∈ am_nestF, va_Nw (.fieldLinkNest q.1 q.2.1 q.2.2.1 q.2.2.2.1 q.2.2.2.2.1 q.2.2.2.2.2) U) ∧ va_AO am_el U ∧ (∀ p, p < 5 → sA p < z) ∧ ∀ i, i < 4 → va_Z RX5 (am_sn i) "[I" (.ref (sA i)) (fun q => z ≤ q) U U.heap
theorem am_G.warm {dC : Nat → ClassId} {dI : Nat → Nat → Nat} {sA : Nat → Nat} {z : Nat} {s U : State} (h : am_G dC dI sA z s) (hW : s.WarmedH U.vm) (hk : ∀ q, q < z → U.heap[q]? = s.heap[q]?) : am_G dC dI sA z U :=
  ⟨va_K.moved hW.alike h.1, fun q hq => va_Nw.warmM hW (h.2.1 q hq), fun q hq => va_Nw.warmF hW (h.2.2.1 q hq), va_AO.moved hW.alike h.2.2.2.1, h.2.2.2.2.1, fun i hi => va_Z.kept (va_Z.moved hW.alike (h.2.2.2.2.2 i hi)) (fun a _ ha => hk a (Nat.not_le.mp ha))⟩
theorem am_G.calling {dC : Nat → ClassId} {dI : Nat → Nat → Nat} {sA : Nat → Nat} {z : Nat} {U : State} (h : am_G dC dI sA z U) (g : JFrame) (mk : MethodId) (a : Array Value) : am_G dC dI sA z (U.calling g mk a) :=
  ⟨va_K.moved (u := U) (U := U.calling g mk a) (Vm.Alike.refl U.vm) h.1, fun q hq => va_Nw.same rfl (u := U) (U := U.calling g mk a) rfl (h.2.1 q hq), fun q hq => va_Nw.same rfl (u := U) (U := U.calling g mk a) rfl (h.2.2.1 q hq), va_AO.moved (u := U) (U := U.calling g mk a) (Vm.Alike.refl U.vm) h.2.2.2.1, h.2.2.2.2.1, fun i hi => va_Z.moved (u := U) (U := U.calling g mk a) (Vm.Alike.refl U.vm) (h.2.2.2.2.2 i hi)⟩
/-! locals -/
def am_LR (sA : Nat → Nat) (z : Nat) (lo : am_L) (ls : Array Slot) : Prop := ls.size = lo.length ∧ lv_wf ls ∧ ∀ (i : Nat) (v : Value), lo[i]? = some (some v) → ls[i]? = some (.val (am_tr sA z v))
def am_ps (sA : Nat → Nat) (z : Nat) (lo : am_L) : List (Nat × Value) := (List.range lo.length).filterMap (fun i => match lo[i]? with
  | some (some v) => some (i, am_tr sA z v)
  | _ => none)
theorem am_ps_mem {sA : Nat → Nat} {z : Nat} {lo : am_L} {i : Nat} {v : Value} (h : lo[i]? = some (some v)) : (i, am_tr sA z v) ∈ am_ps sA z lo := by
  refine List.mem_filterMap.mpr ⟨i, List.mem_range.mpr (List.getElem?_eq_some_iff.mp h).1, ?_⟩
  simp only [h]
theorem am_LR.has {sA : Nat → Nat} {z : Nat} {lo : am_L} {ls : Array Slot} (h : am_LR sA z lo ls) : lv_has ls lo.length (am_ps sA z lo) := by
  refine ⟨h.1, h.2.1, fun q hq => ?_⟩
  obtain ⟨i, -, hi⟩ := List.mem_filterMap.mp hq
  split at hi
  · rename_i v hv
    cases hi
    exact h.2.2 i v hv
  · cases hi
theorem am_put_at {lo lo' : am_L} {i : Nat} {v : Value} (h : am_put lo i v = some lo') : i < lo.length ∧ lo' = lo.set i (some v) ∧ ∀ (j : Nat) (w : Value), j + 1 = i → lo[j]? = some (some w) → w.category = 1 := by
  unfold am_put at h
  split at h
  · rename_i hi
    cases i with
    | zero =>
      simp only [Option.some.injEq] at h
      exact ⟨hi, h.symm, fun j w hj _ => by omega⟩
    | succ k =>
      simp only at h
      refine ⟨hi, ?_, ?_⟩
      · split at h
        · cases h
        · cases h
        · exact (Option.some.inj h).symm
      · intro j w hj hw
        have hjk : j = k := by omega
        subst hjk
        cases w with
        | long x => rw [hw] at h; simp at h
        | double x => rw [hw] at h; simp at h
        | _ => rfl
  · cases h
theorem am_LR.put {sA : Nat → Nat} {z : Nat} {lo lo' : am_L} {i : Nat} {v : Value} {ls' : Array Slot} (hp : am_put lo i v = some lo') (h : lv_has ls' lo.length ((i, am_tr sA z v) :: (am_ps sA z lo).filter (fun q => !(q.1 == i) && !(q.1 + 1 == i && q.2.category == 2)))) : am_LR sA z lo' ls' := by
  obtain ⟨h1, h2, h3⟩ := am_put_at hp
  subst h2
  refine ⟨by rw [List.length_set]; exact h.1, h.2.1, fun j w hj => ?_⟩
  by_cases hji : j = i
  · subst hji
    rw [List.getElem?_set_self h1] at hj
    cases hj
    exact h.2.2 (j, am_tr sA z v) List.mem_cons_self
  · rw [List.getElem?_set_ne (fun e => hji e.symm)] at hj
    refine h.2.2 (j, am_tr sA z w) (List.mem_cons_of_mem _ (List.mem_filter.mpr ⟨am_ps_mem hj, ?_⟩))
    by_cases hj1 : j + 1 = i
    · simp [hji, am_tr_cat, h3 j w hj1 hj]
    · simp [hji, hj1]
theorem am_put2_at {lo lo' : am_L} {i : Nat} {v : Value} (h : am_put2 lo i v = some lo') : i + 1 < lo.length ∧ ∃ l1, am_put lo i v = some l1 ∧ lo' = l1.set (i + 1) none := by
  unfold am_put2 at h
  split at h
  · rename_i hi
    split at h
    · rename_i l1 h1
      cases h
      exact ⟨hi, l1, h1, rfl⟩
    · cases h
  · cases h
theorem am_LR.put2 {sA : Nat → Nat} {z : Nat} {lo lo' : am_L} {i : Nat} {v : Value} {ls' : Array Slot} (hp : am_put2 lo i v = some lo') (h : lv_has ls' lo.length ((i, am_tr sA z v) :: (am_ps sA z lo).filter (fun q => !(q.1 == i) && (!(q.1 == i + 1) && !(q.1 + 1 == i && q.2.category == 2))))) : am_LR sA z lo' ls' := by
  obtain ⟨h0, l1, hp1, rfl⟩ := am_put2_at hp
  obtain ⟨h1, rfl, h3⟩ := am_put_at hp1
  refine ⟨by rw [List.length_set, List.length_set]; exact h.1, h.2.1, fun j w hj => ?_⟩
  by_cases hj2 : j = i + 1
  · subst hj2
    rw [List.getElem?_set_self (by rw [List.length_set]; exact h0)] at hj
    cases hj
  · rw [List.getElem?_set_ne (fun e => hj2 e.symm)] at hj
    by_cases hji : j = i
    · subst hji
      rw [List.getElem?_set_self h1] at hj
      cases hj
      exact h.2.2 (j, am_tr sA z v) List.mem_cons_self
    · rw [List.getElem?_set_ne (fun e => hji e.symm)] at hj
      refine h.2.2 (j, am_tr sA z w) (List.mem_cons_of_mem _ (List.mem_filter.mpr ⟨am_ps_mem hj, ?_⟩))
      by_cases hj1 : j + 1 = i
      · simp [hji, hj2, am_tr_cat, h3 j w hj1 hj]
      · simp [hji, hj2, hj1]
theorem am_put_len {lo lo' : am_L} {i : Nat} {v : Value} (h : am_put lo i v = some lo') : lo'.length = lo.length := by
  rw [(am_put_at h).2.1, List.length_set]
theorem am_put2_len {lo lo' : am_L} {i : Nat} {v : Value} (h : am_put2 lo i v = some lo') : lo'.length = lo.length := by
  obtain ⟨-, l1, h1, rfl⟩ := am_put2_at h
  rw [List.length_set, am_put_len h1]
/-! soundness of a point: own class, code, locals, answer's type, constructor -/
abbrev am_I : Type := String × ByteArray × Nat × Option FieldType × Bool
def am_X (I : am_I) (dC : Nat → ClassId) (dI : Nat → Nat → Nat) (sA : Nat → Nat) (z : Nat) (p : Program) (s : State) (m : MethodId) (args : Array Value) (meth : Method) (c : Code) : Prop :=
  p.tables.exec = Jvm.exec ∧ c.code = I.2.1 ∧ c.maxLocals = I.2.2.1 ∧ meth.sig.returnType = I.2.2.2.1 ∧ meth.locks = false ∧ (I.2.2.2.2 = true → meth.name = "<init>") ∧ s.vm.findClass I.1 = some m.cls ∧ (∀ w ∈ am_ws, w.before args s = true) ∧ am_G dC dI sA z s
/-- an answer and the instruction that gives it -/
def am_rok (ret : Option FieldType) (v : Option Value) (ins : Instr) : Prop := (ret = none ∧ v = none ∧ ins = .return_) ∨ (∃ (ty : FieldType) (x : Int32), ret = some ty ∧ v = some (.int x) ∧ narrow ty (.int x) = .int x ∧ ins = .ireturn) ∨ (∃ x : Int64, ret = some .long ∧ v = some (.long x) ∧ ins = .lreturn) ∨ (∃ n : String, ret = some (.object n) ∧ (v = some .null ∨ ∃ q : Nat, v = some (.ref q)) ∧ ins = .areturn)
def am_E (l : Launch) (I : am_I) (dC : Nat → ClassId) (dI : Nat → Nat → Nat) (sA : Nat → Nat) (z : Nat) (p : Program) (e : Env) (R : Room) (s : State) (m : MethodId) (args : Array Value) (below : List Frame) (meth : Method) (c : Code) (mc ms : Nat) (Q : State → Prop) (r : am_R) : Prop :=
  ∀ (pc : Nat) (ls : Array Slot) (H : Heap) (locs : List Loc) (ins : Instr), decode I.2.1 pc = .ok (ins, 1) → am_rok I.2.2.2.1 r.1 ins → am_P dC dI sA z s r.2 H → (∀ q, q < z → H[q]? = s.heap[q]?) → (∀ q ∈ locs, z ≤ q.base) → W p l e R s m args below meth c H locs mc ms Q (F0 m pc ls (r.1.toList.map (am_tr sA z)))
def am_S1 (l : Launch) (I : am_I) (pc d : Nat) (lo : am_L) (st : List Value) (A : am_H) (r : am_R) : Prop := lo.length = I.2.2.1 → A.1 ≤ r.2.1 ∧ A.2.1 ≤ r.2.2.1 ∧
  ∀ (dC : Nat → ClassId) (dI : Nat → Nat → Nat) (sA : Nat → Nat) (z : Nat) (p : Program) (e : Env) (R : Room) (s : State) (m : MethodId) (args : Array Value) (below : List Frame) (meth : Method) (c : Code) (H : Heap) (locs : List Loc) (cells slots : Nat) (ls : Array Slot) (Q : State → Prop) (mc ms : Nat), am_X I dC dI sA z p s m args meth c → am_P dC dI sA z s A H → (∀ q, q < z → H[q]? = s.heap[q]?) → (∀ q ∈ locs, z ≤ q.base) → am_LR sA z lo ls → d ≤ R.frames → d * 37 ≤ R.locals → cells + (r.2.1 - A.1) = mc → slots + (r.2.2.1 - A.2.1) = ms → mc ≤ R.cells → ms ≤ R.slots → am_E l I dC dI sA z p e R s m args below meth c mc ms Q r → W p l e R s m args below meth c H locs cells slots Q (F0 m pc ls (st.map (am_tr sA z)))
def am_S (l : Launch) (I : am_I) (pc d : Nat) (f : am_F) : Prop := ∀ (lo : am_L) (st : List Value) (A : am_H) (r : am_R), f lo st A = some r → am_S1 l I pc d lo st A r
/-- a step, in general -/
theorem am_go0 {l : Launch} {I : am_I} {pc pc' d : Nat} {lo lo' : am_L} {st st' : List Value} {A A' : am_H} {r : am_R} (h : am_S1 l I pc' d lo' st' A' r) (hlen : lo'.length = lo.length) (h1 : A.1 ≤ A'.1) (h2 : A.2.1 ≤ A'.2.1)
    (hs : ∀ (dC : Nat → ClassId) (dI : Nat → Nat → Nat) (sA : Nat → Nat) (z : Nat) (p : Program) (e : Env) (R : Room) (s : State) (m : MethodId) (args : Array Value) (below : List Frame) (meth : Method) (c : Code) (H : Heap) (locs : List Loc) (cells slots : Nat) (ls : Array Slot) (Q : State → Prop), lo.length = I.2.2.1 → am_X I dC dI sA z p s m args meth c → am_P dC dI sA z s A H → (∀ q, q < z → H[q]? = s.heap[q]?) → (∀ q ∈ locs, z ≤ q.base) → am_LR sA z lo ls → d ≤ R.frames → d * 37 ≤ R.locals → cells + (A'.1 - A.1) ≤ R.cells → slots + (A'.2.1 - A.2.1) ≤ R.slots →
      (∀ (H' : Heap) (locs' : List Loc) (ls' : Array Slot), am_P dC dI sA z s A' H' → (∀ q, q < z → H'[q]? = s.heap[q]?) → (∀ q ∈ locs', z ≤ q.base) → am_LR sA z lo' ls' → W p l e R s m args below meth c H' locs' (cells + (A'.1 - A.1)) (slots + (A'.2.1 - A.2.1)) Q (F0 m pc' ls' (st'.map (am_tr sA z)))) → W p l e R s m args below meth c H locs cells slots Q (F0 m pc ls (st.map (am_tr sA z)))) : am_S1 l I pc d lo st A r := by
  intro hlo
  obtain ⟨a1, a2, a3⟩ := h (hlen.trans hlo)
  refine ⟨Nat.le_trans h1 a1, Nat.le_trans h2 a2, ?_⟩
  intro dC dI sA z p e R s m args below meth c H locs cells slots ls Q mc ms hX hP hz hl hL hr1 hr2 e1 e2 e3 e4 hE
  refine hs dC dI sA z p e R s m args below meth c H locs cells slots ls Q hlo hX hP hz hl hL hr1 hr2 (by omega) (by omega) (fun H' locs' ls' hP' hz' hl' hL' => ?_)
  exact a3 dC dI sA z p e R s m args below meth c H' locs' _ _ ls' Q mc ms hX hP' hz' hl' hL' hr1 hr2 (by omega) (by omega) e3 e4 hE
/-- a step that changes the stack alone -/
theorem am_go1 {l : Launch} {I : am_I} {pc pc' d : Nat} {lo : am_L} {st st' : List Value} {A : am_H} {r : am_R} (h : am_S1 l I pc' d lo st' A r)
    (hs : ∀ (dC : Nat → ClassId) (dI : Nat → Nat → Nat) (sA : Nat → Nat) (z : Nat) (p : Program) (e : Env) (R : Room) (s : State) (m : MethodId) (args : Array Value) (below : List Frame) (meth : Method) (c : Code) (H : Heap) (locs : List Loc) (cells slots : Nat) (ls : Array Slot) (Q : State → Prop), am_X I dC dI sA z p s m args meth c → am_P dC dI sA z s A H → (∀ q, q < z → H[q]? = s.heap[q]?) → am_LR sA z lo ls → W p l e R s m args below meth c H locs cells slots Q (F0 m pc' ls (st'.map (am_tr sA z))) → W p l e R s m args below meth c H locs cells slots Q (F0 m pc ls (st.map (am_tr sA z)))) : am_S1 l I pc d lo st A r := by
  refine am_go0 h rfl (Nat.le_refl _) (Nat.le_refl _) ?_
  intro dC dI sA z p e R s m args below meth c H locs cells slots ls Q _ hX hP hz hl hL _ _ _ _ k
  refine hs dC dI sA z p e R s m args below meth c H locs cells slots ls Q hX hP hz hL ?_
  have k1 := k H locs ls hP hz hl hL
  rw [Nat.sub_self, Nat.sub_self, Nat.add_zero, Nat.add_zero] at k1
  exact k1
/-- a step that changes locals too -/
theorem am_goL {l : Launch} {I : am_I} {pc pc' d : Nat} {lo lo' : am_L} {st st' : List Value} {A : am_H} {r : am_R} (h : am_S1 l I pc' d lo' st' A r) (hlen : lo'.length = lo.length)
    (hs : ∀ (dC : Nat → ClassId) (dI : Nat → Nat → Nat) (sA : Nat → Nat) (z : Nat) (p : Program) (e : Env) (R : Room) (s : State) (m : MethodId) (args : Array Value) (below : List Frame) (meth : Method) (c : Code) (H : Heap) (locs : List Loc) (cells slots : Nat) (ls : Array Slot) (Q : State → Prop), am_X I dC dI sA z p s m args meth c → am_LR sA z lo ls → (∀ ls' : Array Slot, am_LR sA z lo' ls' → W p l e R s m args below meth c H locs cells slots Q (F0 m pc' ls' (st'.map (am_tr sA z)))) → W p l e R s m args below meth c H locs cells slots Q (F0 m pc ls (st.map (am_tr sA z)))) : am_S1 l I pc d lo st A r := by
  refine am_go0 h hlen (Nat.le_refl _) (Nat.le_refl _) ?_
  intro dC dI sA z p e R s m args below meth c H locs cells slots ls Q _ hX hP hz hl hL _ _ _ _ k
  refine hs dC dI sA z p e R s m args below meth c H locs cells slots ls Q hX hL (fun ls' hL' => ?_)
  have k1 := k H locs ls' hP hz hl hL'
  rw [Nat.sub_self, Nat.sub_self, Nat.add_zero, Nat.add_zero] at k1
  exact k1
/-- a step that writes one cell -/
theorem am_goW {l : Launch} {I : am_I} {pc pc' d : Nat} {lo : am_L} {st st' : List Value} {A : am_H} {r : am_R} {q0 : Nat} {e0 x : am_C} (h : am_S1 l I pc' d lo st' (am_set A q0 x) r) (hq : A.2.2 q0 = some e0) (h5 : 5 ≤ q0)
    (hs : ∀ (dC : Nat → ClassId) (dI : Nat → Nat → Nat) (sA : Nat → Nat) (z : Nat) (p : Program) (e : Env) (R : Room) (s : State) (m : MethodId) (args : Array Value) (below : List Frame) (meth : Method) (c : Code) (H : Heap) (locs : List Loc) (cells slots : Nat) (ls : Array Slot) (Q : State → Prop), am_X I dC dI sA z p s m args meth c → am_P dC dI sA z s A H → am_at dC dI sA z s (am_ad sA z q0) e0 H → (∀ (H' : Heap) (k : Nat), am_at dC dI sA z s (am_ad sA z q0) x H' → H'.size = H.size → (∀ q, q ≠ am_ad sA z q0 → H'[q]? = H[q]?) → W p l e R s m args below meth c H' (locs ++ [⟨am_ad sA z q0, k⟩]) cells slots Q (F0 m pc' ls (st'.map (am_tr sA z)))) → W p l e R s m args below meth c H locs cells slots Q (F0 m pc ls (st.map (am_tr sA z)))) : am_S1 l I pc d lo st A r := by
  refine am_go0 h rfl (Nat.le_refl _) (Nat.le_refl _) ?_
  intro dC dI sA z p e R s m args below meth c H locs cells slots ls Q _ hX hP hz hl hL _ _ _ _ k
  refine hs dC dI sA z p e R s m args below meth c H locs cells slots ls Q hX hP (hP.2.2 q0 e0 hq).2 (fun H' i hat hsz ho => ?_)
  have hsA := hX.2.2.2.2.2.2.2.2.2.2.2.2.1
  have k1 := k H' (locs ++ [⟨am_ad sA z q0, i⟩]) ls (hP.set hsA hq h5 hsz ho hat) (fun q hq2 => by
    rw [ho q (fun e1 => by
      have := am_ad_ge (sA := sA) (z := z) h5
      omega)]
    exact hz q hq2) (fun q hq2 => by
    rcases List.mem_append.mp hq2 with h3 | h3
    · exact hl q h3
    · rw [List.mem_singleton.mp h3]
      exact am_ad_ge h5) hL
  have e1 : (am_set A q0 x).1 - A.1 = 0 := Nat.sub_self A.1
  have e2 : (am_set A q0 x).2.1 - A.2.1 = 0 := Nat.sub_self A.2.1
  rw [e1, e2, Nat.add_zero, Nat.add_zero] at k1
  exact k1
/-- a step that makes one cell -/
theorem am_goN {l : Launch} {I : am_I} {pc pc' d : Nat} {lo : am_L} {st st' : List Value} {A : am_H} {r : am_R} {n : Nat} {x : am_C} (h : am_S1 l I pc' d lo (.ref A.1 :: st') (am_new A n x) r)
    (hs : ∀ (dC : Nat → ClassId) (dI : Nat → Nat → Nat) (sA : Nat → Nat) (z : Nat) (p : Program) (e : Env) (R : Room) (s : State) (m : MethodId) (args : Array Value) (below : List Frame) (meth : Method) (c : Code) (H : Heap) (locs : List Loc) (cells slots : Nat) (ls : Array Slot) (Q : State → Prop), am_X I dC dI sA z p s m args meth c → cells + 1 ≤ R.cells → slots + n ≤ R.slots → (∀ H' : Heap, am_at dC dI sA z s H.size x H' → H'.size = H.size + 1 → (∀ q, q < H.size → H'[q]? = H[q]?) → W p l e R s m args below meth c H' locs (cells + 1) (slots + n) Q (F0 m pc' ls (.ref H.size :: st'.map (am_tr sA z)))) → W p l e R s m args below meth c H locs cells slots Q (F0 m pc ls (st.map (am_tr sA z)))) : am_S1 l I pc d lo st A r := by
  refine am_go0 h rfl (Nat.le_succ _) (Nat.le_add_right _ _) ?_
  intro dC dI sA z p e R s m args below meth c H locs cells slots ls Q _ hX hP hz hl hL _ _ g1 g2 k
  have e1 : (am_new A n x).1 - A.1 = 1 := Nat.add_sub_cancel_left _ _
  have e2 : (am_new A n x).2.1 - A.2.1 = n := Nat.add_sub_cancel_left _ _
  rw [e1] at g1
  rw [e2] at g2
  refine hs dC dI sA z p e R s m args below meth c H locs cells slots ls Q hX g1 g2 (fun H' hat hsz ho => ?_)
  have hzs : z ≤ H.size := by
    have h1 := hP.1
    have h2 := hP.2.1
    omega
  have k1 := k H' locs ls (hP.new hsz ho hat) (fun q hq => by rw [ho q (by omega)]; exact hz q hq) hl hL
  rw [e1, e2] at k1
  have e3 : am_tr sA z (.ref A.1) = .ref H.size := by
    show Value.ref (am_ad sA z A.1) = _
    rw [am_ad_top hP]
  rw [List.map_cons, e3] at k1
  exact k1
theorem s_iadd {l : Launch} {I : am_I} {pc d : Nat} {f : am_F} (hd : decode I.2.1 pc = .ok (.iadd, 1)) (hf : am_S l I (pc + 1) d f) : am_S l I pc d (i_ii (fun x y => x + y) f) := by
  intro lo st A r hg
  unfold i_ii at hg
  split at hg
  · exact am_go1 (hf _ _ _ _ hg) (fun _ _ _ _ _ _ _ _ _ _ _ _ _ _ _ _ _ _ _ hX _ _ _ k => lv_iadd hX.1 hX.2.1 hd k)
  · cases hg
theorem s_isub {l : Launch} {I : am_I} {pc d : Nat} {f : am_F} (hd : decode I.2.1 pc = .ok (.isub, 1)) (hf : am_S l I (pc + 1) d f) : am_S l I pc d (i_ii (fun x y => x - y) f) := by
  intro lo st A r hg
  unfold i_ii at hg
  split at hg
  · exact am_go1 (hf _ _ _ _ hg) (fun _ _ _ _ _ _ _ _ _ _ _ _ _ _ _ _ _ _ _ hX _ _ _ k => lv_isub hX.1 hX.2.1 hd k)
  · cases hg
theorem s_imul {l : Launch} {I : am_I} {pc d : Nat} {f : am_F} (hd : decode I.2.1 pc = .ok (.imul, 1)) (hf : am_S l I (pc + 1) d f) : am_S l I pc d (i_ii (fun x y => x * y) f) := by
  intro lo st A r hg
  unfold i_ii at hg
  split at hg
  · exact am_go1 (hf _ _ _ _ hg) (fun _ _ _ _ _ _ _ _ _ _ _ _ _ _ _ _ _ _ _ hX _ _ _ k => lv_imul hX.1 hX.2.1 hd k)
  · cases hg
theorem s_iand {l : Launch} {I : am_I} {pc d : Nat} {f : am_F} (hd : decode I.2.1 pc = .ok (.iand, 1)) (hf : am_S l I (pc + 1) d f) : am_S l I pc d (i_ii (fun x y => x &&& y) f) := by
  intro lo st A r hg
  unfold i_ii at hg
  split at hg
  · exact am_go1 (hf _ _ _ _ hg) (fun _ _ _ _ _ _ _ _ _ _ _ _ _ _ _ _ _ _ _ hX _ _ _ k => lv_iand hX.1 hX.2.1 hd k)
  · cases hg
theorem s_ior {l : Launch} {I : am_I} {pc d : Nat} {f : am_F} (hd : decode I.2.1 pc = .ok (.ior, 1)) (hf : am_S l I (pc + 1) d f) : am_S l I pc d (i_ii (fun x y => x ||| y) f) := by
  intro lo st A r hg
  unfold i_ii at hg
  split at hg
  · exact am_go1 (hf _ _ _ _ hg) (fun _ _ _ _ _ _ _ _ _ _ _ _ _ _ _ _ _ _ _ hX _ _ _ k => lv_ior hX.1 hX.2.1 hd k)
  · cases hg
theorem s_ishl {l : Launch} {I : am_I} {pc d : Nat} {f : am_F} (hd : decode I.2.1 pc = .ok (.ishl, 1)) (hf : am_S l I (pc + 1) d f) : am_S l I pc d (i_ii (fun x y => x <<< (y &&& 31)) f) := by
  intro lo st A r hg
  unfold i_ii at hg
  split at hg
  · exact am_go1 (hf _ _ _ _ hg) (fun _ _ _ _ _ _ _ _ _ _ _ _ _ _ _ _ _ _ _ hX _ _ _ k => lv_ishl hX.1 hX.2.1 hd k)
  · cases hg
theorem s_ishr {l : Launch} {I : am_I} {pc d : Nat} {f : am_F} (hd : decode I.2.1 pc = .ok (.ishr, 1)) (hf : am_S l I (pc + 1) d f) : am_S l I pc d (i_ii (fun x y => x >>> (y &&& 31)) f) := by
  intro lo st A r hg
  unfold i_ii at hg
  split at hg
  · exact am_go1 (hf _ _ _ _ hg) (fun _ _ _ _ _ _ _ _ _ _ _ _ _ _ _ _ _ _ _ hX _ _ _ k => lv_ishr hX.1 hX.2.1 hd k)
  · cases hg
theorem s_iushr {l : Launch} {I : am_I} {pc d : Nat} {f : am_F} (hd : decode I.2.1 pc = .ok (.iushr, 1)) (hf : am_S l I (pc + 1) d f) : am_S l I pc d (i_ii (fun x y => (x.toUInt32 >>> (y.toUInt32 &&& Int32.toUInt32 31)).toInt32) f) := by
  intro lo st A r hg
  unfold i_ii at hg
  split at hg
  · exact am_go1 (hf _ _ _ _ hg) (fun _ _ _ _ _ _ _ _ _ _ _ _ _ _ _ _ _ _ _ hX _ _ _ k => lv_iushr hX.1 hX.2.1 hd rfl k)
  · cases hg
theorem s_ladd {l : Launch} {I : am_I} {pc d : Nat} {f : am_F} (hd : decode I.2.1 pc = .ok (.ladd, 1)) (hf : am_S l I (pc + 1) d f) : am_S l I pc d (i_ll (fun x y => x + y) f) := by
  intro lo st A r hg
  unfold i_ll at hg
  split at hg
  · exact am_go1 (hf _ _ _ _ hg) (fun _ _ _ _ _ _ _ _ _ _ _ _ _ _ _ _ _ _ _ hX _ _ _ k => lv_ladd hX.1 hX.2.1 hd k)
  · cases hg
theorem s_lsub {l : Launch} {I : am_I} {pc d : Nat} {f : am_F} (hd : decode I.2.1 pc = .ok (.lsub, 1)) (hf : am_S l I (pc + 1) d f) : am_S l I pc d (i_ll (fun x y => x - y) f) := by
  intro lo st A r hg
  unfold i_ll at hg
  split at hg
  · exact am_go1 (hf _ _ _ _ hg) (fun _ _ _ _ _ _ _ _ _ _ _ _ _ _ _ _ _ _ _ hX _ _ _ k => lv_lsub hX.1 hX.2.1 hd k)
  · cases hg
theorem s_lmul {l : Launch} {I : am_I} {pc d : Nat} {f : am_F} (hd : decode I.2.1 pc = .ok (.lmul, 1)) (hf : am_S l I (pc + 1) d f) : am_S l I pc d (i_ll (fun x y => x * y) f) := by
  intro lo st A r hg
  unfold i_ll at hg
  split at hg
  · exact am_go1 (hf _ _ _ _ hg) (fun _ _ _ _ _ _ _ _ _ _ _ _ _ _ _ _ _ _ _ hX _ _ _ k => lv_lmul hX.1 hX.2.1 hd k)
  · cases hg
theorem s_land {l : Launch} {I : am_I} {pc d : Nat} {f : am_F} (hd : decode I.2.1 pc = .ok (.land, 1)) (hf : am_S l I (pc + 1) d f) : am_S l I pc d (i_ll (fun x y => x &&& y) f) := by
  intro lo st A r hg
  unfold i_ll at hg
  split at hg
  · exact am_go1 (hf _ _ _ _ hg) (fun _ _ _ _ _ _ _ _ _ _ _ _ _ _ _ _ _ _ _ hX _ _ _ k => lv_land hX.1 hX.2.1 hd k)
  · cases hg
theorem s_lor {l : Launch} {I : am_I} {pc d : Nat} {f : am_F} (hd : decode I.2.1 pc = .ok (.lor, 1)) (hf : am_S l I (pc + 1) d f) : am_S l I pc d (i_ll (fun x y => x ||| y) f) := by
  intro lo st A r hg
  unfold i_ll at hg
  split at hg
  · exact am_go1 (hf _ _ _ _ hg) (fun _ _ _ _ _ _ _ _ _ _ _ _ _ _ _ _ _ _ _ hX _ _ _ k => lv_lor hX.1 hX.2.1 hd k)
  · cases hg
theorem s_lshl {l : Launch} {I : am_I} {pc d : Nat} {f : am_F} (hd : decode I.2.1 pc = .ok (.lshl, 1)) (hf : am_S l I (pc + 1) d f) : am_S l I pc d (i_lsh (fun x y => x <<< (y.toInt64 &&& 63)) f) := by
  intro lo st A r hg
  unfold i_lsh at hg
  split at hg
  · exact am_go1 (hf _ _ _ _ hg) (fun _ _ _ _ _ _ _ _ _ _ _ _ _ _ _ _ _ _ _ hX _ _ _ k => lv_lshl hX.1 hX.2.1 hd rfl k)
  · cases hg
theorem s_lshr {l : Launch} {I : am_I} {pc d : Nat} {f : am_F} (hd : decode I.2.1 pc = .ok (.lshr, 1)) (hf : am_S l I (pc + 1) d f) : am_S l I pc d (i_lsh (fun x y => x >>> (y.toInt64 &&& 63)) f) := by
  intro lo st A r hg
  unfold i_lsh at hg
  split at hg
  · exact am_go1 (hf _ _ _ _ hg) (fun _ _ _ _ _ _ _ _ _ _ _ _ _ _ _ _ _ _ _ hX _ _ _ k => lv_lshr hX.1 hX.2.1 hd rfl k)
  · cases hg
theorem s_lushr {l : Launch} {I : am_I} {pc d : Nat} {f : am_F} (hd : decode I.2.1 pc = .ok (.lushr, 1)) (hf : am_S l I (pc + 1) d f) : am_S l I pc d (i_lsh (fun x y => (x.toUInt64 >>> (y.toInt64.toUInt64 &&& Int64.toUInt64 63)).toInt64) f) := by
  intro lo st A r hg
  unfold i_lsh at hg
  split at hg
  · exact am_go1 (hf _ _ _ _ hg) (fun _ _ _ _ _ _ _ _ _ _ _ _ _ _ _ _ _ _ _ hX _ _ _ k => lv_lushr hX.1 hX.2.1 hd rfl k)
  · cases hg
theorem s_i2b {l : Launch} {I : am_I} {pc d : Nat} {f : am_F} (hd : decode I.2.1 pc = .ok (.i2b, 1)) (hf : am_S l I (pc + 1) d f) : am_S l I pc d (i_i (fun x => x.toInt8.toInt32) f) := by
  intro lo st A r hg
  unfold i_i at hg
  split at hg
  · exact am_go1 (hf _ _ _ _ hg) (fun _ _ _ _ _ _ _ _ _ _ _ _ _ _ _ _ _ _ _ hX _ _ _ k => lv_i2b hX.1 hX.2.1 hd rfl k)
  · cases hg
theorem s_i2s {l : Launch} {I : am_I} {pc d : Nat} {f : am_F} (hd : decode I.2.1 pc = .ok (.i2s, 1)) (hf : am_S l I (pc + 1) d f) : am_S l I pc d (i_i (fun x => x.toInt16.toInt32) f) := by
  intro lo st A r hg
  unfold i_i at hg
  split at hg
  · exact am_go1 (hf _ _ _ _ hg) (fun _ _ _ _ _ _ _ _ _ _ _ _ _ _ _ _ _ _ _ hX _ _ _ k => lv_i2s hX.1 hX.2.1 hd rfl k)
  · cases hg
theorem s_i2l {l : Launch} {I : am_I} {pc d : Nat} {f : am_F} (hd : decode I.2.1 pc = .ok (.i2l, 1)) (hf : am_S l I (pc + 1) d f) : am_S l I pc d (i_i2l f) := by
  intro lo st A r hg
  unfold i_i2l at hg
  split at hg
  · exact am_go1 (hf _ _ _ _ hg) (fun _ _ _ _ _ _ _ _ _ _ _ _ _ _ _ _ _ _ _ hX _ _ _ k => lv_i2l hX.1 hX.2.1 hd rfl k)
  · cases hg
theorem s_l2i {l : Launch} {I : am_I} {pc d : Nat} {f : am_F} (hd : decode I.2.1 pc = .ok (.l2i, 1)) (hf : am_S l I (pc + 1) d f) : am_S l I pc d (i_l2i f) := by
  intro lo st A r hg
  unfold i_l2i at hg
  split at hg
  · exact am_go1 (hf _ _ _ _ hg) (fun _ _ _ _ _ _ _ _ _ _ _ _ _ _ _ _ _ _ _ hX _ _ _ k => lv_l2i hX.1 hX.2.1 hd rfl k)
  · cases hg
theorem s_lcmp {l : Launch} {I : am_I} {pc d : Nat} {f : am_F} (hd : decode I.2.1 pc = .ok (.lcmp, 1)) (hf : am_S l I (pc + 1) d f) : am_S l I pc d (i_lcmp f) := by
  intro lo st A r hg
  unfold i_lcmp at hg
  split at hg
  · exact am_go1 (hf _ _ _ _ hg) (fun _ _ _ _ _ _ _ _ _ _ _ _ _ _ _ _ _ _ _ hX _ _ _ k => W.lcmp hX.1 hX.2.1 hd k)
  · cases hg
theorem s_idiv {l : Launch} {I : am_I} {pc d : Nat} {f : am_F} (hd : decode I.2.1 pc = .ok (.idiv, 1)) (hf : am_S l I (pc + 1) d f) : am_S l I pc d (i_idz (fun x y => x / y) f) := by
  intro lo st A r hg
  unfold i_idz at hg
  split at hg
  · split at hg
    · cases hg
    · rename_i hne
      exact am_go1 (hf _ _ _ _ hg) (fun _ _ _ _ _ _ _ _ _ _ _ _ _ _ _ _ _ _ _ hX _ _ _ k => lv_idiv hX.1 hX.2.1 hd hne k)
  · cases hg
theorem s_irem {l : Launch} {I : am_I} {pc d : Nat} {f : am_F} (hd : decode I.2.1 pc = .ok (.irem, 1)) (hf : am_S l I (pc + 1) d f) : am_S l I pc d (i_idz (fun x y => x - x / y * y) f) := by
  intro lo st A r hg
  unfold i_idz at hg
  split at hg
  · split at hg
    · cases hg
    · rename_i hne
      exact am_go1 (hf _ _ _ _ hg) (fun _ _ _ _ _ _ _ _ _ _ _ _ _ _ _ _ _ _ _ hX _ _ _ k => lv_irem hX.1 hX.2.1 hd hne k)
  · cases hg
theorem s_iconst {l : Launch} {I : am_I} {pc d : Nat} {f : am_F} {n : Int} {v : Int32} (hd : decode I.2.1 pc = .ok (.iconst n, 1)) (hv : Int32.ofInt n = v) (hf : am_S l I (pc + 1) d f) : am_S l I pc d (i_int v f) :=
  fun lo st A r hg => am_go1 (hf lo (.int v :: st) A r hg) (fun _ _ _ _ _ _ _ _ _ _ _ _ _ _ _ _ _ _ _ hX _ _ _ k => lv_iconst hX.1 hX.2.1 hd hv k)
theorem s_bipush {l : Launch} {I : am_I} {pc d : Nat} {f : am_F} {n : Int} {v : Int32} (hd : decode I.2.1 pc = .ok (.bipush n, 2)) (hv : (Int8.ofInt n).toInt32 = v) (hf : am_S l I (pc + 2) d f) : am_S l I pc d (i_int v f) :=
  fun lo st A r hg => am_go1 (hf lo (.int v :: st) A r hg) (fun _ _ _ _ _ _ _ _ _ _ _ _ _ _ _ _ _ _ _ hX _ _ _ k => lv_bipush hX.1 hX.2.1 hd hv k)
theorem s_sipush {l : Launch} {I : am_I} {pc d : Nat} {f : am_F} {n : Int} {v : Int32} (hd : decode I.2.1 pc = .ok (.sipush n, 3)) (hv : (Int16.ofInt n).toInt32 = v) (hf : am_S l I (pc + 3) d f) : am_S l I pc d (i_int v f) :=
  fun lo st A r hg => am_go1 (hf lo (.int v :: st) A r hg) (fun _ _ _ _ _ _ _ _ _ _ _ _ _ _ _ _ _ _ _ hX _ _ _ k => lv_sipush hX.1 hX.2.1 hd hv k)
theorem s_lconst {l : Launch} {I : am_I} {pc d : Nat} {f : am_F} {n : Fin 2} {v : Int64} (hd : decode I.2.1 pc = .ok (.lconst n, 1)) (hv : Int64.ofNat (n : Nat) = v) (hf : am_S l I (pc + 1) d f) : am_S l I pc d (i_long v f) :=
  fun lo st A r hg => am_go1 (hf lo (.long v :: st) A r hg) (fun _ _ _ _ _ _ _ _ _ _ _ _ _ _ _ _ _ _ _ hX _ _ _ k => lv_lconst hX.1 hX.2.1 hd hv k)
theorem s_ldc {l : Launch} {I : am_I} {pc d : Nat} {f : am_F} {idx : Nat} {v : Int32} (hw : Cond.constant I.1 idx v ∈ am_ws) (hd : decode I.2.1 pc = .ok (.ldc idx, 2)) (hf : am_S l I (pc + 2) d f) : am_S l I pc d (i_int v f) :=
  fun lo st A r hg => am_go1 (hf lo (.int v :: st) A r hg) (fun _ _ _ _ _ _ _ _ _ _ _ _ _ _ _ _ _ _ _ hX _ _ _ k => lv_ldc hX.1 hX.2.1 hX.2.2.2.2.2.2.1 (hX.2.2.2.2.2.2.2.1 _ hw) hd k)
theorem s_ldc2 {l : Launch} {I : am_I} {pc d : Nat} {f : am_F} {idx : Nat} {v : Int64} (hw : Cond.constantLong I.1 idx v ∈ am_ws) (hd : decode I.2.1 pc = .ok (.ldc2_w idx, 3)) (hf : am_S l I (pc + 3) d f) : am_S l I pc d (i_long v f) :=
  fun lo st A r hg => am_go1 (hf lo (.long v :: st) A r hg) (fun _ _ _ _ _ _ _ _ _ _ _ _ _ _ _ _ _ _ _ hX _ _ _ k => lv_ldc2 hX.1 hX.2.1 hX.2.2.2.2.2.2.1 (hX.2.2.2.2.2.2.2.1 _ hw) hd k)
theorem s_null {l : Launch} {I : am_I} {pc d : Nat} {f : am_F} (hd : decode I.2.1 pc = .ok (.aconst_null, 1)) (hf : am_S l I (pc + 1) d f) : am_S l I pc d (i_null f) :=
  fun lo st A r hg => am_go1 (hf lo (.null :: st) A r hg) (fun _ _ _ _ _ _ _ _ _ _ _ _ _ _ _ _ _ _ _ hX _ _ _ k => lv_null hX.1 hX.2.1 hd k)
theorem s_iload_n {l : Launch} {I : am_I} {pc d : Nat} {f : am_F} {k0 : Fin 4} {i : Nat} (hi : (k0 : Nat) = i) (hd : decode I.2.1 pc = .ok (.iload_n k0, 1)) (hf : am_S l I (pc + 1) d f) : am_S l I pc d (i_iload i f) := by
  intro lo st A r hg
  unfold i_iload at hg
  split at hg
  · rename_i hv
    exact am_go1 (hf _ _ _ _ hg) (fun _ _ _ _ _ _ _ _ _ _ _ _ _ _ _ _ _ _ _ hX _ _ hL k => lv_iload_n hX.1 hX.2.1 hd hi (hL.2.2 _ _ hv) k)
  · cases hg
theorem s_iload {l : Launch} {I : am_I} {pc d : Nat} {f : am_F} {i : Nat} (hd : decode I.2.1 pc = .ok (.iload i, 2)) (hf : am_S l I (pc + 2) d f) : am_S l I pc d (i_iload i f) := by
  intro lo st A r hg
  unfold i_iload at hg
  split at hg
  · rename_i hv
    exact am_go1 (hf _ _ _ _ hg) (fun _ _ _ _ _ _ _ _ _ _ _ _ _ _ _ _ _ _ _ hX _ _ hL k => lv_iload hX.1 hX.2.1 hd (hL.2.2 _ _ hv) k)
  · cases hg
theorem s_lload_n {l : Launch} {I : am_I} {pc d : Nat} {f : am_F} {k0 : Fin 4} {i : Nat} (hi : (k0 : Nat) = i) (hd : decode I.2.1 pc = .ok (.lload_n k0, 1)) (hf : am_S l I (pc + 1) d f) : am_S l I pc d (i_lload i f) := by
  intro lo st A r hg
  unfold i_lload at hg
  split at hg
  · rename_i hv
    exact am_go1 (hf _ _ _ _ hg) (fun _ _ _ _ _ _ _ _ _ _ _ _ _ _ _ _ _ _ _ hX _ _ hL k => lv_lload_n hX.1 hX.2.1 hd hi (hL.2.2 _ _ hv) k)
  · cases hg
theorem s_lload {l : Launch} {I : am_I} {pc d : Nat} {f : am_F} {i : Nat} (hd : decode I.2.1 pc = .ok (.lload i, 2)) (hf : am_S l I (pc + 2) d f) : am_S l I pc d (i_lload i f) := by
  intro lo st A r hg
  unfold i_lload at hg
  split at hg
  · rename_i hv
    exact am_go1 (hf _ _ _ _ hg) (fun _ _ _ _ _ _ _ _ _ _ _ _ _ _ _ _ _ _ _ hX _ _ hL k => lv_lload hX.1 hX.2.1 hd (hL.2.2 _ _ hv) k)
  · cases hg
theorem s_aload_n {l : Launch} {I : am_I} {pc d : Nat} {f : am_F} {k0 : Fin 4} {i : Nat} (hi : (k0 : Nat) = i) (hd : decode I.2.1 pc = .ok (.aload_n k0, 1)) (hf : am_S l I (pc + 1) d f) : am_S l I pc d (i_aload i f) := by
  intro lo st A r hg
  unfold i_aload at hg
  split at hg
  · rename_i hv
    exact am_go1 (hf _ _ _ _ hg) (fun _ _ _ _ _ _ _ _ _ _ _ _ _ _ _ _ _ _ _ hX _ _ hL k => lv_aload_n hX.1 hX.2.1 hd hi (hL.2.2 _ _ hv) k)
  · rename_i hv
    exact am_go1 (hf _ _ _ _ hg) (fun _ _ _ _ _ _ _ _ _ _ _ _ _ _ _ _ _ _ _ hX _ _ hL k => lv_aload_nN hX.1 hX.2.1 hd hi (hL.2.2 _ _ hv) k)
  · cases hg
theorem s_aload {l : Launch} {I : am_I} {pc d : Nat} {f : am_F} {i : Nat} (hd : decode I.2.1 pc = .ok (.aload i, 2)) (hf : am_S l I (pc + 2) d f) : am_S l I pc d (i_aload i f) := by
  intro lo st A r hg
  unfold i_aload at hg
  split at hg
  · rename_i hv
    exact am_go1 (hf _ _ _ _ hg) (fun _ _ _ _ _ _ _ _ _ _ _ _ _ _ _ _ _ _ _ hX _ _ hL k => lv_aload hX.1 hX.2.1 hd (hL.2.2 _ _ hv) k)
  · rename_i hv
    exact am_go1 (hf _ _ _ _ hg) (fun _ _ _ _ _ _ _ _ _ _ _ _ _ _ _ _ _ _ _ hX _ _ hL k => lv_aloadN hX.1 hX.2.1 hd (hL.2.2 _ _ hv) k)
  · cases hg
theorem s_istore_n {l : Launch} {I : am_I} {pc d : Nat} {f : am_F} {k0 : Fin 4} {i : Nat} (hi : (k0 : Nat) = i) (hd : decode I.2.1 pc = .ok (.istore_n k0, 1)) (hf : am_S l I (pc + 1) d f) : am_S l I pc d (i_istore i f) := by
  intro lo st A r hg
  unfold i_istore at hg
  split at hg
  · split at hg
    · rename_i hp
      exact am_goL (hf _ _ _ _ hg) (am_put_len hp) (fun _ _ _ _ _ _ _ _ _ _ _ _ _ _ _ _ _ _ _ hX hL k => lv_istore_n hX.1 hX.2.1 hd hi hL.has (am_put_at hp).1 rfl (fun ls' h' => k ls' (am_LR.put hp h')))
    · cases hg
  · cases hg
theorem s_istore {l : Launch} {I : am_I} {pc d : Nat} {f : am_F} {i : Nat} (hd : decode I.2.1 pc = .ok (.istore i, 2)) (hf : am_S l I (pc + 2) d f) : am_S l I pc d (i_istore i f) := by
  intro lo st A r hg
  unfold i_istore at hg
  split at hg
  · split at hg
    · rename_i hp
      exact am_goL (hf _ _ _ _ hg) (am_put_len hp) (fun _ _ _ _ _ _ _ _ _ _ _ _ _ _ _ _ _ _ _ hX hL k => lv_istore hX.1 hX.2.1 hd hL.has (am_put_at hp).1 rfl (fun ls' h' => k ls' (am_LR.put hp h')))
    · cases hg
  · cases hg
theorem s_lstore_n {l : Launch} {I : am_I} {pc d : Nat} {f : am_F} {k0 : Fin 4} {i : Nat} (hi : (k0 : Nat) = i) (hd : decode I.2.1 pc = .ok (.lstore_n k0, 1)) (hf : am_S l I (pc + 1) d f) : am_S l I pc d (i_lstore i f) := by
  intro lo st A r hg
  unfold i_lstore at hg
  split at hg
  · split at hg
    · rename_i hp
      exact am_goL (hf _ _ _ _ hg) (am_put2_len hp) (fun _ _ _ _ _ _ _ _ _ _ _ _ _ _ _ _ _ _ _ hX hL k => lv_lstore_n hX.1 hX.2.1 hd hi hL.has (am_put2_at hp).1 rfl (fun ls' h' => k ls' (am_LR.put2 hp h')))
    · cases hg
  · cases hg
theorem s_lstore {l : Launch} {I : am_I} {pc d : Nat} {f : am_F} {i : Nat} (hd : decode I.2.1 pc = .ok (.lstore i, 2)) (hf : am_S l I (pc + 2) d f) : am_S l I pc d (i_lstore i f) := by
  intro lo st A r hg
  unfold i_lstore at hg
  split at hg
  · split at hg
    · rename_i hp
      exact am_goL (hf _ _ _ _ hg) (am_put2_len hp) (fun _ _ _ _ _ _ _ _ _ _ _ _ _ _ _ _ _ _ _ hX hL k => lv_lstore hX.1 hX.2.1 hd hL.has (am_put2_at hp).1 rfl (fun ls' h' => k ls' (am_LR.put2 hp h')))
    · cases hg
  · cases hg
theorem s_astore_n {l : Launch} {I : am_I} {pc d : Nat} {f : am_F} {k0 : Fin 4} {i : Nat} (hi : (k0 : Nat) = i) (hd : decode I.2.1 pc = .ok (.astore_n k0, 1)) (hf : am_S l I (pc + 1) d f) : am_S l I pc d (i_astore i f) := by
  intro lo st A r hg
  unfold i_astore at hg
  split at hg
  · split at hg
    · rename_i hp
      exact am_goL (hf _ _ _ _ hg) (am_put_len hp) (fun _ _ _ _ _ _ _ _ _ _ _ _ _ _ _ _ _ _ _ hX hL k => lv_astore_n hX.1 hX.2.1 hd hi hL.has (am_put_at hp).1 rfl (fun ls' h' => k ls' (am_LR.put hp h')))
    · cases hg
  · split at hg
    · rename_i hp
      exact am_goL (hf _ _ _ _ hg) (am_put_len hp) (fun _ _ _ _ _ _ _ _ _ _ _ _ _ _ _ _ _ _ _ hX hL k => lv_astore_nN hX.1 hX.2.1 hd hi hL.has (am_put_at hp).1 rfl (fun ls' h' => k ls' (am_LR.put hp h')))
    · cases hg
  · cases hg
theorem s_astore {l : Launch} {I : am_I} {pc d : Nat} {f : am_F} {i : Nat} (hd : decode I.2.1 pc = .ok (.astore i, 2)) (hf : am_S l I (pc + 2) d f) : am_S l I pc d (i_astore i f) := by
  intro lo st A r hg
  unfold i_astore at hg
  split at hg
  · split at hg
    · rename_i hp
      exact am_goL (hf _ _ _ _ hg) (am_put_len hp) (fun _ _ _ _ _ _ _ _ _ _ _ _ _ _ _ _ _ _ _ hX hL k => lv_astore hX.1 hX.2.1 hd hL.has (am_put_at hp).1 rfl (fun ls' h' => k ls' (am_LR.put hp h')))
    · cases hg
  · split at hg
    · rename_i hp
      exact am_goL (hf _ _ _ _ hg) (am_put_len hp) (fun _ _ _ _ _ _ _ _ _ _ _ _ _ _ _ _ _ _ _ hX hL k => lv_astoreN hX.1 hX.2.1 hd hL.has (am_put_at hp).1 rfl (fun ls' h' => k ls' (am_LR.put hp h')))
    · cases hg
  · cases hg
theorem s_iinc {l : Launch} {I : am_I} {pc d : Nat} {f : am_F} {i : Nat} {n : Int} {v : Int32} (hv : Int32.ofInt n = v) (hd : decode I.2.1 pc = .ok (.iinc i n, 3)) (hf : am_S l I (pc + 3) d f) : am_S l I pc d (i_iinc i v f) := by
  intro lo st A r hg
  unfold i_iinc at hg
  split at hg
  · rename_i x hx
    split at hg
    · rename_i hp
      refine am_goL (hf _ _ _ _ hg) (am_put_len hp) (fun dC dI sA z _ _ _ _ _ _ _ _ _ _ _ _ _ _ _ hX hL k => ?_)
      obtain ⟨j, hj⟩ := List.getElem?_of_mem (am_ps_mem (sA := sA) (z := z) hx)
      exact lv_iinc (k := j) (x := x) hX.1 hX.2.1 hd hL.has hj (by rw [hv]) (am_put_at hp).1 rfl (fun ls' h' => k ls' (am_LR.put hp h'))
    · cases hg
  · cases hg
theorem s_dup {l : Launch} {I : am_I} {pc d : Nat} {f : am_F} (hd : decode I.2.1 pc = .ok (.dup, 1)) (hf : am_S l I (pc + 1) d f) : am_S l I pc d (i_dup f) := by
  intro lo st A r hg
  unfold i_dup at hg
  split at hg
  · split at hg
    · rename_i hc
      exact am_go1 (hf _ _ _ _ hg) (fun _ _ _ _ _ _ _ _ _ _ _ _ _ _ _ _ _ _ _ hX _ _ _ k => lv_dup hX.1 hX.2.1 hd (by rw [am_tr_cat]; exact hc) k)
    · cases hg
  · cases hg
theorem s_pop {l : Launch} {I : am_I} {pc d : Nat} {f : am_F} (hd : decode I.2.1 pc = .ok (.pop, 1)) (hf : am_S l I (pc + 1) d f) : am_S l I pc d (i_pop f) := by
  intro lo st A r hg
  unfold i_pop at hg
  split at hg
  · split at hg
    · rename_i hc
      exact am_go1 (hf _ _ _ _ hg) (fun _ _ _ _ _ _ _ _ _ _ _ _ _ _ _ _ _ _ _ hX _ _ _ k => lv_pop hX.1 hX.2.1 hd (by rw [am_tr_cat]; exact hc) k)
    · cases hg
  · cases hg
theorem s_dup2 {l : Launch} {I : am_I} {pc d : Nat} {f : am_F} (hd : decode I.2.1 pc = .ok (.dup2, 1)) (hf : am_S l I (pc + 1) d f) : am_S l I pc d (i_dup2 f) := by
  intro lo st A r hg
  unfold i_dup2 at hg
  split at hg
  · split at hg
    · rename_i hc
      split at hg
      · rename_i hc2
        exact am_go1 (hf _ _ _ _ hg) (fun _ _ _ _ _ _ _ _ _ _ _ _ _ _ _ _ _ _ _ hX _ _ _ k => lv_dup2_11 hX.1 hX.2.1 hd (by rw [am_tr_cat]; exact hc) (by rw [am_tr_cat]; exact hc2) k)
      · cases hg
    · cases hg
  · cases hg
theorem s_ifeq {l : Launch} {I : am_I} {pc d : Nat} {f t : am_F} {off : Int} {tgt : Nat} (hd : decode I.2.1 pc = .ok (.ifCond .eq off, 3)) (ht : (pc : Int) + off = (tgt : Int)) (h1 : am_S l I tgt d t) (hf : am_S l I (pc + 3) d f) : am_S l I pc d (i_ifeq t f) := by
  intro lo st A r hg
  unfold i_ifeq at hg
  split at hg
  · split at hg
    · rename_i hc
      exact am_go1 (h1 _ _ _ _ hg) (fun _ _ _ _ _ _ _ _ _ _ _ _ _ _ _ _ _ _ _ hX _ _ _ k => lv_if_eq hX.1 hX.2.1 hd ht (fun _ => k) (fun hn => absurd hc hn))
    · rename_i hc
      exact am_go1 (hf _ _ _ _ hg) (fun _ _ _ _ _ _ _ _ _ _ _ _ _ _ _ _ _ _ _ hX _ _ _ k => lv_if_eq hX.1 hX.2.1 hd ht (fun hn => absurd hn hc) (fun _ => k))
  · cases hg
theorem s_ifne {l : Launch} {I : am_I} {pc d : Nat} {f t : am_F} {off : Int} {tgt : Nat} (hd : decode I.2.1 pc = .ok (.ifCond .ne off, 3)) (ht : (pc : Int) + off = (tgt : Int)) (h1 : am_S l I tgt d t) (hf : am_S l I (pc + 3) d f) : am_S l I pc d (i_ifne t f) := by
  intro lo st A r hg
  unfold i_ifne at hg
  split at hg
  · split at hg
    · rename_i hc
      exact am_go1 (h1 _ _ _ _ hg) (fun _ _ _ _ _ _ _ _ _ _ _ _ _ _ _ _ _ _ _ hX _ _ _ k => lv_if_ne hX.1 hX.2.1 hd ht (fun _ => k) (fun hn => absurd hn hc))
    · rename_i hc
      exact am_go1 (hf _ _ _ _ hg) (fun _ _ _ _ _ _ _ _ _ _ _ _ _ _ _ _ _ _ _ hX _ _ _ k => lv_if_ne hX.1 hX.2.1 hd ht (fun hn => absurd hn hc) (fun _ => k))
  · cases hg
theorem s_iflt {l : Launch} {I : am_I} {pc d : Nat} {f t : am_F} {off : Int} {tgt : Nat} (hd : decode I.2.1 pc = .ok (.ifCond .lt off, 3)) (ht : (pc : Int) + off = (tgt : Int)) (h1 : am_S l I tgt d t) (hf : am_S l I (pc + 3) d f) : am_S l I pc d (i_iflt t f) := by
  intro lo st A r hg
  unfold i_iflt at hg
  split at hg
  · split at hg
    · rename_i hc
      exact am_go1 (h1 _ _ _ _ hg) (fun _ _ _ _ _ _ _ _ _ _ _ _ _ _ _ _ _ _ _ hX _ _ _ k => lv_if_lt hX.1 hX.2.1 hd ht (fun _ => k) (fun hn => absurd hc hn))
    · rename_i hc
      exact am_go1 (hf _ _ _ _ hg) (fun _ _ _ _ _ _ _ _ _ _ _ _ _ _ _ _ _ _ _ hX _ _ _ k => lv_if_lt hX.1 hX.2.1 hd ht (fun hn => absurd hn hc) (fun _ => k))
  · cases hg
theorem s_ifge {l : Launch} {I : am_I} {pc d : Nat} {f t : am_F} {off : Int} {tgt : Nat} (hd : decode I.2.1 pc = .ok (.ifCond .ge off, 3)) (ht : (pc : Int) + off = (tgt : Int)) (h1 : am_S l I tgt d t) (hf : am_S l I (pc + 3) d f) : am_S l I pc d (i_ifge t f) := by
  intro lo st A r hg
  unfold i_ifge at hg
  split at hg
  · split at hg
    · rename_i hc
      exact am_go1 (h1 _ _ _ _ hg) (fun _ _ _ _ _ _ _ _ _ _ _ _ _ _ _ _ _ _ _ hX _ _ _ k => lv_if_ge hX.1 hX.2.1 hd ht (fun _ => k) (fun hn => absurd hc hn))
    · rename_i hc
      exact am_go1 (hf _ _ _ _ hg) (fun _ _ _ _ _ _ _ _ _ _ _ _ _ _ _ _ _ _ _ hX _ _ _ k => lv_if_ge hX.1 hX.2.1 hd ht (fun hn => absurd hn hc) (fun _ => k))
  · cases hg
theorem s_ifgt {l : Launch} {I : am_I} {pc d : Nat} {f t : am_F} {off : Int} {tgt : Nat} (hd : decode I.2.1 pc = .ok (.ifCond .gt off, 3)) (ht : (pc : Int) + off = (tgt : Int)) (h1 : am_S l I tgt d t) (hf : am_S l I (pc + 3) d f) : am_S l I pc d (i_ifgt t f) := by
  intro lo st A r hg
  unfold i_ifgt at hg
  split at hg
  · split at hg
    · rename_i hc
      exact am_go1 (h1 _ _ _ _ hg) (fun _ _ _ _ _ _ _ _ _ _ _ _ _ _ _ _ _ _ _ hX _ _ _ k => lv_if_gt hX.1 hX.2.1 hd ht (fun _ => k) (fun hn => absurd hc hn))
    · rename_i hc
      exact am_go1 (hf _ _ _ _ hg) (fun _ _ _ _ _ _ _ _ _ _ _ _ _ _ _ _ _ _ _ hX _ _ _ k => lv_if_gt hX.1 hX.2.1 hd ht (fun hn => absurd hn hc) (fun _ => k))
  · cases hg
theorem s_ifle {l : Launch} {I : am_I} {pc d : Nat} {f t : am_F} {off : Int} {tgt : Nat} (hd : decode I.2.1 pc = .ok (.ifCond .le off, 3)) (ht : (pc : Int) + off = (tgt : Int)) (h1 : am_S l I tgt d t) (hf : am_S l I (pc + 3) d f) : am_S l I pc d (i_ifle t f) := by
  intro lo st A r hg
  unfold i_ifle at hg
  split at hg
  · split at hg
    · rename_i hc
      exact am_go1 (h1 _ _ _ _ hg) (fun _ _ _ _ _ _ _ _ _ _ _ _ _ _ _ _ _ _ _ hX _ _ _ k => lv_if_le hX.1 hX.2.1 hd ht (fun _ => k) (fun hn => absurd hc hn))
    · rename_i hc
      exact am_go1 (hf _ _ _ _ hg) (fun _ _ _ _ _ _ _ _ _ _ _ _ _ _ _ _ _ _ _ hX _ _ _ k => lv_if_le hX.1 hX.2.1 hd ht (fun hn => absurd hn hc) (fun _ => k))
  · cases hg
theorem s_cmpeq {l : Launch} {I : am_I} {pc d : Nat} {f t : am_F} {off : Int} {tgt : Nat} (hd : decode I.2.1 pc = .ok (.if_icmp .eq off, 3)) (ht : (pc : Int) + off = (tgt : Int)) (h1 : am_S l I tgt d t) (hf : am_S l I (pc + 3) d f) : am_S l I pc d (i_cmpeq t f) := by
  intro lo st A r hg
  unfold i_cmpeq at hg
  split at hg
  · split at hg
    · rename_i hc
      exact am_go1 (h1 _ _ _ _ hg) (fun _ _ _ _ _ _ _ _ _ _ _ _ _ _ _ _ _ _ _ hX _ _ _ k => lv_icmp_eq hX.1 hX.2.1 hd ht (fun _ => k) (fun hn => absurd hc hn))
    · rename_i hc
      exact am_go1 (hf _ _ _ _ hg) (fun _ _ _ _ _ _ _ _ _ _ _ _ _ _ _ _ _ _ _ hX _ _ _ k => lv_icmp_eq hX.1 hX.2.1 hd ht (fun hn => absurd hn hc) (fun _ => k))
  · cases hg
theorem s_cmpne {l : Launch} {I : am_I} {pc d : Nat} {f t : am_F} {off : Int} {tgt : Nat} (hd : decode I.2.1 pc = .ok (.if_icmp .ne off, 3)) (ht : (pc : Int) + off = (tgt : Int)) (h1 : am_S l I tgt d t) (hf : am_S l I (pc + 3) d f) : am_S l I pc d (i_cmpne t f) := by
  intro lo st A r hg
  unfold i_cmpne at hg
  split at hg
  · split at hg
    · rename_i hc
      exact am_go1 (h1 _ _ _ _ hg) (fun _ _ _ _ _ _ _ _ _ _ _ _ _ _ _ _ _ _ _ hX _ _ _ k => lv_icmp_ne hX.1 hX.2.1 hd ht (fun _ => k) (fun hn => absurd hn hc))
    · rename_i hc
      exact am_go1 (hf _ _ _ _ hg) (fun _ _ _ _ _ _ _ _ _ _ _ _ _ _ _ _ _ _ _ hX _ _ _ k => lv_icmp_ne hX.1 hX.2.1 hd ht (fun hn => absurd hn hc) (fun _ => k))
  · cases hg
theorem s_cmplt {l : Launch} {I : am_I} {pc d : Nat} {f t : am_F} {off : Int} {tgt : Nat} (hd : decode I.2.1 pc = .ok (.if_icmp .lt off, 3)) (ht : (pc : Int) + off = (tgt : Int)) (h1 : am_S l I tgt d t) (hf : am_S l I (pc + 3) d f) : am_S l I pc d (i_cmplt t f) := by
  intro lo st A r hg
  unfold i_cmplt at hg
  split at hg
  · split at hg
    · rename_i hc
      exact am_go1 (h1 _ _ _ _ hg) (fun _ _ _ _ _ _ _ _ _ _ _ _ _ _ _ _ _ _ _ hX _ _ _ k => lv_icmp_lt hX.1 hX.2.1 hd ht (fun _ => k) (fun hn => absurd hc hn))
    · rename_i hc
      exact am_go1 (hf _ _ _ _ hg) (fun _ _ _ _ _ _ _ _ _ _ _ _ _ _ _ _ _ _ _ hX _ _ _ k => lv_icmp_lt hX.1 hX.2.1 hd ht (fun hn => absurd hn hc) (fun _ => k))
  · cases hg
theorem s_cmpge {l : Launch} {I : am_I} {pc d : Nat} {f t : am_F} {off : Int} {tgt : Nat} (hd : decode I.2.1 pc = .ok (.if_icmp .ge off, 3)) (ht : (pc : Int) + off = (tgt : Int)) (h1 : am_S l I tgt d t) (hf : am_S l I (pc + 3) d f) : am_S l I pc d (i_cmpge t f) := by
  intro lo st A r hg
  unfold i_cmpge at hg
  split at hg
  · split at hg
    · rename_i hc
      exact am_go1 (h1 _ _ _ _ hg) (fun _ _ _ _ _ _ _ _ _ _ _ _ _ _ _ _ _ _ _ hX _ _ _ k => lv_icmp_ge hX.1 hX.2.1 hd ht (fun _ => k) (fun hn => absurd hc hn))
    · rename_i hc
      exact am_go1 (hf _ _ _ _ hg) (fun _ _ _ _ _ _ _ _ _ _ _ _ _ _ _ _ _ _ _ hX _ _ _ k => lv_icmp_ge hX.1 hX.2.1 hd ht (fun hn => absurd hn hc) (fun _ => k))
  · cases hg
theorem s_cmpgt {l : Launch} {I : am_I} {pc d : Nat} {f t : am_F} {off : Int} {tgt : Nat} (hd : decode I.2.1 pc = .ok (.if_icmp .gt off, 3)) (ht : (pc : Int) + off = (tgt : Int)) (h1 : am_S l I tgt d t) (hf : am_S l I (pc + 3) d f) : am_S l I pc d (i_cmpgt t f) := by
  intro lo st A r hg
  unfold i_cmpgt at hg
  split at hg
  · split at hg
    · rename_i hc
      exact am_go1 (h1 _ _ _ _ hg) (fun _ _ _ _ _ _ _ _ _ _ _ _ _ _ _ _ _ _ _ hX _ _ _ k => lv_icmp_gt hX.1 hX.2.1 hd ht (fun _ => k) (fun hn => absurd hc hn))
    · rename_i hc
      exact am_go1 (hf _ _ _ _ hg) (fun _ _ _ _ _ _ _ _ _ _ _ _ _ _ _ _ _ _ _ hX _ _ _ k => lv_icmp_gt hX.1 hX.2.1 hd ht (fun hn => absurd hn hc) (fun _ => k))
  · cases hg
theorem s_cmple {l : Launch} {I : am_I} {pc d : Nat} {f t : am_F} {off : Int} {tgt : Nat} (hd : decode I.2.1 pc = .ok (.if_icmp .le off, 3)) (ht : (pc : Int) + off = (tgt : Int)) (h1 : am_S l I tgt d t) (hf : am_S l I (pc + 3) d f) : am_S l I pc d (i_cmple t f) := by
  intro lo st A r hg
  unfold i_cmple at hg
  split at hg
  · split at hg
    · rename_i hc
      exact am_go1 (h1 _ _ _ _ hg) (fun _ _ _ _ _ _ _ _ _ _ _ _ _ _ _ _ _ _ _ hX _ _ _ k => lv_icmp_le hX.1 hX.2.1 hd ht (fun _ => k) (fun hn => absurd hc hn))
    · rename_i hc
      exact am_go1 (hf _ _ _ _ hg) (fun _ _ _ _ _ _ _ _ _ _ _ _ _ _ _ _ _ _ _ hX _ _ _ k => lv_icmp_le hX.1 hX.2.1 hd ht (fun hn => absurd hn hc) (fun _ => k))
  · cases hg
theorem s_ifnull {l : Launch} {I : am_I} {pc d : Nat} {f t : am_F} {off : Int} {tgt : Nat} (hd : decode I.2.1 pc = .ok (.ifnull off, 3)) (ht : (pc : Int) + off = (tgt : Int)) (h1 : am_S l I tgt d t) (hf : am_S l I (pc + 3) d f) : am_S l I pc d (i_ifnull t f) := by
  intro lo st A r hg
  unfold i_ifnull at hg
  split at hg
  · exact am_go1 (h1 _ _ _ _ hg) (fun _ _ _ _ _ _ _ _ _ _ _ _ _ _ _ _ _ _ _ hX _ _ _ k => lv_ifnullN hX.1 hX.2.1 hd ht k)
  · exact am_go1 (hf _ _ _ _ hg) (fun _ _ _ _ _ _ _ _ _ _ _ _ _ _ _ _ _ _ _ hX _ _ _ k => lv_ifnull hX.1 hX.2.1 hd k)
  · cases hg
theorem s_ifnonnull {l : Launch} {I : am_I} {pc d : Nat} {f t : am_F} {off : Int} {tgt : Nat} (hd : decode I.2.1 pc = .ok (.ifnonnull off, 3)) (ht : (pc : Int) + off = (tgt : Int)) (h1 : am_S l I tgt d t) (hf : am_S l I (pc + 3) d f) : am_S l I pc d (i_ifnonnull t f) := by
  intro lo st A r hg
  unfold i_ifnonnull at hg
  split at hg
  · exact am_go1 (h1 _ _ _ _ hg) (fun _ _ _ _ _ _ _ _ _ _ _ _ _ _ _ _ _ _ _ hX _ _ _ k => lv_ifnonnull hX.1 hX.2.1 hd ht k)
  · exact am_go1 (hf _ _ _ _ hg) (fun _ _ _ _ _ _ _ _ _ _ _ _ _ _ _ _ _ _ _ hX _ _ _ k => lv_ifnonnullN hX.1 hX.2.1 hd k)
  · cases hg
theorem s_goto {l : Launch} {I : am_I} {pc d : Nat} {t : am_F} {off : Int} {tgt : Nat} (hd : decode I.2.1 pc = .ok (.goto off, 3)) (ht : (pc : Int) + off = (tgt : Int)) (h1 : am_S l I tgt d t) : am_S l I pc d t :=
  fun lo st A r hg => am_go1 (h1 _ _ _ _ hg) (fun _ _ _ _ _ _ _ _ _ _ _ _ _ _ _ _ _ _ _ hX _ _ _ k => lv_goto hX.1 hX.2.1 hd ht k)
end
section
/-! fields -/
theorem am_one {D : va_G} {cl : List vw_C} {a : Nat} {e : va_E} {H : Heap} (h : va_at D cl (a, e) H) : va_P D cl [(a, e)] H := by
  intro k q hk
  cases k with
  | zero =>
    cases hk
    exact h
  | succ k => simp at hk
/-- what the tables say of a class: its number, its fields -/
def am_Fx (ci : Nat) (C : String) (T : u_T) (N : Nat) (ty : Nat → FieldType) : Prop := am_cl[ci]? = some (C, T, N) ∧ (∀ w ∈ u_ws C T N, w ∈ am_ws) ∧ (∀ k, k < N → parseFieldDescriptor (T k).2.2.1 = some (ty k)) ∧ (∀ a, a < N → ∀ b, b < N → a ≠ b → (T a).2.1 ≠ (T b).2.1)
theorem s_getf {l : Launch} {I : am_I} {pc d : Nat} {f : am_F} {ci k idx N : Nat} {C : String} {T : u_T} {ty : Nat → FieldType} (fx : am_Fx ci C T N ty) (hk : k < N) (hl : Cond.fieldLink I.1 idx (T k).1 (T k).2.1 (T k).2.2.1 ∈ am_ws) (hd : decode I.2.1 pc = .ok (.getfield idx, 3)) (hf : am_S l I (pc + 3) d f) : am_S l I pc d (i_getf ci k f) := by
  intro lo st A r hg
  unfold i_getf at hg
  split at hg
  · rename_i p0 s0
    simp only [Option.bind_eq_some_iff] at hg
    obtain ⟨fs, h1, v, h2, hg⟩ := hg
    have hA := am_obj_at h1
    refine am_go1 (hf _ _ _ _ hg) ?_
    intro dC dI sA z p e R s m args below meth c H locs cells slots ls Q hX hP hz hL k0
    obtain ⟨hx, hb, -, -, -, -, hown, hts, hG⟩ := hX
    exact va_get (D := (dC, dI)) (cl := am_cl) (ci := ci) (ws := [(am_ad sA z p0, .inr (ci, fs.map (am_tr sA z)))]) (v := am_tr sA z v) hx hb hts fx.2.1 hown hG.1 (am_one (hP.2.2 _ _ hA).2) 0 rfl fx.1 k hk (hts _ hl) (fun _ h => h) (by rw [List.getElem?_map, h2]; rfl) hd k0
  · cases hg
theorem am_wr_go {l : Launch} {I : am_I} {pc d : Nat} {f : am_F} {ci k idx N : Nat} {C : String} {T : u_T} {ty : Nat → FieldType} (fx : am_Fx ci C T N ty) (hk : k < N) (hl : Cond.fieldLink I.1 idx (T k).1 (T k).2.1 (T k).2.2.1 ∈ am_ws) (hfin : (T k).2.2.2 = false ∨ ((T k).2.2.2 = true ∧ I.2.2.2.2 = true ∧ (T k).1 = I.1)) (hd : decode I.2.1 pc = .ok (.putfield idx, 3)) {v : Value} (hn : ∀ (sA : Nat → Nat) (z : Nat), narrow (ty k) (am_tr sA z v) = am_tr sA z v ∧ fits (ty k) (am_tr sA z v) = true) (hf : am_S l I (pc + 3) d f)
    {lo : am_L} {st : List Value} {A : am_H} {r : am_R} {p0 : Nat} (hg : am_wr ci k v f p0 lo st A = some r) : am_S1 l I pc d lo (v :: .ref p0 :: st) A r := by
  unfold am_wr at hg
  simp only [Option.bind_eq_some_iff] at hg
  obtain ⟨fs, h1, v0, h2, u, h3, hg⟩ := hg
  have hlen := (List.getElem?_eq_some_iff.mp h2).1
  refine am_goW (hf _ _ _ _ hg) (am_obj_at h1) (am_own_at h3) ?_
  intro dC dI sA z p e R s m args below meth c H locs cells slots ls Q hX hP hat k0
  obtain ⟨hx, hb, -, -, -, hin, hown, hts, hG⟩ := hX
  obtain ⟨hc, hinw, hty, hnm⟩ := fx
  have hap := va_apart (own := I.1) hts hinw ty hty hnm hG.1 hc
  obtain ⟨r0, g1, cell, q1, q2, q3, q4⟩ := hat
  have hr : r0 = (C, T, N) := Option.some.inj (g1.symm.trans hc)
  subst hr
  obtain ⟨hS, hfc, kC, hkC, hkind⟩ := hG.1.1 ci _ hc
  obtain ⟨cf, kf, fi, fd, hi, hsl⟩ := hS k hk
  have hlay := hts _ (hinw _ (u_in_lay hk))
  unfold u_lay at hlay
  have hst := (u_facts hfc hkC (u_lays hts hinw hk) hi).1
  obtain ⟨hn1, hn2⟩ := hn sA z
  have key : ∀ H' : Heap, H'[am_ad sA z p0]? = some (cell.setSlot fd.slot (am_tr sA z v)) → H'.size = H.size → (∀ q, q ≠ am_ad sA z p0 → H'[q]? = H[q]?) → W p l e R s m args below meth c H' (locs ++ [⟨am_ad sA z p0, fd.slot⟩]) cells slots Q (F0 m (pc + 3) ls (st.map (am_tr sA z))) := by
    intro H' e1 e2 e3
    refine k0 H' fd.slot ?_ e2 e3
    rw [hsl] at e1
    refine ⟨_, hc, t_OB.to (V := updV (vp_V (fs.map (am_tr sA z))) k (am_tr sA z v)) ⟨_, e1, q2, q3, t_set q4 hap hk (am_tr sA z v)⟩ (fun j _ => ?_)⟩
    rw [List.map_set]
    exact vp_updV_set (by rw [List.length_map]; exact hlen) _ j
  rcases hfin with hfin | ⟨hfin, hini, hdecl⟩
  · rw [if_neg (by rw [hfin]; decide)] at hlay
    have h6 := u_store hfc hkC hkind hlay hi (hty k hk) hn1 hn2
    exact W.putK hx hb (f := fd) ⟨hown, hts _ hl, ⟨_, _, _, hi⟩, hst⟩ (by rw [q2]; exact h6) q1 q3 (by rw [hsl]; exact k2_hasslot (q4 k hk)) rfl rfl hd key
  · rw [if_pos hfin] at hlay
    have hcf : m.cls = cf := by
      obtain ⟨_, _, c', _, _, _, -, -, hf', -, -, -, hown2, -⟩ := Cond.laysFinal_spec hlay
      have e1 : c' = cf := by have := hi.symm.trans hf'; simp at this; exact this.1.symm
      rw [hdecl] at hown2
      rw [← e1]; exact Option.some.inj (hown.symm.trans hown2)
    have h6 := u_fits hfc hkC hkind (Or.inr hlay) hi (hty k hk) hn1 hn2
    exact W.putFinK hx hb hown (hts _ hl) hi hst hcf (hin hini) (by rw [q2]; exact h6) q1 q3 (by rw [hsl]; exact k2_hasslot (q4 k hk)) rfl rfl hd key
theorem s_putI {l : Launch} {I : am_I} {pc d : Nat} {f : am_F} {ci k idx N : Nat} {C : String} {T : u_T} {ty : Nat → FieldType} (fx : am_Fx ci C T N ty) (hk : k < N) (hl : Cond.fieldLink I.1 idx (T k).1 (T k).2.1 (T k).2.2.1 ∈ am_ws) (hfin : (T k).2.2.2 = false ∨ ((T k).2.2.2 = true ∧ I.2.2.2.2 = true ∧ (T k).1 = I.1)) (hd : decode I.2.1 pc = .ok (.putfield idx, 3)) (ht : ty k = .int) (hf : am_S l I (pc + 3) d f) : am_S l I pc d (i_putI ci k f) := by
  intro lo st A r hg
  unfold i_putI at hg
  split at hg
  · exact am_wr_go fx hk hl hfin hd (fun _ _ => by rw [ht]; exact ⟨rfl, rfl⟩) hf hg
  · cases hg
theorem s_putZ {l : Launch} {I : am_I} {pc d : Nat} {f : am_F} {ci k idx N : Nat} {C : String} {T : u_T} {ty : Nat → FieldType} (fx : am_Fx ci C T N ty) (hk : k < N) (hl : Cond.fieldLink I.1 idx (T k).1 (T k).2.1 (T k).2.2.1 ∈ am_ws) (hfin : (T k).2.2.2 = false ∨ ((T k).2.2.2 = true ∧ I.2.2.2.2 = true ∧ (T k).1 = I.1)) (hd : decode I.2.1 pc = .ok (.putfield idx, 3)) (ht : ty k = .boolean) (hf : am_S l I (pc + 3) d f) : am_S l I pc d (i_putZ ci k f) := by
  intro lo st A r hg
  unfold i_putZ at hg
  split at hg
  · split at hg
    · rename_i hx
      exact am_wr_go fx hk hl hfin hd (fun _ _ => by rw [ht]; rcases hx with rfl | rfl <;> exact ⟨rfl, rfl⟩) hf hg
    · cases hg
  · cases hg
theorem s_putR {l : Launch} {I : am_I} {pc d : Nat} {f : am_F} {ci k idx N : Nat} {C : String} {T : u_T} {ty : Nat → FieldType} (fx : am_Fx ci C T N ty) (hk : k < N) (hl : Cond.fieldLink I.1 idx (T k).1 (T k).2.1 (T k).2.2.1 ∈ am_ws) (hfin : (T k).2.2.2 = false ∨ ((T k).2.2.2 = true ∧ I.2.2.2.2 = true ∧ (T k).1 = I.1)) (hd : decode I.2.1 pc = .ok (.putfield idx, 3)) (ht : ∀ a : Nat, narrow (ty k) (.ref a) = .ref a ∧ fits (ty k) (.ref a) = true) (hf : am_S l I (pc + 3) d f) : am_S l I pc d (i_putR ci k f) := by
  intro lo st A r hg
  unfold i_putR at hg
  split at hg
  · rename_i q1 p1 s1
    exact am_wr_go (v := .ref q1) fx hk hl hfin hd (fun sA z => ht _) hf hg
  · cases hg
/-! statics -/
theorem s_stat {l : Launch} {I : am_I} {pc d : Nat} {f : am_F} {i idx : Nat} (hi : i < 4) (hl : Cond.fieldLink I.1 idx RX5 (am_sn i) "[I" ∈ am_ws) (hd : decode I.2.1 pc = .ok (.getstatic idx, 3)) (hf : am_S l I (pc + 3) d f) : am_S l I pc d (i_stat i f) := by
  intro lo st A r hg
  refine am_go1 (hf lo (.ref i :: st) A r hg) ?_
  intro dC dI sA z p e R s m args below meth c H locs cells slots ls Q hX hP hz hL k0
  obtain ⟨hx, hb, -, -, -, -, hown, hts, hG⟩ := hX
  have e1 : am_tr sA z (.ref i) = .ref (sA i) := by
    show Value.ref (am_ad sA z i) = _
    unfold am_ad
    rw [if_pos (by omega)]
  rw [List.map_cons, e1] at k0
  obtain ⟨cf, kf, fi, fd, a, cell, g1, g2, g3, g4, g5, g6, g7, g8⟩ := hG.2.2.2.2.2 i hi
  exact W.gets hx hb hown (hts _ hl) g1 g2 g3 g4 (by rw [hz a (Nat.not_le.mp g8)]; exact g5) (fun e => by rw [e] at g6; cases g6) g7 rfl hd k0
theorem s_statN {l : Launch} {I : am_I} {pc d : Nat} {f : am_F} {i idx : Nat} {host : String} (hi : i < 4) (hl : (I.1, idx, RX5, am_sn i, "[I", host) ∈ am_nestF) (hd : decode I.2.1 pc = .ok (.getstatic idx, 3)) (hf : am_S l I (pc + 3) d f) : am_S l I pc d (i_stat i f) := by
  intro lo st A r hg
  refine am_go1 (hf lo (.ref i :: st) A r hg) ?_
  intro dC dI sA z p e R s m args below meth c H locs cells slots ls Q hX hP hz hL k0
  obtain ⟨hx, hb, -, -, -, -, hown, hts, hG⟩ := hX
  have e1 : am_tr sA z (.ref i) = .ref (sA i) := by
    show Value.ref (am_ad sA z i) = _
    unfold am_ad
    rw [if_pos (by omega)]
  rw [List.map_cons, e1] at k0
  obtain ⟨cf, kf, fi, fd, a, cell, g1, g2, g3, g4, g5, g6, g7, g8⟩ := hG.2.2.2.2.2 i hi
  exact va_WgetsN hx hb hown (va_Nw.use rfl (hG.2.2.1 _ hl)) g1 g2 g3 g4 (by rw [hz a (Nat.not_le.mp g8)]; exact g5) (fun e => by rw [e] at g6; cases g6) g7 rfl hd k0
/-! rows -/
theorem am_slot_self {cell : Cell} {i : Nat} {v : Value} (h : i < cell.slots.size) : (cell.setSlot i v).slots[i]? = some v := by
  simp [Cell.setSlot, h]
theorem s_iaload {l : Launch} {I : am_I} {pc d : Nat} {f : am_F} (hd : decode I.2.1 pc = .ok (.iaload, 1)) (hf : am_S l I (pc + 1) d f) : am_S l I pc d (i_iald 0 f) := by
  intro lo st A r hg
  unfold i_iald at hg
  split at hg
  · simp only [Option.bind_eq_some_iff] at hg
    obtain ⟨a, h1, j, h2, hg⟩ := hg
    obtain ⟨g0, g1, g2⟩ := am_ix_at h2
    refine am_go1 (hf _ _ _ _ hg) ?_
    intro dC dI sA z p e R s m args below meth c H locs cells slots ls Q hX hP hz hL k0
    obtain ⟨cell, c1, c2, c3, c4, c5, c6⟩ := (hP.2.2 _ _ (am_row_at h1)).2
    exact W.iald (v := .int (a.2 j)) hX.1 hX.2.1 c1 c2 c3 (fun h => by rcases h with h | h; exact g0 h; omega) (by rw [g1]; exact c6 j g2) rfl rfl hd k0
  · cases hg
theorem s_baload {l : Launch} {I : am_I} {pc d : Nat} {f : am_F} (hd : decode I.2.1 pc = .ok (.baload, 1)) (hf : am_S l I (pc + 1) d f) : am_S l I pc d (i_iald 1 f) := by
  intro lo st A r hg
  unfold i_iald at hg
  split at hg
  · simp only [Option.bind_eq_some_iff] at hg
    obtain ⟨a, h1, j, h2, hg⟩ := hg
    obtain ⟨g0, g1, g2⟩ := am_ix_at h2
    refine am_go1 (hf _ _ _ _ hg) ?_
    intro dC dI sA z p e R s m args below meth c H locs cells slots ls Q hX hP hz hL k0
    obtain ⟨cell, c1, c2, c3, c4, c5, c6⟩ := (hP.2.2 _ _ (am_row_at h1)).2
    exact W.bald (v := .int (a.2 j)) hX.1 hX.2.1 c1 c2 c3 (fun h => by rcases h with h | h; exact g0 h; omega) (by rw [g1]; exact c6 j g2) rfl rfl hd k0
  · cases hg
theorem s_iastore {l : Launch} {I : am_I} {pc d : Nat} {f : am_F} (hd : decode I.2.1 pc = .ok (.iastore, 1)) (hf : am_S l I (pc + 1) d f) : am_S l I pc d (i_iast 0 (fun x => x) f) := by
  intro lo st A r hg
  unfold i_iast at hg
  split at hg
  · rename_i x i p0 s0
    simp only [Option.bind_eq_some_iff] at hg
    obtain ⟨a, h1, j, h2, u, h3, hg⟩ := hg
    obtain ⟨g0, g1, g2⟩ := am_ix_at h2
    refine am_goW (hf _ _ _ _ hg) (am_row_at h1) (am_own_at h3) ?_
    intro dC dI sA z p e R s m args below meth c H locs cells slots ls Q hX hP hat k0
    obtain ⟨cell, c1, c2, c3, c4, c5, c6⟩ := hat
    refine W.iast hX.1 hX.2.1 c1 c2 c3 (fun h => by rcases h with h | h; exact g0 h; omega) rfl rfl hd (fun H' e1 e2 e3 => k0 H' i.toNatClampNeg ?_ e2 e3)
    rw [g1] at e1
    refine ⟨_, e1, c2, c3, by rw [k2_slotsz]; exact c4, by rw [k2_slotsz]; exact c5, fun q hq => ?_⟩
    by_cases hqj : q = j
    · subst hqj
      rw [am_slot_self (by omega)]
      simp [upd]
      try rfl
    · rw [slot_ne _ _ (fun e0 => hqj e0.symm), c6 q hq]
      simp [upd, hqj]
  · cases hg
theorem s_bastore {l : Launch} {I : am_I} {pc d : Nat} {f : am_F} (hd : decode I.2.1 pc = .ok (.bastore, 1)) (hf : am_S l I (pc + 1) d f) : am_S l I pc d (i_iast 1 (fun x => x.toInt8.toInt32) f) := by
  intro lo st A r hg
  unfold i_iast at hg
  split at hg
  · rename_i x i p0 s0
    simp only [Option.bind_eq_some_iff] at hg
    obtain ⟨a, h1, j, h2, u, h3, hg⟩ := hg
    obtain ⟨g0, g1, g2⟩ := am_ix_at h2
    refine am_goW (hf _ _ _ _ hg) (am_row_at h1) (am_own_at h3) ?_
    intro dC dI sA z p e R s m args below meth c H locs cells slots ls Q hX hP hat k0
    obtain ⟨cell, c1, c2, c3, c4, c5, c6⟩ := hat
    refine W.bast hX.1 hX.2.1 c1 c2 c3 (fun h => by rcases h with h | h; exact g0 h; omega) rfl rfl hd (fun H' e1 e2 e3 => k0 H' i.toNatClampNeg ?_ e2 e3)
    rw [g1] at e1
    refine ⟨_, e1, c2, c3, by rw [k2_slotsz]; exact c4, by rw [k2_slotsz]; exact c5, fun q hq => ?_⟩
    by_cases hqj : q = j
    · subst hqj
      rw [am_slot_self (by omega)]
      simp [upd]
      try rfl
    · rw [slot_ne _ _ (fun e0 => hqj e0.symm), c6 q hq]
      simp [upd, hqj]
  · cases hg
theorem s_aaload {l : Launch} {I : am_I} {pc d : Nat} {f : am_F} (hd : decode I.2.1 pc = .ok (.aaload, 1)) (hf : am_S l I (pc + 1) d f) : am_S l I pc d (i_aald f) := by
  intro lo st A r hg
  unfold i_aald at hg
  split at hg
  · simp only [Option.bind_eq_some_iff] at hg
    obtain ⟨a, h1, j, h2, hg⟩ := hg
    obtain ⟨g0, g1, g2⟩ := am_ix_at h2
    refine am_go1 (hf _ _ _ _ hg) ?_
    intro dC dI sA z p e R s m args below meth c H locs cells slots ls Q hX hP hz hL k0
    obtain ⟨cell, kA, comp, c1, c2, c3, c4, c5, c6, c7⟩ := (hP.2.2 _ _ (am_refs_at h1)).2
    exact W.aald (v := am_tr sA z (am_rv (a.2 j))) (ty := .object am_el) hX.1 hX.2.1 c1 ⟨fun k h => (by rw [c2] at h; cases h), kA, c3, comp, c4⟩ rfl (fun h => by rw [c2] at h; cases h) (fun h => by rcases h with h | h; exact g0 h; omega) (by rw [g1]; exact c7 j g2) rfl rfl hd k0
  · cases hg
theorem s_aastore {l : Launch} {I : am_I} {pc d : Nat} {f : am_F} (hd : decode I.2.1 pc = .ok (.aastore, 1)) (hf : am_S l I (pc + 1) d f) : am_S l I pc d (i_aast 4 f) := by
  intro lo st A r hg
  unfold i_aast at hg
  split at hg
  · rename_i q0 i p0 s0
    simp only [Option.bind_eq_some_iff] at hg
    obtain ⟨a, h1, fs, h4, j, h2, u, h3, hg⟩ := hg
    obtain ⟨g0, g1, g2⟩ := am_ix_at h2
    refine am_goW (hf _ _ _ _ hg) (am_refs_at h1) (am_own_at h3) ?_
    intro dC dI sA z p e R s m args below meth c H locs cells slots ls Q hX hP hat k0
    obtain ⟨cell, kA, comp, c1, c2, c3, c4, c5, c6, c7⟩ := hat
    obtain ⟨r0, b1, cellV, b2, b3, b4, -⟩ := (hP.2.2 _ _ (am_obj_at h4)).2
    have hcls := (hX.2.2.2.2.2.2.2.2.1.1 4 _ rfl).2
    have hcomp : comp = dC 4 := Option.some.inj (c5.symm.trans hcls.1)
    subst hcomp
    obtain ⟨kC, hkC, -⟩ := hcls.2
    refine W.aast hX.1 hX.2.1 c1 (fun q h => by rw [c2] at h; cases h) (fun h => by rw [c2] at h; cases h) c3 c4 rfl hkC ⟨g0, by omega⟩ b2 (fun q h => by rw [b4] at h; cases h) (by rw [b3]; exact hkC) (by rw [b3]; exact va_assign hcls) rfl rfl hd (fun H' e1 e2 e3 => k0 H' i.toNatClampNeg ?_ e2 e3)
    rw [g1] at e1
    refine ⟨_, kA, dC 4, e1, c2, c3, c4, c5, by rw [k2_slotsz]; exact c6, fun q hq => ?_⟩
    by_cases hqj : q = j
    · subst hqj
      rw [am_slot_self (by omega)]
      simp [va_up, am_rv, am_tr]
    · rw [slot_ne _ _ (fun e0 => hqj e0.symm), c7 q hq]
      simp [va_up, hqj]
  · cases hg
theorem s_alen {l : Launch} {I : am_I} {pc d : Nat} {f : am_F} (hd : decode I.2.1 pc = .ok (.arraylength, 1)) (hf : am_S l I (pc + 1) d f) : am_S l I pc d (i_alen f) := by
  intro lo st A r hg
  unfold i_alen at hg
  split at hg
  · simp only [Option.bind_eq_some_iff] at hg
    obtain ⟨n, h1, hg⟩ := hg
    unfold am_len at h1
    split at h1
    · rename_i hA
      cases h1
      refine am_go1 (hf _ _ _ _ hg) ?_
      intro dC dI sA z p e R s m args below meth c H locs cells slots ls Q hX hP hz hL k0
      obtain ⟨cell, c1, c2, c3, c4, c5, c6⟩ := (hP.2.2 _ _ hA).2
      exact W.alen hX.1 hX.2.1 c1 c2 c5 rfl rfl hd k0
    · rename_i hA
      cases h1
      refine am_go1 (hf _ _ _ _ hg) ?_
      intro dC dI sA z p e R s m args below meth c H locs cells slots ls Q hX hP hz hL k0
      obtain ⟨cell, kA, comp, c1, c2, c3, c4, c5, c6, c7⟩ := (hP.2.2 _ _ hA).2
      exact W.alen (ty := .object am_el) hX.1 hX.2.1 c1 ⟨fun k h => (by rw [c2] at h; cases h), kA, c3, comp, c4⟩ (by rw [c6]) rfl rfl hd k0
    · cases h1
  · cases hg
theorem s_newi {l : Launch} {I : am_I} {pc d : Nat} {f : am_F} (hw : Cond.arrayClass .int ∈ am_ws) (hd : decode I.2.1 pc = .ok (.newarray .int, 2)) (hf : am_S l I (pc + 2) d f) : am_S l I pc d (i_newi 0 f) := by
  intro lo st A r hg
  unfold i_newi at hg
  split at hg
  · simp only [Option.bind_eq_some_iff] at hg
    obtain ⟨N, h2, hg⟩ := hg
    obtain ⟨g0, g1, g2⟩ := am_ix_at h2
    refine am_goN (hf _ _ _ _ hg) ?_
    intro dC dI sA z p e R s m args below meth c H locs cells slots ls Q hX hc1 hc2 k0
    refine va_newaK (atype := .int) hX.1 hX.2.1 (hX.2.2.2.2.2.2.2.1 _ hw) rfl hd rfl g0 g1 (by show N * _ ≤ _; simp only [newarray.typeOf, componentBytes]; omega) hc1 hc2 rfl (fun H' cA e1 e2 e3 hAr _ => k0 H' ?_ e2 e3)
    refine ⟨_, e1, hAr N _, (fun h => by cases h), by rw [arrV_size]; exact Nat.le_refl _, by rw [arrV_size], fun j hj => by rw [arrV_read _ _ hj]; rfl⟩
  · cases hg
theorem s_newb {l : Launch} {I : am_I} {pc d : Nat} {f : am_F} (hw : Cond.arrayClass .byte ∈ am_ws) (hd : decode I.2.1 pc = .ok (.newarray .byte, 2)) (hf : am_S l I (pc + 2) d f) : am_S l I pc d (i_newi 1 f) := by
  intro lo st A r hg
  unfold i_newi at hg
  split at hg
  · simp only [Option.bind_eq_some_iff] at hg
    obtain ⟨N, h2, hg⟩ := hg
    obtain ⟨g0, g1, g2⟩ := am_ix_at h2
    refine am_goN (hf _ _ _ _ hg) ?_
    intro dC dI sA z p e R s m args below meth c H locs cells slots ls Q hX hc1 hc2 k0
    refine va_newaK (atype := .byte) hX.1 hX.2.1 (hX.2.2.2.2.2.2.2.1 _ hw) rfl hd rfl g0 g1 (by show N * _ ≤ _; simp only [newarray.typeOf, componentBytes]; omega) hc1 hc2 rfl (fun H' cA e1 e2 e3 hAr _ => k0 H' ?_ e2 e3)
    refine ⟨_, e1, hAr N _, (fun h => by cases h), by rw [arrV_size]; exact Nat.le_refl _, by rw [arrV_size], fun j hj => by rw [arrV_read _ _ hj]; rfl⟩
  · cases hg
theorem s_newq {l : Launch} {I : am_I} {pc d : Nat} {f : am_F} {idx : Nat} (hw : Cond.classLink I.1 idx am_el ∈ am_ws) (hd : decode I.2.1 pc = .ok (.anewarray idx, 3)) (hf : am_S l I (pc + 3) d f) : am_S l I pc d (i_newq f) := by
  intro lo st A r hg
  unfold i_newq at hg
  split at hg
  · simp only [Option.bind_eq_some_iff] at hg
    obtain ⟨N, h2, hg⟩ := hg
    obtain ⟨g0, g1, g2⟩ := am_ix_at h2
    subst g1
    refine am_goN (hf _ _ _ _ hg) ?_
    intro dC dI sA z p e R s m args below meth c H locs cells slots ls Q hX hc1 hc2 k0
    refine W.anew hX.1 hX.2.1 hX.2.2.2.2.2.2.1 (hX.2.2.2.2.2.2.2.1 _ hw) (va_AO.use hX.2.2.2.2.2.2.2.2.2.2.2.1) rfl hd rfl g0 (by omega) hc1 hc2 (fun cA kA comp f1 f2 f3 f4 => k0 _ ?_ (by rw [Array.size_push]) (fun q hq => by rw [Array.getElem?_push, if_neg (Nat.ne_of_lt hq)]))
    refine ⟨_, kA, comp, Array.getElem?_push_size, rfl, f2, f3, f4, by simp, fun j hj => ?_⟩
    simp [hj, am_rv, am_tr]
  · cases hg
theorem s_new {l : Launch} {I : am_I} {pc d : Nat} {f : am_F} {ci idx N : Nat} {C : String} {T : u_T} {ty : Nat → FieldType} {fs : List Value} (fx : am_Fx ci C T N ty) (hw1 : Cond.classLink I.1 idx C ∈ am_ws) (hw2 : Cond.instantiable C N ∈ am_ws) (hw3 : Cond.initialized C ∈ am_ws) (hN : fs.length = N) (hfs : ∀ (sA : Nat → Nat) (z : Nat) (j : Nat), j < N → defaultValue (ty j) = vp_V (fs.map (am_tr sA z)) j) (hd : decode I.2.1 pc = .ok (.new idx, 3)) (hf : am_S l I (pc + 3) d f) : am_S l I pc d (i_new ci fs f) := by
  intro lo st A r hg
  refine am_goN (hf lo _ _ r hg) ?_
  intro dC dI sA z p e R s m args below meth c H locs cells slots ls Q hX hc1 hc2 k0
  obtain ⟨hx, hb, -, -, -, -, hown, hts, hG⟩ := hX
  subst hN
  have hKn := hG.1.1 ci _ fx.1
  exact W.newcK hx hb hown (hts _ hw1) (hts _ hw2) (hts _ hw3) rfl hd hc1 hc2 hKn.2.1 rfl (fun H1 kC hkC e1 z1 o1 => k0 H1 ⟨_, fx.1, (u_born ty hts fx.2.1 hKn hkC e1 fx.2.2.1).to (hfs sA z)⟩ z1 o1)
theorem s_obj {l : Launch} {I : am_I} {pc d : Nat} {f : am_F} {idx : Nat} (hw1 : Cond.methodLink I.1 idx objectInit ∈ am_ws) (hw2 : Cond.instanceMethod objectInit ∈ am_ws) (hw3 : Cond.code objectInit ⟨#[0xb1]⟩ 1 none ∈ am_ws) (hd : decode I.2.1 pc = .ok (.invokespecial idx, 3)) (hf : am_S l I (pc + 3) d f) : am_S l I pc d (i_obj d f) := by
  intro lo st A r hg
  unfold i_obj at hg
  split at hg
  · cases hg
  · split at hg
    · split at hg
      · rename_i hcat
        refine am_go0 (hf _ _ _ _ hg) rfl (Nat.le_refl _) (Nat.le_refl _) ?_
        intro dC dI sA z p e R s m args below meth c H locs cells slots ls Q hlo hX hP hz hl hL hfr hlc _ _ kk
        obtain ⟨hx, hb, hml, -, -, -, hown, hts, hG⟩ := hX
        have k1 := kk H locs ls hP hz hl hL
        rw [Nat.sub_self, Nat.sub_self, Nat.add_zero, Nat.add_zero] at k1
        refine W.objInit hx hb hown (hts _ hw1) (hts _ hw2) (hts _ hw3) rfl (by rw [hml]; exact hL.1.trans hlo) rfl hd (by omega) ?_ k1
        show 2 * 0 + _ + 12 ≤ R.locals
        rw [am_cats]
        omega
      · cases hg
    · cases hg
/-! ends -/
theorem am_end {l : Launch} {I : am_I} {pc d : Nat} {lo : am_L} {st : List Value} {A : am_H} {v : Option Value} {ins : Instr} (hst : st = v.toList) (hd : decode I.2.1 pc = .ok (ins, 1)) (hr : am_rok I.2.2.2.1 v ins) : am_S1 l I pc d lo st A (v, A) := by
  intro hlo
  refine ⟨Nat.le_refl _, Nat.le_refl _, ?_⟩
  intro dC dI sA z p e R s m args below meth c H locs cells slots ls Q mc ms hX hP hz hl hL _ _ e1 e2 _ _ hE
  have f1 : cells = mc := by rw [← e1]; show cells = cells + (A.1 - A.1); omega
  have f2 : slots = ms := by rw [← e2]; show slots = slots + (A.2.1 - A.2.1); omega
  subst f1; subst f2; subst hst
  exact hE pc ls H locs ins hd hr hP hz hl
theorem s_iret {l : Launch} {I : am_I} {pc d : Nat} (hr : I.2.2.2.1 = some .int) (hd : decode I.2.1 pc = .ok (.ireturn, 1)) : am_S l I pc d i_iret := by
  intro lo st A r hg
  unfold i_iret at hg
  split at hg
  · rename_i x
    cases hg
    exact am_end rfl hd (Or.inr (Or.inl ⟨.int, x, hr, rfl, rfl, rfl⟩))
  · cases hg
theorem s_zret {l : Launch} {I : am_I} {pc d : Nat} (hr : I.2.2.2.1 = some .boolean) (hd : decode I.2.1 pc = .ok (.ireturn, 1)) : am_S l I pc d i_zret := by
  intro lo st A r hg
  unfold i_zret at hg
  split at hg
  · rename_i x
    split at hg
    · rename_i hx
      cases hg
      exact am_end rfl hd (Or.inr (Or.inl ⟨.boolean, x, hr, rfl, by rcases hx with rfl | rfl <;> rfl, rfl⟩))
    · cases hg
  · cases hg
theorem s_lret {l : Launch} {I : am_I} {pc d : Nat} (hr : I.2.2.2.1 = some .long) (hd : decode I.2.1 pc = .ok (.lreturn, 1)) : am_S l I pc d i_lret := by
  intro lo st A r hg
  unfold i_lret at hg
  split at hg
  · rename_i x
    cases hg
    exact am_end rfl hd (Or.inr (Or.inr (Or.inl ⟨x, hr, rfl, rfl⟩)))
  · cases hg
theorem s_aret {l : Launch} {I : am_I} {pc d : Nat} {C : String} (hr : I.2.2.2.1 = some (.object C)) (hd : decode I.2.1 pc = .ok (.areturn, 1)) : am_S l I pc d i_aret := by
  intro lo st A r hg
  unfold i_aret at hg
  split at hg
  · rename_i x
    cases hg
    exact am_end rfl hd (Or.inr (Or.inr (Or.inr ⟨C, hr, Or.inr ⟨x, rfl⟩, rfl⟩)))
  · cases hg
    exact am_end rfl hd (Or.inr (Or.inr (Or.inr ⟨C, hr, Or.inl rfl, rfl⟩)))
  · cases hg
theorem s_vret {l : Launch} {I : am_I} {pc d : Nat} (hr : I.2.2.2.1 = none) (hd : decode I.2.1 pc = .ok (.return_, 1)) : am_S l I pc d i_vret := by
  intro lo st A r hg
  unfold i_vret at hg
  split at hg
  · cases hg
    exact am_end rfl hd (Or.inl ⟨hr, rfl, rfl⟩)
  · cases hg
/-! a method's contract out of its entry -/
def am_rm (d mc ms : Nat) : Room := { frames := d, cells := mc, slots := ms, locals := d * 37 }
def am_Q (dC : Nat → ClassId) (dI : Nat → Nat → Nat) (sA : Nat → Nat) (z : Nat) (r : am_R) : Array Value → State → Outcome → State → Prop := fun _ st o t => o = .returned (r.1.map (am_tr sA z)) ∧ am_P dC dI sA z t r.2 t.heap ∧ ∀ q, q < z → t.heap[q]? = st.heap[q]?
def am_Pc (dC : Nat → ClassId) (dI : Nat → Nat → Nat) (sA : Nat → Nat) (z : Nat) (vs : List Value) (A : am_H) : Array Value → State → Prop := va_Pc (vs.map (am_tr sA z)) (fun U => am_G dC dI sA z U ∧ am_P dC dI sA z U A U.heap)
theorem am_blind {dC : Nat → ClassId} {dI : Nat → Nat → Nat} {sA : Nat → Nat} {z : Nat} {vs : List Value} {A : am_H} : FrameBlind (am_Pc dC dI sA z vs A) := fun a U g mk h => ⟨h.1, h.2.1.calling g mk a, am_P.moved (U := U) (V := U.calling g mk a) (Vm.Alike.refl U.vm) h.2.2⟩
theorem am_ent_len {vs : List Value} {n : Nat} (h : (am_sl vs).length ≤ n) : (am_ent vs n).length = n := by
  unfold am_ent
  rw [List.length_append, List.length_replicate]
  omega
theorem am_sl_len (sA : Nat → Nat) (z : Nat) (vs : List Value) : (lg_sl (vs.map (am_tr sA z))).length = (am_sl vs).length := by
  induction vs with
  | nil => rfl
  | cons v vs ih =>
    show ((if (am_tr sA z v).category = 2 then [Slot.val (am_tr sA z v), Slot.second] else [Slot.val (am_tr sA z v)]) ++ lg_sl (vs.map (am_tr sA z))).length = (if v.category = 2 then some v :: none :: am_sl vs else some v :: am_sl vs).length
    rw [am_tr_cat, List.length_append, ih]
    split
    · simp; omega
    · simp; omega
theorem am_sl_args (sA : Nat → Nat) (z : Nat) (vs : List Value) : ∀ (k i : Nat) (v : Value), (am_sl vs)[i]? = some (some v) → (k + i, am_tr sA z v) ∈ lv_args k (vs.map (am_tr sA z)) := by
  induction vs with
  | nil =>
    intro k i v h
    simp [am_sl] at h
  | cons w vs ih =>
    intro k i v h
    show (k + i, am_tr sA z v) ∈ (k, am_tr sA z w) :: lv_args (if (am_tr sA z w).category = 2 then k + 2 else k + 1) (vs.map (am_tr sA z))
    rw [am_tr_cat]
    unfold am_sl at h
    split at h
    · rename_i hc
      rw [if_pos hc]
      match i, h with
      | 0, h =>
        simp at h
        subst h
        exact List.mem_cons_self
      | 1, h => simp at h
      | j + 2, h =>
        simp at h
        have := ih (k + 2) j v h
        rw [show k + (j + 2) = k + 2 + j by omega]
        exact List.mem_cons_of_mem _ this
    · rename_i hc
      rw [if_neg hc]
      match i, h with
      | 0, h =>
        simp at h
        subst h
        exact List.mem_cons_self
      | j + 1, h =>
        simp at h
        have := ih (k + 1) j v h
        rw [show k + (j + 1) = k + 1 + j by omega]
        exact List.mem_cons_of_mem _ this
theorem am_ent_LR {sA : Nat → Nat} {z : Nat} {vs : List Value} {n : Nat} (h : (am_sl vs).length ≤ n) : am_LR sA z (am_ent vs n) ((lg_sl (vs.map (am_tr sA z)) ++ List.replicate (n - (lg_sl (vs.map (am_tr sA z))).length) Slot.unset).toArray) := by
  obtain ⟨h1, h2, h3⟩ := lv_entry (vs.map (am_tr sA z)) (n := n) (by rw [am_sl_len]; exact h)
  refine ⟨by rw [h1, am_ent_len h], h2, fun i v hi => ?_⟩
  have hi2 : (am_sl vs)[i]? = some (some v) := by
    unfold am_ent at hi
    by_cases hlt : i < (am_sl vs).length
    · rw [List.getElem?_append_left hlt] at hi
      exact hi
    · rw [List.getElem?_append_right (Nat.not_lt.mp hlt)] at hi
      have := List.mem_of_getElem? hi
      have := List.eq_of_mem_replicate this
      cases this
  have := am_sl_args sA z vs 0 i v hi2
  rw [Nat.zero_add] at this
  exact h3 _ this
/-- what a call needs of the tables: n parameters (without the receiver) -/
def am_Cl (J : am_I) (y : MethodName) (n : Nat) : Prop := J.1 = y.cls ∧ plainName y.cls = true ∧ Cond.code y J.2.1 J.2.2.1 J.2.2.2.1 ∈ am_ws ∧ Cond.initialized y.cls ∈ am_ws ∧ (y.cls ≠ "java/lang/invoke/MethodHandle" ∧ y.cls ≠ "java/lang/invoke/VarHandle" ∧ (parseMethodDescriptor y.desc).map (fun d => d.parameters.length) = some n) ∧ J.2.2.1 ≤ 18 ∧ (J.2.2.2.2 = true → y.name = "<init>")
theorem am_met {l : Launch} {J : am_I} {y : MethodName} {n : Nat} (hc : am_Cl J y n) {d : Nat} {f : am_F} (hf : am_S l J 0 d f) {vs : List Value} {A : am_H} {r : am_R} (hsl : (am_sl vs).length ≤ J.2.2.1) (hr : f (am_ent vs J.2.2.1) [] A = some r) (dC : Nat → ClassId) (dI : Nat → Nat → Nat) (sA : Nat → Nat) (z : Nat) :
    Met l y (Cond.code y J.2.1 J.2.2.1 J.2.2.2.1 :: am_ws) (am_rm d (r.2.1 - A.1) (r.2.2.1 - A.2.1)) (am_Pc dC dI sA z vs A) (am_Q dC dI sA z r) (r.2.1 - A.1) (r.2.2.1 - A.2.1) (fun q => z ≤ q) := by
  obtain ⟨j1, j2, j3, j4, j5, j6, j7⟩ := hc
  refine Met.ofW (cc := J.2.1) (maxL := J.2.2.1) (ret := J.2.2.2.1) j2 rfl ?_
  intro p e s m args below meth c s₁ B hml hv
  obtain ⟨rfl, hG, hP⟩ := hv
  have hts := atoms_spec (ws := Cond.code y J.2.1 J.2.2.1 J.2.2.2.1 :: am_ws) B.pre
  have hown : s.vm.findClass J.1 = some m.cls := by rw [j1]; exact findClass_of_methodNamed B.named
  have hlk := B.notSynchronized
  have hrt := B.returns
  have hx := B.exec
  have hb := B.bytes
  rw [lg_entry_eq]
  obtain ⟨-, -, h3⟩ := hf _ [] A r hr (am_ent_len hsl)
  refine h3 dC dI sA z p e _ s m _ below meth c s.heap [] 0 0 _ _ _ _ ⟨hx, hb, hml, hrt, hlk, fun h => (name_of_methodNamed B.named B.method).1.trans (j7 h), hown, fun w hw => hts w (List.mem_cons_of_mem _ hw), hG⟩ hP (fun _ _ => rfl) (fun q hq => by cases hq) (am_ent_LR hsl) (Nat.le_refl _) (Nat.le_refl _) (Nat.zero_add _) (Nat.zero_add _) (Nat.le_refl _) (Nat.le_refl _) ?_
  intro pc ls H locs ins hd hok hP1 hz1 hl1
  rcases hok with ⟨g1, g2, rfl⟩ | ⟨ty, x, g1, g2, g3, rfl⟩ | ⟨x, g1, g2, rfl⟩ | ⟨C, g1, g2, rfl⟩
  · obtain ⟨v, A1⟩ := r
    cases g2
    exact W.vret hx hb (hrt.trans g1) (fun t ht hW => ⟨rfl, by rw [ht]; exact hP1.moved hW.alike, fun q hq => by rw [ht]; exact hz1 q hq⟩) hl1 hd hlk
  · obtain ⟨v, A1⟩ := r
    cases g2
    exact W.zret hx hb (hrt.trans g1) g3 (fun t ht hW => ⟨rfl, by rw [ht]; exact hP1.moved hW.alike, fun q hq => by rw [ht]; exact hz1 q hq⟩) hl1 hd hlk
  · obtain ⟨v, A1⟩ := r
    cases g2
    exact W.lret hx hb (hrt.trans g1) (fun t ht hW => ⟨rfl, by rw [ht]; exact hP1.moved hW.alike, fun q hq => by rw [ht]; exact hz1 q hq⟩) hl1 hd hlk
  · obtain ⟨v, A1⟩ := r
    rcases g2 with g2 | ⟨q0, g2⟩
    · cases g2
      exact W.aret hx hb (hrt.trans g1) (Or.inl ⟨C, rfl⟩) (Or.inl rfl) (fun t ht hW => ⟨rfl, by rw [ht]; exact hP1.moved hW.alike, fun q hq => by rw [ht]; exact hz1 q hq⟩) hl1 hd hlk
    · cases g2
      exact W.aret hx hb (hrt.trans g1) (Or.inl ⟨C, rfl⟩) (Or.inr ⟨am_ad sA z q0, rfl⟩) (fun t ht hW => ⟨rfl, by rw [ht]; exact hP1.moved hW.alike, fun q hq => by rw [ht]; exact hz1 q hq⟩) hl1 hd hlk
/-! calls -/
theorem am_ret {l : Launch} {dC : Nat → ClassId} {dI : Nat → Nat → Nat} {sA : Nat → Nat} {z : Nat} {p : Program} {e : Env} {R : Room} {s : State} {m : MethodId} {args : Array Value} {below : List Frame} {meth : Method} {c : Code} {H : Heap} {locs : List Loc} {cells slots : Nat} {ls : Array Slot} {Q : State → Prop} {pc mc ms : Nat} {st0 rest : List Value} {r : am_R} {a : Array Value}
    (hrun : va_Run p l e R s m args below meth c H locs cells slots mc ms (F0 m pc ls st0) rest (am_Q dC dI sA z r a) (fun q => z ≤ q)) (hz : ∀ q, q < z → H[q]? = s.heap[q]?) (hl : ∀ q ∈ locs, z ≤ q.base)
    (kk : ∀ (H' : Heap) (locs' : List Loc), am_P dC dI sA z s r.2 H' → (∀ q, q < z → H'[q]? = s.heap[q]?) → (∀ q ∈ locs', z ≤ q.base) → W p l e R s m args below meth c H' locs' (cells + mc) (slots + ms) Q (F0 m (pc + 3) ls ((r.1.map (am_tr sA z)).toList ++ rest))) : W p l e R s m args below meth c H locs cells slots Q (F0 m pc ls st0) := by
  intro T hT X
  obtain ⟨v, st₀, t, T', L, h0, X', hL, e1, e2, ⟨hv, hP1, hk1⟩, st⟩ := hrun T hT X
  cases hv
  have hal : t.vm.Alike s.vm := by rw [← e2]; exact X'.warmed.alike.symm
  obtain ⟨t2, a1, b1⟩ := kk T'.heap (locs ++ L) (by rw [e1]; exact hP1.moved hal) (fun q hq => by rw [e1, hk1 q hq, h0]; exact hz q hq) (fun q hq => by
    rcases List.mem_append.mp hq with h | h
    · exact hl q h
    · exact hL q h) T' rfl X'
  exact ⟨t2, st t2 a1, b1⟩
theorem am_mapr (sA : Nat → Nat) (z : Nat) (o : Option Value) (rest : List Value) : (o.map (am_tr sA z)).toList ++ rest.map (am_tr sA z) = (o.toList ++ rest).map (am_tr sA z) := by
  cases o <;> rfl
theorem am_stk (sA : Nat → Nat) (z : Nat) (st : List Value) (n : Nat) : st.map (am_tr sA z) = (((st.take n).reverse).map (am_tr sA z)).reverse ++ (st.drop n).map (am_tr sA z) := by
  rw [List.map_reverse, List.reverse_reverse, ← List.map_append, List.take_append_drop]
theorem s_callS {l : Launch} {I : am_I} {pc d : Nat} {f : am_F} {k : am_K} {lab n idx : Nat} {J : am_I} {y : MethodName} (hc : am_Cl J y n) (hw1 : Cond.methodLink I.1 idx y ∈ am_ws) (hw2 : Cond.static y ∈ am_ws) (hK : ∀ d', am_S l J 0 d' (k d' lab)) (hd : decode I.2.1 pc = .ok (.invokestatic idx, 3)) (hf : am_S l I (pc + 3) d f) : am_S l I pc d (i_call k d lab n J.2.2.1 f) := by
  intro lo st A r hg
  unfold i_call at hg
  cases d with
  | zero => cases hg
  | succ d' =>
    simp only at hg
    split at hg
    · rename_i hh
      obtain ⟨hn, hcat, hsl⟩ := hh
      obtain ⟨r1, hr1, hg⟩ := Option.bind_eq_some_iff.mp hg
      obtain ⟨b1, b2, -⟩ := hK d' _ _ _ _ hr1 (am_ent_len hsl)
      refine am_go0 (hf _ _ _ _ hg) rfl b1 b2 ?_
      intro dC dI sA z p e R s m args below meth c H locs cells slots ls Q hlo hX hP hz hl hL hfr hlc hcs hss kk
      obtain ⟨hx, hb, hml, -, -, -, hown, hts, hG⟩ := hX
      have hM := am_met hc (hK d') hsl hr1 dC dI sA z
      obtain ⟨j1, j2, j3, j4, j5, j6, j7⟩ := hc
      have hpre : ∀ U : State, U.heap = H → s.WarmedH U.vm → am_Pc dC dI sA z (st.take n).reverse A (((st.take n).reverse).map (am_tr sA z)).toArray U := fun U hU hW => ⟨rfl, hG.warm hW (fun q hq => by rw [hU]; exact hz q hq), by rw [hU]; exact hP.moved hW.alike⟩
      have hrm : (am_rm d' (r1.2.1 - A.1) (r1.2.2.1 - A.2.1)).frames + 1 ≤ R.frames ∧ 8 + (J.2.2.1 + 11) + (am_rm d' (r1.2.1 - A.1) (r1.2.2.1 - A.2.1)).locals ≤ R.locals := ⟨hfr, by show 8 + (J.2.2.1 + 11) + d' * 37 ≤ R.locals; omega⟩
      have hrest : 2 * (F0 m pc ls (st.map (am_tr sA z))).monitorRoom + (((st.drop n).map (am_tr sA z)).map fun v => v.category).sum ≤ 8 := by
        show 2 * 0 + _ ≤ 8
        rw [am_cats]
        omega
      have hGd : GoodIn am_ws (va_wsS I.1 idx y (Cond.code y J.2.1 J.2.2.1 J.2.2.2.1 :: am_ws)) := am_good (fun w hw => by
        unfold va_wsS at hw
        rcases List.mem_append.mp hw with h | h
        · simp only [List.mem_cons, List.not_mem_nil, or_false] at h
          rcases h with rfl | rfl | rfl
          · exact hw1
          · exact hw2
          · exact j4
        · rcases List.mem_cons.mp h with rfl | h
          · exact j3
          · exact h)
      refine am_ret (rest := (st.drop n).map (am_tr sA z)) (va_runS (nL := I.2.2.1) (Ts := am_ws) (own := I.1) ⟨hx, hb, hml, hown, hts⟩ hM (va_cwS n hts hGd rfl rfl rfl j5 hrm) ⟨am_blind, hpre⟩ rfl (by rw [List.length_map, List.length_reverse, List.length_take]; omega) (hL.1.trans hlo) (am_stk sA z st n) hrest hd ⟨hcs, hss⟩) hz hl (fun H' locs' hP' hz' hl' => ?_)
      rw [am_mapr]
      exact kk H' locs' ls hP' hz' hl' hL
    · cases hg
theorem s_callSN {l : Launch} {I : am_I} {pc d : Nat} {f : am_F} {k : am_K} {lab n idx : Nat} {J : am_I} {y : MethodName} (hc : am_Cl J y n) {host : String} (hw1 : (I.1, idx, y, host) ∈ am_nestM) (hw2 : Cond.static y ∈ am_ws) (hK : ∀ d', am_S l J 0 d' (k d' lab)) (hd : decode I.2.1 pc = .ok (.invokestatic idx, 3)) (hf : am_S l I (pc + 3) d f) : am_S l I pc d (i_call k d lab n J.2.2.1 f) := by
  intro lo st A r hg
  unfold i_call at hg
  cases d with
  | zero => cases hg
  | succ d' =>
    simp only at hg
    split at hg
    · rename_i hh
      obtain ⟨hn, hcat, hsl⟩ := hh
      obtain ⟨r1, hr1, hg⟩ := Option.bind_eq_some_iff.mp hg
      obtain ⟨b1, b2, -⟩ := hK d' _ _ _ _ hr1 (am_ent_len hsl)
      refine am_go0 (hf _ _ _ _ hg) rfl b1 b2 ?_
      intro dC dI sA z p e R s m args below meth c H locs cells slots ls Q hlo hX hP hz hl hL hfr hlc hcs hss kk
      obtain ⟨hx, hb, hml, -, -, -, hown, hts, hG⟩ := hX
      have hM := am_met hc (hK d') hsl hr1 dC dI sA z
      obtain ⟨j1, j2, j3, j4, j5, j6, j7⟩ := hc
      have hpre : ∀ U : State, U.heap = H → s.WarmedH U.vm → am_Pc dC dI sA z (st.take n).reverse A (((st.take n).reverse).map (am_tr sA z)).toArray U := fun U hU hW => ⟨rfl, hG.warm hW (fun q hq => by rw [hU]; exact hz q hq), by rw [hU]; exact hP.moved hW.alike⟩
      have hrm : (am_rm d' (r1.2.1 - A.1) (r1.2.2.1 - A.2.1)).frames + 1 ≤ R.frames ∧ 8 + (J.2.2.1 + 11) + (am_rm d' (r1.2.1 - A.1) (r1.2.2.1 - A.2.1)).locals ≤ R.locals := ⟨hfr, by show 8 + (J.2.2.1 + 11) + d' * 37 ≤ R.locals; omega⟩
      have hrest : 2 * (F0 m pc ls (st.map (am_tr sA z))).monitorRoom + (((st.drop n).map (am_tr sA z)).map fun v => v.category).sum ≤ 8 := by
        show 2 * 0 + _ ≤ 8
        rw [am_cats]
        omega
      have hGd : GoodIn am_ws (Cond.code y J.2.1 J.2.2.1 J.2.2.2.1 :: am_ws) := am_good (fun w hw => by
        rcases List.mem_cons.mp hw with rfl | h
        · exact j3
        · exact h)
      refine am_ret (rest := (st.drop n).map (am_tr sA z)) (va_runSN (nL := I.2.2.1) (Ts := am_ws) (own := I.1) ⟨hx, hb, hml, hown, hts⟩ hM ⟨va_cnB n hts hGd rfl rfl rfl (hG.2.1 _ hw1) (hts _ j4) j5 hrm, hts _ hw2, trivial⟩ ⟨am_blind, hpre⟩ rfl (by rw [List.length_map, List.length_reverse, List.length_take]; omega) (hL.1.trans hlo) (am_stk sA z st n) hrest hd ⟨hcs, hss⟩) hz hl (fun H' locs' hP' hz' hl' => ?_)
      rw [am_mapr]
      exact kk H' locs' ls hP' hz' hl' hL
    · cases hg
theorem s_callV {l : Launch} {I : am_I} {pc d : Nat} {f : am_F} {k : am_K} {lab n idx ci N : Nat} {C : String} {T : u_T} {ty : Nat → FieldType} {J : am_I} {y : MethodName} (fx : am_Fx ci C T N ty) (hyC : y.cls = C) (hc : am_Cl J y n) (hw1 : Cond.methodLink I.1 idx y ∈ am_ws) (hw2 : Cond.instanceMethod y ∈ am_ws) (hw3 : Cond.selects C y y ∈ am_ws) (hK : ∀ d', am_S l J 0 d' (k d' lab)) (hd : decode I.2.1 pc = .ok (.invokevirtual idx, 3)) (hf : am_S l I (pc + 3) d f) : am_S l I pc d (i_recv ci n (i_call k d lab (n + 1) J.2.2.1 f)) := by
  intro lo st A r hg
  unfold i_recv at hg
  split at hg
  · rename_i p0 hp0
    obtain ⟨fs, hobj, hg⟩ := Option.bind_eq_some_iff.mp hg
    have htk : (st.take (n + 1)).reverse = .ref p0 :: (st.take n).reverse := by
      rw [List.take_add_one, hp0]
      simp
    unfold i_call at hg
    cases d with
    | zero => cases hg
    | succ d' =>
      simp only at hg
      split at hg
      · rename_i hh
        obtain ⟨hn, hcat, hsl⟩ := hh
        obtain ⟨r1, hr1, hg⟩ := Option.bind_eq_some_iff.mp hg
        obtain ⟨b1, b2, -⟩ := hK d' _ _ _ _ hr1 (am_ent_len hsl)
        refine am_go0 (hf _ _ _ _ hg) rfl b1 b2 ?_
        intro dC dI sA z p e R s m args below meth c H locs cells slots ls Q hlo hX hP hz hl hL hfr hlc hcs hss kk
        obtain ⟨hx, hb, hml, -, -, -, hown, hts, hG⟩ := hX
        have hM := am_met hc (hK d') hsl hr1 dC dI sA z
        obtain ⟨j1, j2, j3, j4, j5, j6, j7⟩ := hc
        have hpre : ∀ U : State, U.heap = H → s.WarmedH U.vm → am_Pc dC dI sA z (st.take (n + 1)).reverse A (Value.ref (am_ad sA z p0) :: ((st.take n).reverse).map (am_tr sA z)).toArray U := fun U hU hW => ⟨by rw [htk]; rfl, hG.warm hW (fun q hq => by rw [hU]; exact hz q hq), by rw [hU]; exact hP.moved hW.alike⟩
        have hrm : (am_rm d' (r1.2.1 - A.1) (r1.2.2.1 - A.2.1)).frames + 1 ≤ R.frames ∧ 8 + (J.2.2.1 + 11) + (am_rm d' (r1.2.1 - A.1) (r1.2.2.1 - A.2.1)).locals ≤ R.locals := ⟨hfr, by show 8 + (J.2.2.1 + 11) + d' * 37 ≤ R.locals; omega⟩
        have hrest : 2 * (F0 m pc ls (st.map (am_tr sA z))).monitorRoom + (((st.drop (n + 1)).map (am_tr sA z)).map fun v => v.category).sum ≤ 8 := by
          show 2 * 0 + _ ≤ 8
          rw [am_cats]
          omega
        have hstk : st.map (am_tr sA z) = (((st.take n).reverse).map (am_tr sA z)).reverse ++ .ref (am_ad sA z p0) :: (st.drop (n + 1)).map (am_tr sA z) := by
          rw [am_stk sA z st (n + 1), htk, List.map_cons, List.reverse_cons, List.append_assoc]
          rfl
        have hcell := va_recv (cl := am_cl) (tys := []) hG.1 (am_one (a := am_ad sA z p0) (e := .inr (ci, fs.map (am_tr sA z))) (hP.2.2 _ _ (am_obj_at hobj)).2) fx.1 (q0 := 0) rfl
        have hGd : GoodIn am_ws (wsV I.1 idx C y (Cond.code y J.2.1 J.2.2.1 J.2.2.2.1 :: am_ws)) := am_good (fun w hw => by
          unfold wsV at hw
          rcases List.mem_append.mp hw with h | h
          · simp only [List.mem_cons, List.not_mem_nil, or_false] at h
            rcases h with rfl | rfl | rfl | rfl
            · exact hw1
            · exact hw2
            · exact hw3
            · rw [← hyC]; exact j4
          · rcases List.mem_cons.mp h with rfl | h
            · exact j3
            · exact h)
        refine am_ret (rest := (st.drop (n + 1)).map (am_tr sA z)) (va_runV (C := C) (nL := I.2.2.1) (Ts := am_ws) (own := I.1) ⟨hx, hb, hml, hown, hts⟩ hM (cwV n hts hGd rfl rfl rfl ⟨hyC, j5⟩ hrm) ⟨am_blind, hcell, hpre⟩ rfl (by rw [List.length_map, List.length_reverse, List.length_take]; omega) (hL.1.trans hlo) hstk hrest hd ⟨hcs, hss⟩) hz hl (fun H' locs' hP' hz' hl' => ?_)
        rw [am_mapr]
        exact kk H' locs' ls hP' hz' hl' hL
      · cases hg
  · cases hg
theorem s_callI {l : Launch} {I : am_I} {pc d : Nat} {f : am_F} {k : am_K} {lab n idx ci N : Nat} {C : String} {T : u_T} {ty : Nat → FieldType} {J : am_I} {y : MethodName} (fx : am_Fx ci C T N ty) (hyC : y.cls = C) (hc : am_Cl J y n) (hw1 : Cond.methodLink I.1 idx y ∈ am_ws) (hw2 : Cond.instanceMethod y ∈ am_ws) (hy1 : y.name = "<init>") (hrn : J.2.2.2.1 = none) (hK : ∀ d', am_S l J 0 d' (k d' lab)) (hd : decode I.2.1 pc = .ok (.invokespecial idx, 3)) (hf : am_S l I (pc + 3) d f) : am_S l I pc d (i_recv ci n (i_call k d lab (n + 1) J.2.2.1 f)) := by
  intro lo st A r hg
  unfold i_recv at hg
  split at hg
  · rename_i p0 hp0
    obtain ⟨fs, hobj, hg⟩ := Option.bind_eq_some_iff.mp hg
    have htk : (st.take (n + 1)).reverse = .ref p0 :: (st.take n).reverse := by
      rw [List.take_add_one, hp0]
      simp
    unfold i_call at hg
    cases d with
    | zero => cases hg
    | succ d' =>
      simp only at hg
      split at hg
      · rename_i hh
        obtain ⟨hn, hcat, hsl⟩ := hh
        obtain ⟨r1, hr1, hg⟩ := Option.bind_eq_some_iff.mp hg
        obtain ⟨b1, b2, -⟩ := hK d' _ _ _ _ hr1 (am_ent_len hsl)
        refine am_go0 (hf _ _ _ _ hg) rfl b1 b2 ?_
        intro dC dI sA z p e R s m args below meth c H locs cells slots ls Q hlo hX hP hz hl hL hfr hlc hcs hss kk
        obtain ⟨hx, hb, hml, -, -, -, hown, hts, hG⟩ := hX
        have hM := am_met hc (hK d') hsl hr1 dC dI sA z
        obtain ⟨j1, j2, j3, j4, j5, j6, j7⟩ := hc
        have hpre : ∀ U : State, U.heap = H → s.WarmedH U.vm → am_Pc dC dI sA z (st.take (n + 1)).reverse A (Value.ref (am_ad sA z p0) :: ((st.take n).reverse).map (am_tr sA z)).toArray U := fun U hU hW => ⟨by rw [htk]; rfl, hG.warm hW (fun q hq => by rw [hU]; exact hz q hq), by rw [hU]; exact hP.moved hW.alike⟩
        have hrm : (am_rm d' (r1.2.1 - A.1) (r1.2.2.1 - A.2.1)).frames + 1 ≤ R.frames ∧ 8 + (J.2.2.1 + 11) + (am_rm d' (r1.2.1 - A.1) (r1.2.2.1 - A.2.1)).locals ≤ R.locals := ⟨hfr, by show 8 + (J.2.2.1 + 11) + d' * 37 ≤ R.locals; omega⟩
        have hrest : 2 * (F0 m pc ls (st.map (am_tr sA z))).monitorRoom + (((st.drop (n + 1)).map (am_tr sA z)).map fun v => v.category).sum ≤ 8 := by
          show 2 * 0 + _ ≤ 8
          rw [am_cats]
          omega
        have hstk : st.map (am_tr sA z) = (((st.take n).reverse).map (am_tr sA z)).reverse ++ .ref (am_ad sA z p0) :: (st.drop (n + 1)).map (am_tr sA z) := by
          rw [am_stk sA z st (n + 1), htk, List.map_cons, List.reverse_cons, List.append_assoc]
          rfl
        have hcell := va_recv (cl := am_cl) (tys := []) hG.1 (am_one (a := am_ad sA z p0) (e := .inr (ci, fs.map (am_tr sA z))) (hP.2.2 _ _ (am_obj_at hobj)).2) fx.1 (q0 := 0) rfl
        have hGd : GoodIn am_ws (Cond.code y J.2.1 J.2.2.1 J.2.2.2.1 :: am_ws) := am_good (fun w hw => by
          rcases List.mem_cons.mp hw with rfl | h
          · exact j3
          · exact h)
        refine am_ret (rest := (st.drop (n + 1)).map (am_tr sA z)) (va_runI (nL := I.2.2.1) (Ts := am_ws) (own := I.1) ⟨hx, hb, hml, hown, hts⟩ hM (cwI n hts hGd (by rw [hrn]) rfl rfl (hts _ j4) (hts _ hw1) (hts _ hw2) hy1 j5 hrm) ⟨am_blind, hpre⟩ rfl (by rw [List.length_map, List.length_reverse, List.length_take]; omega) (hL.1.trans hlo) hstk hrest hd ⟨hcs, hss⟩) hz hl (fun H' locs' hP' hz' hl' => ?_)
        rw [am_mapr]
        exact kk H' locs' ls hP' hz' hl' hL
      · cases hg
  · cases hg
/-! the switch over 0 .. n -/
theorem s_switch {l : Launch} {I : am_I} {pc d : Nat} {f : am_F} {ts : List am_F} {df : am_F} {tgs : List Nat} {dflt lo hi : Int} {offs : Array Int} {len tgt : Nat} (hd : decode I.2.1 pc = .ok (.tableswitch dflt lo hi offs, len)) (hlo : lo = 0) (hhi : hi + 1 = (ts.length : Int)) (hlen : ts.length = tgs.length) (hts : ∀ q ∈ ts.zip tgs, am_S l I q.2 d q.1) (hof : offs.toList.map (fun o => (pc : Int) + o) = tgs.map Int.ofNat ∧ (pc : Int) + dflt = (tgt : Int)) (hdf : am_S l I tgt d df) : am_S l I pc d (i_switch ts df) := by
  subst hlo
  intro lo0 st A r hg
  unfold i_switch at hg
  split at hg
  · rename_i x s0
    split at hg
    · rename_i hx
      exact am_go1 (hdf _ _ _ _ hg) (fun _ _ _ _ _ _ _ _ _ _ _ _ _ _ _ _ _ _ _ hX _ _ _ k => lv_tableOut hX.1 hX.2.1 hd (Or.inl (by have := Int32.lt_iff_toInt_lt.mp hx; simpa using this)) hof.2 k)
    · rename_i hx
      have hx0 : 0 ≤ x.toInt := by
        have := fun h => hx (Int32.lt_iff_toInt_lt.mpr h)
        simp at this
        omega
      have hc : ((x.toNatClampNeg : Nat) : Int) = x.toInt := by
        unfold Int32.toNatClampNeg
        omega
      split at hg
      · rename_i t ht
        have hj := (List.getElem?_eq_some_iff.mp ht).1
        have hj2 : x.toNatClampNeg < tgs.length := by omega
        have e1 : tgs[x.toNatClampNeg]? = some tgs[x.toNatClampNeg] := List.getElem?_eq_getElem hj2
        have hz : (ts.zip tgs)[x.toNatClampNeg]? = some (t, tgs[x.toNatClampNeg]) := by
          rw [List.getElem?_zip_eq_some]
          exact ⟨ht, e1⟩
        have hS := hts _ (List.mem_of_getElem? hz)
        have e2 : (offs.toList.map (fun o => (pc : Int) + o))[x.toNatClampNeg]? = some (Int.ofNat tgs[x.toNatClampNeg]) := by
          rw [hof.1, List.getElem?_map, e1]
          rfl
        rw [List.getElem?_map, Option.map_eq_some_iff] at e2
        obtain ⟨off, e3, e4⟩ := e2
        exact am_go1 (hS _ _ _ _ hg) (fun _ _ _ _ _ _ _ _ _ _ _ _ _ _ _ _ _ _ _ hX _ _ _ k => lv_tableIn (off := off) hX.1 hX.2.1 hd (by omega) (by omega) (by rw [show (x.toInt - 0).toNat = x.toNatClampNeg by omega, ← Array.getElem?_toList]; exact e3) e4 k)
      · rename_i ht
        have hj : ts.length ≤ x.toNatClampNeg := List.getElem?_eq_none_iff.mp ht
        exact am_go1 (hdf _ _ _ _ hg) (fun _ _ _ _ _ _ _ _ _ _ _ _ _ _ _ _ _ _ _ hX _ _ _ k => lv_tableOut hX.1 hX.2.1 hd (Or.inr (by omega)) hof.2 k)
  · cases hg
/-! the whole table: every label's block is sound, so every run is -/
def am_OK (l : Launch) (N : Nat → Option (am_I × Nat)) (k : am_K) : Prop := ∀ (lab d : Nat) (J : am_I) (pc : Nat), N lab = some (J, pc) → am_S l J pc d (k d lab)
theorem am_sound {l : Launch} {N : Nat → Option (am_I × Nat)} {T : Nat → am_B} (h : ∀ k, am_OK l N k → ∀ (lab d : Nat) (J : am_I) (pc : Nat), N lab = some (J, pc) → am_S l J pc d (T lab k d)) : ∀ n, am_OK l N (am_run T n) := by
  intro n
  induction n with
  | zero => intro lab d J pc _ lo st A r hg; cases hg
  | succ n ih => exact fun lab d J pc hN => h _ ih lab d J pc hN
/-- a run ends with r, from some number of steps on -/
def am_Ev (T : Nat → am_B) (d lab : Nat) (lo : am_L) (st : List Value) (A : am_H) (r : am_R) : Prop := ∃ n0, ∀ n, n0 ≤ n → am_run T n d lab lo st A = some r
end
section
/-! the program as blocks (printed by my program out of the listing) -/
abbrev dvX0 : List Value := [.int 0, .null, .null, .null, .null]
abbrev dvX1 : List Value := [.null, .int 0, .int 0]
abbrev dvX2 : List Value := [.int 0, .int 0, .int 0]
abbrev dvX3 : List Value := [.int 0, .int 0, .null, .null, .int 0, .null, .null, .null]
abbrev dvX4 : List Value := [.int 0, .int 0, .int 0, .int 0, .int 0, .int 0, .null, .null]
abbrev dvX5 : List Value := [.null, .null, .int 0, .null, .null, .null, .null, .null]
abbrev dvX6 : List Value := [.int 0, .int 0, .null, .null, .null, .null, .null, .null, .null, .null, .null, .null, .null, .null, .null, .null, .null, .null, .null, .null, .null, .int 0, .null, .int 0, .int 0, .int 0]
abbrev I_0 : am_I := ("SlabImage", prog_1_method_1_code, 1, (Option.none : Option FieldType), true)
abbrev I_1 : am_I := ("SlabImage$Store", prog_5_method_1_code, 2, (Option.none : Option FieldType), true)
abbrev I_2 : am_I := ("SlabImage$Variable", prog_6_method_1_code, 1, (Option.none : Option FieldType), true)
abbrev I_3 : am_I := ("SlabImage$AttributeList", prog_2_method_1_code, 1, (Option.none : Option FieldType), true)
abbrev I_4 : am_I := ("SlabImage$Selection", prog_4_method_1_code, 1, (Option.none : Option FieldType), true)
abbrev I_5 : am_I := ("SlabImage$ByteRow", prog_3_method_1_code, 1, (Option.none : Option FieldType), true)
abbrev I_6 : am_I := ("SlabImage", prog_1_method_2_code, 3, (Option.some FieldType.int), false)
abbrev I_7 : am_I := ("SlabImage$Store", prog_5_method_3_code, 3, (Option.some FieldType.int), false)
abbrev I_8 : am_I := ("SlabImage", prog_1_method_23_code, 1, (Option.some FieldType.boolean), false)
abbrev I_9 : am_I := ("SlabImage", prog_1_method_28_code, 4, (Option.some FieldType.int), false)
abbrev I_10 : am_I := ("SlabImage$Store", prog_5_method_4_code, 2, (Option.some FieldType.boolean), false)
abbrev I_11 : am_I := ("SlabImage", prog_1_method_3_code, 5, (Option.some FieldType.int), false)
abbrev I_12 : am_I := ("SlabImage$Store", prog_5_method_5_code, 5, (Option.some FieldType.int), false)
abbrev I_13 : am_I := ("SlabImage", prog_1_method_24_code, 1, (Option.some FieldType.boolean), false)
abbrev I_14 : am_I := ("SlabImage$Store", prog_5_method_7_code, 2, (Option.some FieldType.boolean), false)
abbrev I_15 : am_I := ("SlabImage$Store", prog_5_method_6_code, 2, (Option.some FieldType.boolean), false)
abbrev I_16 : am_I := ("SlabImage$Store", prog_5_method_8_code, 2, (Option.some FieldType.int), false)
abbrev I_17 : am_I := ("SlabImage$Variable", prog_6_method_2_code, 5, (Option.none : Option FieldType), false)
abbrev I_18 : am_I := ("SlabImage$Variable", prog_6_method_3_code, 2, (Option.none : Option FieldType), false)
abbrev I_19 : am_I := ("java/util/Arrays", prog_9_method_103_code, 4, (Option.none : Option FieldType), false)
abbrev I_20 : am_I := ("SlabImage", prog_1_method_4_code, 7, (Option.some FieldType.int), false)
abbrev I_21 : am_I := ("SlabImage$Store", prog_5_method_10_code, 3, (Option.some (FieldType.object "SlabImage$AttributeList")), false)
abbrev I_22 : am_I := ("SlabImage$Store", prog_5_method_9_code, 2, (Option.some (FieldType.object "SlabImage$Variable")), false)
abbrev I_23 : am_I := ("SlabImage$AttributeList", prog_2_method_3_code, 6, (Option.some FieldType.int), false)
abbrev I_24 : am_I := ("SlabImage", prog_1_method_25_code, 2, (Option.some FieldType.boolean), false)
abbrev I_25 : am_I := ("SlabImage", prog_1_method_5_code, 4, (Option.some FieldType.int), false)
abbrev I_26 : am_I := ("SlabImage$AttributeList", prog_2_method_4_code, 4, (Option.some FieldType.int), false)
abbrev I_27 : am_I := ("SlabImage", prog_1_method_6_code, 4, (Option.some FieldType.int), false)
abbrev I_28 : am_I := ("SlabImage$Store", prog_5_method_12_code, 3, (Option.some FieldType.int), false)
abbrev I_29 : am_I := ("SlabImage$Store", prog_5_method_13_code, 5, (Option.some FieldType.int), false)
abbrev I_30 : am_I := ("SlabImage$Store", prog_5_method_11_code, 3, (Option.some FieldType.int), false)
abbrev I_31 : am_I := ("SlabImage", prog_1_method_7_code, 3, (Option.some FieldType.int), false)
abbrev I_32 : am_I := ("SlabImage$Store", prog_5_method_20_code, 3, (Option.some FieldType.long), false)
abbrev I_33 : am_I := ("SlabImage$Store", prog_5_method_17_code, 3, (Option.some FieldType.int), false)
abbrev I_34 : am_I := ("SlabImage$AttributeList", prog_2_method_5_code, 3, (Option.some FieldType.int), false)
abbrev I_35 : am_I := ("SlabImage", prog_1_method_27_code, 1, (Option.some FieldType.int), false)
abbrev I_36 : am_I := ("SlabImage$Variable", prog_6_method_11_code, 1, (Option.some FieldType.int), false)
abbrev I_37 : am_I := ("SlabImage$Variable", prog_6_method_4_code, 1, (Option.some FieldType.int), false)
abbrev I_38 : am_I := ("SlabImage$Store", prog_5_method_18_code, 5, (Option.some FieldType.int), false)
abbrev I_39 : am_I := ("SlabImage$Variable", prog_6_method_10_code, 1, (Option.some FieldType.int), false)
abbrev I_40 : am_I := ("SlabImage$Variable", prog_6_method_9_code, 1, (Option.some FieldType.int), false)
abbrev I_41 : am_I := ("SlabImage$Store", prog_5_method_19_code, 3, (Option.some FieldType.int), false)
abbrev I_42 : am_I := ("SlabImage$Store", prog_5_method_16_code, 3, (Option.some FieldType.int), false)
abbrev I_43 : am_I := ("SlabImage", prog_1_method_8_code, 1, (Option.some FieldType.int), false)
abbrev I_44 : am_I := ("SlabImage", prog_1_method_9_code, 6, (Option.some FieldType.int), false)
abbrev I_45 : am_I := ("SlabImage$Variable", prog_6_method_5_code, 5, (Option.some FieldType.boolean), false)
abbrev I_46 : am_I := ("SlabImage$Store", prog_5_method_15_code, 4, (Option.some FieldType.boolean), false)
abbrev I_47 : am_I := ("SlabImage$Variable", prog_6_method_7_code, 5, (Option.none : Option FieldType), false)
abbrev I_48 : am_I := ("SlabImage", prog_1_method_10_code, 5, (Option.some FieldType.long), false)
abbrev I_49 : am_I := ("SlabImage$Store", prog_5_method_14_code, 6, (Option.some FieldType.boolean), false)
abbrev I_50 : am_I := ("SlabImage$Variable", prog_6_method_6_code, 4, (Option.some FieldType.int), false)
abbrev I_51 : am_I := ("SlabImage", prog_1_method_11_code, 6, (Option.some FieldType.int), false)
abbrev I_52 : am_I := ("SlabImage$Selection", prog_4_method_2_code, 4, (Option.none : Option FieldType), false)
abbrev I_53 : am_I := ("SlabImage", prog_1_method_12_code, 8, (Option.some FieldType.int), false)
abbrev I_54 : am_I := ("SlabImage", prog_1_method_21_code, 2, (Option.some (FieldType.object "SlabImage$Selection")), false)
abbrev I_55 : am_I := ("SlabImage", prog_1_method_22_code, 2, (Option.some (FieldType.object "SlabImage$Selection")), false)
abbrev I_56 : am_I := ("SlabImage$Selection", prog_4_method_3_code, 1, (Option.some FieldType.long), false)
abbrev I_57 : am_I := ("SlabImage", prog_1_method_26_code, 5, (Option.some FieldType.boolean), false)
abbrev I_58 : am_I := ("SlabImage$Variable", prog_6_method_8_code, 8, (Option.none : Option FieldType), false)
abbrev I_59 : am_I := ("SlabImage$Selection", prog_4_method_4_code, 2, (Option.some FieldType.int), false)
abbrev I_60 : am_I := ("SlabImage", prog_1_method_13_code, 6, (Option.some FieldType.long), false)
abbrev I_61 : am_I := ("SlabImage", prog_1_method_14_code, 1, (Option.some FieldType.int), false)
abbrev I_62 : am_I := ("SlabImage", prog_1_method_15_code, 1, (Option.some FieldType.int), false)
abbrev I_63 : am_I := ("SlabImage", prog_1_method_16_code, 2, (Option.some FieldType.int), false)
abbrev I_64 : am_I := ("SlabImage$Store", prog_5_method_21_code, 2, (Option.some FieldType.int), false)
abbrev I_65 : am_I := ("SlabImage", prog_1_method_17_code, 5, (Option.some FieldType.long), false)
abbrev I_66 : am_I := ("SlabImage$Store", prog_5_method_22_code, 3, (Option.none : Option FieldType), false)
abbrev I_67 : am_I := ("SlabImage$ByteRow", prog_3_method_2_code, 1, (Option.none : Option FieldType), false)
abbrev I_68 : am_I := ("SlabImage$ByteRow", prog_3_method_5_code, 2, (Option.none : Option FieldType), false)
abbrev I_69 : am_I := ("SlabImage$ByteRow", prog_3_method_4_code, 4, (Option.none : Option FieldType), false)
abbrev I_70 : am_I := ("SlabImage$ByteRow", prog_3_method_3_code, 2, (Option.none : Option FieldType), false)
abbrev I_71 : am_I := ("SlabImage$ByteRow", prog_3_method_7_code, 3, (Option.none : Option FieldType), false)
abbrev I_72 : am_I := ("SlabImage$ByteRow", prog_3_method_6_code, 2, (Option.none : Option FieldType), false)
abbrev I_73 : am_I := ("SlabImage$AttributeList", prog_2_method_6_code, 3, (Option.none : Option FieldType), false)
abbrev I_74 : am_I := ("SlabImage$ByteRow", prog_3_method_8_code, 3, (Option.none : Option FieldType), false)
abbrev I_75 : am_I := ("SlabImage$Store", prog_5_method_23_code, 5, (Option.none : Option FieldType), false)
abbrev I_76 : am_I := ("SlabImage$Store", prog_5_method_24_code, 4, (Option.none : Option FieldType), false)
abbrev I_77 : am_I := ("SlabImage$Variable", prog_6_method_12_code, 4, (Option.none : Option FieldType), false)
abbrev I_78 : am_I := ("SlabImage$Store", prog_5_method_25_code, 5, (Option.none : Option FieldType), false)
abbrev I_79 : am_I := ("SlabImage$ByteRow", prog_3_method_9_code, 2, (Option.some FieldType.int), false)
abbrev I_80 : am_I := ("SlabImage", prog_1_method_18_code, 5, (Option.some FieldType.boolean), false)
abbrev I_81 : am_I := ("SlabImage", prog_1_method_19_code, 1, (Option.none : Option FieldType), false)
abbrev I_82 : am_I := ("SlabImage", prog_1_method_20_code, 2, (Option.some FieldType.int), false)
abbrev I_83 : am_I := ("SlabImage$Store", prog_5_method_2_code, 2, (Option.none : Option FieldType), false)
abbrev I_84 : am_I := ("SlabImage$AttributeList", prog_2_method_2_code, 1, (Option.none : Option FieldType), false)
abbrev I_85 : am_I := ("SlabImage$Store", prog_5_method_26_code, 3, (Option.some FieldType.boolean), false)
abbrev I_86 : am_I := ("SlabImage$ByteRow", prog_3_method_10_code, 1, (Option.none : Option FieldType), false)
abbrev I_87 : am_I := ("SlabImage$ByteRow", prog_3_method_12_code, 1, (Option.some FieldType.int), false)
abbrev I_88 : am_I := ("SlabImage$ByteRow", prog_3_method_11_code, 4, (Option.some FieldType.int), false)
abbrev I_89 : am_I := ("SlabImage$Store", prog_5_method_27_code, 6, (Option.some FieldType.boolean), false)
abbrev I_90 : am_I := ("SlabImage$ByteRow", prog_3_method_14_code, 1, (Option.some FieldType.int), false)
abbrev I_91 : am_I := ("SlabImage$ByteRow", prog_3_method_13_code, 1, (Option.some FieldType.int), false)
abbrev I_92 : am_I := ("SlabImage$AttributeList", prog_2_method_7_code, 8, (Option.some FieldType.boolean), false)
abbrev I_93 : am_I := ("SlabImage$ByteRow", prog_3_method_15_code, 3, (Option.some FieldType.int), false)
abbrev I_94 : am_I := ("SlabImage$ByteRow", prog_3_method_16_code, 1, (Option.none : Option FieldType), false)
abbrev I_95 : am_I := ("SlabImage$Store", prog_5_method_28_code, 4, (Option.some FieldType.boolean), false)
abbrev I_96 : am_I := ("SlabImage$Store", prog_5_method_29_code, 8, (Option.some FieldType.boolean), false)
abbrev I_97 : am_I := ("SlabImage$Store", prog_5_method_30_code, 4, (Option.none : Option FieldType), false)
abbrev I_98 : am_I := ("SlabImage$Variable", prog_6_method_13_code, 4, (Option.none : Option FieldType), false)
abbrev I_99 : am_I := ("SlabImage$Store", prog_5_method_31_code, 5, (Option.none : Option FieldType), false)
abbrev I_100 : am_I := ("SlabImage$ByteRow", prog_3_method_17_code, 3, (Option.some FieldType.boolean), false)
abbrev I_101 : am_I := ("SlabImageModel", prog_8_method_1_code, 1, (Option.none : Option FieldType), true)
abbrev I_102 : am_I := ("SlabImageModel", prog_8_method_30_code, 4, (Option.some FieldType.int), false)
abbrev I_103 : am_I := ("SlabImageModel", prog_8_method_2_code, 1, (Option.some FieldType.boolean), false)
abbrev I_104 : am_I := ("SlabImageModel", prog_8_method_27_code, 6, (Option.some FieldType.boolean), false)
abbrev I_105 : am_I := ("SlabImageModel", prog_8_method_29_code, 4, (Option.some FieldType.int), false)
abbrev I_106 : am_I := ("SlabImageModel", prog_8_method_32_code, 7, (Option.some FieldType.int), false)
abbrev I_107 : am_I := ("SlabImageModel", prog_8_method_25_code, 2, (Option.some FieldType.boolean), false)
abbrev I_108 : am_I := ("SlabImageModel", prog_8_method_28_code, 6, (Option.some FieldType.boolean), false)
abbrev I_109 : am_I := ("SlabImageModel", prog_8_method_31_code, 4, (Option.none : Option FieldType), false)
abbrev I_110 : am_I := ("SlabImageModel", prog_8_method_4_code, 1, (Option.some FieldType.int), false)
abbrev I_111 : am_I := ("SlabImageModel", prog_8_method_34_code, 8, (Option.some FieldType.int), false)
abbrev I_112 : am_I := ("SlabImageModel", prog_8_method_26_code, 2, (Option.some FieldType.boolean), false)
abbrev I_113 : am_I := ("SlabImageModel", prog_8_method_5_code, 2, (Option.some FieldType.boolean), false)
abbrev I_114 : am_I := ("SlabImageModel", prog_8_method_33_code, 5, (Option.some FieldType.int), false)
abbrev I_115 : am_I := ("SlabImageModel", prog_8_method_35_code, 7, (Option.some FieldType.int), false)
abbrev I_116 : am_I := ("SlabImageModel", prog_8_method_36_code, 4, (Option.some FieldType.int), false)
abbrev I_117 : am_I := ("SlabImageModel", prog_8_method_37_code, 3, (Option.some FieldType.int), false)
abbrev I_118 : am_I := ("SlabImageModel", prog_8_method_15_code, 4, (Option.some FieldType.long), false)
abbrev I_119 : am_I := ("SlabImageModel", prog_8_method_13_code, 7, (Option.some FieldType.int), false)
abbrev I_120 : am_I := ("SlabImageModel", prog_8_method_7_code, 3, (Option.some FieldType.boolean), false)
abbrev I_121 : am_I := ("SlabImageModel", prog_8_method_6_code, 4, (Option.some FieldType.int), false)
abbrev I_122 : am_I := ("SlabImageModel", prog_8_method_12_code, 4, (Option.some FieldType.int), false)
abbrev I_123 : am_I := ("SlabImageModel", prog_8_method_11_code, 5, (Option.some FieldType.int), false)
abbrev I_124 : am_I := ("SlabImageModel", prog_8_method_9_code, 3, (Option.some FieldType.int), false)
abbrev I_125 : am_I := ("SlabImageModel", prog_8_method_8_code, 4, (Option.some FieldType.int), false)
abbrev I_126 : am_I := ("SlabImageModel", prog_8_method_3_code, 1, (Option.some FieldType.int), false)
abbrev I_127 : am_I := ("SlabImageModel", prog_8_method_14_code, 6, (Option.some FieldType.int), false)
abbrev I_128 : am_I := ("SlabImageModel", prog_8_method_10_code, 4, (Option.some FieldType.int), false)
abbrev I_129 : am_I := ("SlabImageModel", prog_8_method_38_code, 1, (Option.some FieldType.int), false)
abbrev I_130 : am_I := ("SlabImageModel", prog_8_method_41_code, 5, (Option.some FieldType.int), false)
abbrev I_131 : am_I := ("SlabImageModel", prog_8_method_39_code, 7, (Option.some FieldType.boolean), false)
abbrev I_132 : am_I := ("SlabImageModel", prog_8_method_42_code, 4, (Option.some FieldType.boolean), false)
abbrev I_133 : am_I := ("SlabImageModel", prog_8_method_40_code, 6, (Option.some FieldType.int), false)
abbrev I_134 : am_I := ("SlabImageModel", prog_8_method_43_code, 4, (Option.some FieldType.long), false)
abbrev I_135 : am_I := ("SlabImageModel", prog_8_method_44_code, 5, (Option.some FieldType.int), false)
abbrev I_136 : am_I := ("SlabImageModel", prog_8_method_48_code, 6, (Option.some FieldType.int), false)
abbrev I_137 : am_I := ("SlabImageModel", prog_8_method_47_code, 5, (Option.some FieldType.boolean), false)
abbrev I_138 : am_I := ("SlabImageModel", prog_8_method_45_code, 3, (Option.some FieldType.int), false)
abbrev I_139 : am_I := ("SlabImageModel", prog_8_method_46_code, 4, (Option.some FieldType.long), false)
abbrev I_140 : am_I := ("SlabImageModel", prog_8_method_49_code, 3, (Option.some FieldType.long), false)
abbrev I_141 : am_I := ("SlabImageModel", prog_8_method_50_code, 1, (Option.some FieldType.int), false)
abbrev I_142 : am_I := ("SlabImageModel", prog_8_method_51_code, 1, (Option.some FieldType.int), false)
abbrev I_143 : am_I := ("SlabImageModel", prog_8_method_52_code, 2, (Option.some FieldType.int), false)
abbrev I_144 : am_I := ("SlabImageModel", prog_8_method_53_code, 7, (Option.some FieldType.long), false)
abbrev I_145 : am_I := ("SlabImageModel", prog_8_method_24_code, 5, (Option.none : Option FieldType), false)
abbrev I_146 : am_I := ("SlabImageModel", prog_8_method_17_code, 4, (Option.none : Option FieldType), false)
abbrev I_147 : am_I := ("SlabImageModel", prog_8_method_16_code, 2, (Option.none : Option FieldType), false)
abbrev I_148 : am_I := ("SlabImageModel", prog_8_method_20_code, 3, (Option.none : Option FieldType), false)
abbrev I_149 : am_I := ("SlabImageModel", prog_8_method_18_code, 2, (Option.none : Option FieldType), false)
abbrev I_150 : am_I := ("SlabImageModel", prog_8_method_21_code, 5, (Option.none : Option FieldType), false)
abbrev I_151 : am_I := ("SlabImageModel", prog_8_method_19_code, 2, (Option.none : Option FieldType), false)
abbrev I_152 : am_I := ("SlabImageModel", prog_8_method_22_code, 6, (Option.none : Option FieldType), false)
abbrev I_153 : am_I := ("SlabImageModel", prog_8_method_23_code, 9, (Option.none : Option FieldType), false)
abbrev I_154 : am_I := ("SlabImageModel", prog_8_method_54_code, 5, (Option.some FieldType.boolean), false)
abbrev I_155 : am_I := ("SlabImageModel", prog_8_method_55_code, 1, (Option.none : Option FieldType), false)
abbrev I_156 : am_I := ("SlabImageModel", prog_8_method_66_code, 3, (Option.some FieldType.int), false)
abbrev I_157 : am_I := ("SlabImageModel", prog_8_method_63_code, 4, (Option.some FieldType.boolean), false)
abbrev I_158 : am_I := ("SlabImageModel", prog_8_method_56_code, 4, (Option.some FieldType.int), false)
abbrev I_159 : am_I := ("SlabImageModel", prog_8_method_61_code, 6, (Option.some FieldType.boolean), false)
abbrev I_160 : am_I := ("SlabImageModel", prog_8_method_59_code, 3, (Option.some FieldType.int), false)
abbrev I_161 : am_I := ("SlabImageModel", prog_8_method_58_code, 1, (Option.some FieldType.int), false)
abbrev I_162 : am_I := ("SlabImageModel", prog_8_method_60_code, 7, (Option.some FieldType.boolean), false)
abbrev I_163 : am_I := ("SlabImageModel", prog_8_method_57_code, 3, (Option.some FieldType.int), false)
abbrev I_164 : am_I := ("SlabImageModel", prog_8_method_62_code, 6, (Option.some FieldType.boolean), false)
abbrev I_165 : am_I := ("SlabImageModel", prog_8_method_65_code, 5, (Option.none : Option FieldType), false)
abbrev I_166 : am_I := ("SlabImageModel", prog_8_method_64_code, 8, (Option.none : Option FieldType), false)
abbrev I_167 : am_I := ("SlabImageLaw", code, 4, (some .boolean), false)
/-- SlabImage.<init> from 0 -/
def b_0 : am_B := fun k d => (i_aload 0 (i_obj d (i_aload 0 (i_new 3 dvX3 (i_dup (i_recv 3 0 (i_call k d 1 1 2 (i_putR 5 0 (i_aload 0 (i_new 3 dvX3 (i_dup (i_recv 3 0 (i_call k d 1 1 2 (i_putR 5 1 (i_aload 0 (i_int 1 (i_putZ 5 2 (i_aload 0 (i_new 2 dvX2 (i_dup (i_recv 2 0 (i_call k d 5 1 1 (i_putR 5 3 (i_aload 0 (i_new 2 dvX2 (i_dup (i_recv 2 0 (i_call k d 5 1 1 (i_putR 5 4 (i_aload 0 (i_new 2 dvX2 (i_dup (i_recv 2 0 (i_call k d 5 1 1 (i_putR 5 5 (i_aload 0 (i_new 1 dvX1 (i_dup (i_recv 1 0 (i_call k d 6 1 1 (i_putR 5 6 (i_aload 0 (i_new 1 dvX1 (i_dup (i_recv 1 0 (i_call k d 6 1 1 (i_putR 5 7 i_vret)))))))))))))))))))))))))))))))))))))))))))))))
/-- SlabImage$Store.<init> from 0 -/
def b_1 : am_B := fun k d => (i_aload 0 (i_obj d (i_aload 0 (i_int 0 (i_putI 3 0 (i_aload 0 (i_int 0 (i_putI 3 1 (i_aload 0 (i_int 4 (i_newi 0 (i_putR 3 2 (i_aload 0 (i_int 4 (i_newi 0 (i_putR 3 3 (i_aload 0 (i_int 0 (i_putI 3 4 (i_aload 0 (i_int 5 (i_newi 0 (i_putR 3 5 (i_aload 0 (i_int 5 (i_newq (i_putR 3 6 (i_int 0 (i_istore 1 (k d 2))))))))))))))))))))))))))))))
/-- SlabImage$Store.<init> from 50 -/
def b_2 : am_B := fun k d => (i_iload 1 (i_int 5 (i_cmpge (i_aload 0 (i_new 0 dvX0 (i_dup (i_recv 0 0 (i_call k d 4 1 1 (i_putR 3 7 i_vret)))))) (i_aload 0 (i_getf 3 6 (i_iload 1 (i_new 4 dvX4 (i_dup (i_recv 4 0 (i_call k d 3 1 1 (i_aast 4 (i_iinc 1 1 (k d 2)))))))))))))
/-- SlabImage$Variable.<init> from 0 -/
def b_3 : am_B := fun k d => (i_aload 0 (i_obj d (i_aload 0 (i_int 1 (i_putI 4 0 (i_aload 0 (i_int (-1) (i_putI 4 1 (i_aload 0 (i_int (-1) (i_putI 4 2 (i_aload 0 (i_int 0 (i_putZ 4 3 (i_aload 0 (i_int 1 (i_putI 4 4 (i_aload 0 (i_int 1 (i_putI 4 5 (i_aload 0 (i_new 0 dvX0 (i_dup (i_recv 0 0 (i_call k d 4 1 1 (i_putR 4 6 (i_aload 0 (i_int 800 (i_newi 0 (i_putR 4 7 i_vret))))))))))))))))))))))))))))))
/-- SlabImage$AttributeList.<init> from 0 -/
def b_4 : am_B := fun k d => (i_aload 0 (i_obj d (i_aload 0 (i_int 0 (i_putI 0 0 (i_aload 0 (i_int 3 (i_newi 0 (i_putR 0 1 (i_aload 0 (i_int 3 (i_newi 0 (i_putR 0 2 (i_aload 0 (i_int 3 (i_newi 0 (i_putR 0 3 (i_aload 0 (i_int 3 (i_newi 0 (i_putR 0 4 i_vret)))))))))))))))))))))
/-- SlabImage$Selection.<init> from 0 -/
def b_5 : am_B := fun k d => (i_aload 0 (i_obj d (i_aload 0 (i_int 0 (i_putI 2 0 (i_aload 0 (i_int 1 (i_putI 2 1 (i_aload 0 (i_int 1 (i_putI 2 2 i_vret)))))))))))
/-- SlabImage$ByteRow.<init> from 0 -/
def b_6 : am_B := fun k d => (i_aload 0 (i_obj d (i_aload 0 (i_int 800 (i_newi 1 (i_putR 1 0 (i_aload 0 (i_int 0 (i_putI 1 1 (i_aload 0 (i_int 0 (i_putI 1 2 i_vret))))))))))))
/-- SlabImage.dimension from 0 -/
def b_7 : am_B := fun k d => (i_aload 0 (i_getf 5 2 (i_ifeq (i_int (-1) (k d 8)) (i_aload 0 (i_getf 5 0 (i_iload 1 (i_iload 2 (i_recv 3 2 (i_call k d 9 3 3 (k d 8))))))))))
/-- SlabImage.dimension from 20 -/
def b_8 : am_B := fun k d => i_iret
/-- SlabImage$Store.defineDimension from 0 -/
def b_9 : am_B := fun k d => (i_iload 1 (i_call k d 13 1 1 (i_ifeq (k d 10) (i_iload 2 (i_iflt (k d 10) (i_iload 2 (i_int 8 (i_cmple (i_iload 1 (i_aload 0 (i_getf 3 2 (i_aload 0 (i_getf 3 1 (i_call k d 16 3 4 (i_iflt (i_aload 0 (i_getf 3 1 (i_int 4 (i_cmpge (k d 11) (i_iload 2 (i_ifne (k d 12) (i_aload 0 (i_recv 3 0 (i_call k d 19 1 2 (i_ifeq (k d 12) (k d 11))))))))))) (i_int (-4) i_iret)))))))) (k d 10)))))))))
/-- SlabImage$Store.defineDimension from 17 -/
def b_10 : am_B := fun k d => (i_int (-2) i_iret)
/-- SlabImage$Store.defineDimension from 57 -/
def b_11 : am_B := fun k d => (i_int (-5) i_iret)
/-- SlabImage$Store.defineDimension from 60 -/
def b_12 : am_B := fun k d => (i_aload 0 (i_getf 3 2 (i_aload 0 (i_getf 3 1 (i_iload 1 (i_iast 0 (fun x => x) (i_aload 0 (i_getf 3 3 (i_aload 0 (i_getf 3 1 (i_iload 2 (i_iast 0 (fun x => x) (i_aload 0 (i_dup (i_getf 3 1 (i_int 1 (i_ii (fun x y => x + y) (i_putI 3 1 (i_aload 0 (i_getf 3 1 (i_int 1 (i_ii (fun x y => x - y) i_iret))))))))))))))))))))))
/-- SlabImage.isName from 0 -/
def b_13 : am_B := fun k d => (i_iload 0 (i_int 33 (i_cmplt (k d 14) (i_iload 0 (i_int 126 (i_cmpgt (k d 14) (i_int 1 (k d 15))))))))
/-- SlabImage.isName from 16 -/
def b_14 : am_B := fun k d => (i_int 0 (k d 15))
/-- SlabImage.isName from 17 -/
def b_15 : am_B := fun k d => i_zret
/-- SlabImage.placeOf from 0 -/
def b_16 : am_B := fun k d => (i_int 0 (i_istore 3 (k d 17)))
/-- SlabImage.placeOf from 2 -/
def b_17 : am_B := fun k d => (i_iload 3 (i_iload 2 (i_cmpge (k d 18) (i_iload 3 (i_aload 1 (i_alen (i_cmpge (k d 18) (i_aload 1 (i_iload 3 (i_iald 0 (i_iload 0 (i_cmpne (i_iinc 3 1 (k d 17)) (i_iload 3 i_iret)))))))))))))
/-- SlabImage.placeOf from 28 -/
def b_18 : am_B := fun k d => (i_int (-1) i_iret)
/-- SlabImage$Store.hasGrowingDimension from 0 -/
def b_19 : am_B := fun k d => (i_int 0 (i_istore 1 (k d 20)))
/-- SlabImage$Store.hasGrowingDimension from 2 -/
def b_20 : am_B := fun k d => (i_iload 1 (i_aload 0 (i_getf 3 1 (i_cmpge (i_int 0 i_zret) (i_aload 0 (i_getf 3 3 (i_iload 1 (i_iald 0 (i_ifne (i_iinc 1 1 (k d 20)) (i_int 1 i_zret))))))))))
/-- SlabImage.variable from 0 -/
def b_21 : am_B := fun k d => (i_aload 0 (i_getf 5 2 (i_ifeq (i_int (-1) (k d 22)) (i_aload 0 (i_getf 5 0 (i_iload 1 (i_iload 2 (i_iload 3 (i_iload 4 (i_recv 3 4 (i_call k d 23 5 5 (k d 22))))))))))))
/-- SlabImage.variable from 23 -/
def b_22 : am_B := fun k d => i_iret
/-- SlabImage$Store.defineVariable from 0 -/
def b_23 : am_B := fun k d => (i_iload 1 (i_call k d 13 1 1 (i_ifeq (k d 24) (i_iload 2 (i_call k d 27 1 1 (i_ifne (i_aload 0 (i_iload 3 (i_recv 3 1 (i_call k d 30 2 2 (i_ifeq (k d 25) (i_aload 0 (i_iload 4 (i_recv 3 1 (i_call k d 30 2 2 (i_ifeq (k d 25) (i_iload 3 (i_int (-1) (i_cmpne (k d 26) (i_iload 4 (i_int (-1) (i_cmpeq (k d 26) (k d 25))))))))))))))))) (k d 24)))))))
/-- SlabImage$Store.defineVariable from 14 -/
def b_24 : am_B := fun k d => (i_int (-2) i_iret)
/-- SlabImage$Store.defineVariable from 45 -/
def b_25 : am_B := fun k d => (i_int (-3) i_iret)
/-- SlabImage$Store.defineVariable from 48 -/
def b_26 : am_B := fun k d => (i_aload 0 (i_iload 4 (i_recv 3 1 (i_call k d 36 2 2 (i_ifne (i_iload 1 (i_aload 0 (i_getf 3 5 (i_aload 0 (i_getf 3 4 (i_call k d 16 3 4 (i_iflt (i_aload 0 (i_getf 3 4 (i_int 5 (i_cmplt (i_aload 0 (i_getf 3 5 (i_aload 0 (i_getf 3 4 (i_iload 1 (i_iast 0 (fun x => x) (i_aload 0 (i_getf 3 6 (i_aload 0 (i_getf 3 4 (i_aald (i_iload 3 (i_aload 0 (i_iload 3 (i_recv 3 1 (i_call k d 36 2 2 (i_iload 4 (i_aload 0 (i_iload 4 (i_recv 3 1 (i_call k d 36 2 2 (i_recv 4 4 (i_call k d 38 5 5 (i_aload 0 (i_getf 3 6 (i_aload 0 (i_getf 3 4 (i_aald (i_iload 2 (i_recv 4 1 (i_call k d 40 2 2 (i_aload 0 (i_dup (i_getf 3 4 (i_int 1 (i_ii (fun x y => x + y) (i_putI 3 4 (i_aload 0 (i_getf 3 4 (i_int 1 (i_ii (fun x y => x - y) i_iret))))))))))))))))))))))))))))))))))))))))) (i_int (-5) i_iret))))) (i_int (-4) i_iret)))))))) (i_int (-2) i_iret))))))
/-- SlabImage.isType from 0 -/
def b_27 : am_B := fun k d => (i_iload 0 (i_int 1 (i_cmplt (k d 28) (i_iload 0 (i_int 4 (i_cmpgt (k d 28) (i_int 1 (k d 29))))))))
/-- SlabImage.isType from 14 -/
def b_28 : am_B := fun k d => (i_int 0 (k d 29))
/-- SlabImage.isType from 15 -/
def b_29 : am_B := fun k d => i_zret
/-- SlabImage$Store.mayBeAxis from 0 -/
def b_30 : am_B := fun k d => (i_iload 1 (i_int (-1) (i_cmpeq (k d 31) (i_aload 0 (i_iload 1 (i_recv 3 1 (i_call k d 33 2 2 (i_ifeq (i_int 0 (k d 32)) (k d 31)))))))))
/-- SlabImage$Store.mayBeAxis from 13 -/
def b_31 : am_B := fun k d => (i_int 1 (k d 32))
/-- SlabImage$Store.mayBeAxis from 18 -/
def b_32 : am_B := fun k d => i_zret
/-- SlabImage$Store.isDimension from 0 -/
def b_33 : am_B := fun k d => (i_iload 1 (i_iflt (k d 34) (i_iload 1 (i_aload 0 (i_getf 3 1 (i_cmpge (k d 34) (i_int 1 (k d 35))))))))
/-- SlabImage$Store.isDimension from 16 -/
def b_34 : am_B := fun k d => (i_int 0 (k d 35))
/-- SlabImage$Store.isDimension from 17 -/
def b_35 : am_B := fun k d => i_zret
/-- SlabImage$Store.lengthOf from 0 -/
def b_36 : am_B := fun k d => (i_aload 0 (i_iload 1 (i_recv 3 1 (i_call k d 33 2 2 (i_ifeq (i_int 1 (k d 37)) (i_aload 0 (i_getf 3 3 (i_iload 1 (i_iald 0 (k d 37))))))))))
/-- SlabImage$Store.lengthOf from 18 -/
def b_37 : am_B := fun k d => i_iret
/-- SlabImage$Variable.shape from 0 -/
def b_38 : am_B := fun k d => (i_aload 0 (i_iload 1 (i_putI 4 1 (i_aload 0 (i_iload 3 (i_putI 4 2 (i_aload 0 (i_iload 2 (i_ifne (i_int 0 (k d 39)) (i_int 1 (k d 39)))))))))))
/-- SlabImage$Variable.shape from 20 -/
def b_39 : am_B := fun k d => (i_putZ 4 3 (i_aload 0 (i_iload 2 (i_putI 4 4 (i_aload 0 (i_iload 4 (i_putI 4 5 i_vret)))))))
/-- SlabImage$Variable.fill from 0 -/
def b_40 : am_B := fun k d => (i_aload 0 (i_iload 1 (i_putI 4 0 (i_aload 0 (i_getf 4 7 (i_stat 1 (i_iload 1 (i_iald 0 (i_call k d 41 2 4 i_vret)))))))))
/-- java/util/Arrays.fill from 0 -/
def b_41 : am_B := fun k d => (i_int 0 (i_istore 2 (i_aload 0 (i_alen (i_istore 3 (k d 42))))))
/-- java/util/Arrays.fill from 5 -/
def b_42 : am_B := fun k d => (i_iload 2 (i_iload 3 (i_cmpge i_vret (i_aload 0 (i_iload 2 (i_iload 1 (i_iast 0 (fun x => x) (i_iinc 2 1 (k d 42)))))))))
/-- SlabImage.attribute from 0 -/
def b_43 : am_B := fun k d => (i_aload 0 (i_getf 5 2 (i_ifne (i_aload 0 (i_getf 5 0 (i_iload 1 (i_recv 3 1 (i_call k d 45 2 3 (i_astore 6 (i_aload 6 (i_ifnonnull (i_aload 6 (i_iload 2 (i_iload 3 (i_iload 4 (i_iload 5 (i_recv 0 4 (i_call k d 50 5 6 (k d 44)))))))) (i_int (-3) (k d 44)))))))))) (i_int (-1) i_iret))))
/-- SlabImage.attribute from 40 -/
def b_44 : am_B := fun k d => i_iret
/-- SlabImage$Store.attributesOf from 0 -/
def b_45 : am_B := fun k d => (i_iload 1 (i_int (-1) (i_cmpne (i_aload 0 (i_iload 1 (i_recv 3 1 (i_call k d 47 2 2 (i_astore 2 (i_aload 2 (i_ifnonnull (i_aload 2 (i_getf 4 6 (k d 46))) (i_null (k d 46))))))))) (i_aload 0 (i_getf 3 7 i_aret)))))
/-- SlabImage$Store.attributesOf from 28 -/
def b_46 : am_B := fun k d => i_aret
/-- SlabImage$Store.variableAt from 0 -/
def b_47 : am_B := fun k d => (i_iload 1 (i_iflt (k d 48) (i_iload 1 (i_aload 0 (i_getf 3 4 (i_cmpge (k d 48) (i_aload 0 (i_getf 3 6 (i_iload 1 (i_aald (k d 49)))))))))))
/-- SlabImage$Store.variableAt from 21 -/
def b_48 : am_B := fun k d => (i_null (k d 49))
/-- SlabImage$Store.variableAt from 22 -/
def b_49 : am_B := fun k d => i_aret
/-- SlabImage$AttributeList.assign from 0 -/
def b_50 : am_B := fun k d => (i_iload 1 (i_call k d 13 1 1 (i_ifeq (k d 51) (i_iload 2 (i_call k d 27 1 1 (i_ifne (i_iload 2 (i_iload 3 (i_call k d 54 2 2 (i_ifeq (k d 52) (i_iload 2 (i_iload 4 (i_call k d 54 2 2 (i_ifne (i_iload 1 (i_aload 0 (i_getf 0 1 (i_aload 0 (i_getf 0 0 (i_call k d 16 3 4 (i_istore 5 (i_iload 5 (i_ifge (k d 53) (i_aload 0 (i_getf 0 0 (i_int 3 (i_cmplt (i_aload 0 (i_getf 0 0 (i_istore 5 (i_aload 0 (i_dup (i_getf 0 0 (i_int 1 (i_ii (fun x y => x + y) (i_putI 0 0 (k d 53)))))))))) (i_int (-5) i_iret)))))))))))))) (k d 52))))))))) (k d 51)))))))
/-- SlabImage$AttributeList.assign from 14 -/
def b_51 : am_B := fun k d => (i_int (-2) i_iret)
/-- SlabImage$AttributeList.assign from 34 -/
def b_52 : am_B := fun k d => (i_int (-6) i_iret)
/-- SlabImage$AttributeList.assign from 83 -/
def b_53 : am_B := fun k d => (i_aload 0 (i_getf 0 1 (i_iload 5 (i_iload 1 (i_iast 0 (fun x => x) (i_aload 0 (i_getf 0 2 (i_iload 5 (i_iload 2 (i_iast 0 (fun x => x) (i_aload 0 (i_getf 0 3 (i_iload 5 (i_iload 3 (i_iast 0 (fun x => x) (i_aload 0 (i_getf 0 4 (i_iload 5 (i_iload 4 (i_iast 0 (fun x => x) (i_int 0 i_iret)))))))))))))))))))))
/-- SlabImage.isValue from 0 -/
def b_54 : am_B := fun k d => (i_iload 1 (i_stat 2 (i_iload 0 (i_iald 0 (i_cmplt (k d 55) (i_iload 1 (i_stat 3 (i_iload 0 (i_iald 0 (i_cmpgt (k d 55) (i_int 1 (k d 56))))))))))))
/-- SlabImage.isValue from 22 -/
def b_55 : am_B := fun k d => (i_int 0 (k d 56))
/-- SlabImage.isValue from 23 -/
def b_56 : am_B := fun k d => i_zret
/-- SlabImage.drop from 0 -/
def b_57 : am_B := fun k d => (i_aload 0 (i_getf 5 2 (i_ifne (i_aload 0 (i_getf 5 0 (i_iload 1 (i_recv 3 1 (i_call k d 45 2 3 (i_astore 3 (i_aload 3 (i_ifnonnull (i_aload 3 (i_iload 2 (i_recv 0 1 (i_call k d 59 2 4 (k d 58))))) (i_int (-3) (k d 58)))))))))) (i_int (-1) i_iret))))
/-- SlabImage.drop from 32 -/
def b_58 : am_B := fun k d => i_iret
/-- SlabImage$AttributeList.takeOff from 0 -/
def b_59 : am_B := fun k d => (i_iload 1 (i_aload 0 (i_getf 0 1 (i_aload 0 (i_getf 0 0 (i_call k d 16 3 4 (i_istore 2 (i_iload 2 (i_ifge (i_iload 2 (i_int 1 (i_ii (fun x y => x + y) (i_istore 3 (k d 60))))) (i_int (-3) i_iret))))))))))
/-- SlabImage$AttributeList.takeOff from 24 -/
def b_60 : am_B := fun k d => (i_iload 3 (i_aload 0 (i_getf 0 0 (i_cmpge (i_aload 0 (i_dup (i_getf 0 0 (i_int 1 (i_ii (fun x y => x - y) (i_putI 0 0 (i_int 0 i_iret))))))) (i_aload 0 (i_getf 0 1 (i_iload 3 (i_int 1 (i_ii (fun x y => x - y) (i_aload 0 (i_getf 0 1 (i_iload 3 (i_iald 0 (i_iast 0 (fun x => x) (i_aload 0 (i_getf 0 2 (i_iload 3 (i_int 1 (i_ii (fun x y => x - y) (i_aload 0 (i_getf 0 2 (i_iload 3 (i_iald 0 (i_iast 0 (fun x => x) (i_aload 0 (i_getf 0 3 (i_iload 3 (i_int 1 (i_ii (fun x y => x - y) (i_aload 0 (i_getf 0 3 (i_iload 3 (i_iald 0 (i_iast 0 (fun x => x) (i_aload 0 (i_getf 0 4 (i_iload 3 (i_int 1 (i_ii (fun x y => x - y) (i_aload 0 (i_getf 0 4 (i_iload 3 (i_iald 0 (i_iast 0 (fun x => x) (i_iinc 3 1 (k d 60))))))))))))))))))))))))))))))))))))))))))))))
/-- SlabImage.rename from 0 -/
def b_61 : am_B := fun k d => (i_aload 0 (i_getf 5 2 (i_ifne (i_iload 1 (i_ifeq (i_aload 0 (i_getf 5 0 (i_iload 2 (i_iload 3 (i_recv 3 2 (i_call k d 67 3 3 (k d 62))))))) (i_aload 0 (i_getf 5 0 (i_iload 2 (i_iload 3 (i_recv 3 2 (i_call k d 63 3 3 (k d 62))))))))) (i_int (-1) i_iret))))
/-- SlabImage.rename from 34 -/
def b_62 : am_B := fun k d => i_iret
/-- SlabImage$Store.renameVariable from 0 -/
def b_63 : am_B := fun k d => (i_aload 0 (i_getf 3 5 (i_aload 0 (i_getf 3 4 (i_iload 1 (i_iload 2 (i_call k d 64 4 5 i_iret)))))))
/-- SlabImage$Store.changeName from 0 -/
def b_64 : am_B := fun k d => (i_iload 2 (i_iflt (k d 65) (i_iload 2 (i_iload 1 (i_cmplt (i_iload 3 (i_call k d 13 1 1 (i_ifne (i_iload 3 (i_aload 0 (i_iload 1 (i_call k d 16 3 4 (i_istore 4 (i_iload 4 (i_iflt (k d 66) (i_iload 4 (i_iload 2 (i_cmpeq (k d 66) (i_int (-4) i_iret))))))))))) (i_int (-2) i_iret)))) (k d 65))))))
/-- SlabImage$Store.changeName from 9 -/
def b_65 : am_B := fun k d => (i_int (-3) i_iret)
/-- SlabImage$Store.changeName from 44 -/
def b_66 : am_B := fun k d => (i_aload 0 (i_iload 2 (i_iload 3 (i_iast 0 (fun x => x) (i_int 0 i_iret)))))
/-- SlabImage$Store.renameDimension from 0 -/
def b_67 : am_B := fun k d => (i_aload 0 (i_getf 3 2 (i_aload 0 (i_getf 3 1 (i_iload 1 (i_iload 2 (i_call k d 64 4 5 i_iret)))))))
/-- SlabImage.seal from 0 -/
def b_68 : am_B := fun k d => (i_aload 0 (i_getf 5 2 (i_ifne (i_aload 0 (i_getf 5 0 (i_aload 0 (i_getf 5 0 (i_getf 3 0 (i_i2l (i_recv 3 1 (i_call k d 69 2 3 (i_lstore 1 (i_lload 1 (i_long 800 (i_lcmp (i_ifle (i_aload 0 (i_int 0 (i_putZ 5 2 (i_lload 1 (i_l2i i_iret))))) (i_int (-8) i_iret)))))))))))))) (i_int (-1) i_iret))))
/-- SlabImage$Store.imageBytes from 0 -/
def b_69 : am_B := fun k d => (i_aload 0 (i_recv 3 0 (i_call k d 70 1 3 (i_aload 0 (i_aload 0 (i_getf 3 4 (i_int 0 (i_recv 3 2 (i_call k d 78 3 5 (i_ii (fun x y => x + y) (i_i2l (i_lload 1 (i_aload 0 (i_recv 3 0 (i_call k d 85 1 3 (i_i2l (i_ll (fun x y => x * y) (i_ll (fun x y => x + y) i_lret))))))))))))))))))
/-- SlabImage$Store.headerBytes from 0 -/
def b_70 : am_B := fun k d => (i_int 24 (i_aload 0 (i_getf 3 7 (i_recv 0 0 (i_call k d 72 1 3 (i_ii (fun x y => x + y) (i_istore 1 (i_iload 1 (i_aload 0 (i_getf 3 1 (i_int 12 (i_ii (fun x y => x * y) (i_ii (fun x y => x + y) (i_istore 1 (i_int 0 (i_istore 2 (k d 71)))))))))))))))))
/-- SlabImage$Store.headerBytes from 23 -/
def b_71 : am_B := fun k d => (i_iload 2 (i_aload 0 (i_getf 3 4 (i_cmpge (i_iload 1 i_iret) (i_iload 1 (i_aload 0 (i_getf 3 6 (i_iload 2 (i_aald (i_recv 4 0 (i_call k d 75 1 1 (i_ii (fun x y => x + y) (i_istore 1 (i_iinc 2 1 (k d 71)))))))))))))))
/-- SlabImage$AttributeList.headerBytes from 0 -/
def b_72 : am_B := fun k d => (i_int 8 (i_istore 1 (i_int 0 (i_istore 2 (k d 73)))))
/-- SlabImage$AttributeList.headerBytes from 5 -/
def b_73 : am_B := fun k d => (i_iload 2 (i_aload 0 (i_getf 0 0 (i_cmpge (i_iload 1 i_iret) (i_iload 1 (i_int 16 (i_int 2 (i_stat 0 (i_aload 0 (i_getf 0 2 (i_iload 2 (i_iald 0 (i_iald 0 (i_ii (fun x y => x * y) (i_call k d 74 1 1 (i_ii (fun x y => x + y) (i_ii (fun x y => x + y) (i_istore 1 (i_iinc 2 1 (k d 73))))))))))))))))))))
/-- SlabImage.padded from 0 -/
def b_74 : am_B := fun k d => (i_iload 0 (i_int 4 (i_ii (fun x y => x + y) (i_int 1 (i_ii (fun x y => x - y) (i_int 4 (i_idz (fun x y => x / y) (i_int 4 (i_ii (fun x y => x * y) i_iret)))))))))
/-- SlabImage$Variable.headerBytes from 0 -/
def b_75 : am_B := fun k d => (i_int 12 (i_aload 0 (i_recv 4 0 (i_call k d 76 1 1 (i_int 4 (i_ii (fun x y => x * y) (i_ii (fun x y => x + y) (i_aload 0 (i_getf 4 6 (i_recv 0 0 (i_call k d 72 1 3 (i_ii (fun x y => x + y) (i_int 12 (i_ii (fun x y => x + y) i_iret))))))))))))))
/-- SlabImage$Variable.axisCount from 0 -/
def b_76 : am_B := fun k d => (i_aload 0 (i_getf 4 1 (i_int (-1) (i_cmpne (i_aload 0 (i_getf 4 2 (i_int (-1) (i_cmpne (i_int 2 (k d 77)) (i_int 1 (k d 77)))))) (i_int 0 i_iret)))))
/-- SlabImage$Variable.axisCount from 23 -/
def b_77 : am_B := fun k d => i_iret
/-- SlabImage$Store.paddedBytes from 0 -/
def b_78 : am_B := fun k d => (i_int 0 (i_istore 3 (i_int 0 (i_istore 4 (k d 79)))))
/-- SlabImage$Store.paddedBytes from 5 -/
def b_79 : am_B := fun k d => (i_iload 4 (i_iload 1 (i_cmpge (k d 81) (i_iload 4 (i_aload 0 (i_getf 3 4 (i_cmpge (k d 81) (i_aload 0 (i_getf 3 6 (i_iload 4 (i_aald (i_getf 4 3 (i_iload 2 (i_cmpne (k d 80) (i_iload 3 (i_aload 0 (i_getf 3 6 (i_iload 4 (i_aald (i_recv 4 0 (i_call k d 82 1 1 (i_ii (fun x y => x + y) (i_istore 3 (k d 80))))))))))))))))))))))))
/-- SlabImage$Store.paddedBytes from 47 -/
def b_80 : am_B := fun k d => (i_iinc 4 1 (k d 79))
/-- SlabImage$Store.paddedBytes from 53 -/
def b_81 : am_B := fun k d => (i_iload 3 i_iret)
/-- SlabImage$Variable.paddedSize from 0 -/
def b_82 : am_B := fun k d => (i_aload 0 (i_getf 4 3 (i_ifeq (i_aload 0 (i_getf 4 4 (i_aload 0 (i_recv 4 0 (i_call k d 84 1 1 (i_ii (fun x y => x * y) (k d 83))))))) (i_aload 0 (i_recv 4 0 (i_call k d 84 1 1 (k d 83)))))))
/-- SlabImage$Variable.paddedSize from 23 -/
def b_83 : am_B := fun k d => (i_call k d 74 1 1 i_iret)
/-- SlabImage$Variable.bytesOfRow from 0 -/
def b_84 : am_B := fun k d => (i_aload 0 (i_getf 4 5 (i_stat 0 (i_aload 0 (i_getf 4 0 (i_iald 0 (i_ii (fun x y => x * y) i_iret)))))))
/-- SlabImage$Store.recordBytes from 0 -/
def b_85 : am_B := fun k d => (i_aload 0 (i_recv 3 0 (i_call k d 88 1 3 (i_int 1 (i_cmpeq (i_int 0 (i_istore 1 (i_int 0 (i_istore 2 (k d 86))))) (i_aload 0 (i_aload 0 (i_getf 3 4 (i_int 1 (i_recv 3 2 (i_call k d 78 3 5 i_iret)))))))))))
/-- SlabImage$Store.recordBytes from 22 -/
def b_86 : am_B := fun k d => (i_iload 2 (i_aload 0 (i_getf 3 4 (i_cmpge (i_iload 1 i_iret) (i_aload 0 (i_getf 3 6 (i_iload 2 (i_aald (i_getf 4 3 (i_ifeq (k d 87) (i_aload 0 (i_getf 3 6 (i_iload 2 (i_aald (i_recv 4 0 (i_call k d 84 1 1 (i_istore 1 (k d 87))))))))))))))))))
/-- SlabImage$Store.recordBytes from 52 -/
def b_87 : am_B := fun k d => (i_iinc 2 1 (k d 86))
/-- SlabImage$Store.recordVariables from 0 -/
def b_88 : am_B := fun k d => (i_int 0 (i_istore 1 (i_int 0 (i_istore 2 (k d 89)))))
/-- SlabImage$Store.recordVariables from 4 -/
def b_89 : am_B := fun k d => (i_iload 2 (i_aload 0 (i_getf 3 4 (i_cmpge (i_iload 1 i_iret) (i_aload 0 (i_getf 3 6 (i_iload 2 (i_aald (i_getf 4 3 (i_ifeq (k d 90) (i_iinc 1 1 (k d 90))))))))))))
/-- SlabImage$Store.recordVariables from 27 -/
def b_90 : am_B := fun k d => (i_iinc 2 1 (k d 89))
/-- SlabImage.redefine from 0 -/
def b_91 : am_B := fun k d => (i_aload 0 (i_getf 5 2 (i_ifeq (i_aload 0 (i_int 1 (i_putZ 5 2 (i_int 0 i_iret)))) (i_int (-1) i_iret))))
/-- SlabImage.put from 0 -/
def b_92 : am_B := fun k d => (i_aload 0 (i_getf 5 2 (i_ifeq (i_aload 0 (i_getf 5 0 (i_iload 1 (i_recv 3 1 (i_call k d 47 2 2 (i_astore 5 (i_aload 5 (i_ifnonnull (i_aload 5 (i_iload 2 (i_i2l (i_iload 3 (i_i2l (i_recv 4 2 (i_call k d 93 3 5 (i_ifne (i_aload 5 (i_getf 4 0 (i_iload 4 (i_call k d 54 2 2 (i_ifne (i_aload 0 (i_getf 5 0 (i_aload 5 (i_iload 2 (i_i2l (i_recv 3 2 (i_call k d 97 3 4 (i_ifne (i_aload 5 (i_iload 2 (i_iload 3 (i_iload 4 (i_recv 4 3 (i_call k d 99 4 5 (i_int 0 i_iret))))))) (i_int (-8) i_iret))))))))) (i_int (-6) i_iret)))))) (i_int (-7) i_iret))))))))) (i_int (-3) i_iret))))))))) (i_int (-1) i_iret))))
/-- SlabImage$Variable.admits from 0 -/
def b_93 : am_B := fun k d => (i_lload 1 (i_long 0 (i_lcmp (i_iflt (k d 95) (i_aload 0 (i_getf 4 3 (i_ifne (k d 94) (i_lload 1 (i_aload 0 (i_getf 4 4 (i_i2l (i_lcmp (i_ifge (k d 95) (k d 94))))))))))))))
/-- SlabImage$Variable.admits from 23 -/
def b_94 : am_B := fun k d => (i_lload 3 (i_long 0 (i_lcmp (i_iflt (k d 95) (i_lload 3 (i_aload 0 (i_getf 4 5 (i_i2l (i_lcmp (i_ifge (k d 95) (i_int 1 (k d 96))))))))))))
/-- SlabImage$Variable.admits from 43 -/
def b_95 : am_B := fun k d => (i_int 0 (k d 96))
/-- SlabImage$Variable.admits from 44 -/
def b_96 : am_B := fun k d => i_zret
/-- SlabImage$Store.growToHold from 0 -/
def b_97 : am_B := fun k d => (i_aload 1 (i_getf 4 3 (i_ifeq (k d 98) (i_lload 2 (i_aload 0 (i_getf 3 0 (i_i2l (i_lcmp (i_ifge (i_aload 0 (i_lload 2 (i_long 1 (i_ll (fun x y => x + y) (i_recv 3 1 (i_call k d 69 2 3 (i_long 800 (i_lcmp (i_ifle (i_aload 0 (i_lload 2 (i_long 1 (i_ll (fun x y => x + y) (i_l2i (i_putI 3 0 (i_int 1 i_zret))))))) (i_int 0 i_zret)))))))))) (k d 98))))))))))
/-- SlabImage$Store.growToHold from 17 -/
def b_98 : am_B := fun k d => (i_int 1 i_zret)
/-- SlabImage$Variable.setCell from 0 -/
def b_99 : am_B := fun k d => (i_iload 1 (i_aload 0 (i_getf 4 5 (i_ii (fun x y => x * y) (i_iload 2 (i_ii (fun x y => x + y) (i_istore 4 (i_iload 4 (i_iflt (k d 100) (i_iload 4 (i_aload 0 (i_getf 4 7 (i_alen (i_cmpge (k d 100) (i_aload 0 (i_getf 4 7 (i_iload 4 (i_iload 3 (i_iast 0 (fun x => x) (k d 100))))))))))))))))))))
/-- SlabImage$Variable.setCell from 33 -/
def b_100 : am_B := fun k d => i_vret
/-- SlabImage.get from 0 -/
def b_101 : am_B := fun k d => (i_aload 0 (i_getf 5 2 (i_ifeq (i_aload 0 (i_getf 5 0 (i_iload 1 (i_recv 3 1 (i_call k d 47 2 2 (i_astore 4 (i_aload 4 (i_ifnull (k d 102) (i_aload 0 (i_getf 5 0 (i_aload 4 (i_iload 2 (i_i2l (i_iload 3 (i_i2l (i_recv 3 3 (i_call k d 103 4 6 (i_ifne (i_aload 4 (i_iload 2 (i_iload 3 (i_recv 4 2 (i_call k d 107 3 4 (i_i2l i_lret)))))) (k d 102))))))))))))))))))) (i_long 1099511627776 i_lret))))
/-- SlabImage.get from 42 -/
def b_102 : am_B := fun k d => (i_long 1099511627776 i_lret)
/-- SlabImage$Store.holds from 0 -/
def b_103 : am_B := fun k d => (i_aload 1 (i_lload 2 (i_lload 4 (i_recv 4 2 (i_call k d 93 3 5 (i_ifeq (k d 105) (i_aload 1 (i_getf 4 3 (i_ifeq (k d 104) (i_lload 2 (i_aload 0 (i_getf 3 0 (i_i2l (i_lcmp (i_ifge (k d 105) (k d 104))))))))))))))))
/-- SlabImage$Store.holds from 27 -/
def b_104 : am_B := fun k d => (i_int 1 (k d 106))
/-- SlabImage$Store.holds from 31 -/
def b_105 : am_B := fun k d => (i_int 0 (k d 106))
/-- SlabImage$Store.holds from 32 -/
def b_106 : am_B := fun k d => i_zret
/-- SlabImage$Variable.cell from 0 -/
def b_107 : am_B := fun k d => (i_iload 1 (i_aload 0 (i_getf 4 5 (i_ii (fun x y => x * y) (i_iload 2 (i_ii (fun x y => x + y) (i_istore 3 (i_iload 3 (i_iflt (k d 108) (i_iload 3 (i_aload 0 (i_getf 4 7 (i_alen (i_cmpge (k d 108) (i_aload 0 (i_getf 4 7 (i_iload 3 (i_iald 0 (k d 109)))))))))))))))))))
/-- SlabImage$Variable.cell from 31 -/
def b_108 : am_B := fun k d => (i_stat 1 (i_aload 0 (i_getf 4 0 (i_iald 0 (k d 109)))))
/-- SlabImage$Variable.cell from 39 -/
def b_109 : am_B := fun k d => i_iret
/-- SlabImage.select from 0 -/
def b_110 : am_B := fun k d => (i_iload 1 (i_ifeq (k d 111) (i_iload 1 (i_int 1 (i_cmpeq (k d 111) (i_int (-3) i_iret))))))
/-- SlabImage.select from 12 -/
def b_111 : am_B := fun k d => (i_iload 2 (i_iflt (k d 112) (i_iload 3 (i_int 1 (i_cmplt (k d 112) (i_iload 3 (i_int 8 (i_cmpgt (k d 112) (i_iload 4 (i_int 1 (i_cmplt (k d 112) (i_iload 4 (i_int 8 (i_cmple (i_iload 1 (i_ifne (i_aload 0 (i_getf 5 4 (k d 113))) (i_aload 0 (i_getf 5 3 (k d 113))))) (k d 112)))))))))))))))
/-- SlabImage.select from 40 -/
def b_112 : am_B := fun k d => (i_int (-2) i_iret)
/-- SlabImage.select from 58 -/
def b_113 : am_B := fun k d => (i_astore 5 (i_aload 5 (i_iload 2 (i_iload 3 (i_iload 4 (i_recv 2 3 (i_call k d 114 4 4 (i_int 0 i_iret))))))))
/-- SlabImage$Selection.become from 0 -/
def b_114 : am_B := fun k d => (i_aload 0 (i_iload 1 (i_putI 2 0 (i_aload 0 (i_iload 2 (i_putI 2 1 (i_aload 0 (i_iload 3 (i_putI 2 2 i_vret)))))))))
/-- SlabImage.putSlab from 0 -/
def b_115 : am_B := fun k d => (i_aload 0 (i_getf 5 2 (i_ifeq (i_aload 0 (i_getf 5 0 (i_iload 1 (i_recv 3 1 (i_call k d 47 2 2 (i_astore 4 (i_aload 4 (i_ifnonnull (i_aload 0 (i_aload 4 (i_recv 5 1 (i_call k d 116 2 2 (i_astore 5 (i_aload 0 (i_aload 4 (i_recv 5 1 (i_call k d 118 2 2 (i_astore 6 (i_aload 4 (i_aload 5 (i_recv 2 0 (i_call k d 120 1 1 (i_aload 6 (i_recv 2 0 (i_call k d 120 1 1 (i_recv 4 2 (i_call k d 93 3 5 (i_ifne (i_aload 5 (i_getf 2 1 (i_aload 6 (i_getf 2 1 (i_ii (fun x y => x * y) (i_istore 7 (i_aload 4 (i_getf 4 0 (i_iload 7 (i_iload 2 (i_iload 3 (i_call k d 121 4 5 (i_ifne (i_aload 0 (i_getf 5 0 (i_aload 4 (i_aload 5 (i_recv 2 0 (i_call k d 120 1 1 (i_recv 3 2 (i_call k d 97 3 4 (i_ifne (i_aload 4 (i_aload 5 (i_aload 6 (i_iload 2 (i_iload 3 (i_recv 4 4 (i_call k d 123 5 8 (i_iload 7 i_iret)))))))) (i_int (-8) i_iret)))))))))) (i_int (-6) i_iret)))))))))))))) (i_int (-7) i_iret))))))))))))))))))))) (i_int (-3) i_iret))))))))) (i_int (-1) i_iret))))
/-- SlabImage.rowsOf from 0 -/
def b_116 : am_B := fun k d => (i_aload 1 (i_recv 4 0 (i_call k d 76 1 1 (i_ifle (i_aload 0 (i_getf 5 5 (k d 117))) (i_aload 0 (i_getf 5 3 (k d 117)))))))
/-- SlabImage.rowsOf from 18 -/
def b_117 : am_B := fun k d => i_aret
/-- SlabImage.columnsOf from 0 -/
def b_118 : am_B := fun k d => (i_aload 1 (i_recv 4 0 (i_call k d 76 1 1 (i_int 1 (i_cmple (i_aload 0 (i_getf 5 5 (k d 119))) (i_aload 0 (i_getf 5 4 (k d 119))))))))
/-- SlabImage.columnsOf from 19 -/
def b_119 : am_B := fun k d => i_aret
/-- SlabImage$Selection.last from 0 -/
def b_120 : am_B := fun k d => (i_aload 0 (i_getf 2 0 (i_i2l (i_aload 0 (i_getf 2 1 (i_i2l (i_long 1 (i_ll (fun x y => x - y) (i_aload 0 (i_getf 2 2 (i_i2l (i_ll (fun x y => x * y) (i_ll (fun x y => x + y) i_lret)))))))))))))
/-- SlabImage.areValues from 0 -/
def b_121 : am_B := fun k d => (i_int 0 (i_istore 4 (k d 122)))
/-- SlabImage.areValues from 3 -/
def b_122 : am_B := fun k d => (i_iload 4 (i_iload 1 (i_cmpge (i_int 1 i_zret) (i_iload 0 (i_iload 2 (i_iload 4 (i_iload 3 (i_ii (fun x y => x * y) (i_ii (fun x y => x + y) (i_call k d 54 2 2 (i_ifne (i_iinc 4 1 (k d 122)) (i_int 0 i_zret))))))))))))
/-- SlabImage$Variable.setSlab from 0 -/
def b_123 : am_B := fun k d => (i_iload 3 (i_istore 5 (i_int 0 (i_istore 6 (k d 124)))))
/-- SlabImage$Variable.setSlab from 6 -/
def b_124 : am_B := fun k d => (i_iload 6 (i_aload 1 (i_getf 2 1 (i_cmpge i_vret (i_int 0 (i_istore 7 (k d 125)))))))
/-- SlabImage$Variable.setSlab from 18 -/
def b_125 : am_B := fun k d => (i_iload 7 (i_aload 2 (i_getf 2 1 (i_cmpge (i_iinc 6 1 (k d 124)) (i_aload 0 (i_aload 1 (i_iload 6 (i_recv 2 1 (i_call k d 126 2 2 (i_aload 2 (i_iload 7 (i_recv 2 1 (i_call k d 126 2 2 (i_iload 5 (i_recv 4 3 (i_call k d 99 4 5 (i_iload 5 (i_iload 4 (i_ii (fun x y => x + y) (i_istore 5 (i_iinc 7 1 (k d 125))))))))))))))))))))))
/-- SlabImage$Selection.at from 0 -/
def b_126 : am_B := fun k d => (i_aload 0 (i_getf 2 0 (i_iload 1 (i_aload 0 (i_getf 2 2 (i_ii (fun x y => x * y) (i_ii (fun x y => x + y) i_iret)))))))
/-- SlabImage.getSlab from 0 -/
def b_127 : am_B := fun k d => (i_aload 0 (i_getf 5 2 (i_ifeq (i_aload 0 (i_getf 5 0 (i_iload 1 (i_recv 3 1 (i_call k d 47 2 2 (i_astore 3 (i_aload 3 (i_ifnonnull (i_aload 0 (i_aload 3 (i_recv 5 1 (i_call k d 116 2 2 (i_astore 4 (i_aload 0 (i_aload 3 (i_recv 5 1 (i_call k d 118 2 2 (i_astore 5 (i_aload 0 (i_getf 5 0 (i_aload 3 (i_aload 4 (i_recv 2 0 (i_call k d 120 1 1 (i_aload 5 (i_recv 2 0 (i_call k d 120 1 1 (i_recv 3 3 (i_call k d 103 4 6 (i_ifne (i_iload 2 (i_iflt (k d 128) (i_iload 2 (i_aload 4 (i_getf 2 1 (i_aload 5 (i_getf 2 1 (i_ii (fun x y => x * y) (i_cmplt (i_aload 3 (i_aload 4 (i_iload 2 (i_aload 5 (i_getf 2 1 (i_idz (fun x y => x / y) (i_recv 2 1 (i_call k d 126 2 2 (i_aload 5 (i_iload 2 (i_aload 5 (i_getf 2 1 (i_idz (fun x y => x - x / y * y) (i_recv 2 1 (i_call k d 126 2 2 (i_recv 4 2 (i_call k d 107 3 4 (i_i2l i_lret)))))))))))))))))) (k d 128)))))))))) (i_long 1099511627776 i_lret))))))))))))))))))))))) (i_long 1099511627776 i_lret))))))))) (i_long 1099511627776 i_lret))))
/-- SlabImage.getSlab from 86 -/
def b_128 : am_B := fun k d => (i_long 1099511627776 i_lret)
/-- SlabImage.records from 0 -/
def b_129 : am_B := fun k d => (i_aload 0 (i_getf 5 0 (i_getf 3 0 i_iret)))
/-- SlabImage.size from 0 -/
def b_130 : am_B := fun k d => (i_aload 0 (i_getf 5 2 (i_ifeq (i_aload 0 (i_getf 5 0 (i_aload 0 (i_getf 5 0 (i_getf 3 0 (i_i2l (i_recv 3 1 (i_call k d 69 2 3 (i_l2i (k d 131)))))))))) (i_int (-1) (k d 131)))))
/-- SlabImage.size from 27 -/
def b_131 : am_B := fun k d => i_iret
/-- SlabImage.begin from 0 -/
def b_132 : am_B := fun k d => (i_aload 0 (i_getf 5 2 (i_ifeq (i_aload 0 (i_getf 5 0 (i_iload 1 (i_recv 3 1 (i_call k d 47 2 2 (i_ifnonnull (i_aload 0 (i_getf 5 0 (i_iload 1 (i_recv 3 1 (i_call k d 134 2 2 (k d 133)))))) (i_int (-3) (k d 133)))))))) (i_int (-1) i_iret))))
/-- SlabImage.begin from 33 -/
def b_133 : am_B := fun k d => i_iret
/-- SlabImage$Store.beginOf from 0 -/
def b_134 : am_B := fun k d => (i_aload 0 (i_getf 3 6 (i_iload 1 (i_aald (i_getf 4 3 (i_ifne (i_aload 0 (i_recv 3 0 (i_call k d 70 1 3 (i_aload 0 (i_aload 0 (i_getf 3 4 (i_int 0 (i_recv 3 2 (i_call k d 78 3 5 (i_ii (fun x y => x + y) (i_aload 0 (i_iload 1 (i_int 1 (i_recv 3 2 (i_call k d 78 3 5 (i_ii (fun x y => x + y) i_iret)))))))))))))))) (i_aload 0 (i_recv 3 0 (i_call k d 70 1 3 (i_aload 0 (i_iload 1 (i_int 0 (i_recv 3 2 (i_call k d 78 3 5 (i_ii (fun x y => x + y) i_iret)))))))))))))))
/-- SlabImage.eight from 0 -/
def b_135 : am_B := fun k d => (i_aload 0 (i_getf 5 2 (i_ifne (k d 136) (i_iload 1 (i_iflt (k d 136) (i_iload 1 (i_int 100 (i_cmplt (i_aload 0 (i_getf 5 0 (i_aload 0 (i_getf 5 7 (i_recv 3 1 (i_call k d 138 2 3 (i_long 0 (i_lstore 2 (i_int 0 (i_istore 4 (k d 137))))))))))) (k d 136)))))))))
/-- SlabImage.eight from 17 -/
def b_136 : am_B := fun k d => (i_long 0 i_lret)
/-- SlabImage.eight from 35 -/
def b_137 : am_B := fun k d => (i_iload 4 (i_int 8 (i_cmpge (i_lload 2 i_lret) (i_lload 2 (i_int 8 (i_lsh (fun x y => x <<< (y.toInt64 &&& 63)) (i_aload 0 (i_getf 5 7 (i_int 8 (i_iload 1 (i_ii (fun x y => x * y) (i_iload 4 (i_ii (fun x y => x + y) (i_recv 1 1 (i_call k d 168 2 2 (i_i2l (i_ll (fun x y => x ||| y) (i_lstore 2 (i_iinc 4 1 (k d 137))))))))))))))))))))
/-- SlabImage$Store.writeTo from 0 -/
def b_138 : am_B := fun k d => (i_aload 1 (i_recv 1 0 (i_call k d 141 1 1 (i_aload 1 (i_int 1196573697 (i_recv 1 1 (i_call k d 142 2 2 (i_aload 1 (i_aload 0 (i_getf 3 0 (i_recv 1 1 (i_call k d 142 2 2 (i_aload 1 (i_int 10 (i_aload 0 (i_getf 3 1 (i_recv 1 2 (i_call k d 147 3 3 (i_int 0 (i_istore 2 (k d 139)))))))))))))))))))))
/-- SlabImage$Store.writeTo from 30 -/
def b_139 : am_B := fun k d => (i_iload 2 (i_aload 0 (i_getf 3 1 (i_cmpge (i_aload 0 (i_getf 3 7 (i_aload 1 (i_recv 0 1 (i_call k d 150 2 3 (i_aload 1 (i_int 11 (i_aload 0 (i_getf 3 4 (i_recv 1 2 (i_call k d 147 3 3 (i_int 0 (i_istore 2 (k d 140)))))))))))))) (i_aload 1 (i_aload 0 (i_getf 3 2 (i_iload 2 (i_iald 0 (i_recv 1 1 (i_call k d 149 2 2 (i_aload 1 (i_aload 0 (i_getf 3 3 (i_iload 2 (i_iald 0 (i_recv 1 1 (i_call k d 142 2 2 (i_iinc 2 1 (k d 139))))))))))))))))))))
/-- SlabImage$Store.writeTo from 84 -/
def b_140 : am_B := fun k d => (i_iload 2 (i_aload 0 (i_getf 3 4 (i_cmpge (i_aload 0 (i_aload 1 (i_recv 3 1 (i_call k d 157 2 4 i_vret)))) (i_aload 0 (i_aload 1 (i_iload 2 (i_aload 0 (i_iload 2 (i_recv 3 1 (i_call k d 134 2 2 (i_recv 3 3 (i_call k d 154 4 5 (i_iinc 2 1 (k d 140)))))))))))))))
/-- SlabImage$ByteRow.clear from 0 -/
def b_141 : am_B := fun k d => (i_aload 0 (i_int 0 (i_putI 1 1 (i_aload 0 (i_int 0 (i_putI 1 2 i_vret))))))
/-- SlabImage$ByteRow.appendWord from 0 -/
def b_142 : am_B := fun k d => (i_aload 0 (i_iload 1 (i_int 4 (i_recv 1 2 (i_call k d 143 3 4 i_vret)))))
/-- SlabImage$ByteRow.appendNumber from 0 -/
def b_143 : am_B := fun k d => (i_iload 2 (i_int 1 (i_ii (fun x y => x - y) (i_istore 3 (k d 144)))))
/-- SlabImage$ByteRow.appendNumber from 4 -/
def b_144 : am_B := fun k d => (i_iload 3 (i_iflt i_vret (i_aload 0 (i_iload 1 (i_int 8 (i_iload 3 (i_ii (fun x y => x * y) (i_ii (fun x y => x >>> (y &&& 31)) (i_recv 1 1 (i_call k d 145 2 2 (i_iinc 3 (-1) (k d 144))))))))))))
/-- SlabImage$ByteRow.append from 0 -/
def b_145 : am_B := fun k d => (i_aload 0 (i_getf 1 1 (i_aload 0 (i_getf 1 0 (i_alen (i_cmpge (k d 146) (i_aload 0 (i_getf 1 0 (i_aload 0 (i_getf 1 1 (i_iload 1 (i_i (fun x => x.toInt8.toInt32) (i_iast 1 (fun x => x.toInt8.toInt32) (i_aload 0 (i_dup (i_getf 1 1 (i_int 1 (i_ii (fun x y => x + y) (i_putI 1 1 (k d 146))))))))))))))))))))
/-- SlabImage$ByteRow.append from 33 -/
def b_146 : am_B := fun k d => i_vret
/-- SlabImage$ByteRow.appendListHead from 0 -/
def b_147 : am_B := fun k d => (i_aload 0 (i_iload 2 (i_ifne (i_iload 1 (k d 148)) (i_int 0 (k d 148)))))
/-- SlabImage$ByteRow.appendListHead from 10 -/
def b_148 : am_B := fun k d => (i_int 4 (i_recv 1 2 (i_call k d 143 3 4 (i_aload 0 (i_iload 2 (i_int 4 (i_recv 1 2 (i_call k d 143 3 4 i_vret))))))))
/-- SlabImage$ByteRow.appendName from 0 -/
def b_149 : am_B := fun k d => (i_aload 0 (i_int 1 (i_int 4 (i_recv 1 2 (i_call k d 143 3 4 (i_aload 0 (i_iload 1 (i_int 24 (i_ii (fun x y => x <<< (y &&& 31)) (i_int 4 (i_recv 1 2 (i_call k d 143 3 4 i_vret))))))))))))
/-- SlabImage$AttributeList.writeTo from 0 -/
def b_150 : am_B := fun k d => (i_aload 1 (i_int 12 (i_aload 0 (i_getf 0 0 (i_recv 1 2 (i_call k d 147 3 3 (i_int 0 (i_istore 2 (k d 151)))))))))
/-- SlabImage$AttributeList.writeTo from 12 -/
def b_151 : am_B := fun k d => (i_iload 2 (i_aload 0 (i_getf 0 0 (i_cmpge i_vret (i_aload 1 (i_aload 0 (i_getf 0 1 (i_iload 2 (i_iald 0 (i_recv 1 1 (i_call k d 149 2 2 (i_aload 1 (i_aload 0 (i_getf 0 2 (i_iload 2 (i_iald 0 (i_recv 1 1 (i_call k d 142 2 2 (i_aload 1 (i_int 2 (i_recv 1 1 (i_call k d 142 2 2 (i_aload 1 (i_aload 0 (i_getf 0 3 (i_iload 2 (i_iald 0 (i_stat 0 (i_aload 0 (i_getf 0 2 (i_iload 2 (i_iald 0 (i_iald 0 (i_recv 1 2 (i_call k d 143 3 4 (i_aload 1 (i_aload 0 (i_getf 0 4 (i_iload 2 (i_iald 0 (i_stat 0 (i_aload 0 (i_getf 0 2 (i_iload 2 (i_iald 0 (i_iald 0 (i_recv 1 2 (i_call k d 143 3 4 (i_aload 1 (i_recv 1 0 (i_call k d 152 1 3 (i_iinc 2 1 (k d 151)))))))))))))))))))))))))))))))))))))))))))))))))))))
/-- SlabImage$ByteRow.appendPadding from 0 -/
def b_152 : am_B := fun k d => (i_aload 0 (i_getf 1 1 (i_call k d 74 1 1 (i_aload 0 (i_getf 1 1 (i_ii (fun x y => x - y) (i_istore 1 (i_int 0 (i_istore 2 (k d 153))))))))))
/-- SlabImage$ByteRow.appendPadding from 15 -/
def b_153 : am_B := fun k d => (i_iload 2 (i_iload 1 (i_cmpge i_vret (i_aload 0 (i_int 0 (i_recv 1 1 (i_call k d 145 2 2 (i_iinc 2 1 (k d 153)))))))))
/-- SlabImage$Store.writeVariable from 0 -/
def b_154 : am_B := fun k d => (i_aload 0 (i_getf 3 6 (i_iload 2 (i_aald (i_astore 4 (i_aload 1 (i_aload 0 (i_getf 3 5 (i_iload 2 (i_iald 0 (i_recv 1 1 (i_call k d 149 2 2 (i_aload 1 (i_aload 4 (i_recv 4 0 (i_call k d 76 1 1 (i_recv 1 1 (i_call k d 142 2 2 (i_aload 4 (i_recv 4 0 (i_call k d 76 1 1 (i_ifle (k d 155) (i_aload 1 (i_aload 4 (i_getf 4 1 (i_recv 1 1 (i_call k d 142 2 2 (k d 155))))))))))))))))))))))))))))
/-- SlabImage$Store.writeVariable from 44 -/
def b_155 : am_B := fun k d => (i_aload 4 (i_recv 4 0 (i_call k d 76 1 1 (i_int 1 (i_cmple (k d 156) (i_aload 1 (i_aload 4 (i_getf 4 2 (i_recv 1 1 (i_call k d 142 2 2 (k d 156)))))))))))
/-- SlabImage$Store.writeVariable from 62 -/
def b_156 : am_B := fun k d => (i_aload 4 (i_getf 4 6 (i_aload 1 (i_recv 0 1 (i_call k d 150 2 3 (i_aload 1 (i_aload 4 (i_getf 4 0 (i_recv 1 1 (i_call k d 142 2 2 (i_aload 1 (i_aload 4 (i_recv 4 0 (i_call k d 82 1 1 (i_recv 1 1 (i_call k d 142 2 2 (i_aload 1 (i_iload 3 (i_recv 1 1 (i_call k d 142 2 2 i_vret))))))))))))))))))))
/-- SlabImage$Store.writeCells from 0 -/
def b_157 : am_B := fun k d => (i_int 0 (i_istore 2 (k d 158)))
/-- SlabImage$Store.writeCells from 2 -/
def b_158 : am_B := fun k d => (i_iload 2 (i_aload 0 (i_getf 3 4 (i_cmpge (i_aload 0 (i_recv 3 0 (i_call k d 88 1 3 (i_int 1 (i_cmple (i_int 0 (k d 161)) (i_int 1 (k d 161))))))) (i_aload 0 (i_getf 3 6 (i_iload 2 (i_aald (i_getf 4 3 (i_ifne (k d 160) (i_int 0 (i_istore 3 (k d 159)))))))))))))
/-- SlabImage$Store.writeCells from 24 -/
def b_159 : am_B := fun k d => (i_iload 3 (i_aload 0 (i_getf 3 6 (i_iload 2 (i_aald (i_getf 4 4 (i_cmpge (i_aload 1 (i_recv 1 0 (i_call k d 152 1 3 (k d 160)))) (i_aload 0 (i_getf 3 6 (i_iload 2 (i_aald (i_aload 1 (i_iload 3 (i_recv 4 2 (i_call k d 163 3 4 (i_iinc 3 1 (k d 159)))))))))))))))))
/-- SlabImage$Store.writeCells from 58 -/
def b_160 : am_B := fun k d => (i_iinc 2 1 (k d 158))
/-- SlabImage$Store.writeCells from 77 -/
def b_161 : am_B := fun k d => (i_istore 2 (i_int 0 (i_istore 3 (k d 162))))
/-- SlabImage$Store.writeCells from 80 -/
def b_162 : am_B := fun k d => (i_iload 3 (i_aload 0 (i_getf 3 0 (i_cmpge i_vret (i_aload 0 (i_aload 1 (i_iload 3 (i_iload 2 (i_recv 3 3 (i_call k d 165 4 5 (i_iinc 3 1 (k d 162))))))))))))
/-- SlabImage$Variable.writeRow from 0 -/
def b_163 : am_B := fun k d => (i_int 0 (i_istore 3 (k d 164)))
/-- SlabImage$Variable.writeRow from 2 -/
def b_164 : am_B := fun k d => (i_iload 3 (i_aload 0 (i_getf 4 5 (i_cmpge i_vret (i_aload 1 (i_aload 0 (i_iload 2 (i_iload 3 (i_recv 4 2 (i_call k d 107 3 4 (i_stat 0 (i_aload 0 (i_getf 4 0 (i_iald 0 (i_recv 1 2 (i_call k d 143 3 4 (i_iinc 3 1 (k d 164))))))))))))))))))
/-- SlabImage$Store.writeRecord from 0 -/
def b_165 : am_B := fun k d => (i_int 0 (i_istore 4 (k d 166)))
/-- SlabImage$Store.writeRecord from 3 -/
def b_166 : am_B := fun k d => (i_iload 4 (i_aload 0 (i_getf 3 4 (i_cmpge i_vret (i_aload 0 (i_getf 3 6 (i_iload 4 (i_aald (i_getf 4 3 (i_ifeq (k d 167) (i_aload 0 (i_getf 3 6 (i_iload 4 (i_aald (i_aload 1 (i_iload 2 (i_recv 4 2 (i_call k d 163 3 4 (i_iload 3 (i_ifeq (k d 167) (i_aload 1 (i_recv 1 0 (i_call k d 152 1 3 (k d 167))))))))))))))))))))))))
/-- SlabImage$Store.writeRecord from 45 -/
def b_167 : am_B := fun k d => (i_iinc 4 1 (k d 166))
/-- SlabImage$ByteRow.at from 0 -/
def b_168 : am_B := fun k d => (i_iload 1 (i_iflt (k d 169) (i_iload 1 (i_aload 0 (i_getf 1 1 (i_cmpge (k d 169) (i_aload 0 (i_getf 1 0 (i_iload 1 (i_iald 1 (i_int 255 (i_ii (fun x y => x &&& y) (k d 170)))))))))))))
/-- SlabImage$ByteRow.at from 25 -/
def b_169 : am_B := fun k d => (i_int 0 (k d 170))
/-- SlabImage$ByteRow.at from 26 -/
def b_170 : am_B := fun k d => i_iret
/-- SlabImage.add from 0 -/
def b_171 : am_B := fun k d => (i_iload 3 (i_int 1 (i_cmplt (k d 172) (i_iload 3 (i_int 8 (i_cmpgt (k d 172) (i_aload 0 (i_getf 5 6 (i_getf 1 1 (i_iload 3 (i_ii (fun x y => x + y) (i_int 800 (i_cmple (i_int 0 (i_istore 4 (k d 173))) (k d 172))))))))))))))
/-- SlabImage.add from 26 -/
def b_172 : am_B := fun k d => (i_int 0 i_zret)
/-- SlabImage.add from 31 -/
def b_173 : am_B := fun k d => (i_iload 4 (i_iload 3 (i_cmpge (i_int 1 i_zret) (i_aload 0 (i_getf 5 6 (i_lload 1 (i_int 56 (i_int 8 (i_iload 4 (i_ii (fun x y => x * y) (i_ii (fun x y => x - y) (i_lsh (fun x y => (x.toUInt64 >>> (y.toInt64.toUInt64 &&& Int64.toUInt64 63)).toInt64) (i_l2i (i_recv 1 1 (i_call k d 145 2 2 (i_iinc 4 1 (k d 173)))))))))))))))))
/-- SlabImage.erase from 0 -/
def b_174 : am_B := fun k d => (i_aload 0 (i_getf 5 6 (i_recv 1 0 (i_call k d 141 1 1 i_vret))))
/-- SlabImage.open from 0 -/
def b_175 : am_B := fun k d => (i_aload 0 (i_getf 5 1 (i_recv 3 0 (i_call k d 176 1 2 (i_aload 0 (i_getf 5 1 (i_aload 0 (i_getf 5 6 (i_recv 3 1 (i_call k d 179 2 3 (i_ifne (i_aload 0 (i_getf 5 1 (i_aload 0 (i_getf 5 7 (i_recv 3 1 (i_call k d 138 2 3 (i_aload 0 (i_getf 5 7 (i_aload 0 (i_getf 5 6 (i_recv 1 1 (i_call k d 218 2 3 (i_ifne (i_aload 0 (i_getf 5 0 (i_astore 1 (i_aload 0 (i_aload 0 (i_getf 5 1 (i_putR 5 0 (i_aload 0 (i_aload 1 (i_putR 5 1 (i_aload 0 (i_int 0 (i_putZ 5 2 (i_aload 0 (i_getf 5 6 (i_getf 1 1 i_iret)))))))))))))))) (i_int (-9) i_iret)))))))))))))) (i_int (-9) i_iret))))))))))))
/-- SlabImage$Store.clear from 0 -/
def b_176 : am_B := fun k d => (i_aload 0 (i_int 0 (i_putI 3 0 (i_aload 0 (i_int 0 (i_putI 3 1 (i_aload 0 (i_int 0 (i_putI 3 4 (i_aload 0 (i_getf 3 7 (i_recv 0 0 (i_call k d 178 1 1 (i_int 0 (i_istore 1 (k d 177))))))))))))))))
/-- SlabImage$Store.clear from 24 -/
def b_177 : am_B := fun k d => (i_iload 1 (i_int 5 (i_cmpge i_vret (i_aload 0 (i_getf 3 6 (i_iload 1 (i_aald (i_getf 4 6 (i_recv 0 0 (i_call k d 178 1 1 (i_iinc 1 1 (k d 177))))))))))))
/-- SlabImage$AttributeList.clear from 0 -/
def b_178 : am_B := fun k d => (i_aload 0 (i_int 0 (i_putI 0 0 i_vret)))
/-- SlabImage$Store.readFrom from 0 -/
def b_179 : am_B := fun k d => (i_aload 1 (i_recv 1 0 (i_call k d 183 1 1 (i_aload 1 (i_recv 1 0 (i_call k d 184 1 1 (i_pop (i_aload 1 (i_recv 1 0 (i_call k d 184 1 1 (i_istore 2 (i_aload 0 (i_aload 1 (i_recv 3 1 (i_call k d 188 2 6 (i_ifeq (k d 180) (i_aload 0 (i_getf 3 7 (i_aload 1 (i_recv 0 1 (i_call k d 193 2 8 (i_ifeq (k d 180) (i_aload 0 (i_aload 1 (i_recv 3 1 (i_call k d 199 2 4 (i_ifne (i_iload 2 (i_iflt (k d 181) (i_iload 2 (i_ifle (k d 182) (i_aload 0 (i_recv 3 0 (i_call k d 88 1 3 (i_ifne (k d 182) (k d 181))))))))) (k d 180))))))))))))))))))))))))))))
/-- SlabImage$Store.readFrom from 41 -/
def b_180 : am_B := fun k d => (i_int 0 i_zret)
/-- SlabImage$Store.readFrom from 58 -/
def b_181 : am_B := fun k d => (i_int 0 i_zret)
/-- SlabImage$Store.readFrom from 60 -/
def b_182 : am_B := fun k d => (i_aload 0 (i_iload 2 (i_i2l (i_recv 3 1 (i_call k d 69 2 3 (i_aload 1 (i_getf 1 1 (i_i2l (i_lcmp (i_ifeq (i_aload 0 (i_iload 2 (i_putI 3 0 (i_aload 0 (i_aload 1 (i_recv 3 1 (i_call k d 207 2 4 (i_int 1 i_zret)))))))) (i_int 0 i_zret)))))))))))
/-- SlabImage$ByteRow.rewind from 0 -/
def b_183 : am_B := fun k d => (i_aload 0 (i_int 0 (i_putI 1 2 i_vret)))
/-- SlabImage$ByteRow.takeWord from 0 -/
def b_184 : am_B := fun k d => (i_aload 0 (i_int 4 (i_recv 1 1 (i_call k d 185 2 4 i_iret))))
/-- SlabImage$ByteRow.takeNumber from 0 -/
def b_185 : am_B := fun k d => (i_int 0 (i_istore 2 (i_int 0 (i_istore 3 (k d 186)))))
/-- SlabImage$ByteRow.takeNumber from 4 -/
def b_186 : am_B := fun k d => (i_iload 3 (i_iload 1 (i_cmpge (i_iload 2 i_iret) (i_iload 2 (i_int 8 (i_ii (fun x y => x <<< (y &&& 31)) (i_aload 0 (i_getf 1 2 (i_aload 0 (i_getf 1 1 (i_cmpge (i_int 0 (k d 187)) (i_aload 0 (i_getf 1 0 (i_aload 0 (i_getf 1 2 (i_iald 1 (i_int 255 (i_ii (fun x y => x &&& y) (k d 187)))))))))))))))))))
/-- SlabImage$ByteRow.takeNumber from 41 -/
def b_187 : am_B := fun k d => (i_ii (fun x y => x ||| y) (i_istore 2 (i_aload 0 (i_dup (i_getf 1 2 (i_int 1 (i_ii (fun x y => x + y) (i_putI 1 2 (i_iinc 3 1 (k d 186))))))))))
/-- SlabImage$Store.readDimensions from 0 -/
def b_188 : am_B := fun k d => (i_aload 1 (i_recv 1 0 (i_call k d 191 1 1 (i_istore 2 (i_iload 2 (i_iflt (k d 189) (i_iload 2 (i_int 4 (i_cmple (i_int 0 (i_istore 3 (k d 190))) (k d 189))))))))))
/-- SlabImage$Store.readDimensions from 14 -/
def b_189 : am_B := fun k d => (i_int 0 i_zret)
/-- SlabImage$Store.readDimensions from 18 -/
def b_190 : am_B := fun k d => (i_iload 3 (i_iload 2 (i_cmpge (i_int 1 i_zret) (i_aload 1 (i_recv 1 0 (i_call k d 192 1 1 (i_istore 4 (i_aload 1 (i_recv 1 0 (i_call k d 184 1 1 (i_istore 5 (i_aload 0 (i_iload 4 (i_iload 5 (i_recv 3 2 (i_call k d 9 3 3 (i_ifge (i_iinc 3 1 (k d 190)) (i_int 0 i_zret))))))))))))))))))
/-- SlabImage$ByteRow.takeCount from 0 -/
def b_191 : am_B := fun k d => (i_aload 0 (i_int 4 (i_recv 1 1 (i_call k d 185 2 4 (i_pop (i_aload 0 (i_int 4 (i_recv 1 1 (i_call k d 185 2 4 i_iret)))))))))
/-- SlabImage$ByteRow.takeName from 0 -/
def b_192 : am_B := fun k d => (i_aload 0 (i_int 4 (i_recv 1 1 (i_call k d 185 2 4 (i_pop (i_aload 0 (i_int 4 (i_recv 1 1 (i_call k d 185 2 4 (i_int 24 (i_ii (fun x y => (x.toUInt32 >>> (y.toUInt32 &&& Int32.toUInt32 31)).toInt32) i_iret)))))))))))
/-- SlabImage$AttributeList.readFrom from 0 -/
def b_193 : am_B := fun k d => (i_aload 1 (i_recv 1 0 (i_call k d 191 1 1 (i_istore 2 (i_iload 2 (i_iflt (k d 194) (i_iload 2 (i_int 3 (i_cmple (i_int 0 (i_istore 3 (k d 195))) (k d 194))))))))))
/-- SlabImage$AttributeList.readFrom from 14 -/
def b_194 : am_B := fun k d => (i_int 0 i_zret)
/-- SlabImage$AttributeList.readFrom from 18 -/
def b_195 : am_B := fun k d => (i_iload 3 (i_iload 2 (i_cmpge (i_int 1 i_zret) (i_aload 1 (i_recv 1 0 (i_call k d 192 1 1 (i_istore 4 (i_aload 1 (i_recv 1 0 (i_call k d 184 1 1 (i_istore 5 (i_aload 1 (i_recv 1 0 (i_call k d 184 1 1 (i_pop (i_iload 5 (i_call k d 27 1 1 (i_ifne (i_aload 1 (i_iload 5 (i_recv 1 1 (i_call k d 196 2 3 (i_istore 6 (i_aload 1 (i_iload 5 (i_recv 1 1 (i_call k d 196 2 3 (i_istore 7 (i_aload 1 (i_recv 1 0 (i_call k d 198 1 1 (i_aload 0 (i_iload 4 (i_iload 5 (i_iload 6 (i_iload 7 (i_recv 0 4 (i_call k d 50 5 6 (i_ifge (i_iinc 3 1 (k d 195)) (i_int 0 i_zret)))))))))))))))))))))) (i_int 0 i_zret)))))))))))))))))))
/-- SlabImage$ByteRow.takeValue from 0 -/
def b_196 : am_B := fun k d => (i_aload 0 (i_stat 0 (i_iload 1 (i_iald 0 (i_recv 1 1 (i_call k d 185 2 4 (i_istore 2 (i_iload 1 (i_int 1 (i_cmpne (i_iload 1 (i_int 3 (i_cmpne (i_iload 2 (k d 197)) (i_iload 2 (i_i (fun x => x.toInt16.toInt32) (k d 197)))))) (i_iload 2 (i_i (fun x => x.toInt8.toInt32) i_iret))))))))))))
/-- SlabImage$ByteRow.takeValue from 29 -/
def b_197 : am_B := fun k d => i_iret
/-- SlabImage$ByteRow.takePadding from 0 -/
def b_198 : am_B := fun k d => (i_aload 0 (i_aload 0 (i_getf 1 2 (i_call k d 74 1 1 (i_putI 1 2 i_vret)))))
/-- SlabImage$Store.readVariables from 0 -/
def b_199 : am_B := fun k d => (i_aload 1 (i_recv 1 0 (i_call k d 191 1 1 (i_istore 2 (i_iload 2 (i_iflt (k d 200) (i_iload 2 (i_int 5 (i_cmple (i_int 0 (i_istore 3 (k d 201))) (k d 200))))))))))
/-- SlabImage$Store.readVariables from 14 -/
def b_200 : am_B := fun k d => (i_int 0 i_zret)
/-- SlabImage$Store.readVariables from 18 -/
def b_201 : am_B := fun k d => (i_iload 3 (i_iload 2 (i_cmpge (i_int 1 i_zret) (i_aload 0 (i_aload 1 (i_aload 0 (i_getf 3 6 (i_iload 3 (i_aald (i_getf 4 6 (i_recv 3 2 (i_call k d 202 3 8 (i_ifne (i_iinc 3 1 (k d 201)) (i_int 0 i_zret))))))))))))))
/-- SlabImage$Store.readVariable from 0 -/
def b_202 : am_B := fun k d => (i_aload 1 (i_recv 1 0 (i_call k d 192 1 1 (i_istore 3 (i_aload 1 (i_recv 1 0 (i_call k d 184 1 1 (i_istore 4 (i_iload 4 (i_iflt (k d 203) (i_iload 4 (i_int 2 (i_cmple (i_iload 4 (i_ifle (i_int (-1) (k d 204)) (i_aload 1 (i_recv 1 0 (i_call k d 184 1 1 (k d 204)))))) (k d 203))))))))))))))
/-- SlabImage$Store.readVariable from 22 -/
def b_203 : am_B := fun k d => (i_int 0 i_zret)
/-- SlabImage$Store.readVariable from 37 -/
def b_204 : am_B := fun k d => (i_istore 5 (i_iload 4 (i_int 1 (i_cmple (i_int (-1) (k d 205)) (i_aload 1 (i_recv 1 0 (i_call k d 184 1 1 (k d 205))))))))
/-- SlabImage$Store.readVariable from 53 -/
def b_205 : am_B := fun k d => (i_istore 6 (i_aload 2 (i_aload 1 (i_recv 0 1 (i_call k d 193 2 8 (i_ifne (i_aload 1 (i_recv 1 0 (i_call k d 184 1 1 (i_istore 7 (i_aload 1 (i_recv 1 0 (i_call k d 184 1 1 (i_pop (i_aload 1 (i_recv 1 0 (i_call k d 184 1 1 (i_pop (i_aload 0 (i_iload 3 (i_iload 7 (i_iload 5 (i_iload 6 (i_recv 3 4 (i_call k d 23 5 5 (i_iflt (i_int 0 (k d 206)) (i_int 1 (k d 206)))))))))))))))))))))) (i_int 0 i_zret)))))))
/-- SlabImage$Store.readVariable from 100 -/
def b_206 : am_B := fun k d => i_zret
/-- SlabImage$Store.readCells from 0 -/
def b_207 : am_B := fun k d => (i_int 0 (i_istore 2 (k d 208)))
/-- SlabImage$Store.readCells from 2 -/
def b_208 : am_B := fun k d => (i_iload 2 (i_aload 0 (i_getf 3 4 (i_cmpge (i_aload 0 (i_recv 3 0 (i_call k d 88 1 3 (i_int 1 (i_cmple (i_int 0 (k d 211)) (i_int 1 (k d 211))))))) (i_aload 0 (i_getf 3 6 (i_iload 2 (i_aald (i_getf 4 3 (i_ifne (k d 210) (i_int 0 (i_istore 3 (k d 209)))))))))))))
/-- SlabImage$Store.readCells from 24 -/
def b_209 : am_B := fun k d => (i_iload 3 (i_aload 0 (i_getf 3 6 (i_iload 2 (i_aald (i_getf 4 4 (i_cmpge (i_aload 1 (i_recv 1 0 (i_call k d 198 1 1 (k d 210)))) (i_aload 0 (i_getf 3 6 (i_iload 2 (i_aald (i_aload 1 (i_iload 3 (i_recv 4 2 (i_call k d 213 3 4 (i_iinc 3 1 (k d 209)))))))))))))))))
/-- SlabImage$Store.readCells from 58 -/
def b_210 : am_B := fun k d => (i_iinc 2 1 (k d 208))
/-- SlabImage$Store.readCells from 77 -/
def b_211 : am_B := fun k d => (i_istore 2 (i_int 0 (i_istore 3 (k d 212))))
/-- SlabImage$Store.readCells from 80 -/
def b_212 : am_B := fun k d => (i_iload 3 (i_aload 0 (i_getf 3 0 (i_cmpge i_vret (i_aload 0 (i_aload 1 (i_iload 3 (i_iload 2 (i_recv 3 3 (i_call k d 215 4 5 (i_iinc 3 1 (k d 212))))))))))))
/-- SlabImage$Variable.readRow from 0 -/
def b_213 : am_B := fun k d => (i_int 0 (i_istore 3 (k d 214)))
/-- SlabImage$Variable.readRow from 2 -/
def b_214 : am_B := fun k d => (i_iload 3 (i_aload 0 (i_getf 4 5 (i_cmpge i_vret (i_aload 0 (i_iload 2 (i_iload 3 (i_aload 1 (i_aload 0 (i_getf 4 0 (i_recv 1 1 (i_call k d 196 2 3 (i_recv 4 3 (i_call k d 99 4 5 (i_iinc 3 1 (k d 214))))))))))))))))
/-- SlabImage$Store.readRecord from 0 -/
def b_215 : am_B := fun k d => (i_int 0 (i_istore 4 (k d 216)))
/-- SlabImage$Store.readRecord from 3 -/
def b_216 : am_B := fun k d => (i_iload 4 (i_aload 0 (i_getf 3 4 (i_cmpge i_vret (i_aload 0 (i_getf 3 6 (i_iload 4 (i_aald (i_getf 4 3 (i_ifeq (k d 217) (i_aload 0 (i_getf 3 6 (i_iload 4 (i_aald (i_aload 1 (i_iload 2 (i_recv 4 2 (i_call k d 213 3 4 (i_iload 3 (i_ifeq (k d 217) (i_aload 1 (i_recv 1 0 (i_call k d 198 1 1 (k d 217))))))))))))))))))))))))
/-- SlabImage$Store.readRecord from 45 -/
def b_217 : am_B := fun k d => (i_iinc 4 1 (k d 216))
/-- SlabImage$ByteRow.matches from 0 -/
def b_218 : am_B := fun k d => (i_aload 0 (i_getf 1 1 (i_aload 1 (i_getf 1 1 (i_cmpeq (i_int 0 (i_istore 2 (k d 219))) (i_int 0 i_zret))))))
/-- SlabImage$ByteRow.matches from 15 -/
def b_219 : am_B := fun k d => (i_iload 2 (i_aload 0 (i_getf 1 1 (i_cmpge (i_int 1 i_zret) (i_aload 0 (i_getf 1 0 (i_iload 2 (i_iald 1 (i_aload 1 (i_getf 1 0 (i_iload 2 (i_iald 1 (i_cmpeq (i_iinc 2 1 (k d 219)) (i_int 0 i_zret))))))))))))))
/-- SlabImageModel.<init> from 0 -/
def b_220 : am_B := fun k d => (i_aload 0 (i_obj d (i_aload 0 (i_int 2 (i_newi 0 (i_putR 6 2 (i_aload 0 (i_int 8 (i_newi 0 (i_putR 6 3 (i_aload 0 (i_int 8 (i_newi 0 (i_putR 6 4 (i_aload 0 (i_int 2 (i_newi 0 (i_putR 6 5 (i_aload 0 (i_int 10 (i_newi 0 (i_putR 6 6 (i_aload 0 (i_int 10 (i_newi 0 (i_putR 6 7 (i_aload 0 (i_int 10 (i_newi 0 (i_putR 6 8 (i_aload 0 (i_int 20 (i_newi 0 (i_putR 6 9 (i_aload 0 (i_int 12 (i_newi 0 (i_putR 6 10 (i_aload 0 (i_int 36 (i_newi 0 (i_putR 6 11 (i_aload 0 (i_int 36 (i_newi 0 (i_putR 6 12 (i_aload 0 (i_int 36 (i_newi 0 (i_putR 6 13 (i_aload 0 (i_int 36 (i_newi 0 (i_putR 6 14 (i_aload 0 (i_int 2 (i_newi 0 (i_putR 6 15 (i_aload 0 (i_int 8000 (i_newi 0 (i_putR 6 16 (i_aload 0 (i_int 2 (i_newi 0 (i_putR 6 17 (i_aload 0 (i_int 2 (i_newi 0 (i_dup (i_int 0 (i_int 1 (i_iast 0 (fun x => x) (i_dup (i_int 1 (i_int 1 (i_iast 0 (fun x => x) (i_putR 6 18 (i_aload 0 (i_int 2 (i_newi 0 (i_dup (i_int 0 (i_int 1 (i_iast 0 (fun x => x) (i_dup (i_int 1 (i_int 1 (i_iast 0 (fun x => x) (i_putR 6 19 (i_aload 0 (i_int 800 (i_newi 0 (i_putR 6 20 (i_aload 0 (i_int 800 (i_newi 0 (i_putR 6 22 i_vret))))))))))))))))))))))))))))))))))))))))))))))))))))))))))))))))))))))))))))))))))))))))))))))))))
/-- SlabImageModel.dimension from 0 -/
def b_221 : am_B := fun k d => (i_aload 0 (i_getf 6 1 (i_ifeq (i_iload 1 (i_call k d 225 1 1 (i_ifeq (k d 222) (i_iload 2 (i_iflt (k d 222) (i_iload 2 (i_int 8 (i_cmple (i_aload 0 (i_aload 0 (i_getf 6 0 (i_iload 1 (i_int (-1) (i_recv 6 3 (i_call k d 228 4 6 (i_ifeq (i_aload 0 (i_getf 6 2 (i_aload 0 (i_getf 6 0 (i_iald 0 (i_int 4 (i_cmpeq (k d 223) (i_iload 2 (i_ifne (k d 224) (i_aload 0 (i_aload 0 (i_getf 6 0 (i_recv 6 1 (i_call k d 233 2 4 (i_ifle (k d 224) (k d 223)))))))))))))))) (i_int (-4) i_iret))))))))) (k d 222))))))))) (i_int (-1) i_iret))))
/-- SlabImageModel.dimension from 26 -/
def b_222 : am_B := fun k d => (i_int (-2) i_iret)
/-- SlabImageModel.dimension from 73 -/
def b_223 : am_B := fun k d => (i_int (-5) i_iret)
/-- SlabImageModel.dimension from 76 -/
def b_224 : am_B := fun k d => (i_aload 0 (i_getf 6 2 (i_aload 0 (i_getf 6 0 (i_iald 0 (i_istore 3 (i_aload 0 (i_getf 6 3 (i_int 4 (i_aload 0 (i_getf 6 0 (i_ii (fun x y => x * y) (i_iload 3 (i_ii (fun x y => x + y) (i_iload 1 (i_iast 0 (fun x => x) (i_aload 0 (i_getf 6 4 (i_int 4 (i_aload 0 (i_getf 6 0 (i_ii (fun x y => x * y) (i_iload 3 (i_ii (fun x y => x + y) (i_iload 2 (i_iast 0 (fun x => x) (i_aload 0 (i_getf 6 2 (i_aload 0 (i_getf 6 0 (i_iload 3 (i_int 1 (i_ii (fun x y => x + y) (i_iast 0 (fun x => x) (i_iload 3 i_iret)))))))))))))))))))))))))))))))))))
/-- SlabImageModel.isName from 0 -/
def b_225 : am_B := fun k d => (i_iload 0 (i_int 33 (i_cmplt (k d 226) (i_iload 0 (i_int 126 (i_cmpgt (k d 226) (i_int 1 (k d 227))))))))
/-- SlabImageModel.isName from 16 -/
def b_226 : am_B := fun k d => (i_int 0 (k d 227))
/-- SlabImageModel.isName from 17 -/
def b_227 : am_B := fun k d => i_zret
/-- SlabImageModel.dimNamed from 0 -/
def b_228 : am_B := fun k d => (i_int 0 (i_istore 4 (i_int 0 (i_istore 5 (k d 229)))))
/-- SlabImageModel.dimNamed from 6 -/
def b_229 : am_B := fun k d => (i_iload 5 (i_aload 0 (i_getf 6 2 (i_iload 1 (i_iald 0 (i_cmpge (i_iload 4 i_zret) (i_iload 4 (i_ifne (k d 230) (i_iload 5 (i_iload 3 (i_cmpeq (k d 231) (i_aload 0 (i_getf 6 3 (i_int 4 (i_iload 1 (i_ii (fun x y => x * y) (i_iload 5 (i_ii (fun x y => x + y) (i_iald 0 (i_iload 2 (i_cmpne (k d 231) (k d 230))))))))))))))))))))))
/-- SlabImageModel.dimNamed from 43 -/
def b_230 : am_B := fun k d => (i_int 1 (k d 232))
/-- SlabImageModel.dimNamed from 47 -/
def b_231 : am_B := fun k d => (i_int 0 (k d 232))
/-- SlabImageModel.dimNamed from 48 -/
def b_232 : am_B := fun k d => (i_istore 4 (i_iinc 5 1 (k d 229)))
/-- SlabImageModel.growing from 0 -/
def b_233 : am_B := fun k d => (i_int 0 (i_istore 2 (i_int 0 (i_istore 3 (k d 234)))))
/-- SlabImageModel.growing from 4 -/
def b_234 : am_B := fun k d => (i_iload 3 (i_aload 0 (i_getf 6 2 (i_iload 1 (i_iald 0 (i_cmpge (i_iload 2 i_iret) (i_aload 0 (i_getf 6 4 (i_int 4 (i_iload 1 (i_ii (fun x y => x * y) (i_iload 3 (i_ii (fun x y => x + y) (i_iald 0 (i_ifne (i_iload 2 (k d 235)) (i_iload 2 (i_int 1 (i_ii (fun x y => x + y) (k d 235)))))))))))))))))))
/-- SlabImageModel.growing from 34 -/
def b_235 : am_B := fun k d => (i_istore 2 (i_iinc 3 1 (k d 234)))
/-- SlabImageModel.variable from 0 -/
def b_236 : am_B := fun k d => (i_aload 0 (i_getf 6 1 (i_ifeq (i_iload 1 (i_call k d 225 1 1 (i_ifeq (k d 237) (i_iload 2 (i_int 1 (i_cmplt (k d 237) (i_iload 2 (i_int 4 (i_cmple (i_iload 3 (i_int (-1) (i_cmpeq (k d 238) (i_aload 0 (i_iload 3 (i_recv 6 1 (i_call k d 244 2 2 (i_ifeq (k d 240) (k d 238))))))))) (k d 237)))))))))) (i_int (-1) i_iret))))
/-- SlabImageModel.variable from 26 -/
def b_237 : am_B := fun k d => (i_int (-2) i_iret)
/-- SlabImageModel.variable from 42 -/
def b_238 : am_B := fun k d => (i_iload 4 (i_int (-1) (i_cmpeq (k d 239) (i_aload 0 (i_iload 4 (i_recv 6 1 (i_call k d 244 2 2 (i_ifeq (k d 240) (k d 239)))))))))
/-- SlabImageModel.variable from 57 -/
def b_239 : am_B := fun k d => (i_iload 3 (i_int (-1) (i_cmpne (k d 241) (i_iload 4 (i_int (-1) (i_cmpeq (k d 241) (k d 240)))))))
/-- SlabImageModel.variable from 68 -/
def b_240 : am_B := fun k d => (i_int (-3) i_iret)
/-- SlabImageModel.variable from 71 -/
def b_241 : am_B := fun k d => (i_iload 4 (i_int (-1) (i_cmpeq (k d 242) (i_aload 0 (i_getf 6 4 (i_int 4 (i_aload 0 (i_getf 6 0 (i_ii (fun x y => x * y) (i_iload 4 (i_ii (fun x y => x + y) (i_iald 0 (i_ifne (k d 242) (i_int (-2) i_iret))))))))))))))
/-- SlabImageModel.variable from 97 -/
def b_242 : am_B := fun k d => (i_aload 0 (i_aload 0 (i_getf 6 0 (i_iload 1 (i_int (-1) (i_recv 6 3 (i_call k d 247 4 6 (i_ifeq (i_aload 0 (i_getf 6 5 (i_aload 0 (i_getf 6 0 (i_iald 0 (i_int 5 (i_cmpne (i_aload 0 (i_getf 6 5 (i_aload 0 (i_getf 6 0 (i_iald 0 (i_istore 5 (i_int 5 (i_aload 0 (i_getf 6 0 (i_ii (fun x y => x * y) (i_iload 5 (i_ii (fun x y => x + y) (i_istore 6 (i_aload 0 (i_getf 6 6 (i_iload 6 (i_iload 1 (i_iast 0 (fun x => x) (i_aload 0 (i_getf 6 7 (i_iload 6 (i_iload 2 (i_iast 0 (fun x => x) (i_aload 0 (i_getf 6 8 (i_iload 6 (i_iload 3 (i_int (-1) (i_cmpne (i_iload 4 (i_int (-1) (i_cmpne (i_int 2 (k d 243)) (i_int 1 (k d 243))))) (i_int 0 (k d 243))))))))))))))))))))))))))))))) (i_int (-5) i_iret)))))))) (i_int (-4) i_iret)))))))))
/-- SlabImageModel.variable from 193 -/
def b_243 : am_B := fun k d => (i_iast 0 (fun x => x) (i_aload 0 (i_getf 6 9 (i_int 2 (i_iload 6 (i_ii (fun x y => x * y) (i_iload 3 (i_iast 0 (fun x => x) (i_aload 0 (i_getf 6 9 (i_int 2 (i_iload 6 (i_ii (fun x y => x * y) (i_int 1 (i_ii (fun x y => x + y) (i_iload 4 (i_iast 0 (fun x => x) (i_aload 0 (i_getf 6 10 (i_int 6 (i_aload 0 (i_getf 6 0 (i_ii (fun x y => x * y) (i_iload 5 (i_ii (fun x y => x + y) (i_int 1 (i_ii (fun x y => x + y) (i_int 0 (i_iast 0 (fun x => x) (i_aload 0 (i_aload 0 (i_getf 6 0 (i_iload 5 (i_recv 6 2 (i_call k d 252 3 4 (i_aload 0 (i_getf 6 5 (i_aload 0 (i_getf 6 0 (i_iload 5 (i_int 1 (i_ii (fun x y => x + y) (i_iast 0 (fun x => x) (i_iload 5 i_iret))))))))))))))))))))))))))))))))))))))))))))
/-- SlabImageModel.isDimension from 0 -/
def b_244 : am_B := fun k d => (i_iload 1 (i_iflt (k d 245) (i_iload 1 (i_aload 0 (i_getf 6 2 (i_aload 0 (i_getf 6 0 (i_iald 0 (i_cmpge (k d 245) (i_int 1 (k d 246)))))))))))
/-- SlabImageModel.isDimension from 21 -/
def b_245 : am_B := fun k d => (i_int 0 (k d 246))
/-- SlabImageModel.isDimension from 22 -/
def b_246 : am_B := fun k d => i_zret
/-- SlabImageModel.varNamed from 0 -/
def b_247 : am_B := fun k d => (i_int 0 (i_istore 4 (i_int 0 (i_istore 5 (k d 248)))))
/-- SlabImageModel.varNamed from 6 -/
def b_248 : am_B := fun k d => (i_iload 5 (i_aload 0 (i_getf 6 5 (i_iload 1 (i_iald 0 (i_cmpge (i_iload 4 i_zret) (i_iload 4 (i_ifne (k d 249) (i_iload 5 (i_iload 3 (i_cmpeq (k d 250) (i_aload 0 (i_getf 6 6 (i_int 5 (i_iload 1 (i_ii (fun x y => x * y) (i_iload 5 (i_ii (fun x y => x + y) (i_iald 0 (i_iload 2 (i_cmpne (k d 250) (k d 249))))))))))))))))))))))
/-- SlabImageModel.varNamed from 43 -/
def b_249 : am_B := fun k d => (i_int 1 (k d 251))
/-- SlabImageModel.varNamed from 47 -/
def b_250 : am_B := fun k d => (i_int 0 (k d 251))
/-- SlabImageModel.varNamed from 48 -/
def b_251 : am_B := fun k d => (i_istore 4 (i_iinc 5 1 (k d 248)))
/-- SlabImageModel.blank from 0 -/
def b_252 : am_B := fun k d => (i_int 0 (i_istore 3 (k d 253)))
/-- SlabImageModel.blank from 2 -/
def b_253 : am_B := fun k d => (i_iload 3 (i_int 800 (i_cmpge i_vret (i_aload 0 (i_getf 6 16 (i_int 800 (i_int 5 (i_iload 1 (i_ii (fun x y => x * y) (i_iload 2 (i_ii (fun x y => x + y) (i_ii (fun x y => x * y) (i_iload 3 (i_ii (fun x y => x + y) (i_aload 0 (i_getf 6 7 (i_int 5 (i_iload 1 (i_ii (fun x y => x * y) (i_iload 2 (i_ii (fun x y => x + y) (i_iald 0 (i_call k d 254 1 1 (i_iast 0 (fun x => x) (i_iinc 3 1 (k d 253))))))))))))))))))))))))))
/-- SlabImageModel.fill from 0 -/
def b_254 : am_B := fun k d => (i_iload 0 (i_int 1 (i_cmpne (i_iload 0 (i_int 2 (i_cmpne (i_iload 0 (i_int 3 (i_cmpne (i_int (-2147483647) (k d 255)) (i_int (-32767) (k d 255))))) (i_int 0 (k d 255))))) (i_int (-127) (k d 255)))))
/-- SlabImageModel.fill from 32 -/
def b_255 : am_B := fun k d => i_iret
/-- SlabImageModel.attribute from 0 -/
def b_256 : am_B := fun k d => (i_aload 0 (i_getf 6 1 (i_ifeq (i_iload 1 (i_int (-1) (i_cmpeq (k d 257) (i_aload 0 (i_iload 1 (i_recv 6 1 (i_call k d 261 2 2 (i_ifne (k d 257) (i_int (-3) i_iret))))))))) (i_int (-1) i_iret))))
/-- SlabImageModel.attribute from 25 -/
def b_257 : am_B := fun k d => (i_iload 2 (i_call k d 225 1 1 (i_ifeq (k d 258) (i_iload 3 (i_int 1 (i_cmplt (k d 258) (i_iload 3 (i_int 4 (i_cmple (i_iload 3 (i_iload 4 (i_call k d 264 2 2 (i_ifeq (k d 259) (i_iload 3 (i_iload 5 (i_call k d 264 2 2 (i_ifne (i_aload 0 (i_iload 1 (i_int 1 (i_ii (fun x y => x + y) (i_iload 2 (i_recv 6 2 (i_call k d 270 3 5 (i_istore 6 (i_int 6 (i_aload 0 (i_getf 6 0 (i_ii (fun x y => x * y) (i_iload 1 (i_ii (fun x y => x + y) (i_int 1 (i_ii (fun x y => x + y) (i_istore 7 (i_iload 6 (i_int 3 (i_iload 7 (i_ii (fun x y => x * y) (i_aload 0 (i_getf 6 10 (i_iload 7 (i_iald 0 (i_ii (fun x y => x + y) (i_cmpne (k d 260) (i_aload 0 (i_getf 6 10 (i_iload 7 (i_iald 0 (i_int 3 (i_cmpne (i_aload 0 (i_getf 6 10 (i_iload 7 (i_dup2 (i_iald 0 (i_int 1 (i_ii (fun x y => x + y) (i_iast 0 (fun x => x) (k d 260))))))))) (i_int (-5) i_iret)))))))))))))))))))))))))))))))))) (k d 259))))))))) (k d 258))))))))))
/-- SlabImageModel.attribute from 42 -/
def b_258 : am_B := fun k d => (i_int (-2) i_iret)
/-- SlabImageModel.attribute from 63 -/
def b_259 : am_B := fun k d => (i_int (-6) i_iret)
/-- SlabImageModel.attribute from 131 -/
def b_260 : am_B := fun k d => (i_aload 0 (i_getf 6 11 (i_iload 6 (i_iload 2 (i_iast 0 (fun x => x) (i_aload 0 (i_getf 6 12 (i_iload 6 (i_iload 3 (i_iast 0 (fun x => x) (i_aload 0 (i_getf 6 13 (i_iload 6 (i_iload 4 (i_iast 0 (fun x => x) (i_aload 0 (i_getf 6 14 (i_iload 6 (i_iload 5 (i_iast 0 (fun x => x) (i_int 0 i_iret)))))))))))))))))))))
/-- SlabImageModel.isVariable from 0 -/
def b_261 : am_B := fun k d => (i_iload 1 (i_iflt (k d 262) (i_iload 1 (i_aload 0 (i_getf 6 5 (i_aload 0 (i_getf 6 0 (i_iald 0 (i_cmpge (k d 262) (i_int 1 (k d 263)))))))))))
/-- SlabImageModel.isVariable from 21 -/
def b_262 : am_B := fun k d => (i_int 0 (k d 263))
/-- SlabImageModel.isVariable from 22 -/
def b_263 : am_B := fun k d => i_zret
/-- SlabImageModel.fits from 0 -/
def b_264 : am_B := fun k d => (i_iload 0 (i_int 4 (i_cmpeq (k d 267) (i_iload 0 (i_int 3 (i_cmpne (k d 265) (i_iload 1 (i_int (-32768) (i_cmplt (k d 265) (i_iload 1 (i_int 32767 (i_cmple (k d 267) (k d 265)))))))))))))
/-- SlabImageModel.fits from 24 -/
def b_265 : am_B := fun k d => (i_iload 0 (i_int 2 (i_cmpne (k d 266) (i_iload 1 (i_iflt (k d 266) (i_iload 1 (i_int 255 (i_cmple (k d 267) (k d 266)))))))))
/-- SlabImageModel.fits from 40 -/
def b_266 : am_B := fun k d => (i_iload 0 (i_int 1 (i_cmpne (k d 268) (i_iload 1 (i_int (-128) (i_cmplt (k d 268) (i_iload 1 (i_int 127 (i_cmpgt (k d 268) (k d 267))))))))))
/-- SlabImageModel.fits from 57 -/
def b_267 : am_B := fun k d => (i_int 1 (k d 269))
/-- SlabImageModel.fits from 61 -/
def b_268 : am_B := fun k d => (i_int 0 (k d 269))
/-- SlabImageModel.fits from 62 -/
def b_269 : am_B := fun k d => i_zret
/-- SlabImageModel.find from 0 -/
def b_270 : am_B := fun k d => (i_int 18 (i_aload 0 (i_getf 6 0 (i_ii (fun x y => x * y) (i_int 3 (i_iload 1 (i_ii (fun x y => x * y) (i_ii (fun x y => x + y) (i_istore 3 (i_iload 3 (i_aload 0 (i_getf 6 10 (i_int 6 (i_aload 0 (i_getf 6 0 (i_ii (fun x y => x * y) (i_iload 1 (i_ii (fun x y => x + y) (i_iald 0 (i_ii (fun x y => x + y) (i_istore 4 (k d 271))))))))))))))))))))))
/-- SlabImageModel.find from 30 -/
def b_271 : am_B := fun k d => (i_iload 3 (i_iload 4 (i_cmpge (k d 272) (i_aload 0 (i_getf 6 11 (i_iload 3 (i_iald 0 (i_iload 2 (i_cmpeq (k d 272) (i_iinc 3 1 (k d 271)))))))))))
/-- SlabImageModel.find from 52 -/
def b_272 : am_B := fun k d => (i_iload 3 i_iret)
/-- SlabImageModel.drop from 0 -/
def b_273 : am_B := fun k d => (i_aload 0 (i_getf 6 1 (i_ifeq (i_iload 1 (i_int (-1) (i_cmpeq (k d 274) (i_aload 0 (i_iload 1 (i_recv 6 1 (i_call k d 261 2 2 (i_ifne (k d 274) (i_int (-3) i_iret))))))))) (i_int (-1) i_iret))))
/-- SlabImageModel.drop from 25 -/
def b_274 : am_B := fun k d => (i_aload 0 (i_iload 1 (i_int 1 (i_ii (fun x y => x + y) (i_iload 2 (i_recv 6 2 (i_call k d 270 3 5 (i_istore 3 (i_int 6 (i_aload 0 (i_getf 6 0 (i_ii (fun x y => x * y) (i_iload 1 (i_ii (fun x y => x + y) (i_int 1 (i_ii (fun x y => x + y) (i_istore 4 (i_int 3 (i_iload 4 (i_ii (fun x y => x * y) (i_aload 0 (i_getf 6 10 (i_iload 4 (i_iald 0 (i_ii (fun x y => x + y) (i_int 1 (i_ii (fun x y => x - y) (i_istore 5 (i_iload 3 (i_iload 5 (i_cmple (i_iload 3 (i_istore 6 (k d 275))) (i_int (-3) i_iret))))))))))))))))))))))))))))))))
/-- SlabImageModel.drop from 75 -/
def b_275 : am_B := fun k d => (i_iload 6 (i_iload 5 (i_cmpge (i_aload 0 (i_getf 6 10 (i_iload 4 (i_dup2 (i_iald 0 (i_int 1 (i_ii (fun x y => x - y) (i_iast 0 (fun x => x) (i_int 0 i_iret))))))))) (i_aload 0 (i_getf 6 11 (i_iload 6 (i_aload 0 (i_getf 6 11 (i_iload 6 (i_int 1 (i_ii (fun x y => x + y) (i_iald 0 (i_iast 0 (fun x => x) (i_aload 0 (i_getf 6 12 (i_iload 6 (i_aload 0 (i_getf 6 12 (i_iload 6 (i_int 1 (i_ii (fun x y => x + y) (i_iald 0 (i_iast 0 (fun x => x) (i_aload 0 (i_getf 6 13 (i_iload 6 (i_aload 0 (i_getf 6 13 (i_iload 6 (i_int 1 (i_ii (fun x y => x + y) (i_iald 0 (i_iast 0 (fun x => x) (i_aload 0 (i_getf 6 14 (i_iload 6 (i_aload 0 (i_getf 6 14 (i_iload 6 (i_int 1 (i_ii (fun x y => x + y) (i_iald 0 (i_iast 0 (fun x => x) (i_iinc 6 1 (k d 275)))))))))))))))))))))))))))))))))))))))))))))
/-- SlabImageModel.rename from 0 -/
def b_276 : am_B := fun k d => (i_aload 0 (i_getf 6 1 (i_ifeq (i_iload 1 (i_ifeq (i_aload 0 (i_iload 2 (i_recv 6 1 (i_call k d 244 2 2 (i_ifne (k d 278) (k d 277)))))) (i_aload 0 (i_iload 2 (i_recv 6 1 (i_call k d 261 2 2 (i_ifeq (k d 277) (k d 278)))))))) (i_int (-1) i_iret))))
/-- SlabImageModel.rename from 32 -/
def b_277 : am_B := fun k d => (i_int (-3) i_iret)
/-- SlabImageModel.rename from 35 -/
def b_278 : am_B := fun k d => (i_iload 3 (i_call k d 225 1 1 (i_ifne (i_iload 1 (i_ifeq (i_aload 0 (i_aload 0 (i_getf 6 0 (i_iload 3 (i_iload 2 (i_recv 6 3 (i_call k d 228 4 6 (i_ifeq (k d 280) (k d 279))))))))) (i_aload 0 (i_aload 0 (i_getf 6 0 (i_iload 3 (i_iload 2 (i_recv 6 3 (i_call k d 247 4 6 (i_ifeq (k d 280) (k d 279))))))))))) (i_int (-2) i_iret))))
/-- SlabImageModel.rename from 78 -/
def b_279 : am_B := fun k d => (i_int (-4) i_iret)
/-- SlabImageModel.rename from 81 -/
def b_280 : am_B := fun k d => (i_iload 1 (i_ifeq (i_aload 0 (i_getf 6 3 (i_int 4 (i_aload 0 (i_getf 6 0 (i_ii (fun x y => x * y) (i_iload 2 (i_ii (fun x y => x + y) (i_iload 3 (i_iast 0 (fun x => x) (k d 281))))))))))) (i_aload 0 (i_getf 6 6 (i_int 5 (i_aload 0 (i_getf 6 0 (i_ii (fun x y => x * y) (i_iload 2 (i_ii (fun x y => x + y) (i_iload 3 (i_iast 0 (fun x => x) (k d 281)))))))))))))
/-- SlabImageModel.rename from 116 -/
def b_281 : am_B := fun k d => (i_int 0 i_iret)
/-- SlabImageModel.seal from 0 -/
def b_282 : am_B := fun k d => (i_aload 0 (i_getf 6 1 (i_ifeq (i_aload 0 (i_aload 0 (i_getf 6 0 (i_aload 0 (i_getf 6 15 (i_aload 0 (i_getf 6 0 (i_iald 0 (i_i2l (i_recv 6 2 (i_call k d 283 3 4 (i_lstore 1 (i_lload 1 (i_long 800 (i_lcmp (i_ifle (i_aload 0 (i_int 1 (i_putZ 6 1 (i_lload 1 (i_l2i i_iret))))) (i_int (-8) i_iret))))))))))))))))) (i_int (-1) i_iret))))
/-- SlabImageModel.total from 0 -/
def b_283 : am_B := fun k d => (i_aload 0 (i_iload 1 (i_aload 0 (i_getf 6 5 (i_iload 1 (i_iald 0 (i_recv 6 2 (i_call k d 284 3 7 (i_i2l (i_lload 2 (i_aload 0 (i_iload 1 (i_recv 6 1 (i_call k d 306 2 6 (i_i2l (i_ll (fun x y => x * y) (i_ll (fun x y => x + y) i_lret)))))))))))))))))
/-- SlabImageModel.beginOf from 0 -/
def b_284 : am_B := fun k d => (i_iload 2 (i_aload 0 (i_getf 6 5 (i_iload 1 (i_iald 0 (i_cmpeq (k d 285) (i_aload 0 (i_iload 1 (i_iload 2 (i_recv 6 2 (i_call k d 292 3 3 (i_ifeq (i_int 0 (k d 286)) (k d 285)))))))))))))
/-- SlabImageModel.beginOf from 19 -/
def b_285 : am_B := fun k d => (i_int 1 (k d 286))
/-- SlabImageModel.beginOf from 24 -/
def b_286 : am_B := fun k d => (i_istore 3 (i_aload 0 (i_iload 1 (i_recv 6 1 (i_call k d 296 2 4 (i_istore 4 (i_int 0 (i_istore 5 (k d 287)))))))))
/-- SlabImageModel.beginOf from 35 -/
def b_287 : am_B := fun k d => (i_iload 5 (i_aload 0 (i_getf 6 5 (i_iload 1 (i_iald 0 (i_cmpge (i_iload 4 i_iret) (i_aload 0 (i_iload 1 (i_iload 5 (i_recv 6 2 (i_call k d 292 3 3 (i_ifeq (i_iload 3 (i_ifne (k d 289) (i_iload 5 (i_iload 2 (i_cmpge (i_int 0 (k d 290)) (k d 289)))))) (i_iload 3 (i_ifeq (k d 288) (i_iload 2 (i_aload 0 (i_getf 6 5 (i_iload 1 (i_iald 0 (i_cmpge (k d 288) (i_iload 5 (i_iload 2 (i_cmpge (k d 288) (i_int 1 (k d 290)))))))))))))))))))))))))
/-- SlabImageModel.beginOf from 80 -/
def b_288 : am_B := fun k d => (i_int 0 (k d 290))
/-- SlabImageModel.beginOf from 94 -/
def b_289 : am_B := fun k d => (i_int 1 (k d 290))
/-- SlabImageModel.beginOf from 99 -/
def b_290 : am_B := fun k d => (i_istore 6 (i_iload 6 (i_ifeq (i_iload 4 (k d 291)) (i_iload 4 (i_aload 0 (i_iload 1 (i_iload 5 (i_recv 6 2 (i_call k d 301 3 3 (i_ii (fun x y => x + y) (k d 291)))))))))))
/-- SlabImageModel.beginOf from 121 -/
def b_291 : am_B := fun k d => (i_istore 4 (i_iinc 5 1 (k d 287)))
/-- SlabImageModel.isRecord from 0 -/
def b_292 : am_B := fun k d => (i_aload 0 (i_iload 1 (i_iload 2 (i_int 0 (i_recv 6 3 (i_call k d 294 4 4 (i_ifne (i_int 0 (k d 293)) (i_int 1 (k d 293)))))))))
/-- SlabImageModel.isRecord from 15 -/
def b_293 : am_B := fun k d => i_zret
/-- SlabImageModel.lengthOf from 0 -/
def b_294 : am_B := fun k d => (i_iload 3 (i_aload 0 (i_getf 6 8 (i_int 5 (i_iload 1 (i_ii (fun x y => x * y) (i_iload 2 (i_ii (fun x y => x + y) (i_iald 0 (i_cmpge (i_int 1 (k d 295)) (i_aload 0 (i_getf 6 4 (i_int 4 (i_iload 1 (i_ii (fun x y => x * y) (i_aload 0 (i_getf 6 9 (i_int 10 (i_iload 1 (i_ii (fun x y => x * y) (i_int 2 (i_iload 2 (i_ii (fun x y => x * y) (i_ii (fun x y => x + y) (i_iload 3 (i_ii (fun x y => x + y) (i_iald 0 (i_ii (fun x y => x + y) (i_iald 0 (k d 295))))))))))))))))))))))))))))))
/-- SlabImageModel.lengthOf from 42 -/
def b_295 : am_B := fun k d => i_iret
/-- SlabImageModel.headerSize from 0 -/
def b_296 : am_B := fun k d => (i_int 16 (i_int 12 (i_aload 0 (i_getf 6 2 (i_iload 1 (i_iald 0 (i_ii (fun x y => x * y) (i_ii (fun x y => x + y) (i_aload 0 (i_iload 1 (i_int 0 (i_recv 6 2 (i_call k d 298 3 5 (i_ii (fun x y => x + y) (i_int 8 (i_ii (fun x y => x + y) (i_istore 2 (i_int 0 (i_istore 3 (k d 297))))))))))))))))))))
/-- SlabImageModel.headerSize from 25 -/
def b_297 : am_B := fun k d => (i_iload 3 (i_aload 0 (i_getf 6 5 (i_iload 1 (i_iald 0 (i_cmpge (i_iload 2 i_iret) (i_iload 2 (i_int 24 (i_ii (fun x y => x + y) (i_int 4 (i_aload 0 (i_getf 6 8 (i_int 5 (i_iload 1 (i_ii (fun x y => x * y) (i_iload 3 (i_ii (fun x y => x + y) (i_iald 0 (i_ii (fun x y => x * y) (i_ii (fun x y => x + y) (i_aload 0 (i_iload 1 (i_iload 3 (i_int 1 (i_ii (fun x y => x + y) (i_recv 6 2 (i_call k d 298 3 5 (i_ii (fun x y => x + y) (i_istore 2 (i_iinc 3 1 (k d 297)))))))))))))))))))))))))))))))
/-- SlabImageModel.listSize from 0 -/
def b_298 : am_B := fun k d => (i_int 8 (i_istore 3 (i_int 0 (i_istore 4 (k d 299)))))
/-- SlabImageModel.listSize from 6 -/
def b_299 : am_B := fun k d => (i_iload 4 (i_aload 0 (i_getf 6 10 (i_int 6 (i_iload 1 (i_ii (fun x y => x * y) (i_iload 2 (i_ii (fun x y => x + y) (i_iald 0 (i_cmpge (i_iload 3 i_iret) (i_iload 3 (i_int 16 (i_ii (fun x y => x + y) (i_aload 0 (i_getf 6 12 (i_int 18 (i_iload 1 (i_ii (fun x y => x * y) (i_int 3 (i_iload 2 (i_ii (fun x y => x * y) (i_ii (fun x y => x + y) (i_iload 4 (i_ii (fun x y => x + y) (i_iald 0 (i_int 4 (i_cmpne (i_int 4 (k d 300)) (i_int 8 (k d 300)))))))))))))))))))))))))))))
/-- SlabImageModel.listSize from 52 -/
def b_300 : am_B := fun k d => (i_ii (fun x y => x + y) (i_istore 3 (i_iinc 4 1 (k d 299))))
/-- SlabImageModel.padded from 0 -/
def b_301 : am_B := fun k d => (i_aload 0 (i_iload 1 (i_iload 2 (i_recv 6 2 (i_call k d 302 3 4 (i_aload 0 (i_getf 6 7 (i_int 5 (i_iload 1 (i_ii (fun x y => x * y) (i_iload 2 (i_ii (fun x y => x + y) (i_iald 0 (i_call k d 304 1 1 (i_ii (fun x y => x * y) (i_int 3 (i_ii (fun x y => x + y) (i_int 4 (i_idz (fun x y => x / y) (i_int 4 (i_ii (fun x y => x * y) i_iret)))))))))))))))))))))
/-- SlabImageModel.cells from 0 -/
def b_302 : am_B := fun k d => (i_aload 0 (i_iload 1 (i_iload 2 (i_int 0 (i_recv 6 3 (i_call k d 294 4 4 (i_istore 3 (i_iload 3 (i_ifne (i_iload 3 (k d 303)) (i_int 1 (k d 303)))))))))))
/-- SlabImageModel.cells from 17 -/
def b_303 : am_B := fun k d => (i_aload 0 (i_iload 1 (i_iload 2 (i_int 1 (i_recv 6 3 (i_call k d 294 4 4 (i_ii (fun x y => x * y) i_iret)))))))
/-- SlabImageModel.bytes from 0 -/
def b_304 : am_B := fun k d => (i_iload 0 (i_int 2 (i_cmpgt (i_iload 0 (i_int 3 (i_cmpne (i_int 4 (k d 305)) (i_int 2 (k d 305))))) (i_int 1 (k d 305)))))
/-- SlabImageModel.bytes from 19 -/
def b_305 : am_B := fun k d => i_iret
/-- SlabImageModel.recordSize from 0 -/
def b_306 : am_B := fun k d => (i_int 0 (i_istore 2 (i_aload 0 (i_iload 1 (i_recv 6 1 (i_call k d 311 2 4 (i_int 1 (i_cmpne (i_int 0 (k d 307)) (i_int 1 (k d 307))))))))))
/-- SlabImageModel.recordSize from 16 -/
def b_307 : am_B := fun k d => (i_istore 3 (i_int 0 (i_istore 4 (k d 308))))
/-- SlabImageModel.recordSize from 20 -/
def b_308 : am_B := fun k d => (i_iload 4 (i_aload 0 (i_getf 6 5 (i_iload 1 (i_iald 0 (i_cmpge (i_iload 2 i_iret) (i_iload 3 (i_ifeq (i_aload 0 (i_iload 1 (i_iload 4 (i_recv 6 2 (i_call k d 301 3 3 (k d 309)))))) (i_aload 0 (i_iload 1 (i_iload 4 (i_recv 6 2 (i_call k d 302 3 4 (i_aload 0 (i_getf 6 7 (i_int 5 (i_iload 1 (i_ii (fun x y => x * y) (i_iload 4 (i_ii (fun x y => x + y) (i_iald 0 (i_call k d 304 1 1 (i_ii (fun x y => x * y) (k d 309))))))))))))))))))))))))
/-- SlabImageModel.recordSize from 67 -/
def b_309 : am_B := fun k d => (i_istore 5 (i_aload 0 (i_iload 1 (i_iload 4 (i_recv 6 2 (i_call k d 292 3 3 (i_ifeq (i_iload 2 (k d 310)) (i_iload 2 (i_iload 5 (i_ii (fun x y => x + y) (k d 310)))))))))))
/-- SlabImageModel.recordSize from 87 -/
def b_310 : am_B := fun k d => (i_istore 2 (i_iinc 4 1 (k d 308)))
/-- SlabImageModel.recordVariables from 0 -/
def b_311 : am_B := fun k d => (i_int 0 (i_istore 2 (i_int 0 (i_istore 3 (k d 312)))))
/-- SlabImageModel.recordVariables from 4 -/
def b_312 : am_B := fun k d => (i_iload 3 (i_aload 0 (i_getf 6 5 (i_iload 1 (i_iald 0 (i_cmpge (i_iload 2 i_iret) (i_aload 0 (i_iload 1 (i_iload 3 (i_recv 6 2 (i_call k d 292 3 3 (i_ifeq (i_iload 2 (k d 313)) (i_iload 2 (i_int 1 (i_ii (fun x y => x + y) (k d 313))))))))))))))))
/-- SlabImageModel.recordVariables from 30 -/
def b_313 : am_B := fun k d => (i_istore 2 (i_iinc 3 1 (k d 312)))
/-- SlabImageModel.redefine from 0 -/
def b_314 : am_B := fun k d => (i_aload 0 (i_getf 6 1 (i_ifne (i_aload 0 (i_int 0 (i_putZ 6 1 (i_int 0 i_iret)))) (i_int (-1) i_iret))))
/-- SlabImageModel.put from 0 -/
def b_315 : am_B := fun k d => (i_aload 0 (i_getf 6 1 (i_ifne (i_aload 0 (i_iload 1 (i_recv 6 1 (i_call k d 261 2 2 (i_ifne (i_aload 0 (i_iload 1 (i_iload 2 (i_i2l (i_iload 3 (i_i2l (i_int 1 (i_recv 6 4 (i_call k d 316 5 7 (i_ifne (i_aload 0 (i_getf 6 7 (i_int 5 (i_aload 0 (i_getf 6 0 (i_ii (fun x y => x * y) (i_iload 1 (i_ii (fun x y => x + y) (i_iald 0 (i_iload 4 (i_call k d 264 2 2 (i_ifne (i_aload 0 (i_iload 1 (i_iload 2 (i_i2l (i_recv 6 2 (i_call k d 320 3 4 (i_ifne (i_aload 0 (i_getf 6 16 (i_aload 0 (i_iload 1 (i_iload 2 (i_i2l (i_iload 3 (i_i2l (i_recv 6 3 (i_call k d 322 4 6 (i_iload 4 (i_iast 0 (fun x => x) (i_int 0 i_iret))))))))))))) (i_int (-8) i_iret)))))))) (i_int (-6) i_iret))))))))))))) (i_int (-7) i_iret))))))))))) (i_int (-3) i_iret)))))) (i_int (-1) i_iret))))
/-- SlabImageModel.there from 0 -/
def b_316 : am_B := fun k d => (i_lload 2 (i_long 0 (i_lcmp (i_iflt (k d 317) (i_lload 4 (i_long 0 (i_lcmp (i_iflt (k d 317) (i_lload 4 (i_aload 0 (i_aload 0 (i_getf 6 0 (i_iload 1 (i_int 1 (i_recv 6 3 (i_call k d 294 4 4 (i_i2l (i_lcmp (i_iflt (i_aload 0 (i_aload 0 (i_getf 6 0 (i_iload 1 (i_recv 6 2 (i_call k d 292 3 3 (i_ifeq (i_lload 2 (i_aload 0 (i_aload 0 (i_getf 6 0 (i_iload 1 (i_int 0 (i_recv 6 3 (i_call k d 294 4 4 (i_i2l (i_lcmp (i_ifge (i_int 0 (k d 319)) (i_int 1 (k d 319))))))))))))) (i_iload 6 (i_ifne (k d 318) (i_lload 2 (i_aload 0 (i_getf 6 15 (i_aload 0 (i_getf 6 0 (i_iald 0 (i_i2l (i_lcmp (i_ifge (i_int 0 (k d 319)) (k d 318))))))))))))))))))) (k d 317))))))))))))))))))))
/-- SlabImageModel.there from 30 -/
def b_317 : am_B := fun k d => (i_int 0 i_zret)
/-- SlabImageModel.there from 64 -/
def b_318 : am_B := fun k d => (i_int 1 (k d 319))
/-- SlabImageModel.there from 93 -/
def b_319 : am_B := fun k d => i_zret
/-- SlabImageModel.grow from 0 -/
def b_320 : am_B := fun k d => (i_aload 0 (i_aload 0 (i_getf 6 0 (i_iload 1 (i_recv 6 2 (i_call k d 292 3 3 (i_ifeq (k d 321) (i_lload 2 (i_aload 0 (i_getf 6 15 (i_aload 0 (i_getf 6 0 (i_iald 0 (i_i2l (i_lcmp (i_ifge (i_aload 0 (i_aload 0 (i_getf 6 0 (i_lload 2 (i_long 1 (i_ll (fun x y => x + y) (i_recv 6 2 (i_call k d 283 3 4 (i_long 800 (i_lcmp (i_ifle (i_aload 0 (i_getf 6 15 (i_aload 0 (i_getf 6 0 (i_lload 2 (i_l2i (i_int 1 (i_ii (fun x y => x + y) (i_iast 0 (fun x => x) (i_int 1 i_zret)))))))))) (i_int 0 i_zret)))))))))))) (k d 321)))))))))))))))))
/-- SlabImageModel.grow from 27 -/
def b_321 : am_B := fun k d => (i_int 1 i_zret)
/-- SlabImageModel.cellAt from 0 -/
def b_322 : am_B := fun k d => (i_int 800 (i_int 5 (i_aload 0 (i_getf 6 0 (i_ii (fun x y => x * y) (i_iload 1 (i_ii (fun x y => x + y) (i_ii (fun x y => x * y) (i_lload 2 (i_l2i (i_aload 0 (i_aload 0 (i_getf 6 0 (i_iload 1 (i_int 1 (i_recv 6 3 (i_call k d 294 4 4 (i_ii (fun x y => x * y) (i_ii (fun x y => x + y) (i_lload 4 (i_l2i (i_ii (fun x y => x + y) i_iret))))))))))))))))))))))
/-- SlabImageModel.get from 0 -/
def b_323 : am_B := fun k d => (i_aload 0 (i_getf 6 1 (i_ifeq (k d 324) (i_aload 0 (i_iload 1 (i_recv 6 1 (i_call k d 261 2 2 (i_ifeq (k d 324) (i_aload 0 (i_iload 1 (i_iload 2 (i_i2l (i_iload 3 (i_i2l (i_int 0 (i_recv 6 4 (i_call k d 316 5 7 (i_ifne (i_aload 0 (i_getf 6 16 (i_aload 0 (i_iload 1 (i_iload 2 (i_i2l (i_iload 3 (i_i2l (i_recv 6 3 (i_call k d 322 4 6 (i_iald 0 (i_i2l i_lret)))))))))))) (k d 324)))))))))))))))))))
/-- SlabImageModel.get from 28 -/
def b_324 : am_B := fun k d => (i_long 1099511627776 i_lret)
/-- SlabImageModel.select from 0 -/
def b_325 : am_B := fun k d => (i_iload 1 (i_ifeq (k d 326) (i_iload 1 (i_int 1 (i_cmpeq (k d 326) (i_int (-3) i_iret))))))
/-- SlabImageModel.select from 12 -/
def b_326 : am_B := fun k d => (i_iload 2 (i_iflt (k d 327) (i_iload 3 (i_int 1 (i_cmplt (k d 327) (i_iload 3 (i_int 8 (i_cmpgt (k d 327) (i_iload 4 (i_int 1 (i_cmplt (k d 327) (i_iload 4 (i_int 8 (i_cmple (i_aload 0 (i_getf 6 17 (i_iload 1 (i_iload 2 (i_iast 0 (fun x => x) (i_aload 0 (i_getf 6 18 (i_iload 1 (i_iload 3 (i_iast 0 (fun x => x) (i_aload 0 (i_getf 6 19 (i_iload 1 (i_iload 4 (i_iast 0 (fun x => x) (i_int 0 i_iret)))))))))))))))) (k d 327)))))))))))))))
/-- SlabImageModel.select from 40 -/
def b_327 : am_B := fun k d => (i_int (-2) i_iret)
/-- SlabImageModel.putSlab from 0 -/
def b_328 : am_B := fun k d => (i_aload 0 (i_getf 6 1 (i_ifne (i_aload 0 (i_iload 1 (i_recv 6 1 (i_call k d 261 2 2 (i_ifne (i_aload 0 (i_iload 1 (i_int 1 (i_recv 6 2 (i_call k d 331 3 5 (i_ifne (i_aload 0 (i_iload 1 (i_int 0 (i_recv 6 2 (i_call k d 334 3 3 (i_aload 0 (i_iload 1 (i_int 1 (i_recv 6 2 (i_call k d 334 3 3 (i_ii (fun x y => x * y) (i_istore 4 (i_int 0 (i_istore 5 (k d 329))))))))))))))) (i_int (-7) i_iret))))))) (i_int (-3) i_iret)))))) (i_int (-1) i_iret))))
/-- SlabImageModel.putSlab from 50 -/
def b_329 : am_B := fun k d => (i_iload 5 (i_iload 4 (i_cmpge (i_aload 0 (i_iload 1 (i_aload 0 (i_iload 1 (i_int 0 (i_aload 0 (i_iload 1 (i_int 0 (i_recv 6 2 (i_call k d 334 3 3 (i_int 1 (i_ii (fun x y => x - y) (i_recv 6 3 (i_call k d 336 4 4 (i_recv 6 2 (i_call k d 320 3 4 (i_ifne (i_int 0 (i_istore 5 (k d 330))) (i_int (-8) i_iret)))))))))))))))))) (i_aload 0 (i_getf 6 7 (i_int 5 (i_aload 0 (i_getf 6 0 (i_ii (fun x y => x * y) (i_iload 1 (i_ii (fun x y => x + y) (i_iald 0 (i_iload 2 (i_iload 5 (i_iload 3 (i_ii (fun x y => x * y) (i_ii (fun x y => x + y) (i_call k d 264 2 2 (i_ifne (i_iinc 5 1 (k d 329)) (i_int (-6) i_iret))))))))))))))))))))
/-- SlabImageModel.putSlab from 119 -/
def b_330 : am_B := fun k d => (i_iload 5 (i_iload 4 (i_cmpge (i_iload 4 i_iret) (i_aload 0 (i_getf 6 16 (i_aload 0 (i_iload 1 (i_aload 0 (i_iload 1 (i_int 0 (i_iload 5 (i_aload 0 (i_iload 1 (i_int 1 (i_recv 6 2 (i_call k d 334 3 3 (i_idz (fun x y => x / y) (i_recv 6 3 (i_call k d 336 4 4 (i_aload 0 (i_iload 1 (i_int 1 (i_iload 5 (i_aload 0 (i_iload 1 (i_int 1 (i_recv 6 2 (i_call k d 334 3 3 (i_idz (fun x y => x - x / y * y) (i_recv 6 3 (i_call k d 336 4 4 (i_recv 6 3 (i_call k d 322 4 6 (i_iload 2 (i_iload 5 (i_iload 3 (i_ii (fun x y => x * y) (i_ii (fun x y => x + y) (i_iast 0 (fun x => x) (i_iinc 5 1 (k d 330)))))))))))))))))))))))))))))))))))))))))
/-- SlabImageModel.slabThere from 0 -/
def b_331 : am_B := fun k d => (i_int 0 (i_istore 3 (k d 332)))
/-- SlabImageModel.slabThere from 2 -/
def b_332 : am_B := fun k d => (i_iload 3 (i_aload 0 (i_iload 1 (i_int 0 (i_recv 6 2 (i_call k d 334 3 3 (i_cmpge (i_int 1 i_zret) (i_int 0 (i_istore 4 (k d 333))))))))))
/-- SlabImageModel.slabThere from 15 -/
def b_333 : am_B := fun k d => (i_iload 4 (i_aload 0 (i_iload 1 (i_int 1 (i_recv 6 2 (i_call k d 334 3 3 (i_cmpge (i_iinc 3 1 (k d 332)) (i_aload 0 (i_iload 1 (i_aload 0 (i_iload 1 (i_int 0 (i_iload 3 (i_recv 6 3 (i_call k d 336 4 4 (i_aload 0 (i_iload 1 (i_int 1 (i_iload 4 (i_recv 6 3 (i_call k d 336 4 4 (i_iload 2 (i_recv 6 4 (i_call k d 316 5 7 (i_ifne (i_iinc 4 1 (k d 333)) (i_int 0 i_zret))))))))))))))))))))))))))
/-- SlabImageModel.many from 0 -/
def b_334 : am_B := fun k d => (i_iload 2 (i_aload 0 (i_getf 6 8 (i_int 5 (i_aload 0 (i_getf 6 0 (i_ii (fun x y => x * y) (i_iload 1 (i_ii (fun x y => x + y) (i_iald 0 (i_cmpge (i_int 1 (k d 335)) (i_aload 0 (i_getf 6 18 (i_iload 2 (i_iald 0 (k d 335))))))))))))))))
/-- SlabImageModel.many from 27 -/
def b_335 : am_B := fun k d => i_iret
/-- SlabImageModel.chosen from 0 -/
def b_336 : am_B := fun k d => (i_iload 2 (i_aload 0 (i_getf 6 8 (i_int 5 (i_aload 0 (i_getf 6 0 (i_ii (fun x y => x * y) (i_iload 1 (i_ii (fun x y => x + y) (i_iald 0 (i_cmpge (i_long 0 (k d 337)) (i_aload 0 (i_getf 6 17 (i_iload 2 (i_iald 0 (i_i2l (i_iload 3 (i_i2l (i_aload 0 (i_getf 6 19 (i_iload 2 (i_iald 0 (i_i2l (i_ll (fun x y => x * y) (i_ll (fun x y => x + y) (k d 337))))))))))))))))))))))))))
/-- SlabImageModel.chosen from 39 -/
def b_337 : am_B := fun k d => i_lret
/-- SlabImageModel.getSlab from 0 -/
def b_338 : am_B := fun k d => (i_aload 0 (i_getf 6 1 (i_ifeq (k d 339) (i_aload 0 (i_iload 1 (i_recv 6 1 (i_call k d 261 2 2 (i_ifeq (k d 339) (i_aload 0 (i_iload 1 (i_int 0 (i_recv 6 2 (i_call k d 331 3 5 (i_ifeq (k d 339) (i_iload 2 (i_iflt (k d 339) (i_iload 2 (i_aload 0 (i_iload 1 (i_int 0 (i_recv 6 2 (i_call k d 334 3 3 (i_aload 0 (i_iload 1 (i_int 1 (i_recv 6 2 (i_call k d 334 3 3 (i_ii (fun x y => x * y) (i_cmplt (i_aload 0 (i_getf 6 16 (i_aload 0 (i_iload 1 (i_aload 0 (i_iload 1 (i_int 0 (i_iload 2 (i_aload 0 (i_iload 1 (i_int 1 (i_recv 6 2 (i_call k d 334 3 3 (i_idz (fun x y => x / y) (i_recv 6 3 (i_call k d 336 4 4 (i_aload 0 (i_iload 1 (i_int 1 (i_iload 2 (i_aload 0 (i_iload 1 (i_int 1 (i_recv 6 2 (i_call k d 334 3 3 (i_idz (fun x y => x - x / y * y) (i_recv 6 3 (i_call k d 336 4 4 (i_recv 6 3 (i_call k d 322 4 6 (i_iald 0 (i_i2l i_lret)))))))))))))))))))))))))))))))) (k d 339))))))))))))))))))))))))))))))
/-- SlabImageModel.getSlab from 45 -/
def b_339 : am_B := fun k d => (i_long 1099511627776 i_lret)
/-- SlabImageModel.records from 0 -/
def b_340 : am_B := fun k d => (i_aload 0 (i_getf 6 15 (i_aload 0 (i_getf 6 0 (i_iald 0 i_iret)))))
/-- SlabImageModel.size from 0 -/
def b_341 : am_B := fun k d => (i_aload 0 (i_getf 6 1 (i_ifeq (i_int (-1) (k d 342)) (i_aload 0 (i_aload 0 (i_getf 6 0 (i_aload 0 (i_getf 6 15 (i_aload 0 (i_getf 6 0 (i_iald 0 (i_i2l (i_recv 6 2 (i_call k d 283 3 4 (i_l2i (k d 342))))))))))))))))
/-- SlabImageModel.size from 30 -/
def b_342 : am_B := fun k d => i_iret
/-- SlabImageModel.begin from 0 -/
def b_343 : am_B := fun k d => (i_aload 0 (i_getf 6 1 (i_ifne (i_aload 0 (i_iload 1 (i_recv 6 1 (i_call k d 261 2 2 (i_ifeq (i_int (-3) (k d 344)) (i_aload 0 (i_aload 0 (i_getf 6 0 (i_iload 1 (i_recv 6 2 (i_call k d 284 3 7 (k d 344)))))))))))) (i_int (-1) (k d 344)))))
/-- SlabImageModel.begin from 33 -/
def b_344 : am_B := fun k d => i_iret
/-- SlabImageModel.eight from 0 -/
def b_345 : am_B := fun k d => (i_aload 0 (i_getf 6 1 (i_ifeq (k d 346) (i_iload 1 (i_ifge (i_aload 0 (i_aload 0 (i_getf 6 0 (i_recv 6 1 (i_call k d 349 2 5 (i_long 0 (i_lstore 2 (i_int 0 (i_istore 4 (k d 347)))))))))) (k d 346))))))
/-- SlabImageModel.eight from 11 -/
def b_346 : am_B := fun k d => (i_long 0 i_lret)
/-- SlabImageModel.eight from 26 -/
def b_347 : am_B := fun k d => (i_iload 4 (i_int 8 (i_cmpge (i_lload 2 i_lret) (i_long 8 (i_iload 1 (i_i2l (i_ll (fun x y => x * y) (i_iload 4 (i_i2l (i_ll (fun x y => x + y) (i_lstore 5 (i_lload 2 (i_long 256 (i_ll (fun x y => x * y) (i_lload 5 (i_aload 0 (i_getf 6 21 (i_i2l (i_lcmp (i_ifge (i_int 0 (k d 348)) (i_aload 0 (i_getf 6 20 (i_lload 5 (i_l2i (i_iald 0 (k d 348))))))))))))))))))))))))))
/-- SlabImageModel.eight from 73 -/
def b_348 : am_B := fun k d => (i_i2l (i_ll (fun x y => x + y) (i_lstore 2 (i_iinc 4 1 (k d 347)))))
/-- SlabImageModel.writeImage from 0 -/
def b_349 : am_B := fun k d => (i_aload 0 (i_int 0 (i_putI 6 21 (i_aload 0 (i_int 1196573697 (i_int 4 (i_recv 6 2 (i_call k d 358 3 4 (i_aload 0 (i_aload 0 (i_getf 6 15 (i_iload 1 (i_iald 0 (i_int 4 (i_recv 6 2 (i_call k d 358 3 4 (i_aload 0 (i_int 10 (i_aload 0 (i_getf 6 2 (i_iload 1 (i_iald 0 (i_recv 6 2 (i_call k d 361 3 3 (i_int 4 (i_iload 1 (i_ii (fun x y => x * y) (i_istore 2 (k d 350)))))))))))))))))))))))))))))
/-- SlabImageModel.writeImage from 39 -/
def b_350 : am_B := fun k d => (i_iload 2 (i_int 4 (i_iload 1 (i_ii (fun x y => x * y) (i_aload 0 (i_getf 6 2 (i_iload 1 (i_iald 0 (i_ii (fun x y => x + y) (i_cmpge (i_aload 0 (i_iload 1 (i_int 0 (i_recv 6 2 (i_call k d 364 3 5 (i_aload 0 (i_int 11 (i_aload 0 (i_getf 6 5 (i_iload 1 (i_iald 0 (i_recv 6 2 (i_call k d 361 3 3 (i_int 0 (i_istore 2 (k d 351)))))))))))))))) (i_aload 0 (i_aload 0 (i_getf 6 3 (i_iload 2 (i_iald 0 (i_recv 6 1 (i_call k d 363 2 2 (i_aload 0 (i_aload 0 (i_getf 6 4 (i_iload 2 (i_iald 0 (i_int 4 (i_recv 6 2 (i_call k d 358 3 4 (i_iinc 2 1 (k d 350)))))))))))))))))))))))))))
/-- SlabImageModel.writeImage from 100 -/
def b_351 : am_B := fun k d => (i_iload 2 (i_aload 0 (i_getf 6 5 (i_iload 1 (i_iald 0 (i_cmpge (i_int 0 (i_istore 2 (k d 352))) (i_aload 0 (i_iload 1 (i_iload 2 (i_recv 6 2 (i_call k d 367 3 6 (i_iinc 2 1 (k d 351)))))))))))))
/-- SlabImageModel.writeImage from 124 -/
def b_352 : am_B := fun k d => (i_iload 2 (i_aload 0 (i_getf 6 5 (i_iload 1 (i_iald 0 (i_cmpge (i_aload 0 (i_iload 1 (i_recv 6 1 (i_call k d 311 2 4 (i_int 1 (i_cmple (i_int 0 (k d 354)) (i_int 1 (k d 354)))))))) (i_aload 0 (i_iload 1 (i_iload 2 (i_recv 6 2 (i_call k d 292 3 3 (i_ifne (k d 353) (i_aload 0 (i_iload 1 (i_iload 2 (i_int 0 (i_int 1 (i_recv 6 4 (i_call k d 369 5 9 (k d 353))))))))))))))))))))
/-- SlabImageModel.writeImage from 151 -/
def b_353 : am_B := fun k d => (i_iinc 2 1 (k d 352))
/-- SlabImageModel.writeImage from 171 -/
def b_354 : am_B := fun k d => (i_istore 2 (i_int 0 (i_istore 3 (k d 355))))
/-- SlabImageModel.writeImage from 174 -/
def b_355 : am_B := fun k d => (i_iload 3 (i_aload 0 (i_getf 6 15 (i_iload 1 (i_iald 0 (i_cmpge i_vret (i_int 0 (i_istore 4 (k d 356)))))))))
/-- SlabImageModel.writeImage from 187 -/
def b_356 : am_B := fun k d => (i_iload 4 (i_aload 0 (i_getf 6 5 (i_iload 1 (i_iald 0 (i_cmpge (i_iinc 3 1 (k d 355)) (i_aload 0 (i_iload 1 (i_iload 4 (i_recv 6 2 (i_call k d 292 3 3 (i_ifeq (k d 357) (i_aload 0 (i_iload 1 (i_iload 4 (i_iload 3 (i_iload 2 (i_recv 6 4 (i_call k d 369 5 9 (k d 357))))))))))))))))))))
/-- SlabImageModel.writeImage from 217 -/
def b_357 : am_B := fun k d => (i_iinc 4 1 (k d 356))
/-- SlabImageModel.writeValue from 0 -/
def b_358 : am_B := fun k d => (i_iload 2 (i_int 1 (i_ii (fun x y => x - y) (i_istore 3 (k d 359)))))
/-- SlabImageModel.writeValue from 4 -/
def b_359 : am_B := fun k d => (i_iload 3 (i_iflt i_vret (i_aload 0 (i_iload 1 (i_int 8 (i_iload 3 (i_ii (fun x y => x * y) (i_ii (fun x y => x >>> (y &&& 31)) (i_int 255 (i_ii (fun x y => x &&& y) (i_recv 6 1 (i_call k d 360 2 2 (i_iinc 3 (-1) (k d 359))))))))))))))
/-- SlabImageModel.write from 0 -/
def b_360 : am_B := fun k d => (i_aload 0 (i_getf 6 20 (i_aload 0 (i_getf 6 21 (i_iload 1 (i_iast 0 (fun x => x) (i_aload 0 (i_dup (i_getf 6 21 (i_int 1 (i_ii (fun x y => x + y) (i_putI 6 21 i_vret))))))))))))
/-- SlabImageModel.writeCount from 0 -/
def b_361 : am_B := fun k d => (i_aload 0 (i_iload 2 (i_ifne (i_iload 1 (k d 362)) (i_int 0 (k d 362)))))
/-- SlabImageModel.writeCount from 10 -/
def b_362 : am_B := fun k d => (i_int 4 (i_recv 6 2 (i_call k d 358 3 4 (i_aload 0 (i_iload 2 (i_int 4 (i_recv 6 2 (i_call k d 358 3 4 i_vret))))))))
/-- SlabImageModel.writeName from 0 -/
def b_363 : am_B := fun k d => (i_aload 0 (i_int 1 (i_int 4 (i_recv 6 2 (i_call k d 358 3 4 (i_aload 0 (i_iload 1 (i_recv 6 1 (i_call k d 360 2 2 (i_aload 0 (i_int 0 (i_int 3 (i_recv 6 2 (i_call k d 358 3 4 i_vret))))))))))))))
/-- SlabImageModel.writeList from 0 -/
def b_364 : am_B := fun k d => (i_aload 0 (i_int 12 (i_aload 0 (i_getf 6 10 (i_int 6 (i_iload 1 (i_ii (fun x y => x * y) (i_iload 2 (i_ii (fun x y => x + y) (i_iald 0 (i_recv 6 2 (i_call k d 361 3 3 (i_int 18 (i_iload 1 (i_ii (fun x y => x * y) (i_int 3 (i_iload 2 (i_ii (fun x y => x * y) (i_ii (fun x y => x + y) (i_istore 3 (k d 365)))))))))))))))))))))
/-- SlabImageModel.writeList from 26 -/
def b_365 : am_B := fun k d => (i_iload 3 (i_int 18 (i_iload 1 (i_ii (fun x y => x * y) (i_int 3 (i_iload 2 (i_ii (fun x y => x * y) (i_ii (fun x y => x + y) (i_aload 0 (i_getf 6 10 (i_int 6 (i_iload 1 (i_ii (fun x y => x * y) (i_iload 2 (i_ii (fun x y => x + y) (i_iald 0 (i_ii (fun x y => x + y) (i_cmpge i_vret (i_aload 0 (i_aload 0 (i_getf 6 11 (i_iload 3 (i_iald 0 (i_recv 6 1 (i_call k d 363 2 2 (i_aload 0 (i_aload 0 (i_getf 6 12 (i_iload 3 (i_iald 0 (i_int 4 (i_recv 6 2 (i_call k d 358 3 4 (i_aload 0 (i_int 2 (i_int 4 (i_recv 6 2 (i_call k d 358 3 4 (i_aload 0 (i_getf 6 21 (i_istore 4 (i_aload 0 (i_aload 0 (i_getf 6 13 (i_iload 3 (i_iald 0 (i_aload 0 (i_getf 6 12 (i_iload 3 (i_iald 0 (i_call k d 304 1 1 (i_recv 6 2 (i_call k d 358 3 4 (i_aload 0 (i_aload 0 (i_getf 6 14 (i_iload 3 (i_iald 0 (i_aload 0 (i_getf 6 12 (i_iload 3 (i_iald 0 (i_call k d 304 1 1 (i_recv 6 2 (i_call k d 358 3 4 (i_aload 0 (i_iload 4 (i_recv 6 1 (i_call k d 366 2 2 (i_iinc 3 1 (k d 365)))))))))))))))))))))))))))))))))))))))))))))))))))))))))))))))))))))))
/-- SlabImageModel.pad from 0 -/
def b_366 : am_B := fun k d => (i_aload 0 (i_getf 6 21 (i_iload 1 (i_ii (fun x y => x - y) (i_int 4 (i_idz (fun x y => x - x / y * y) (i_ifeq i_vret (i_aload 0 (i_int 0 (i_recv 6 1 (i_call k d 360 2 2 (k d 366))))))))))))
/-- SlabImageModel.writeVariable from 0 -/
def b_367 : am_B := fun k d => (i_int 5 (i_iload 1 (i_ii (fun x y => x * y) (i_iload 2 (i_ii (fun x y => x + y) (i_istore 3 (i_aload 0 (i_aload 0 (i_getf 6 6 (i_iload 3 (i_iald 0 (i_recv 6 1 (i_call k d 363 2 2 (i_aload 0 (i_aload 0 (i_getf 6 8 (i_iload 3 (i_iald 0 (i_int 4 (i_recv 6 2 (i_call k d 358 3 4 (i_int 0 (i_istore 4 (k d 368))))))))))))))))))))))))
/-- SlabImageModel.writeVariable from 30 -/
def b_368 : am_B := fun k d => (i_iload 4 (i_aload 0 (i_getf 6 8 (i_iload 3 (i_iald 0 (i_cmpge (i_aload 0 (i_iload 1 (i_iload 2 (i_int 1 (i_ii (fun x y => x + y) (i_recv 6 2 (i_call k d 364 3 5 (i_aload 0 (i_aload 0 (i_getf 6 7 (i_iload 3 (i_iald 0 (i_int 4 (i_recv 6 2 (i_call k d 358 3 4 (i_aload 0 (i_iload 1 (i_iload 2 (i_recv 6 2 (i_call k d 301 3 3 (i_istore 4 (i_aload 0 (i_iload 1 (i_iload 2 (i_recv 6 2 (i_call k d 284 3 7 (i_istore 5 (i_aload 0 (i_iload 4 (i_int 4 (i_recv 6 2 (i_call k d 358 3 4 (i_aload 0 (i_iload 5 (i_int 4 (i_recv 6 2 (i_call k d 358 3 4 i_vret))))))))))))))))))))))))))))))))))))) (i_aload 0 (i_aload 0 (i_getf 6 9 (i_int 2 (i_iload 3 (i_ii (fun x y => x * y) (i_iload 4 (i_ii (fun x y => x + y) (i_iald 0 (i_int 4 (i_recv 6 2 (i_call k d 358 3 4 (i_iinc 4 1 (k d 368))))))))))))))))))))
/-- SlabImageModel.writeCells from 0 -/
def b_369 : am_B := fun k d => (i_int 5 (i_iload 1 (i_ii (fun x y => x * y) (i_iload 2 (i_ii (fun x y => x + y) (i_istore 5 (i_aload 0 (i_iload 1 (i_iload 2 (i_recv 6 2 (i_call k d 302 3 4 (i_istore 6 (i_aload 0 (i_getf 6 21 (i_istore 7 (i_int 0 (i_istore 8 (k d 370))))))))))))))))))
/-- SlabImageModel.writeCells from 24 -/
def b_370 : am_B := fun k d => (i_iload 8 (i_iload 6 (i_cmpge (i_iload 4 (i_ifeq (k d 371) (i_aload 0 (i_iload 7 (i_recv 6 1 (i_call k d 366 2 2 (k d 371))))))) (i_aload 0 (i_aload 0 (i_getf 6 16 (i_int 800 (i_iload 5 (i_ii (fun x y => x * y) (i_iload 3 (i_iload 6 (i_ii (fun x y => x * y) (i_ii (fun x y => x + y) (i_iload 8 (i_ii (fun x y => x + y) (i_iald 0 (i_aload 0 (i_getf 6 7 (i_iload 5 (i_iald 0 (i_call k d 304 1 1 (i_recv 6 2 (i_call k d 358 3 4 (i_iinc 8 1 (k d 370)))))))))))))))))))))))))
/-- SlabImageModel.writeCells from 81 -/
def b_371 : am_B := fun k d => i_vret
/-- SlabImageModel.add from 0 -/
def b_372 : am_B := fun k d => (i_iload 3 (i_int 1 (i_cmplt (k d 373) (i_iload 3 (i_int 8 (i_cmpgt (k d 373) (i_aload 0 (i_getf 6 23 (i_iload 3 (i_ii (fun x y => x + y) (i_int 800 (i_cmple (i_int 0 (i_istore 4 (k d 374))) (k d 373)))))))))))))
/-- SlabImageModel.add from 23 -/
def b_373 : am_B := fun k d => (i_int 0 i_zret)
/-- SlabImageModel.add from 28 -/
def b_374 : am_B := fun k d => (i_iload 4 (i_iload 3 (i_cmpge (i_int 1 i_zret) (i_aload 0 (i_getf 6 22 (i_aload 0 (i_getf 6 23 (i_lload 1 (i_int 56 (i_int 8 (i_iload 4 (i_ii (fun x y => x * y) (i_ii (fun x y => x - y) (i_lsh (fun x y => x >>> (y.toInt64 &&& 63)) (i_long 255 (i_ll (fun x y => x &&& y) (i_l2i (i_iast 0 (fun x => x) (i_aload 0 (i_dup (i_getf 6 23 (i_int 1 (i_ii (fun x y => x + y) (i_putI 6 23 (i_iinc 4 1 (k d 374))))))))))))))))))))))))))
/-- SlabImageModel.erase from 0 -/
def b_375 : am_B := fun k d => (i_aload 0 (i_int 0 (i_putI 6 23 i_vret)))
/-- SlabImageModel.open from 0 -/
def b_376 : am_B := fun k d => (i_int 1 (i_aload 0 (i_getf 6 0 (i_ii (fun x y => x - y) (i_istore 1 (i_aload 0 (i_iload 1 (i_recv 6 1 (i_call k d 379 2 4 (i_ifeq (k d 377) (i_aload 0 (i_iload 1 (i_aload 0 (i_getf 6 15 (i_iload 1 (i_iald 0 (i_i2l (i_recv 6 2 (i_call k d 283 3 4 (i_aload 0 (i_getf 6 23 (i_i2l (i_lcmp (i_ifeq (i_aload 0 (i_iload 1 (i_recv 6 1 (i_call k d 414 2 5 (i_aload 0 (i_iload 1 (i_recv 6 1 (i_call k d 349 2 5 (i_int 0 (i_istore 2 (k d 378))))))))))) (k d 377)))))))))))))))))))))))))
/-- SlabImageModel.open from 36 -/
def b_377 : am_B := fun k d => (i_int (-9) i_iret)
/-- SlabImageModel.open from 51 -/
def b_378 : am_B := fun k d => (i_iload 2 (i_aload 0 (i_getf 6 23 (i_cmpge (i_aload 0 (i_iload 1 (i_putI 6 0 (i_aload 0 (i_int 1 (i_putZ 6 1 (i_aload 0 (i_getf 6 23 i_iret)))))))) (i_aload 0 (i_getf 6 20 (i_iload 2 (i_iald 0 (i_aload 0 (i_getf 6 22 (i_iload 2 (i_iald 0 (i_cmpeq (i_iinc 2 1 (k d 378)) (i_int (-9) i_iret))))))))))))))
/-- SlabImageModel.readHeader from 0 -/
def b_379 : am_B := fun k d => (i_aload 0 (i_int 4 (i_putI 6 24 (i_aload 0 (i_int 0 (i_putZ 6 25 (i_aload 0 (i_getf 6 15 (i_iload 1 (i_aload 0 (i_int 4 (i_recv 6 1 (i_call k d 385 2 4 (i_iast 0 (fun x => x) (i_aload 0 (i_getf 6 5 (i_iload 1 (i_int 0 (i_iast 0 (fun x => x) (i_aload 0 (i_iload 1 (i_recv 6 1 (i_call k d 390 2 6 (i_ifeq (k d 380) (i_aload 0 (i_iload 1 (i_int 0 (i_recv 6 2 (i_call k d 399 3 7 (i_ifne (i_aload 0 (i_int 5 (i_recv 6 1 (i_call k d 395 2 3 (i_istore 2 (i_int 0 (i_istore 3 (k d 381)))))))) (k d 380)))))))))))))))))))))))))))))))
/-- SlabImageModel.readHeader from 45 -/
def b_380 : am_B := fun k d => (i_int 0 i_zret)
/-- SlabImageModel.readHeader from 55 -/
def b_381 : am_B := fun k d => (i_iload 3 (i_iload 2 (i_cmpge (i_iload 2 (i_iflt (k d 383) (i_aload 0 (i_getf 6 25 (i_ifne (k d 383) (i_aload 0 (i_getf 6 15 (i_iload 1 (i_iald 0 (i_iflt (k d 383) (i_aload 0 (i_getf 6 15 (i_iload 1 (i_iald 0 (i_ifeq (k d 382) (i_aload 0 (i_iload 1 (i_recv 6 1 (i_call k d 311 2 4 (i_ifle (k d 383) (k d 382))))))))))))))))))))) (i_aload 0 (i_iload 1 (i_iload 3 (i_recv 6 2 (i_call k d 407 3 6 (i_ifne (i_aload 0 (i_getf 6 5 (i_iload 1 (i_iload 3 (i_int 1 (i_ii (fun x y => x + y) (i_iast 0 (fun x => x) (i_iinc 3 1 (k d 381))))))))) (i_int 0 i_zret))))))))))
/-- SlabImageModel.readHeader from 123 -/
def b_382 : am_B := fun k d => (i_int 1 (k d 384))
/-- SlabImageModel.readHeader from 127 -/
def b_383 : am_B := fun k d => (i_int 0 (k d 384))
/-- SlabImageModel.readHeader from 128 -/
def b_384 : am_B := fun k d => i_zret
/-- SlabImageModel.read from 0 -/
def b_385 : am_B := fun k d => (i_int 0 (i_istore 2 (i_aload 0 (i_aload 0 (i_getf 6 25 (i_ifne (k d 386) (i_aload 0 (i_getf 6 24 (i_iload 1 (i_ii (fun x y => x + y) (i_aload 0 (i_getf 6 23 (i_cmple (i_int 0 (k d 387)) (k d 386))))))))))))))
/-- SlabImageModel.read from 23 -/
def b_386 : am_B := fun k d => (i_int 1 (k d 387))
/-- SlabImageModel.read from 28 -/
def b_387 : am_B := fun k d => (i_putZ 6 25 (i_int 0 (i_istore 3 (k d 388))))
/-- SlabImageModel.read from 33 -/
def b_388 : am_B := fun k d => (i_iload 3 (i_iload 1 (i_cmpge (i_aload 0 (i_aload 0 (i_getf 6 24 (i_iload 1 (i_ii (fun x y => x + y) (i_putI 6 24 (i_iload 2 i_iret))))))) (i_iload 2 (i_int 8 (i_ii (fun x y => x <<< (y &&& 31)) (i_aload 0 (i_getf 6 25 (i_ifeq (i_aload 0 (i_getf 6 22 (i_aload 0 (i_getf 6 24 (i_iload 3 (i_ii (fun x y => x + y) (i_iald 0 (k d 389)))))))) (i_int 0 (k d 389)))))))))))
/-- SlabImageModel.read from 64 -/
def b_389 : am_B := fun k d => (i_ii (fun x y => x ||| y) (i_istore 2 (i_iinc 3 1 (k d 388))))
/-- SlabImageModel.readDimensions from 0 -/
def b_390 : am_B := fun k d => (i_aload 0 (i_int 4 (i_recv 6 1 (i_call k d 395 2 3 (i_istore 2 (i_aload 0 (i_getf 6 2 (i_iload 1 (i_int 0 (i_iast 0 (fun x => x) (i_int 0 (i_istore 3 (k d 391)))))))))))))
/-- SlabImageModel.readDimensions from 15 -/
def b_391 : am_B := fun k d => (i_iload 3 (i_iload 2 (i_cmpge (i_iload 2 (i_iflt (k d 393) (i_aload 0 (i_iload 1 (i_recv 6 1 (i_call k d 233 2 4 (i_int 1 (i_cmpgt (k d 393) (i_int 1 (k d 394)))))))))) (i_aload 0 (i_recv 6 0 (i_call k d 398 1 1 (i_istore 4 (i_aload 0 (i_int 4 (i_recv 6 1 (i_call k d 385 2 4 (i_istore 5 (i_iload 4 (i_call k d 225 1 1 (i_ifeq (k d 392) (i_iload 5 (i_iflt (k d 392) (i_iload 5 (i_int 8 (i_cmpgt (k d 392) (i_aload 0 (i_iload 1 (i_iload 4 (i_int (-1) (i_recv 6 3 (i_call k d 228 4 6 (i_ifeq (i_aload 0 (i_getf 6 3 (i_int 4 (i_iload 1 (i_ii (fun x y => x * y) (i_iload 3 (i_ii (fun x y => x + y) (i_iload 4 (i_iast 0 (fun x => x) (i_aload 0 (i_getf 6 4 (i_int 4 (i_iload 1 (i_ii (fun x y => x * y) (i_iload 3 (i_ii (fun x y => x + y) (i_iload 5 (i_iast 0 (fun x => x) (i_aload 0 (i_getf 6 2 (i_iload 1 (i_iload 3 (i_int 1 (i_ii (fun x y => x + y) (i_iast 0 (fun x => x) (i_iinc 3 1 (k d 391))))))))))))))))))))))))))) (k d 392))))))))))))))))))))))))))))
/-- SlabImageModel.readDimensions from 64 -/
def b_392 : am_B := fun k d => (i_int 0 i_zret)
/-- SlabImageModel.readDimensions from 122 -/
def b_393 : am_B := fun k d => (i_int 0 (k d 394))
/-- SlabImageModel.readDimensions from 123 -/
def b_394 : am_B := fun k d => i_zret
/-- SlabImageModel.readCount from 0 -/
def b_395 : am_B := fun k d => (i_aload 0 (i_int 4 (i_recv 6 1 (i_call k d 385 2 4 (i_pop (i_aload 0 (i_int 4 (i_recv 6 1 (i_call k d 385 2 4 (i_istore 2 (i_aload 0 (i_getf 6 25 (i_ifne (k d 396) (i_iload 2 (i_iflt (k d 396) (i_iload 2 (i_iload 1 (i_cmple (i_iload 2 (k d 397)) (k d 396)))))))))))))))))))
/-- SlabImageModel.readCount from 28 -/
def b_396 : am_B := fun k d => (i_int (-1) (k d 397))
/-- SlabImageModel.readCount from 33 -/
def b_397 : am_B := fun k d => i_iret
/-- SlabImageModel.readName from 0 -/
def b_398 : am_B := fun k d => (i_aload 0 (i_int 4 (i_recv 6 1 (i_call k d 385 2 4 (i_pop (i_aload 0 (i_int 4 (i_recv 6 1 (i_call k d 385 2 4 (i_int 24 (i_ii (fun x y => x >>> (y &&& 31)) (i_int 255 (i_ii (fun x y => x &&& y) i_iret)))))))))))))
/-- SlabImageModel.readList from 0 -/
def b_399 : am_B := fun k d => (i_aload 0 (i_int 3 (i_recv 6 1 (i_call k d 395 2 3 (i_istore 3 (i_aload 0 (i_getf 6 10 (i_int 6 (i_iload 1 (i_ii (fun x y => x * y) (i_iload 2 (i_ii (fun x y => x + y) (i_iload 3 (i_ifge (i_iload 3 (k d 400)) (i_int 0 (k d 400))))))))))))))))
/-- SlabImageModel.readList from 25 -/
def b_400 : am_B := fun k d => (i_iast 0 (fun x => x) (i_int 0 (i_istore 4 (k d 401))))
/-- SlabImageModel.readList from 29 -/
def b_401 : am_B := fun k d => (i_iload 4 (i_iload 3 (i_cmpge (i_iload 3 (i_iflt (i_int 0 (k d 404)) (i_int 1 (k d 404)))) (i_int 18 (i_iload 1 (i_ii (fun x y => x * y) (i_int 3 (i_iload 2 (i_ii (fun x y => x * y) (i_ii (fun x y => x + y) (i_iload 4 (i_ii (fun x y => x + y) (i_istore 5 (i_aload 0 (i_getf 6 11 (i_iload 5 (i_aload 0 (i_recv 6 0 (i_call k d 398 1 1 (i_iast 0 (fun x => x) (i_aload 0 (i_getf 6 12 (i_iload 5 (i_aload 0 (i_int 4 (i_recv 6 1 (i_call k d 385 2 4 (i_iast 0 (fun x => x) (i_aload 0 (i_int 4 (i_recv 6 1 (i_call k d 385 2 4 (i_pop (i_aload 0 (i_getf 6 11 (i_iload 5 (i_iald 0 (i_call k d 225 1 1 (i_ifeq (k d 402) (i_aload 0 (i_getf 6 12 (i_iload 5 (i_iald 0 (i_int 1 (i_cmplt (k d 402) (i_aload 0 (i_getf 6 12 (i_iload 5 (i_iald 0 (i_int 4 (i_cmple (i_int 0 (i_istore 6 (k d 403))) (k d 402))))))))))))))))))))))))))))))))))))))))))))))))))))
/-- SlabImageModel.readList from 112 -/
def b_402 : am_B := fun k d => (i_int 0 i_zret)
/-- SlabImageModel.readList from 117 -/
def b_403 : am_B := fun k d => (i_iload 6 (i_iload 4 (i_cmpge (i_aload 0 (i_getf 6 13 (i_iload 5 (i_aload 0 (i_aload 0 (i_getf 6 12 (i_iload 5 (i_iald 0 (i_recv 6 1 (i_call k d 405 2 3 (i_iast 0 (fun x => x) (i_aload 0 (i_getf 6 14 (i_iload 5 (i_aload 0 (i_aload 0 (i_getf 6 12 (i_iload 5 (i_iald 0 (i_recv 6 1 (i_call k d 405 2 3 (i_iast 0 (fun x => x) (i_aload 0 (i_aload 0 (i_getf 6 24 (i_int 3 (i_ii (fun x y => x + y) (i_int 4 (i_idz (fun x y => x / y) (i_int 4 (i_ii (fun x y => x * y) (i_putI 6 24 (i_iinc 4 1 (k d 401)))))))))))))))))))))))))))))))))) (i_aload 0 (i_getf 6 11 (i_iload 5 (i_int 1 (i_ii (fun x y => x - y) (i_iload 6 (i_ii (fun x y => x - y) (i_iald 0 (i_aload 0 (i_getf 6 11 (i_iload 5 (i_iald 0 (i_cmpne (i_iinc 6 1 (k d 403)) (i_int 0 i_zret)))))))))))))))))
/-- SlabImageModel.readList from 219 -/
def b_404 : am_B := fun k d => i_zret
/-- SlabImageModel.readOf from 0 -/
def b_405 : am_B := fun k d => (i_aload 0 (i_iload 1 (i_call k d 304 1 1 (i_recv 6 1 (i_call k d 385 2 4 (i_istore 2 (i_iload 1 (i_int 1 (i_cmpne (i_iload 1 (i_int 3 (i_cmpne (i_iload 2 (k d 406)) (i_iload 2 (i_i (fun x => x.toInt16.toInt32) (k d 406)))))) (i_iload 2 (i_i (fun x => x.toInt8.toInt32) (k d 406))))))))))))
/-- SlabImageModel.readOf from 30 -/
def b_406 : am_B := fun k d => i_iret
/-- SlabImageModel.readVariable from 0 -/
def b_407 : am_B := fun k d => (i_int 5 (i_iload 1 (i_ii (fun x y => x * y) (i_iload 2 (i_ii (fun x y => x + y) (i_istore 3 (i_aload 0 (i_getf 6 6 (i_iload 3 (i_aload 0 (i_recv 6 0 (i_call k d 398 1 1 (i_iast 0 (fun x => x) (i_aload 0 (i_getf 6 8 (i_iload 3 (i_aload 0 (i_int 4 (i_recv 6 1 (i_call k d 385 2 4 (i_iast 0 (fun x => x) (i_aload 0 (i_getf 6 6 (i_iload 3 (i_iald 0 (i_call k d 225 1 1 (i_ifeq (k d 408) (i_aload 0 (i_iload 1 (i_aload 0 (i_getf 6 6 (i_iload 3 (i_iald 0 (i_int (-1) (i_recv 6 3 (i_call k d 247 4 6 (i_ifne (k d 408) (i_aload 0 (i_getf 6 8 (i_iload 3 (i_iald 0 (i_iflt (k d 408) (i_aload 0 (i_getf 6 8 (i_iload 3 (i_iald 0 (i_int 2 (i_cmple (i_int 0 (i_istore 4 (k d 409))) (k d 408)))))))))))))))))))))))))))))))))))))))))))))))))
/-- SlabImageModel.readVariable from 73 -/
def b_408 : am_B := fun k d => (i_int 0 i_zret)
/-- SlabImageModel.readVariable from 78 -/
def b_409 : am_B := fun k d => (i_iload 4 (i_aload 0 (i_getf 6 8 (i_iload 3 (i_iald 0 (i_cmpge (i_aload 0 (i_iload 1 (i_iload 2 (i_int 1 (i_ii (fun x y => x + y) (i_recv 6 2 (i_call k d 399 3 7 (i_ifne (i_aload 0 (i_getf 6 7 (i_iload 3 (i_aload 0 (i_int 4 (i_recv 6 1 (i_call k d 385 2 4 (i_iast 0 (fun x => x) (i_aload 0 (i_int 4 (i_recv 6 1 (i_call k d 385 2 4 (i_pop (i_aload 0 (i_int 4 (i_recv 6 1 (i_call k d 385 2 4 (i_pop (i_aload 0 (i_getf 6 7 (i_iload 3 (i_iald 0 (i_int 1 (i_cmplt (k d 412) (i_aload 0 (i_getf 6 7 (i_iload 3 (i_iald 0 (i_int 4 (i_cmpgt (k d 412) (i_int 1 (k d 413)))))))))))))))))))))))))))))))) (i_int 0 i_zret))))))))) (i_aload 0 (i_int 4 (i_recv 6 1 (i_call k d 385 2 4 (i_istore 5 (i_iload 5 (i_iflt (k d 410) (i_iload 5 (i_aload 0 (i_getf 6 2 (i_iload 1 (i_iald 0 (i_cmpge (k d 410) (i_iload 4 (i_int 1 (i_cmpne (k d 411) (i_aload 0 (i_getf 6 4 (i_int 4 (i_iload 1 (i_ii (fun x y => x * y) (i_iload 5 (i_ii (fun x y => x + y) (i_iald 0 (i_ifne (k d 411) (k d 410))))))))))))))))))))))))))))))))
/-- SlabImageModel.readVariable from 132 -/
def b_410 : am_B := fun k d => (i_int 0 i_zret)
/-- SlabImageModel.readVariable from 134 -/
def b_411 : am_B := fun k d => (i_aload 0 (i_getf 6 9 (i_int 2 (i_iload 3 (i_ii (fun x y => x * y) (i_iload 4 (i_ii (fun x y => x + y) (i_iload 5 (i_iast 0 (fun x => x) (i_iinc 4 1 (k d 409)))))))))))
/-- SlabImageModel.readVariable from 213 -/
def b_412 : am_B := fun k d => (i_int 0 (k d 413))
/-- SlabImageModel.readVariable from 214 -/
def b_413 : am_B := fun k d => i_zret
/-- SlabImageModel.readAllCells from 0 -/
def b_414 : am_B := fun k d => (i_int 0 (i_istore 2 (k d 415)))
/-- SlabImageModel.readAllCells from 2 -/
def b_415 : am_B := fun k d => (i_iload 2 (i_aload 0 (i_getf 6 5 (i_iload 1 (i_iald 0 (i_cmpge (i_aload 0 (i_iload 1 (i_recv 6 1 (i_call k d 311 2 4 (i_int 1 (i_cmple (i_int 0 (k d 417)) (i_int 1 (k d 417)))))))) (i_aload 0 (i_iload 1 (i_iload 2 (i_recv 6 2 (i_call k d 252 3 4 (i_aload 0 (i_iload 1 (i_iload 2 (i_recv 6 2 (i_call k d 292 3 3 (i_ifne (k d 416) (i_aload 0 (i_iload 1 (i_iload 2 (i_int 0 (i_int 1 (i_recv 6 4 (i_call k d 421 5 8 (k d 416)))))))))))))))))))))))))
/-- SlabImageModel.readAllCells from 35 -/
def b_416 : am_B := fun k d => (i_iinc 2 1 (k d 415))
/-- SlabImageModel.readAllCells from 55 -/
def b_417 : am_B := fun k d => (i_istore 2 (i_int 0 (i_istore 3 (k d 418))))
/-- SlabImageModel.readAllCells from 58 -/
def b_418 : am_B := fun k d => (i_iload 3 (i_aload 0 (i_getf 6 15 (i_iload 1 (i_iald 0 (i_cmpge i_vret (i_int 0 (i_istore 4 (k d 419)))))))))
/-- SlabImageModel.readAllCells from 71 -/
def b_419 : am_B := fun k d => (i_iload 4 (i_aload 0 (i_getf 6 5 (i_iload 1 (i_iald 0 (i_cmpge (i_iinc 3 1 (k d 418)) (i_aload 0 (i_iload 1 (i_iload 4 (i_recv 6 2 (i_call k d 292 3 3 (i_ifeq (k d 420) (i_aload 0 (i_iload 1 (i_iload 4 (i_iload 3 (i_iload 2 (i_recv 6 4 (i_call k d 421 5 8 (k d 420))))))))))))))))))))
/-- SlabImageModel.readAllCells from 101 -/
def b_420 : am_B := fun k d => (i_iinc 4 1 (k d 419))
/-- SlabImageModel.readCells from 0 -/
def b_421 : am_B := fun k d => (i_int 5 (i_iload 1 (i_ii (fun x y => x * y) (i_iload 2 (i_ii (fun x y => x + y) (i_istore 5 (i_aload 0 (i_iload 1 (i_iload 2 (i_recv 6 2 (i_call k d 302 3 4 (i_istore 6 (i_int 0 (i_istore 7 (k d 422)))))))))))))))
/-- SlabImageModel.readCells from 18 -/
def b_422 : am_B := fun k d => (i_iload 7 (i_iload 6 (i_cmpge (i_aload 0 (i_iload 4 (i_ifeq (i_aload 0 (i_getf 6 24 (k d 423))) (i_aload 0 (i_getf 6 24 (i_int 3 (i_ii (fun x y => x + y) (i_int 4 (i_idz (fun x y => x / y) (i_int 4 (i_ii (fun x y => x * y) (k d 423)))))))))))) (i_aload 0 (i_getf 6 16 (i_int 800 (i_iload 5 (i_ii (fun x y => x * y) (i_iload 3 (i_iload 6 (i_ii (fun x y => x * y) (i_ii (fun x y => x + y) (i_iload 7 (i_ii (fun x y => x + y) (i_aload 0 (i_aload 0 (i_getf 6 7 (i_iload 5 (i_iald 0 (i_recv 6 1 (i_call k d 405 2 3 (i_iast 0 (fun x => x) (i_iinc 7 1 (k d 422))))))))))))))))))))))))
/-- SlabImageModel.readCells from 84 -/
def b_423 : am_B := fun k d => (i_putI 6 24 i_vret)
/-- SlabImageLaw.law from 0 -/
def b_424 : am_B := fun k d => (i_new 5 dvX5 (i_dup (i_recv 5 0 (i_call k d 0 1 1 (i_astore 1 (i_new 6 dvX6 (i_dup (i_recv 6 0 (i_call k d 220 1 1 (i_astore 2 (i_int 0 (i_istore 3 (k d 425)))))))))))))
/-- SlabImageLaw.law from 18 -/
def b_425 : am_B := fun k d => (i_iload 3 (i_aload 0 (i_alen (i_int 6 (i_ii (fun x y => x - y) (i_cmpgt (i_int 1 i_zret) (i_aload 0 (i_iload 3 (i_iald 0 (i_int 31 (i_ii (fun x y => x &&& y) (i_switch [(i_aload 1 (i_aload 0 (i_iload 3 (i_int 1 (i_ii (fun x y => x + y) (i_iald 0 (i_aload 0 (i_iload 3 (i_int 2 (i_ii (fun x y => x + y) (i_iald 0 (i_recv 5 2 (i_call k d 7 3 3 (i_aload 2 (i_aload 0 (i_iload 3 (i_int 1 (i_ii (fun x y => x + y) (i_iald 0 (i_aload 0 (i_iload 3 (i_int 2 (i_ii (fun x y => x + y) (i_iald 0 (i_recv 6 2 (i_call k d 221 3 4 (i_cmpeq (k d 428) (i_int 0 i_zret)))))))))))))))))))))))))))), (i_aload 1 (i_aload 0 (i_iload 3 (i_int 1 (i_ii (fun x y => x + y) (i_iald 0 (i_aload 0 (i_iload 3 (i_int 2 (i_ii (fun x y => x + y) (i_iald 0 (i_aload 0 (i_iload 3 (i_int 3 (i_ii (fun x y => x + y) (i_iald 0 (i_aload 0 (i_iload 3 (i_int 4 (i_ii (fun x y => x + y) (i_iald 0 (i_recv 5 4 (i_call k d 21 5 5 (i_aload 2 (i_aload 0 (i_iload 3 (i_int 1 (i_ii (fun x y => x + y) (i_iald 0 (i_aload 0 (i_iload 3 (i_int 2 (i_ii (fun x y => x + y) (i_iald 0 (i_aload 0 (i_iload 3 (i_int 3 (i_ii (fun x y => x + y) (i_iald 0 (i_aload 0 (i_iload 3 (i_int 4 (i_ii (fun x y => x + y) (i_iald 0 (i_recv 6 4 (i_call k d 236 5 7 (i_cmpeq (k d 428) (i_int 0 i_zret)))))))))))))))))))))))))))))))))))))))))))))))), (i_aload 1 (i_aload 0 (i_iload 3 (i_int 1 (i_ii (fun x y => x + y) (i_iald 0 (i_aload 0 (i_iload 3 (i_int 2 (i_ii (fun x y => x + y) (i_iald 0 (i_aload 0 (i_iload 3 (i_int 3 (i_ii (fun x y => x + y) (i_iald 0 (i_aload 0 (i_iload 3 (i_int 4 (i_ii (fun x y => x + y) (i_iald 0 (i_aload 0 (i_iload 3 (i_int 5 (i_ii (fun x y => x + y) (i_iald 0 (i_recv 5 5 (i_call k d 43 6 7 (i_aload 2 (i_aload 0 (i_iload 3 (i_int 1 (i_ii (fun x y => x + y) (i_iald 0 (i_aload 0 (i_iload 3 (i_int 2 (i_ii (fun x y => x + y) (i_iald 0 (i_aload 0 (i_iload 3 (i_int 3 (i_ii (fun x y => x + y) (i_iald 0 (i_aload 0 (i_iload 3 (i_int 4 (i_ii (fun x y => x + y) (i_iald 0 (i_aload 0 (i_iload 3 (i_int 5 (i_ii (fun x y => x + y) (i_iald 0 (i_recv 6 5 (i_call k d 256 6 8 (i_cmpeq (k d 428) (i_int 0 i_zret)))))))))))))))))))))))))))))))))))))))))))))))))))))))))), (i_aload 1 (i_aload 0 (i_iload 3 (i_int 1 (i_ii (fun x y => x + y) (i_iald 0 (i_aload 0 (i_iload 3 (i_int 2 (i_ii (fun x y => x + y) (i_iald 0 (i_recv 5 2 (i_call k d 57 3 4 (i_aload 2 (i_aload 0 (i_iload 3 (i_int 1 (i_ii (fun x y => x + y) (i_iald 0 (i_aload 0 (i_iload 3 (i_int 2 (i_ii (fun x y => x + y) (i_iald 0 (i_recv 6 2 (i_call k d 273 3 7 (i_cmpeq (k d 428) (i_int 0 i_zret)))))))))))))))))))))))))))), (i_aload 1 (i_aload 0 (i_iload 3 (i_int 1 (i_ii (fun x y => x + y) (i_iald 0 (i_ifeq (i_int 0 (k d 426)) (i_int 1 (k d 426))))))))), (i_aload 1 (i_recv 5 0 (i_call k d 68 1 3 (i_aload 2 (i_recv 6 0 (i_call k d 282 1 3 (i_cmpeq (k d 428) (i_int 0 i_zret)))))))), (i_aload 1 (i_recv 5 0 (i_call k d 91 1 1 (i_aload 2 (i_recv 6 0 (i_call k d 314 1 1 (i_cmpeq (k d 428) (i_int 0 i_zret)))))))), (i_aload 1 (i_aload 0 (i_iload 3 (i_int 1 (i_ii (fun x y => x + y) (i_iald 0 (i_aload 0 (i_iload 3 (i_int 2 (i_ii (fun x y => x + y) (i_iald 0 (i_aload 0 (i_iload 3 (i_int 3 (i_ii (fun x y => x + y) (i_iald 0 (i_aload 0 (i_iload 3 (i_int 4 (i_ii (fun x y => x + y) (i_iald 0 (i_recv 5 4 (i_call k d 92 5 6 (i_aload 2 (i_aload 0 (i_iload 3 (i_int 1 (i_ii (fun x y => x + y) (i_iald 0 (i_aload 0 (i_iload 3 (i_int 2 (i_ii (fun x y => x + y) (i_iald 0 (i_aload 0 (i_iload 3 (i_int 3 (i_ii (fun x y => x + y) (i_iald 0 (i_aload 0 (i_iload 3 (i_int 4 (i_ii (fun x y => x + y) (i_iald 0 (i_recv 6 4 (i_call k d 315 5 5 (i_cmpeq (k d 428) (i_int 0 i_zret)))))))))))))))))))))))))))))))))))))))))))))))), (i_aload 1 (i_aload 0 (i_iload 3 (i_int 1 (i_ii (fun x y => x + y) (i_iald 0 (i_aload 0 (i_iload 3 (i_int 2 (i_ii (fun x y => x + y) (i_iald 0 (i_aload 0 (i_iload 3 (i_int 3 (i_ii (fun x y => x + y) (i_iald 0 (i_recv 5 3 (i_call k d 101 4 5 (i_aload 2 (i_aload 0 (i_iload 3 (i_int 1 (i_ii (fun x y => x + y) (i_iald 0 (i_aload 0 (i_iload 3 (i_int 2 (i_ii (fun x y => x + y) (i_iald 0 (i_aload 0 (i_iload 3 (i_int 3 (i_ii (fun x y => x + y) (i_iald 0 (i_recv 6 3 (i_call k d 323 4 4 (i_lcmp (i_ifeq (k d 428) (i_int 0 i_zret))))))))))))))))))))))))))))))))))))))), (i_aload 1 (i_aload 0 (i_iload 3 (i_int 1 (i_ii (fun x y => x + y) (i_iald 0 (i_aload 0 (i_iload 3 (i_int 2 (i_ii (fun x y => x + y) (i_iald 0 (i_aload 0 (i_iload 3 (i_int 3 (i_ii (fun x y => x + y) (i_iald 0 (i_aload 0 (i_iload 3 (i_int 4 (i_ii (fun x y => x + y) (i_iald 0 (i_recv 5 4 (i_call k d 110 5 6 (i_aload 2 (i_aload 0 (i_iload 3 (i_int 1 (i_ii (fun x y => x + y) (i_iald 0 (i_aload 0 (i_iload 3 (i_int 2 (i_ii (fun x y => x + y) (i_iald 0 (i_aload 0 (i_iload 3 (i_int 3 (i_ii (fun x y => x + y) (i_iald 0 (i_aload 0 (i_iload 3 (i_int 4 (i_ii (fun x y => x + y) (i_iald 0 (i_recv 6 4 (i_call k d 325 5 5 (i_cmpeq (k d 428) (i_int 0 i_zret)))))))))))))))))))))))))))))))))))))))))))))))), (i_aload 1 (i_aload 0 (i_iload 3 (i_int 1 (i_ii (fun x y => x + y) (i_iald 0 (i_aload 0 (i_iload 3 (i_int 2 (i_ii (fun x y => x + y) (i_iald 0 (i_aload 0 (i_iload 3 (i_int 3 (i_ii (fun x y => x + y) (i_iald 0 (i_recv 5 3 (i_call k d 115 4 8 (i_aload 2 (i_aload 0 (i_iload 3 (i_int 1 (i_ii (fun x y => x + y) (i_iald 0 (i_aload 0 (i_iload 3 (i_int 2 (i_ii (fun x y => x + y) (i_iald 0 (i_aload 0 (i_iload 3 (i_int 3 (i_ii (fun x y => x + y) (i_iald 0 (i_recv 6 3 (i_call k d 328 4 6 (i_cmpeq (k d 428) (i_int 0 i_zret)))))))))))))))))))))))))))))))))))))), (i_aload 1 (i_aload 0 (i_iload 3 (i_int 1 (i_ii (fun x y => x + y) (i_iald 0 (i_aload 0 (i_iload 3 (i_int 2 (i_ii (fun x y => x + y) (i_iald 0 (i_recv 5 2 (i_call k d 127 3 6 (i_aload 2 (i_aload 0 (i_iload 3 (i_int 1 (i_ii (fun x y => x + y) (i_iald 0 (i_aload 0 (i_iload 3 (i_int 2 (i_ii (fun x y => x + y) (i_iald 0 (i_recv 6 2 (i_call k d 338 3 3 (i_lcmp (i_ifeq (k d 428) (i_int 0 i_zret))))))))))))))))))))))))))))), (i_aload 1 (i_recv 5 0 (i_call k d 129 1 1 (i_aload 2 (i_recv 6 0 (i_call k d 340 1 1 (i_cmpeq (k d 428) (i_int 0 i_zret)))))))), (i_aload 1 (i_recv 5 0 (i_call k d 130 1 1 (i_aload 2 (i_recv 6 0 (i_call k d 341 1 1 (i_cmpeq (k d 428) (i_int 0 i_zret)))))))), (i_aload 1 (i_aload 0 (i_iload 3 (i_int 1 (i_ii (fun x y => x + y) (i_iald 0 (i_recv 5 1 (i_call k d 132 2 2 (i_aload 2 (i_aload 0 (i_iload 3 (i_int 1 (i_ii (fun x y => x + y) (i_iald 0 (i_recv 6 1 (i_call k d 343 2 2 (i_cmpeq (k d 428) (i_int 0 i_zret)))))))))))))))))), (i_aload 1 (i_aload 0 (i_iload 3 (i_int 1 (i_ii (fun x y => x + y) (i_iald 0 (i_recv 5 1 (i_call k d 135 2 5 (i_aload 2 (i_aload 0 (i_iload 3 (i_int 1 (i_ii (fun x y => x + y) (i_iald 0 (i_recv 6 1 (i_call k d 345 2 7 (i_lcmp (i_ifeq (k d 428) (i_int 0 i_zret))))))))))))))))))), (i_aload 1 (i_aload 0 (i_iload 3 (i_int 1 (i_ii (fun x y => x + y) (i_iald 0 (i_i2l (i_int 32 (i_lsh (fun x y => x <<< (y.toInt64 &&& 63)) (i_aload 0 (i_iload 3 (i_int 2 (i_ii (fun x y => x + y) (i_iald 0 (i_i2l (i_long 4294967295 (i_ll (fun x y => x &&& y) (i_ll (fun x y => x ||| y) (i_aload 0 (i_iload 3 (i_int 3 (i_ii (fun x y => x + y) (i_iald 0 (i_recv 5 2 (i_call k d 171 3 5 (i_aload 2 (i_aload 0 (i_iload 3 (i_int 1 (i_ii (fun x y => x + y) (i_iald 0 (i_i2l (i_int 32 (i_lsh (fun x y => x <<< (y.toInt64 &&& 63)) (i_aload 0 (i_iload 3 (i_int 2 (i_ii (fun x y => x + y) (i_iald 0 (i_i2l (i_long 4294967295 (i_ll (fun x y => x &&& y) (i_ll (fun x y => x ||| y) (i_aload 0 (i_iload 3 (i_int 3 (i_ii (fun x y => x + y) (i_iald 0 (i_recv 6 2 (i_call k d 372 3 5 (i_cmpeq (k d 428) (i_int 0 i_zret)))))))))))))))))))))))))))))))))))))))))))))))))))), (i_aload 1 (i_recv 5 0 (i_call k d 174 1 1 (i_aload 2 (i_recv 6 0 (i_call k d 375 1 1 (k d 428))))))), (i_aload 1 (i_recv 5 0 (i_call k d 175 1 2 (i_aload 2 (i_recv 6 0 (i_call k d 376 1 3 (i_cmpeq (k d 428) (i_int 0 i_zret))))))))] (k d 428)))))))))))))
/-- SlabImageLaw.law from 320 -/
def b_426 : am_B := fun k d => (i_aload 0 (i_iload 3 (i_int 2 (i_ii (fun x y => x + y) (i_iald 0 (i_aload 0 (i_iload 3 (i_int 3 (i_ii (fun x y => x + y) (i_iald 0 (i_recv 5 3 (i_call k d 61 4 4 (i_aload 2 (i_aload 0 (i_iload 3 (i_int 1 (i_ii (fun x y => x + y) (i_iald 0 (i_ifeq (i_int 0 (k d 427)) (i_int 1 (k d 427)))))))))))))))))))))
/-- SlabImageLaw.law from 347 -/
def b_427 : am_B := fun k d => (i_aload 0 (i_iload 3 (i_int 2 (i_ii (fun x y => x + y) (i_iald 0 (i_aload 0 (i_iload 3 (i_int 3 (i_ii (fun x y => x + y) (i_iald 0 (i_recv 6 3 (i_call k d 276 4 4 (i_cmpeq (k d 428) (i_int 0 i_zret))))))))))))))
/-- SlabImageLaw.law from 778 -/
def b_428 : am_B := fun k d => (i_iinc 3 6 (k d 425))
def am_t0 : List ((am_I × Nat) × am_B) := [((I_0, 0), b_0), ((I_1, 0), b_1), ((I_1, 50), b_2), ((I_2, 0), b_3), ((I_3, 0), b_4), ((I_4, 0), b_5), ((I_5, 0), b_6), ((I_6, 0), b_7), ((I_6, 20), b_8), ((I_7, 0), b_9), ((I_7, 17), b_10), ((I_7, 57), b_11), ((I_7, 60), b_12), ((I_8, 0), b_13), ((I_8, 16), b_14), ((I_8, 17), b_15), ((I_9, 0), b_16), ((I_9, 2), b_17), ((I_9, 28), b_18), ((I_10, 0), b_19), ((I_10, 2), b_20), ((I_11, 0), b_21), ((I_11, 23), b_22), ((I_12, 0), b_23), ((I_12, 14), b_24), ((I_12, 45), b_25), ((I_12, 48), b_26), ((I_13, 0), b_27), ((I_13, 14), b_28), ((I_13, 15), b_29), ((I_14, 0), b_30), ((I_14, 13), b_31), ((I_14, 18), b_32), ((I_15, 0), b_33), ((I_15, 16), b_34), ((I_15, 17), b_35), ((I_16, 0), b_36), ((I_16, 18), b_37), ((I_17, 0), b_38), ((I_17, 20), b_39), ((I_18, 0), b_40), ((I_19, 0), b_41), ((I_19, 5), b_42), ((I_20, 0), b_43), ((I_20, 40), b_44), ((I_21, 0), b_45), ((I_21, 28), b_46), ((I_22, 0), b_47), ((I_22, 21), b_48), ((I_22, 22), b_49)]
def am_t1 : List ((am_I × Nat) × am_B) := [((I_23, 0), b_50), ((I_23, 14), b_51), ((I_23, 34), b_52), ((I_23, 83), b_53), ((I_24, 0), b_54), ((I_24, 22), b_55), ((I_24, 23), b_56), ((I_25, 0), b_57), ((I_25, 32), b_58), ((I_26, 0), b_59), ((I_26, 24), b_60), ((I_27, 0), b_61), ((I_27, 34), b_62), ((I_28, 0), b_63), ((I_29, 0), b_64), ((I_29, 9), b_65), ((I_29, 44), b_66), ((I_30, 0), b_67), ((I_31, 0), b_68), ((I_32, 0), b_69), ((I_33, 0), b_70), ((I_33, 23), b_71), ((I_34, 0), b_72), ((I_34, 5), b_73), ((I_35, 0), b_74), ((I_36, 0), b_75), ((I_37, 0), b_76), ((I_37, 23), b_77), ((I_38, 0), b_78), ((I_38, 5), b_79), ((I_38, 47), b_80), ((I_38, 53), b_81), ((I_39, 0), b_82), ((I_39, 23), b_83), ((I_40, 0), b_84), ((I_41, 0), b_85), ((I_41, 22), b_86), ((I_41, 52), b_87), ((I_42, 0), b_88), ((I_42, 4), b_89), ((I_42, 27), b_90), ((I_43, 0), b_91), ((I_44, 0), b_92), ((I_45, 0), b_93), ((I_45, 23), b_94), ((I_45, 43), b_95), ((I_45, 44), b_96), ((I_46, 0), b_97), ((I_46, 17), b_98), ((I_47, 0), b_99)]
def am_t2 : List ((am_I × Nat) × am_B) := [((I_47, 33), b_100), ((I_48, 0), b_101), ((I_48, 42), b_102), ((I_49, 0), b_103), ((I_49, 27), b_104), ((I_49, 31), b_105), ((I_49, 32), b_106), ((I_50, 0), b_107), ((I_50, 31), b_108), ((I_50, 39), b_109), ((I_51, 0), b_110), ((I_51, 12), b_111), ((I_51, 40), b_112), ((I_51, 58), b_113), ((I_52, 0), b_114), ((I_53, 0), b_115), ((I_54, 0), b_116), ((I_54, 18), b_117), ((I_55, 0), b_118), ((I_55, 19), b_119), ((I_56, 0), b_120), ((I_57, 0), b_121), ((I_57, 3), b_122), ((I_58, 0), b_123), ((I_58, 6), b_124), ((I_58, 18), b_125), ((I_59, 0), b_126), ((I_60, 0), b_127), ((I_60, 86), b_128), ((I_61, 0), b_129), ((I_62, 0), b_130), ((I_62, 27), b_131), ((I_63, 0), b_132), ((I_63, 33), b_133), ((I_64, 0), b_134), ((I_65, 0), b_135), ((I_65, 17), b_136), ((I_65, 35), b_137), ((I_66, 0), b_138), ((I_66, 30), b_139), ((I_66, 84), b_140), ((I_67, 0), b_141), ((I_68, 0), b_142), ((I_69, 0), b_143), ((I_69, 4), b_144), ((I_70, 0), b_145), ((I_70, 33), b_146), ((I_71, 0), b_147), ((I_71, 10), b_148), ((I_72, 0), b_149)]
def am_t3 : List ((am_I × Nat) × am_B) := [((I_73, 0), b_150), ((I_73, 12), b_151), ((I_74, 0), b_152), ((I_74, 15), b_153), ((I_75, 0), b_154), ((I_75, 44), b_155), ((I_75, 62), b_156), ((I_76, 0), b_157), ((I_76, 2), b_158), ((I_76, 24), b_159), ((I_76, 58), b_160), ((I_76, 77), b_161), ((I_76, 80), b_162), ((I_77, 0), b_163), ((I_77, 2), b_164), ((I_78, 0), b_165), ((I_78, 3), b_166), ((I_78, 45), b_167), ((I_79, 0), b_168), ((I_79, 25), b_169), ((I_79, 26), b_170), ((I_80, 0), b_171), ((I_80, 26), b_172), ((I_80, 31), b_173), ((I_81, 0), b_174), ((I_82, 0), b_175), ((I_83, 0), b_176), ((I_83, 24), b_177), ((I_84, 0), b_178), ((I_85, 0), b_179), ((I_85, 41), b_180), ((I_85, 58), b_181), ((I_85, 60), b_182), ((I_86, 0), b_183), ((I_87, 0), b_184), ((I_88, 0), b_185), ((I_88, 4), b_186), ((I_88, 41), b_187), ((I_89, 0), b_188), ((I_89, 14), b_189), ((I_89, 18), b_190), ((I_90, 0), b_191), ((I_91, 0), b_192), ((I_92, 0), b_193), ((I_92, 14), b_194), ((I_92, 18), b_195), ((I_93, 0), b_196), ((I_93, 29), b_197), ((I_94, 0), b_198), ((I_95, 0), b_199)]
def am_t4 : List ((am_I × Nat) × am_B) := [((I_95, 14), b_200), ((I_95, 18), b_201), ((I_96, 0), b_202), ((I_96, 22), b_203), ((I_96, 37), b_204), ((I_96, 53), b_205), ((I_96, 100), b_206), ((I_97, 0), b_207), ((I_97, 2), b_208), ((I_97, 24), b_209), ((I_97, 58), b_210), ((I_97, 77), b_211), ((I_97, 80), b_212), ((I_98, 0), b_213), ((I_98, 2), b_214), ((I_99, 0), b_215), ((I_99, 3), b_216), ((I_99, 45), b_217), ((I_100, 0), b_218), ((I_100, 15), b_219), ((I_101, 0), b_220), ((I_102, 0), b_221), ((I_102, 26), b_222), ((I_102, 73), b_223), ((I_102, 76), b_224), ((I_103, 0), b_225), ((I_103, 16), b_226), ((I_103, 17), b_227), ((I_104, 0), b_228), ((I_104, 6), b_229), ((I_104, 43), b_230), ((I_104, 47), b_231), ((I_104, 48), b_232), ((I_105, 0), b_233), ((I_105, 4), b_234), ((I_105, 34), b_235), ((I_106, 0), b_236), ((I_106, 26), b_237), ((I_106, 42), b_238), ((I_106, 57), b_239), ((I_106, 68), b_240), ((I_106, 71), b_241), ((I_106, 97), b_242), ((I_106, 193), b_243), ((I_107, 0), b_244), ((I_107, 21), b_245), ((I_107, 22), b_246), ((I_108, 0), b_247), ((I_108, 6), b_248), ((I_108, 43), b_249)]
def am_t5 : List ((am_I × Nat) × am_B) := [((I_108, 47), b_250), ((I_108, 48), b_251), ((I_109, 0), b_252), ((I_109, 2), b_253), ((I_110, 0), b_254), ((I_110, 32), b_255), ((I_111, 0), b_256), ((I_111, 25), b_257), ((I_111, 42), b_258), ((I_111, 63), b_259), ((I_111, 131), b_260), ((I_112, 0), b_261), ((I_112, 21), b_262), ((I_112, 22), b_263), ((I_113, 0), b_264), ((I_113, 24), b_265), ((I_113, 40), b_266), ((I_113, 57), b_267), ((I_113, 61), b_268), ((I_113, 62), b_269), ((I_114, 0), b_270), ((I_114, 30), b_271), ((I_114, 52), b_272), ((I_115, 0), b_273), ((I_115, 25), b_274), ((I_115, 75), b_275), ((I_116, 0), b_276), ((I_116, 32), b_277), ((I_116, 35), b_278), ((I_116, 78), b_279), ((I_116, 81), b_280), ((I_116, 116), b_281), ((I_117, 0), b_282), ((I_118, 0), b_283), ((I_119, 0), b_284), ((I_119, 19), b_285), ((I_119, 24), b_286), ((I_119, 35), b_287), ((I_119, 80), b_288), ((I_119, 94), b_289), ((I_119, 99), b_290), ((I_119, 121), b_291), ((I_120, 0), b_292), ((I_120, 15), b_293), ((I_121, 0), b_294), ((I_121, 42), b_295), ((I_122, 0), b_296), ((I_122, 25), b_297), ((I_123, 0), b_298), ((I_123, 6), b_299)]
def am_t6 : List ((am_I × Nat) × am_B) := [((I_123, 52), b_300), ((I_124, 0), b_301), ((I_125, 0), b_302), ((I_125, 17), b_303), ((I_126, 0), b_304), ((I_126, 19), b_305), ((I_127, 0), b_306), ((I_127, 16), b_307), ((I_127, 20), b_308), ((I_127, 67), b_309), ((I_127, 87), b_310), ((I_128, 0), b_311), ((I_128, 4), b_312), ((I_128, 30), b_313), ((I_129, 0), b_314), ((I_130, 0), b_315), ((I_131, 0), b_316), ((I_131, 30), b_317), ((I_131, 64), b_318), ((I_131, 93), b_319), ((I_132, 0), b_320), ((I_132, 27), b_321), ((I_133, 0), b_322), ((I_134, 0), b_323), ((I_134, 28), b_324), ((I_135, 0), b_325), ((I_135, 12), b_326), ((I_135, 40), b_327), ((I_136, 0), b_328), ((I_136, 50), b_329), ((I_136, 119), b_330), ((I_137, 0), b_331), ((I_137, 2), b_332), ((I_137, 15), b_333), ((I_138, 0), b_334), ((I_138, 27), b_335), ((I_139, 0), b_336), ((I_139, 39), b_337), ((I_140, 0), b_338), ((I_140, 45), b_339), ((I_141, 0), b_340), ((I_142, 0), b_341), ((I_142, 30), b_342), ((I_143, 0), b_343), ((I_143, 33), b_344), ((I_144, 0), b_345), ((I_144, 11), b_346), ((I_144, 26), b_347), ((I_144, 73), b_348), ((I_145, 0), b_349)]
def am_t7 : List ((am_I × Nat) × am_B) := [((I_145, 39), b_350), ((I_145, 100), b_351), ((I_145, 124), b_352), ((I_145, 151), b_353), ((I_145, 171), b_354), ((I_145, 174), b_355), ((I_145, 187), b_356), ((I_145, 217), b_357), ((I_146, 0), b_358), ((I_146, 4), b_359), ((I_147, 0), b_360), ((I_148, 0), b_361), ((I_148, 10), b_362), ((I_149, 0), b_363), ((I_150, 0), b_364), ((I_150, 26), b_365), ((I_151, 0), b_366), ((I_152, 0), b_367), ((I_152, 30), b_368), ((I_153, 0), b_369), ((I_153, 24), b_370), ((I_153, 81), b_371), ((I_154, 0), b_372), ((I_154, 23), b_373), ((I_154, 28), b_374), ((I_155, 0), b_375), ((I_156, 0), b_376), ((I_156, 36), b_377), ((I_156, 51), b_378), ((I_157, 0), b_379), ((I_157, 45), b_380), ((I_157, 55), b_381), ((I_157, 123), b_382), ((I_157, 127), b_383), ((I_157, 128), b_384), ((I_158, 0), b_385), ((I_158, 23), b_386), ((I_158, 28), b_387), ((I_158, 33), b_388), ((I_158, 64), b_389), ((I_159, 0), b_390), ((I_159, 15), b_391), ((I_159, 64), b_392), ((I_159, 122), b_393), ((I_159, 123), b_394), ((I_160, 0), b_395), ((I_160, 28), b_396), ((I_160, 33), b_397), ((I_161, 0), b_398), ((I_162, 0), b_399)]
def am_t8 : List ((am_I × Nat) × am_B) := [((I_162, 25), b_400), ((I_162, 29), b_401), ((I_162, 112), b_402), ((I_162, 117), b_403), ((I_162, 219), b_404), ((I_163, 0), b_405), ((I_163, 30), b_406), ((I_164, 0), b_407), ((I_164, 73), b_408), ((I_164, 78), b_409), ((I_164, 132), b_410), ((I_164, 134), b_411), ((I_164, 213), b_412), ((I_164, 214), b_413), ((I_165, 0), b_414), ((I_165, 2), b_415), ((I_165, 35), b_416), ((I_165, 55), b_417), ((I_165, 58), b_418), ((I_165, 71), b_419), ((I_165, 101), b_420), ((I_166, 0), b_421), ((I_166, 18), b_422), ((I_166, 84), b_423), ((I_167, 0), b_424), ((I_167, 18), b_425), ((I_167, 320), b_426), ((I_167, 347), b_427), ((I_167, 778), b_428)]
def am_tab : List ((am_I × Nat) × am_B) := am_t0 ++ (am_t1 ++ (am_t2 ++ (am_t3 ++ (am_t4 ++ (am_t5 ++ (am_t6 ++ (am_t7 ++ (am_t8))))))))
def am_N (lab : Nat) : Option (am_I × Nat) := (am_tab[lab]?).map fun e => e.1
def am_T (lab : Nat) : am_B := match am_tab[lab]? with
  | some e => e.2
  | none => fun _ _ _ _ _ => none
theorem n_0 : am_N 0 = some (I_0, 0) := rfl
theorem n_1 : am_N 1 = some (I_1, 0) := rfl
theorem n_2 : am_N 2 = some (I_1, 50) := rfl
theorem n_3 : am_N 3 = some (I_2, 0) := rfl
theorem n_4 : am_N 4 = some (I_3, 0) := rfl
theorem n_5 : am_N 5 = some (I_4, 0) := rfl
theorem n_6 : am_N 6 = some (I_5, 0) := rfl
theorem n_7 : am_N 7 = some (I_6, 0) := rfl
theorem n_8 : am_N 8 = some (I_6, 20) := rfl
theorem n_9 : am_N 9 = some (I_7, 0) := rfl
theorem n_10 : am_N 10 = some (I_7, 17) := rfl
theorem n_11 : am_N 11 = some (I_7, 57) := rfl
theorem n_12 : am_N 12 = some (I_7, 60) := rfl
theorem n_13 : am_N 13 = some (I_8, 0) := rfl
theorem n_14 : am_N 14 = some (I_8, 16) := rfl
theorem n_15 : am_N 15 = some (I_8, 17) := rfl
theorem n_16 : am_N 16 = some (I_9, 0) := rfl
theorem n_17 : am_N 17 = some (I_9, 2) := rfl
theorem n_18 : am_N 18 = some (I_9, 28) := rfl
theorem n_19 : am_N 19 = some (I_10, 0) := rfl
theorem n_20 : am_N 20 = some (I_10, 2) := rfl
theorem n_21 : am_N 21 = some (I_11, 0) := rfl
theorem n_22 : am_N 22 = some (I_11, 23) := rfl
theorem n_23 : am_N 23 = some (I_12, 0) := rfl
theorem n_24 : am_N 24 = some (I_12, 14) := rfl
theorem n_25 : am_N 25 = some (I_12, 45) := rfl
theorem n_26 : am_N 26 = some (I_12, 48) := rfl
theorem n_27 : am_N 27 = some (I_13, 0) := rfl
theorem n_28 : am_N 28 = some (I_13, 14) := rfl
theorem n_29 : am_N 29 = some (I_13, 15) := rfl
theorem n_30 : am_N 30 = some (I_14, 0) := rfl
theorem n_31 : am_N 31 = some (I_14, 13) := rfl
theorem n_32 : am_N 32 = some (I_14, 18) := rfl
theorem n_33 : am_N 33 = some (I_15, 0) := rfl
theorem n_34 : am_N 34 = some (I_15, 16) := rfl
theorem n_35 : am_N 35 = some (I_15, 17) := rfl
theorem n_36 : am_N 36 = some (I_16, 0) := rfl
theorem n_37 : am_N 37 = some (I_16, 18) := rfl
theorem n_38 : am_N 38 = some (I_17, 0) := rfl
theorem n_39 : am_N 39 = some (I_17, 20) := rfl
theorem n_40 : am_N 40 = some (I_18, 0) := rfl
theorem n_41 : am_N 41 = some (I_19, 0) := rfl
theorem n_42 : am_N 42 = some (I_19, 5) := rfl
theorem n_43 : am_N 43 = some (I_20, 0) := rfl
theorem n_44 : am_N 44 = some (I_20, 40) := rfl
theorem n_45 : am_N 45 = some (I_21, 0) := rfl
theorem n_46 : am_N 46 = some (I_21, 28) := rfl
theorem n_47 : am_N 47 = some (I_22, 0) := rfl
theorem n_48 : am_N 48 = some (I_22, 21) := rfl
theorem n_49 : am_N 49 = some (I_22, 22) := rfl
theorem n_50 : am_N 50 = some (I_23, 0) := rfl
theorem n_51 : am_N 51 = some (I_23, 14) := rfl
theorem n_52 : am_N 52 = some (I_23, 34) := rfl
theorem n_53 : am_N 53 = some (I_23, 83) := rfl
theorem n_54 : am_N 54 = some (I_24, 0) := rfl
theorem n_55 : am_N 55 = some (I_24, 22) := rfl
theorem n_56 : am_N 56 = some (I_24, 23) := rfl
theorem n_57 : am_N 57 = some (I_25, 0) := rfl
theorem n_58 : am_N 58 = some (I_25, 32) := rfl
theorem n_59 : am_N 59 = some (I_26, 0) := rfl
theorem n_60 : am_N 60 = some (I_26, 24) := rfl
theorem n_61 : am_N 61 = some (I_27, 0) := rfl
theorem n_62 : am_N 62 = some (I_27, 34) := rfl
theorem n_63 : am_N 63 = some (I_28, 0) := rfl
theorem n_64 : am_N 64 = some (I_29, 0) := rfl
theorem n_65 : am_N 65 = some (I_29, 9) := rfl
theorem n_66 : am_N 66 = some (I_29, 44) := rfl
theorem n_67 : am_N 67 = some (I_30, 0) := rfl
theorem n_68 : am_N 68 = some (I_31, 0) := rfl
theorem n_69 : am_N 69 = some (I_32, 0) := rfl
theorem n_70 : am_N 70 = some (I_33, 0) := rfl
theorem n_71 : am_N 71 = some (I_33, 23) := rfl
theorem n_72 : am_N 72 = some (I_34, 0) := rfl
theorem n_73 : am_N 73 = some (I_34, 5) := rfl
theorem n_74 : am_N 74 = some (I_35, 0) := rfl
theorem n_75 : am_N 75 = some (I_36, 0) := rfl
theorem n_76 : am_N 76 = some (I_37, 0) := rfl
theorem n_77 : am_N 77 = some (I_37, 23) := rfl
theorem n_78 : am_N 78 = some (I_38, 0) := rfl
theorem n_79 : am_N 79 = some (I_38, 5) := rfl
theorem n_80 : am_N 80 = some (I_38, 47) := rfl
theorem n_81 : am_N 81 = some (I_38, 53) := rfl
theorem n_82 : am_N 82 = some (I_39, 0) := rfl
theorem n_83 : am_N 83 = some (I_39, 23) := rfl
theorem n_84 : am_N 84 = some (I_40, 0) := rfl
theorem n_85 : am_N 85 = some (I_41, 0) := rfl
theorem n_86 : am_N 86 = some (I_41, 22) := rfl
theorem n_87 : am_N 87 = some (I_41, 52) := rfl
theorem n_88 : am_N 88 = some (I_42, 0) := rfl
theorem n_89 : am_N 89 = some (I_42, 4) := rfl
theorem n_90 : am_N 90 = some (I_42, 27) := rfl
theorem n_91 : am_N 91 = some (I_43, 0) := rfl
theorem n_92 : am_N 92 = some (I_44, 0) := rfl
theorem n_93 : am_N 93 = some (I_45, 0) := rfl
theorem n_94 : am_N 94 = some (I_45, 23) := rfl
theorem n_95 : am_N 95 = some (I_45, 43) := rfl
theorem n_96 : am_N 96 = some (I_45, 44) := rfl
theorem n_97 : am_N 97 = some (I_46, 0) := rfl
theorem n_98 : am_N 98 = some (I_46, 17) := rfl
theorem n_99 : am_N 99 = some (I_47, 0) := rfl
theorem n_100 : am_N 100 = some (I_47, 33) := rfl
theorem n_101 : am_N 101 = some (I_48, 0) := rfl
theorem n_102 : am_N 102 = some (I_48, 42) := rfl
theorem n_103 : am_N 103 = some (I_49, 0) := rfl
theorem n_104 : am_N 104 = some (I_49, 27) := rfl
theorem n_105 : am_N 105 = some (I_49, 31) := rfl
theorem n_106 : am_N 106 = some (I_49, 32) := rfl
theorem n_107 : am_N 107 = some (I_50, 0) := rfl
theorem n_108 : am_N 108 = some (I_50, 31) := rfl
theorem n_109 : am_N 109 = some (I_50, 39) := rfl
theorem n_110 : am_N 110 = some (I_51, 0) := rfl
theorem n_111 : am_N 111 = some (I_51, 12) := rfl
theorem n_112 : am_N 112 = some (I_51, 40) := rfl
theorem n_113 : am_N 113 = some (I_51, 58) := rfl
theorem n_114 : am_N 114 = some (I_52, 0) := rfl
theorem n_115 : am_N 115 = some (I_53, 0) := rfl
theorem n_116 : am_N 116 = some (I_54, 0) := rfl
theorem n_117 : am_N 117 = some (I_54, 18) := rfl
theorem n_118 : am_N 118 = some (I_55, 0) := rfl
theorem n_119 : am_N 119 = some (I_55, 19) := rfl
theorem n_120 : am_N 120 = some (I_56, 0) := rfl
theorem n_121 : am_N 121 = some (I_57, 0) := rfl
theorem n_122 : am_N 122 = some (I_57, 3) := rfl
theorem n_123 : am_N 123 = some (I_58, 0) := rfl
theorem n_124 : am_N 124 = some (I_58, 6) := rfl
theorem n_125 : am_N 125 = some (I_58, 18) := rfl
theorem n_126 : am_N 126 = some (I_59, 0) := rfl
theorem n_127 : am_N 127 = some (I_60, 0) := rfl
theorem n_128 : am_N 128 = some (I_60, 86) := rfl
theorem n_129 : am_N 129 = some (I_61, 0) := rfl
theorem n_130 : am_N 130 = some (I_62, 0) := rfl
theorem n_131 : am_N 131 = some (I_62, 27) := rfl
theorem n_132 : am_N 132 = some (I_63, 0) := rfl
theorem n_133 : am_N 133 = some (I_63, 33) := rfl
theorem n_134 : am_N 134 = some (I_64, 0) := rfl
theorem n_135 : am_N 135 = some (I_65, 0) := rfl
theorem n_136 : am_N 136 = some (I_65, 17) := rfl
theorem n_137 : am_N 137 = some (I_65, 35) := rfl
theorem n_138 : am_N 138 = some (I_66, 0) := rfl
theorem n_139 : am_N 139 = some (I_66, 30) := rfl
theorem n_140 : am_N 140 = some (I_66, 84) := rfl
theorem n_141 : am_N 141 = some (I_67, 0) := rfl
theorem n_142 : am_N 142 = some (I_68, 0) := rfl
theorem n_143 : am_N 143 = some (I_69, 0) := rfl
theorem n_144 : am_N 144 = some (I_69, 4) := rfl
theorem n_145 : am_N 145 = some (I_70, 0) := rfl
theorem n_146 : am_N 146 = some (I_70, 33) := rfl
theorem n_147 : am_N 147 = some (I_71, 0) := rfl
theorem n_148 : am_N 148 = some (I_71, 10) := rfl
theorem n_149 : am_N 149 = some (I_72, 0) := rfl
theorem n_150 : am_N 150 = some (I_73, 0) := rfl
theorem n_151 : am_N 151 = some (I_73, 12) := rfl
theorem n_152 : am_N 152 = some (I_74, 0) := rfl
theorem n_153 : am_N 153 = some (I_74, 15) := rfl
theorem n_154 : am_N 154 = some (I_75, 0) := rfl
theorem n_155 : am_N 155 = some (I_75, 44) := rfl
theorem n_156 : am_N 156 = some (I_75, 62) := rfl
theorem n_157 : am_N 157 = some (I_76, 0) := rfl
theorem n_158 : am_N 158 = some (I_76, 2) := rfl
theorem n_159 : am_N 159 = some (I_76, 24) := rfl
theorem n_160 : am_N 160 = some (I_76, 58) := rfl
theorem n_161 : am_N 161 = some (I_76, 77) := rfl
theorem n_162 : am_N 162 = some (I_76, 80) := rfl
theorem n_163 : am_N 163 = some (I_77, 0) := rfl
theorem n_164 : am_N 164 = some (I_77, 2) := rfl
theorem n_165 : am_N 165 = some (I_78, 0) := rfl
theorem n_166 : am_N 166 = some (I_78, 3) := rfl
theorem n_167 : am_N 167 = some (I_78, 45) := rfl
theorem n_168 : am_N 168 = some (I_79, 0) := rfl
theorem n_169 : am_N 169 = some (I_79, 25) := rfl
theorem n_170 : am_N 170 = some (I_79, 26) := rfl
theorem n_171 : am_N 171 = some (I_80, 0) := rfl
theorem n_172 : am_N 172 = some (I_80, 26) := rfl
theorem n_173 : am_N 173 = some (I_80, 31) := rfl
theorem n_174 : am_N 174 = some (I_81, 0) := rfl
theorem n_175 : am_N 175 = some (I_82, 0) := rfl
theorem n_176 : am_N 176 = some (I_83, 0) := rfl
theorem n_177 : am_N 177 = some (I_83, 24) := rfl
theorem n_178 : am_N 178 = some (I_84, 0) := rfl
theorem n_179 : am_N 179 = some (I_85, 0) := rfl
theorem n_180 : am_N 180 = some (I_85, 41) := rfl
theorem n_181 : am_N 181 = some (I_85, 58) := rfl
theorem n_182 : am_N 182 = some (I_85, 60) := rfl
theorem n_183 : am_N 183 = some (I_86, 0) := rfl
theorem n_184 : am_N 184 = some (I_87, 0) := rfl
theorem n_185 : am_N 185 = some (I_88, 0) := rfl
theorem n_186 : am_N 186 = some (I_88, 4) := rfl
theorem n_187 : am_N 187 = some (I_88, 41) := rfl
theorem n_188 : am_N 188 = some (I_89, 0) := rfl
theorem n_189 : am_N 189 = some (I_89, 14) := rfl
theorem n_190 : am_N 190 = some (I_89, 18) := rfl
theorem n_191 : am_N 191 = some (I_90, 0) := rfl
theorem n_192 : am_N 192 = some (I_91, 0) := rfl
theorem n_193 : am_N 193 = some (I_92, 0) := rfl
theorem n_194 : am_N 194 = some (I_92, 14) := rfl
theorem n_195 : am_N 195 = some (I_92, 18) := rfl
theorem n_196 : am_N 196 = some (I_93, 0) := rfl
theorem n_197 : am_N 197 = some (I_93, 29) := rfl
theorem n_198 : am_N 198 = some (I_94, 0) := rfl
theorem n_199 : am_N 199 = some (I_95, 0) := rfl
theorem n_200 : am_N 200 = some (I_95, 14) := rfl
theorem n_201 : am_N 201 = some (I_95, 18) := rfl
theorem n_202 : am_N 202 = some (I_96, 0) := rfl
theorem n_203 : am_N 203 = some (I_96, 22) := rfl
theorem n_204 : am_N 204 = some (I_96, 37) := rfl
theorem n_205 : am_N 205 = some (I_96, 53) := rfl
theorem n_206 : am_N 206 = some (I_96, 100) := rfl
theorem n_207 : am_N 207 = some (I_97, 0) := rfl
theorem n_208 : am_N 208 = some (I_97, 2) := rfl
theorem n_209 : am_N 209 = some (I_97, 24) := rfl
theorem n_210 : am_N 210 = some (I_97, 58) := rfl
theorem n_211 : am_N 211 = some (I_97, 77) := rfl
theorem n_212 : am_N 212 = some (I_97, 80) := rfl
theorem n_213 : am_N 213 = some (I_98, 0) := rfl
theorem n_214 : am_N 214 = some (I_98, 2) := rfl
theorem n_215 : am_N 215 = some (I_99, 0) := rfl
theorem n_216 : am_N 216 = some (I_99, 3) := rfl
theorem n_217 : am_N 217 = some (I_99, 45) := rfl
theorem n_218 : am_N 218 = some (I_100, 0) := rfl
theorem n_219 : am_N 219 = some (I_100, 15) := rfl
theorem n_220 : am_N 220 = some (I_101, 0) := rfl
theorem n_221 : am_N 221 = some (I_102, 0) := rfl
theorem n_222 : am_N 222 = some (I_102, 26) := rfl
theorem n_223 : am_N 223 = some (I_102, 73) := rfl
theorem n_224 : am_N 224 = some (I_102, 76) := rfl
theorem n_225 : am_N 225 = some (I_103, 0) := rfl
theorem n_226 : am_N 226 = some (I_103, 16) := rfl
theorem n_227 : am_N 227 = some (I_103, 17) := rfl
theorem n_228 : am_N 228 = some (I_104, 0) := rfl
theorem n_229 : am_N 229 = some (I_104, 6) := rfl
theorem n_230 : am_N 230 = some (I_104, 43) := rfl
theorem n_231 : am_N 231 = some (I_104, 47) := rfl
theorem n_232 : am_N 232 = some (I_104, 48) := rfl
theorem n_233 : am_N 233 = some (I_105, 0) := rfl
theorem n_234 : am_N 234 = some (I_105, 4) := rfl
theorem n_235 : am_N 235 = some (I_105, 34) := rfl
theorem n_236 : am_N 236 = some (I_106, 0) := rfl
theorem n_237 : am_N 237 = some (I_106, 26) := rfl
theorem n_238 : am_N 238 = some (I_106, 42) := rfl
theorem n_239 : am_N 239 = some (I_106, 57) := rfl
theorem n_240 : am_N 240 = some (I_106, 68) := rfl
theorem n_241 : am_N 241 = some (I_106, 71) := rfl
theorem n_242 : am_N 242 = some (I_106, 97) := rfl
theorem n_243 : am_N 243 = some (I_106, 193) := rfl
theorem n_244 : am_N 244 = some (I_107, 0) := rfl
theorem n_245 : am_N 245 = some (I_107, 21) := rfl
theorem n_246 : am_N 246 = some (I_107, 22) := rfl
theorem n_247 : am_N 247 = some (I_108, 0) := rfl
theorem n_248 : am_N 248 = some (I_108, 6) := rfl
theorem n_249 : am_N 249 = some (I_108, 43) := rfl
theorem n_250 : am_N 250 = some (I_108, 47) := rfl
theorem n_251 : am_N 251 = some (I_108, 48) := rfl
theorem n_252 : am_N 252 = some (I_109, 0) := rfl
theorem n_253 : am_N 253 = some (I_109, 2) := rfl
theorem n_254 : am_N 254 = some (I_110, 0) := rfl
theorem n_255 : am_N 255 = some (I_110, 32) := rfl
theorem n_256 : am_N 256 = some (I_111, 0) := rfl
theorem n_257 : am_N 257 = some (I_111, 25) := rfl
theorem n_258 : am_N 258 = some (I_111, 42) := rfl
theorem n_259 : am_N 259 = some (I_111, 63) := rfl
theorem n_260 : am_N 260 = some (I_111, 131) := rfl
theorem n_261 : am_N 261 = some (I_112, 0) := rfl
theorem n_262 : am_N 262 = some (I_112, 21) := rfl
theorem n_263 : am_N 263 = some (I_112, 22) := rfl
theorem n_264 : am_N 264 = some (I_113, 0) := rfl
theorem n_265 : am_N 265 = some (I_113, 24) := rfl
theorem n_266 : am_N 266 = some (I_113, 40) := rfl
theorem n_267 : am_N 267 = some (I_113, 57) := rfl
theorem n_268 : am_N 268 = some (I_113, 61) := rfl
theorem n_269 : am_N 269 = some (I_113, 62) := rfl
theorem n_270 : am_N 270 = some (I_114, 0) := rfl
theorem n_271 : am_N 271 = some (I_114, 30) := rfl
theorem n_272 : am_N 272 = some (I_114, 52) := rfl
theorem n_273 : am_N 273 = some (I_115, 0) := rfl
theorem n_274 : am_N 274 = some (I_115, 25) := rfl
theorem n_275 : am_N 275 = some (I_115, 75) := rfl
theorem n_276 : am_N 276 = some (I_116, 0) := rfl
theorem n_277 : am_N 277 = some (I_116, 32) := rfl
theorem n_278 : am_N 278 = some (I_116, 35) := rfl
theorem n_279 : am_N 279 = some (I_116, 78) := rfl
theorem n_280 : am_N 280 = some (I_116, 81) := rfl
theorem n_281 : am_N 281 = some (I_116, 116) := rfl
theorem n_282 : am_N 282 = some (I_117, 0) := rfl
theorem n_283 : am_N 283 = some (I_118, 0) := rfl
theorem n_284 : am_N 284 = some (I_119, 0) := rfl
theorem n_285 : am_N 285 = some (I_119, 19) := rfl
theorem n_286 : am_N 286 = some (I_119, 24) := rfl
theorem n_287 : am_N 287 = some (I_119, 35) := rfl
theorem n_288 : am_N 288 = some (I_119, 80) := rfl
theorem n_289 : am_N 289 = some (I_119, 94) := rfl
theorem n_290 : am_N 290 = some (I_119, 99) := rfl
theorem n_291 : am_N 291 = some (I_119, 121) := rfl
theorem n_292 : am_N 292 = some (I_120, 0) := rfl
theorem n_293 : am_N 293 = some (I_120, 15) := rfl
theorem n_294 : am_N 294 = some (I_121, 0) := rfl
theorem n_295 : am_N 295 = some (I_121, 42) := rfl
theorem n_296 : am_N 296 = some (I_122, 0) := rfl
theorem n_297 : am_N 297 = some (I_122, 25) := rfl
theorem n_298 : am_N 298 = some (I_123, 0) := rfl
theorem n_299 : am_N 299 = some (I_123, 6) := rfl
theorem n_300 : am_N 300 = some (I_123, 52) := rfl
theorem n_301 : am_N 301 = some (I_124, 0) := rfl
theorem n_302 : am_N 302 = some (I_125, 0) := rfl
theorem n_303 : am_N 303 = some (I_125, 17) := rfl
theorem n_304 : am_N 304 = some (I_126, 0) := rfl
theorem n_305 : am_N 305 = some (I_126, 19) := rfl
theorem n_306 : am_N 306 = some (I_127, 0) := rfl
theorem n_307 : am_N 307 = some (I_127, 16) := rfl
theorem n_308 : am_N 308 = some (I_127, 20) := rfl
theorem n_309 : am_N 309 = some (I_127, 67) := rfl
theorem n_310 : am_N 310 = some (I_127, 87) := rfl
theorem n_311 : am_N 311 = some (I_128, 0) := rfl
theorem n_312 : am_N 312 = some (I_128, 4) := rfl
theorem n_313 : am_N 313 = some (I_128, 30) := rfl
theorem n_314 : am_N 314 = some (I_129, 0) := rfl
theorem n_315 : am_N 315 = some (I_130, 0) := rfl
theorem n_316 : am_N 316 = some (I_131, 0) := rfl
theorem n_317 : am_N 317 = some (I_131, 30) := rfl
theorem n_318 : am_N 318 = some (I_131, 64) := rfl
theorem n_319 : am_N 319 = some (I_131, 93) := rfl
theorem n_320 : am_N 320 = some (I_132, 0) := rfl
theorem n_321 : am_N 321 = some (I_132, 27) := rfl
theorem n_322 : am_N 322 = some (I_133, 0) := rfl
theorem n_323 : am_N 323 = some (I_134, 0) := rfl
theorem n_324 : am_N 324 = some (I_134, 28) := rfl
theorem n_325 : am_N 325 = some (I_135, 0) := rfl
theorem n_326 : am_N 326 = some (I_135, 12) := rfl
theorem n_327 : am_N 327 = some (I_135, 40) := rfl
theorem n_328 : am_N 328 = some (I_136, 0) := rfl
theorem n_329 : am_N 329 = some (I_136, 50) := rfl
theorem n_330 : am_N 330 = some (I_136, 119) := rfl
theorem n_331 : am_N 331 = some (I_137, 0) := rfl
theorem n_332 : am_N 332 = some (I_137, 2) := rfl
theorem n_333 : am_N 333 = some (I_137, 15) := rfl
theorem n_334 : am_N 334 = some (I_138, 0) := rfl
theorem n_335 : am_N 335 = some (I_138, 27) := rfl
theorem n_336 : am_N 336 = some (I_139, 0) := rfl
theorem n_337 : am_N 337 = some (I_139, 39) := rfl
theorem n_338 : am_N 338 = some (I_140, 0) := rfl
theorem n_339 : am_N 339 = some (I_140, 45) := rfl
theorem n_340 : am_N 340 = some (I_141, 0) := rfl
theorem n_341 : am_N 341 = some (I_142, 0) := rfl
theorem n_342 : am_N 342 = some (I_142, 30) := rfl
theorem n_343 : am_N 343 = some (I_143, 0) := rfl
theorem n_344 : am_N 344 = some (I_143, 33) := rfl
theorem n_345 : am_N 345 = some (I_144, 0) := rfl
theorem n_346 : am_N 346 = some (I_144, 11) := rfl
theorem n_347 : am_N 347 = some (I_144, 26) := rfl
theorem n_348 : am_N 348 = some (I_144, 73) := rfl
theorem n_349 : am_N 349 = some (I_145, 0) := rfl
theorem n_350 : am_N 350 = some (I_145, 39) := rfl
theorem n_351 : am_N 351 = some (I_145, 100) := rfl
theorem n_352 : am_N 352 = some (I_145, 124) := rfl
theorem n_353 : am_N 353 = some (I_145, 151) := rfl
theorem n_354 : am_N 354 = some (I_145, 171) := rfl
theorem n_355 : am_N 355 = some (I_145, 174) := rfl
theorem n_356 : am_N 356 = some (I_145, 187) := rfl
theorem n_357 : am_N 357 = some (I_145, 217) := rfl
theorem n_358 : am_N 358 = some (I_146, 0) := rfl
theorem n_359 : am_N 359 = some (I_146, 4) := rfl
theorem n_360 : am_N 360 = some (I_147, 0) := rfl
theorem n_361 : am_N 361 = some (I_148, 0) := rfl
theorem n_362 : am_N 362 = some (I_148, 10) := rfl
theorem n_363 : am_N 363 = some (I_149, 0) := rfl
theorem n_364 : am_N 364 = some (I_150, 0) := rfl
theorem n_365 : am_N 365 = some (I_150, 26) := rfl
theorem n_366 : am_N 366 = some (I_151, 0) := rfl
theorem n_367 : am_N 367 = some (I_152, 0) := rfl
theorem n_368 : am_N 368 = some (I_152, 30) := rfl
theorem n_369 : am_N 369 = some (I_153, 0) := rfl
theorem n_370 : am_N 370 = some (I_153, 24) := rfl
theorem n_371 : am_N 371 = some (I_153, 81) := rfl
theorem n_372 : am_N 372 = some (I_154, 0) := rfl
theorem n_373 : am_N 373 = some (I_154, 23) := rfl
theorem n_374 : am_N 374 = some (I_154, 28) := rfl
theorem n_375 : am_N 375 = some (I_155, 0) := rfl
theorem n_376 : am_N 376 = some (I_156, 0) := rfl
theorem n_377 : am_N 377 = some (I_156, 36) := rfl
theorem n_378 : am_N 378 = some (I_156, 51) := rfl
theorem n_379 : am_N 379 = some (I_157, 0) := rfl
theorem n_380 : am_N 380 = some (I_157, 45) := rfl
theorem n_381 : am_N 381 = some (I_157, 55) := rfl
theorem n_382 : am_N 382 = some (I_157, 123) := rfl
theorem n_383 : am_N 383 = some (I_157, 127) := rfl
theorem n_384 : am_N 384 = some (I_157, 128) := rfl
theorem n_385 : am_N 385 = some (I_158, 0) := rfl
theorem n_386 : am_N 386 = some (I_158, 23) := rfl
theorem n_387 : am_N 387 = some (I_158, 28) := rfl
theorem n_388 : am_N 388 = some (I_158, 33) := rfl
theorem n_389 : am_N 389 = some (I_158, 64) := rfl
theorem n_390 : am_N 390 = some (I_159, 0) := rfl
theorem n_391 : am_N 391 = some (I_159, 15) := rfl
theorem n_392 : am_N 392 = some (I_159, 64) := rfl
theorem n_393 : am_N 393 = some (I_159, 122) := rfl
theorem n_394 : am_N 394 = some (I_159, 123) := rfl
theorem n_395 : am_N 395 = some (I_160, 0) := rfl
theorem n_396 : am_N 396 = some (I_160, 28) := rfl
theorem n_397 : am_N 397 = some (I_160, 33) := rfl
theorem n_398 : am_N 398 = some (I_161, 0) := rfl
theorem n_399 : am_N 399 = some (I_162, 0) := rfl
theorem n_400 : am_N 400 = some (I_162, 25) := rfl
theorem n_401 : am_N 401 = some (I_162, 29) := rfl
theorem n_402 : am_N 402 = some (I_162, 112) := rfl
theorem n_403 : am_N 403 = some (I_162, 117) := rfl
theorem n_404 : am_N 404 = some (I_162, 219) := rfl
theorem n_405 : am_N 405 = some (I_163, 0) := rfl
theorem n_406 : am_N 406 = some (I_163, 30) := rfl
theorem n_407 : am_N 407 = some (I_164, 0) := rfl
theorem n_408 : am_N 408 = some (I_164, 73) := rfl
theorem n_409 : am_N 409 = some (I_164, 78) := rfl
theorem n_410 : am_N 410 = some (I_164, 132) := rfl
theorem n_411 : am_N 411 = some (I_164, 134) := rfl
theorem n_412 : am_N 412 = some (I_164, 213) := rfl
theorem n_413 : am_N 413 = some (I_164, 214) := rfl
theorem n_414 : am_N 414 = some (I_165, 0) := rfl
theorem n_415 : am_N 415 = some (I_165, 2) := rfl
theorem n_416 : am_N 416 = some (I_165, 35) := rfl
theorem n_417 : am_N 417 = some (I_165, 55) := rfl
theorem n_418 : am_N 418 = some (I_165, 58) := rfl
theorem n_419 : am_N 419 = some (I_165, 71) := rfl
theorem n_420 : am_N 420 = some (I_165, 101) := rfl
theorem n_421 : am_N 421 = some (I_166, 0) := rfl
theorem n_422 : am_N 422 = some (I_166, 18) := rfl
theorem n_423 : am_N 423 = some (I_166, 84) := rfl
theorem n_424 : am_N 424 = some (I_167, 0) := rfl
theorem n_425 : am_N 425 = some (I_167, 18) := rfl
theorem n_426 : am_N 426 = some (I_167, 320) := rfl
theorem n_427 : am_N 427 = some (I_167, 347) := rfl
theorem n_428 : am_N 428 = some (I_167, 778) := rfl
theorem t_0 : am_T 0 = b_0 := rfl
theorem t_1 : am_T 1 = b_1 := rfl
theorem t_2 : am_T 2 = b_2 := rfl
theorem t_3 : am_T 3 = b_3 := rfl
theorem t_4 : am_T 4 = b_4 := rfl
theorem t_5 : am_T 5 = b_5 := rfl
theorem t_6 : am_T 6 = b_6 := rfl
theorem t_7 : am_T 7 = b_7 := rfl
theorem t_8 : am_T 8 = b_8 := rfl
theorem t_9 : am_T 9 = b_9 := rfl
theorem t_10 : am_T 10 = b_10 := rfl
theorem t_11 : am_T 11 = b_11 := rfl
theorem t_12 : am_T 12 = b_12 := rfl
theorem t_13 : am_T 13 = b_13 := rfl
theorem t_14 : am_T 14 = b_14 := rfl
theorem t_15 : am_T 15 = b_15 := rfl
theorem t_16 : am_T 16 = b_16 := rfl
theorem t_17 : am_T 17 = b_17 := rfl
theorem t_18 : am_T 18 = b_18 := rfl
theorem t_19 : am_T 19 = b_19 := rfl
theorem t_20 : am_T 20 = b_20 := rfl
theorem t_21 : am_T 21 = b_21 := rfl
theorem t_22 : am_T 22 = b_22 := rfl
theorem t_23 : am_T 23 = b_23 := rfl
theorem t_24 : am_T 24 = b_24 := rfl
theorem t_25 : am_T 25 = b_25 := rfl
theorem t_26 : am_T 26 = b_26 := rfl
theorem t_27 : am_T 27 = b_27 := rfl
theorem t_28 : am_T 28 = b_28 := rfl
theorem t_29 : am_T 29 = b_29 := rfl
theorem t_30 : am_T 30 = b_30 := rfl
theorem t_31 : am_T 31 = b_31 := rfl
theorem t_32 : am_T 32 = b_32 := rfl
theorem t_33 : am_T 33 = b_33 := rfl
theorem t_34 : am_T 34 = b_34 := rfl
theorem t_35 : am_T 35 = b_35 := rfl
theorem t_36 : am_T 36 = b_36 := rfl
theorem t_37 : am_T 37 = b_37 := rfl
theorem t_38 : am_T 38 = b_38 := rfl
theorem t_39 : am_T 39 = b_39 := rfl
theorem t_40 : am_T 40 = b_40 := rfl
theorem t_41 : am_T 41 = b_41 := rfl
theorem t_42 : am_T 42 = b_42 := rfl
theorem t_43 : am_T 43 = b_43 := rfl
theorem t_44 : am_T 44 = b_44 := rfl
theorem t_45 : am_T 45 = b_45 := rfl
theorem t_46 : am_T 46 = b_46 := rfl
theorem t_47 : am_T 47 = b_47 := rfl
theorem t_48 : am_T 48 = b_48 := rfl
theorem t_49 : am_T 49 = b_49 := rfl
theorem t_50 : am_T 50 = b_50 := rfl
theorem t_51 : am_T 51 = b_51 := rfl
theorem t_52 : am_T 52 = b_52 := rfl
theorem t_53 : am_T 53 = b_53 := rfl
theorem t_54 : am_T 54 = b_54 := rfl
theorem t_55 : am_T 55 = b_55 := rfl
theorem t_56 : am_T 56 = b_56 := rfl
theorem t_57 : am_T 57 = b_57 := rfl
theorem t_58 : am_T 58 = b_58 := rfl
theorem t_59 : am_T 59 = b_59 := rfl
theorem t_60 : am_T 60 = b_60 := rfl
theorem t_61 : am_T 61 = b_61 := rfl
theorem t_62 : am_T 62 = b_62 := rfl
theorem t_63 : am_T 63 = b_63 := rfl
theorem t_64 : am_T 64 = b_64 := rfl
theorem t_65 : am_T 65 = b_65 := rfl
theorem t_66 : am_T 66 = b_66 := rfl
theorem t_67 : am_T 67 = b_67 := rfl
theorem t_68 : am_T 68 = b_68 := rfl
theorem t_69 : am_T 69 = b_69 := rfl
theorem t_70 : am_T 70 = b_70 := rfl
theorem t_71 : am_T 71 = b_71 := rfl
theorem t_72 : am_T 72 = b_72 := rfl
theorem t_73 : am_T 73 = b_73 := rfl
theorem t_74 : am_T 74 = b_74 := rfl
theorem t_75 : am_T 75 = b_75 := rfl
theorem t_76 : am_T 76 = b_76 := rfl
theorem t_77 : am_T 77 = b_77 := rfl
theorem t_78 : am_T 78 = b_78 := rfl
theorem t_79 : am_T 79 = b_79 := rfl
theorem t_80 : am_T 80 = b_80 := rfl
theorem t_81 : am_T 81 = b_81 := rfl
theorem t_82 : am_T 82 = b_82 := rfl
theorem t_83 : am_T 83 = b_83 := rfl
theorem t_84 : am_T 84 = b_84 := rfl
theorem t_85 : am_T 85 = b_85 := rfl
theorem t_86 : am_T 86 = b_86 := rfl
theorem t_87 : am_T 87 = b_87 := rfl
theorem t_88 : am_T 88 = b_88 := rfl
theorem t_89 : am_T 89 = b_89 := rfl
theorem t_90 : am_T 90 = b_90 := rfl
theorem t_91 : am_T 91 = b_91 := rfl
theorem t_92 : am_T 92 = b_92 := rfl
theorem t_93 : am_T 93 = b_93 := rfl
theorem t_94 : am_T 94 = b_94 := rfl
theorem t_95 : am_T 95 = b_95 := rfl
theorem t_96 : am_T 96 = b_96 := rfl
theorem t_97 : am_T 97 = b_97 := rfl
theorem t_98 : am_T 98 = b_98 := rfl
theorem t_99 : am_T 99 = b_99 := rfl
theorem t_100 : am_T 100 = b_100 := rfl
theorem t_101 : am_T 101 = b_101 := rfl
theorem t_102 : am_T 102 = b_102 := rfl
theorem t_103 : am_T 103 = b_103 := rfl
theorem t_104 : am_T 104 = b_104 := rfl
theorem t_105 : am_T 105 = b_105 := rfl
theorem t_106 : am_T 106 = b_106 := rfl
theorem t_107 : am_T 107 = b_107 := rfl
theorem t_108 : am_T 108 = b_108 := rfl
theorem t_109 : am_T 109 = b_109 := rfl
theorem t_110 : am_T 110 = b_110 := rfl
theorem t_111 : am_T 111 = b_111 := rfl
theorem t_112 : am_T 112 = b_112 := rfl
theorem t_113 : am_T 113 = b_113 := rfl
theorem t_114 : am_T 114 = b_114 := rfl
theorem t_115 : am_T 115 = b_115 := rfl
theorem t_116 : am_T 116 = b_116 := rfl
theorem t_117 : am_T 117 = b_117 := rfl
theorem t_118 : am_T 118 = b_118 := rfl
theorem t_119 : am_T 119 = b_119 := rfl
theorem t_120 : am_T 120 = b_120 := rfl
theorem t_121 : am_T 121 = b_121 := rfl
theorem t_122 : am_T 122 = b_122 := rfl
theorem t_123 : am_T 123 = b_123 := rfl
theorem t_124 : am_T 124 = b_124 := rfl
theorem t_125 : am_T 125 = b_125 := rfl
theorem t_126 : am_T 126 = b_126 := rfl
theorem t_127 : am_T 127 = b_127 := rfl
theorem t_128 : am_T 128 = b_128 := rfl
theorem t_129 : am_T 129 = b_129 := rfl
theorem t_130 : am_T 130 = b_130 := rfl
theorem t_131 : am_T 131 = b_131 := rfl
theorem t_132 : am_T 132 = b_132 := rfl
theorem t_133 : am_T 133 = b_133 := rfl
theorem t_134 : am_T 134 = b_134 := rfl
theorem t_135 : am_T 135 = b_135 := rfl
theorem t_136 : am_T 136 = b_136 := rfl
theorem t_137 : am_T 137 = b_137 := rfl
theorem t_138 : am_T 138 = b_138 := rfl
theorem t_139 : am_T 139 = b_139 := rfl
theorem t_140 : am_T 140 = b_140 := rfl
theorem t_141 : am_T 141 = b_141 := rfl
theorem t_142 : am_T 142 = b_142 := rfl
theorem t_143 : am_T 143 = b_143 := rfl
theorem t_144 : am_T 144 = b_144 := rfl
theorem t_145 : am_T 145 = b_145 := rfl
theorem t_146 : am_T 146 = b_146 := rfl
theorem t_147 : am_T 147 = b_147 := rfl
theorem t_148 : am_T 148 = b_148 := rfl
theorem t_149 : am_T 149 = b_149 := rfl
theorem t_150 : am_T 150 = b_150 := rfl
theorem t_151 : am_T 151 = b_151 := rfl
theorem t_152 : am_T 152 = b_152 := rfl
theorem t_153 : am_T 153 = b_153 := rfl
theorem t_154 : am_T 154 = b_154 := rfl
theorem t_155 : am_T 155 = b_155 := rfl
theorem t_156 : am_T 156 = b_156 := rfl
theorem t_157 : am_T 157 = b_157 := rfl
theorem t_158 : am_T 158 = b_158 := rfl
theorem t_159 : am_T 159 = b_159 := rfl
theorem t_160 : am_T 160 = b_160 := rfl
theorem t_161 : am_T 161 = b_161 := rfl
theorem t_162 : am_T 162 = b_162 := rfl
theorem t_163 : am_T 163 = b_163 := rfl
theorem t_164 : am_T 164 = b_164 := rfl
theorem t_165 : am_T 165 = b_165 := rfl
theorem t_166 : am_T 166 = b_166 := rfl
theorem t_167 : am_T 167 = b_167 := rfl
theorem t_168 : am_T 168 = b_168 := rfl
theorem t_169 : am_T 169 = b_169 := rfl
theorem t_170 : am_T 170 = b_170 := rfl
theorem t_171 : am_T 171 = b_171 := rfl
theorem t_172 : am_T 172 = b_172 := rfl
theorem t_173 : am_T 173 = b_173 := rfl
theorem t_174 : am_T 174 = b_174 := rfl
theorem t_175 : am_T 175 = b_175 := rfl
theorem t_176 : am_T 176 = b_176 := rfl
theorem t_177 : am_T 177 = b_177 := rfl
theorem t_178 : am_T 178 = b_178 := rfl
theorem t_179 : am_T 179 = b_179 := rfl
theorem t_180 : am_T 180 = b_180 := rfl
theorem t_181 : am_T 181 = b_181 := rfl
theorem t_182 : am_T 182 = b_182 := rfl
theorem t_183 : am_T 183 = b_183 := rfl
theorem t_184 : am_T 184 = b_184 := rfl
theorem t_185 : am_T 185 = b_185 := rfl
theorem t_186 : am_T 186 = b_186 := rfl
theorem t_187 : am_T 187 = b_187 := rfl
theorem t_188 : am_T 188 = b_188 := rfl
theorem t_189 : am_T 189 = b_189 := rfl
theorem t_190 : am_T 190 = b_190 := rfl
theorem t_191 : am_T 191 = b_191 := rfl
theorem t_192 : am_T 192 = b_192 := rfl
theorem t_193 : am_T 193 = b_193 := rfl
theorem t_194 : am_T 194 = b_194 := rfl
theorem t_195 : am_T 195 = b_195 := rfl
theorem t_196 : am_T 196 = b_196 := rfl
theorem t_197 : am_T 197 = b_197 := rfl
theorem t_198 : am_T 198 = b_198 := rfl
theorem t_199 : am_T 199 = b_199 := rfl
theorem t_200 : am_T 200 = b_200 := rfl
theorem t_201 : am_T 201 = b_201 := rfl
theorem t_202 : am_T 202 = b_202 := rfl
theorem t_203 : am_T 203 = b_203 := rfl
theorem t_204 : am_T 204 = b_204 := rfl
theorem t_205 : am_T 205 = b_205 := rfl
theorem t_206 : am_T 206 = b_206 := rfl
theorem t_207 : am_T 207 = b_207 := rfl
theorem t_208 : am_T 208 = b_208 := rfl
theorem t_209 : am_T 209 = b_209 := rfl
theorem t_210 : am_T 210 = b_210 := rfl
theorem t_211 : am_T 211 = b_211 := rfl
theorem t_212 : am_T 212 = b_212 := rfl
theorem t_213 : am_T 213 = b_213 := rfl
theorem t_214 : am_T 214 = b_214 := rfl
theorem t_215 : am_T 215 = b_215 := rfl
theorem t_216 : am_T 216 = b_216 := rfl
theorem t_217 : am_T 217 = b_217 := rfl
theorem t_218 : am_T 218 = b_218 := rfl
theorem t_219 : am_T 219 = b_219 := rfl
theorem t_220 : am_T 220 = b_220 := rfl
theorem t_221 : am_T 221 = b_221 := rfl
theorem t_222 : am_T 222 = b_222 := rfl
theorem t_223 : am_T 223 = b_223 := rfl
theorem t_224 : am_T 224 = b_224 := rfl
theorem t_225 : am_T 225 = b_225 := rfl
theorem t_226 : am_T 226 = b_226 := rfl
theorem t_227 : am_T 227 = b_227 := rfl
theorem t_228 : am_T 228 = b_228 := rfl
theorem t_229 : am_T 229 = b_229 := rfl
theorem t_230 : am_T 230 = b_230 := rfl
theorem t_231 : am_T 231 = b_231 := rfl
theorem t_232 : am_T 232 = b_232 := rfl
theorem t_233 : am_T 233 = b_233 := rfl
theorem t_234 : am_T 234 = b_234 := rfl
theorem t_235 : am_T 235 = b_235 := rfl
theorem t_236 : am_T 236 = b_236 := rfl
theorem t_237 : am_T 237 = b_237 := rfl
theorem t_238 : am_T 238 = b_238 := rfl
theorem t_239 : am_T 239 = b_239 := rfl
theorem t_240 : am_T 240 = b_240 := rfl
theorem t_241 : am_T 241 = b_241 := rfl
theorem t_242 : am_T 242 = b_242 := rfl
theorem t_243 : am_T 243 = b_243 := rfl
theorem t_244 : am_T 244 = b_244 := rfl
theorem t_245 : am_T 245 = b_245 := rfl
theorem t_246 : am_T 246 = b_246 := rfl
theorem t_247 : am_T 247 = b_247 := rfl
theorem t_248 : am_T 248 = b_248 := rfl
theorem t_249 : am_T 249 = b_249 := rfl
theorem t_250 : am_T 250 = b_250 := rfl
theorem t_251 : am_T 251 = b_251 := rfl
theorem t_252 : am_T 252 = b_252 := rfl
theorem t_253 : am_T 253 = b_253 := rfl
theorem t_254 : am_T 254 = b_254 := rfl
theorem t_255 : am_T 255 = b_255 := rfl
theorem t_256 : am_T 256 = b_256 := rfl
theorem t_257 : am_T 257 = b_257 := rfl
theorem t_258 : am_T 258 = b_258 := rfl
theorem t_259 : am_T 259 = b_259 := rfl
theorem t_260 : am_T 260 = b_260 := rfl
theorem t_261 : am_T 261 = b_261 := rfl
theorem t_262 : am_T 262 = b_262 := rfl
theorem t_263 : am_T 263 = b_263 := rfl
theorem t_264 : am_T 264 = b_264 := rfl
theorem t_265 : am_T 265 = b_265 := rfl
theorem t_266 : am_T 266 = b_266 := rfl
theorem t_267 : am_T 267 = b_267 := rfl
theorem t_268 : am_T 268 = b_268 := rfl
theorem t_269 : am_T 269 = b_269 := rfl
theorem t_270 : am_T 270 = b_270 := rfl
theorem t_271 : am_T 271 = b_271 := rfl
theorem t_272 : am_T 272 = b_272 := rfl
theorem t_273 : am_T 273 = b_273 := rfl
theorem t_274 : am_T 274 = b_274 := rfl
theorem t_275 : am_T 275 = b_275 := rfl
theorem t_276 : am_T 276 = b_276 := rfl
theorem t_277 : am_T 277 = b_277 := rfl
theorem t_278 : am_T 278 = b_278 := rfl
theorem t_279 : am_T 279 = b_279 := rfl
theorem t_280 : am_T 280 = b_280 := rfl
theorem t_281 : am_T 281 = b_281 := rfl
theorem t_282 : am_T 282 = b_282 := rfl
theorem t_283 : am_T 283 = b_283 := rfl
theorem t_284 : am_T 284 = b_284 := rfl
theorem t_285 : am_T 285 = b_285 := rfl
theorem t_286 : am_T 286 = b_286 := rfl
theorem t_287 : am_T 287 = b_287 := rfl
theorem t_288 : am_T 288 = b_288 := rfl
theorem t_289 : am_T 289 = b_289 := rfl
theorem t_290 : am_T 290 = b_290 := rfl
theorem t_291 : am_T 291 = b_291 := rfl
theorem t_292 : am_T 292 = b_292 := rfl
theorem t_293 : am_T 293 = b_293 := rfl
theorem t_294 : am_T 294 = b_294 := rfl
theorem t_295 : am_T 295 = b_295 := rfl
theorem t_296 : am_T 296 = b_296 := rfl
theorem t_297 : am_T 297 = b_297 := rfl
theorem t_298 : am_T 298 = b_298 := rfl
theorem t_299 : am_T 299 = b_299 := rfl
theorem t_300 : am_T 300 = b_300 := rfl
theorem t_301 : am_T 301 = b_301 := rfl
theorem t_302 : am_T 302 = b_302 := rfl
theorem t_303 : am_T 303 = b_303 := rfl
theorem t_304 : am_T 304 = b_304 := rfl
theorem t_305 : am_T 305 = b_305 := rfl
theorem t_306 : am_T 306 = b_306 := rfl
theorem t_307 : am_T 307 = b_307 := rfl
theorem t_308 : am_T 308 = b_308 := rfl
theorem t_309 : am_T 309 = b_309 := rfl
theorem t_310 : am_T 310 = b_310 := rfl
theorem t_311 : am_T 311 = b_311 := rfl
theorem t_312 : am_T 312 = b_312 := rfl
theorem t_313 : am_T 313 = b_313 := rfl
theorem t_314 : am_T 314 = b_314 := rfl
theorem t_315 : am_T 315 = b_315 := rfl
theorem t_316 : am_T 316 = b_316 := rfl
theorem t_317 : am_T 317 = b_317 := rfl
theorem t_318 : am_T 318 = b_318 := rfl
theorem t_319 : am_T 319 = b_319 := rfl
theorem t_320 : am_T 320 = b_320 := rfl
theorem t_321 : am_T 321 = b_321 := rfl
theorem t_322 : am_T 322 = b_322 := rfl
theorem t_323 : am_T 323 = b_323 := rfl
theorem t_324 : am_T 324 = b_324 := rfl
theorem t_325 : am_T 325 = b_325 := rfl
theorem t_326 : am_T 326 = b_326 := rfl
theorem t_327 : am_T 327 = b_327 := rfl
theorem t_328 : am_T 328 = b_328 := rfl
theorem t_329 : am_T 329 = b_329 := rfl
theorem t_330 : am_T 330 = b_330 := rfl
theorem t_331 : am_T 331 = b_331 := rfl
theorem t_332 : am_T 332 = b_332 := rfl
theorem t_333 : am_T 333 = b_333 := rfl
theorem t_334 : am_T 334 = b_334 := rfl
theorem t_335 : am_T 335 = b_335 := rfl
theorem t_336 : am_T 336 = b_336 := rfl
theorem t_337 : am_T 337 = b_337 := rfl
theorem t_338 : am_T 338 = b_338 := rfl
theorem t_339 : am_T 339 = b_339 := rfl
theorem t_340 : am_T 340 = b_340 := rfl
theorem t_341 : am_T 341 = b_341 := rfl
theorem t_342 : am_T 342 = b_342 := rfl
theorem t_343 : am_T 343 = b_343 := rfl
theorem t_344 : am_T 344 = b_344 := rfl
theorem t_345 : am_T 345 = b_345 := rfl
theorem t_346 : am_T 346 = b_346 := rfl
theorem t_347 : am_T 347 = b_347 := rfl
theorem t_348 : am_T 348 = b_348 := rfl
theorem t_349 : am_T 349 = b_349 := rfl
theorem t_350 : am_T 350 = b_350 := rfl
theorem t_351 : am_T 351 = b_351 := rfl
theorem t_352 : am_T 352 = b_352 := rfl
theorem t_353 : am_T 353 = b_353 := rfl
theorem t_354 : am_T 354 = b_354 := rfl
theorem t_355 : am_T 355 = b_355 := rfl
theorem t_356 : am_T 356 = b_356 := rfl
theorem t_357 : am_T 357 = b_357 := rfl
theorem t_358 : am_T 358 = b_358 := rfl
theorem t_359 : am_T 359 = b_359 := rfl
theorem t_360 : am_T 360 = b_360 := rfl
theorem t_361 : am_T 361 = b_361 := rfl
theorem t_362 : am_T 362 = b_362 := rfl
theorem t_363 : am_T 363 = b_363 := rfl
theorem t_364 : am_T 364 = b_364 := rfl
theorem t_365 : am_T 365 = b_365 := rfl
theorem t_366 : am_T 366 = b_366 := rfl
theorem t_367 : am_T 367 = b_367 := rfl
theorem t_368 : am_T 368 = b_368 := rfl
theorem t_369 : am_T 369 = b_369 := rfl
theorem t_370 : am_T 370 = b_370 := rfl
theorem t_371 : am_T 371 = b_371 := rfl
theorem t_372 : am_T 372 = b_372 := rfl
theorem t_373 : am_T 373 = b_373 := rfl
theorem t_374 : am_T 374 = b_374 := rfl
theorem t_375 : am_T 375 = b_375 := rfl
theorem t_376 : am_T 376 = b_376 := rfl
theorem t_377 : am_T 377 = b_377 := rfl
theorem t_378 : am_T 378 = b_378 := rfl
theorem t_379 : am_T 379 = b_379 := rfl
theorem t_380 : am_T 380 = b_380 := rfl
theorem t_381 : am_T 381 = b_381 := rfl
theorem t_382 : am_T 382 = b_382 := rfl
theorem t_383 : am_T 383 = b_383 := rfl
theorem t_384 : am_T 384 = b_384 := rfl
theorem t_385 : am_T 385 = b_385 := rfl
theorem t_386 : am_T 386 = b_386 := rfl
theorem t_387 : am_T 387 = b_387 := rfl
theorem t_388 : am_T 388 = b_388 := rfl
theorem t_389 : am_T 389 = b_389 := rfl
theorem t_390 : am_T 390 = b_390 := rfl
theorem t_391 : am_T 391 = b_391 := rfl
theorem t_392 : am_T 392 = b_392 := rfl
theorem t_393 : am_T 393 = b_393 := rfl
theorem t_394 : am_T 394 = b_394 := rfl
theorem t_395 : am_T 395 = b_395 := rfl
theorem t_396 : am_T 396 = b_396 := rfl
theorem t_397 : am_T 397 = b_397 := rfl
theorem t_398 : am_T 398 = b_398 := rfl
theorem t_399 : am_T 399 = b_399 := rfl
theorem t_400 : am_T 400 = b_400 := rfl
theorem t_401 : am_T 401 = b_401 := rfl
theorem t_402 : am_T 402 = b_402 := rfl
theorem t_403 : am_T 403 = b_403 := rfl
theorem t_404 : am_T 404 = b_404 := rfl
theorem t_405 : am_T 405 = b_405 := rfl
theorem t_406 : am_T 406 = b_406 := rfl
theorem t_407 : am_T 407 = b_407 := rfl
theorem t_408 : am_T 408 = b_408 := rfl
theorem t_409 : am_T 409 = b_409 := rfl
theorem t_410 : am_T 410 = b_410 := rfl
theorem t_411 : am_T 411 = b_411 := rfl
theorem t_412 : am_T 412 = b_412 := rfl
theorem t_413 : am_T 413 = b_413 := rfl
theorem t_414 : am_T 414 = b_414 := rfl
theorem t_415 : am_T 415 = b_415 := rfl
theorem t_416 : am_T 416 = b_416 := rfl
theorem t_417 : am_T 417 = b_417 := rfl
theorem t_418 : am_T 418 = b_418 := rfl
theorem t_419 : am_T 419 = b_419 := rfl
theorem t_420 : am_T 420 = b_420 := rfl
theorem t_421 : am_T 421 = b_421 := rfl
theorem t_422 : am_T 422 = b_422 := rfl
theorem t_423 : am_T 423 = b_423 := rfl
theorem t_424 : am_T 424 = b_424 := rfl
theorem t_425 : am_T 425 = b_425 := rfl
theorem t_426 : am_T 426 = b_426 := rfl
theorem t_427 : am_T 427 = b_427 := rfl
theorem t_428 : am_T 428 = b_428 := rfl
end
section
theorem d_0_0 : decode prog_1_method_1_code 0 = .ok (.aload_n 0, 1) := by decide +kernel
theorem d_0_1 : decode prog_1_method_1_code 1 = .ok (.invokespecial 1, 3) := by decide +kernel
theorem d_0_4 : decode prog_1_method_1_code 4 = .ok (.aload_n 0, 1) := by decide +kernel
theorem d_0_5 : decode prog_1_method_1_code 5 = .ok (.new 7, 3) := by decide +kernel
theorem d_0_8 : decode prog_1_method_1_code 8 = .ok (.dup, 1) := by decide +kernel
theorem d_0_9 : decode prog_1_method_1_code 9 = .ok (.invokespecial 9, 3) := by decide +kernel
theorem d_0_12 : decode prog_1_method_1_code 12 = .ok (.putfield 10, 3) := by decide +kernel
theorem d_0_15 : decode prog_1_method_1_code 15 = .ok (.aload_n 0, 1) := by decide +kernel
theorem d_0_16 : decode prog_1_method_1_code 16 = .ok (.new 7, 3) := by decide +kernel
theorem d_0_19 : decode prog_1_method_1_code 19 = .ok (.dup, 1) := by decide +kernel
theorem d_0_20 : decode prog_1_method_1_code 20 = .ok (.invokespecial 9, 3) := by decide +kernel
theorem d_0_23 : decode prog_1_method_1_code 23 = .ok (.putfield 16, 3) := by decide +kernel
theorem d_0_26 : decode prog_1_method_1_code 26 = .ok (.aload_n 0, 1) := by decide +kernel
theorem d_0_27 : decode prog_1_method_1_code 27 = .ok (.iconst 1, 1) := by decide +kernel
theorem d_0_28 : decode prog_1_method_1_code 28 = .ok (.putfield 19, 3) := by decide +kernel
theorem d_0_31 : decode prog_1_method_1_code 31 = .ok (.aload_n 0, 1) := by decide +kernel
theorem d_0_32 : decode prog_1_method_1_code 32 = .ok (.new 23, 3) := by decide +kernel
theorem d_0_35 : decode prog_1_method_1_code 35 = .ok (.dup, 1) := by decide +kernel
theorem d_0_36 : decode prog_1_method_1_code 36 = .ok (.invokespecial 25, 3) := by decide +kernel
theorem d_0_39 : decode prog_1_method_1_code 39 = .ok (.putfield 26, 3) := by decide +kernel
theorem d_0_42 : decode prog_1_method_1_code 42 = .ok (.aload_n 0, 1) := by decide +kernel
theorem d_0_43 : decode prog_1_method_1_code 43 = .ok (.new 23, 3) := by decide +kernel
theorem d_0_46 : decode prog_1_method_1_code 46 = .ok (.dup, 1) := by decide +kernel
theorem d_0_47 : decode prog_1_method_1_code 47 = .ok (.invokespecial 25, 3) := by decide +kernel
theorem d_0_50 : decode prog_1_method_1_code 50 = .ok (.putfield 30, 3) := by decide +kernel
theorem d_0_53 : decode prog_1_method_1_code 53 = .ok (.aload_n 0, 1) := by decide +kernel
theorem d_0_54 : decode prog_1_method_1_code 54 = .ok (.new 23, 3) := by decide +kernel
theorem d_0_57 : decode prog_1_method_1_code 57 = .ok (.dup, 1) := by decide +kernel
theorem d_0_58 : decode prog_1_method_1_code 58 = .ok (.invokespecial 25, 3) := by decide +kernel
theorem d_0_61 : decode prog_1_method_1_code 61 = .ok (.putfield 33, 3) := by decide +kernel
theorem d_0_64 : decode prog_1_method_1_code 64 = .ok (.aload_n 0, 1) := by decide +kernel
theorem d_0_65 : decode prog_1_method_1_code 65 = .ok (.new 36, 3) := by decide +kernel
theorem d_0_68 : decode prog_1_method_1_code 68 = .ok (.dup, 1) := by decide +kernel
theorem d_0_69 : decode prog_1_method_1_code 69 = .ok (.invokespecial 38, 3) := by decide +kernel
theorem d_0_72 : decode prog_1_method_1_code 72 = .ok (.putfield 39, 3) := by decide +kernel
theorem d_0_75 : decode prog_1_method_1_code 75 = .ok (.aload_n 0, 1) := by decide +kernel
theorem d_0_76 : decode prog_1_method_1_code 76 = .ok (.new 36, 3) := by decide +kernel
theorem d_0_79 : decode prog_1_method_1_code 79 = .ok (.dup, 1) := by decide +kernel
theorem d_0_80 : decode prog_1_method_1_code 80 = .ok (.invokespecial 38, 3) := by decide +kernel
theorem d_0_83 : decode prog_1_method_1_code 83 = .ok (.putfield 43, 3) := by decide +kernel
theorem d_0_86 : decode prog_1_method_1_code 86 = .ok (.return_, 1) := by decide +kernel
theorem d_1_0 : decode prog_5_method_1_code 0 = .ok (.aload_n 0, 1) := by decide +kernel
theorem d_1_1 : decode prog_5_method_1_code 1 = .ok (.invokespecial 3, 3) := by decide +kernel
theorem d_1_4 : decode prog_5_method_1_code 4 = .ok (.aload_n 0, 1) := by decide +kernel
theorem d_1_5 : decode prog_5_method_1_code 5 = .ok (.iconst 0, 1) := by decide +kernel
theorem d_1_6 : decode prog_5_method_1_code 6 = .ok (.putfield 9, 3) := by decide +kernel
theorem d_1_9 : decode prog_5_method_1_code 9 = .ok (.aload_n 0, 1) := by decide +kernel
theorem d_1_10 : decode prog_5_method_1_code 10 = .ok (.iconst 0, 1) := by decide +kernel
theorem d_1_11 : decode prog_5_method_1_code 11 = .ok (.putfield 15, 3) := by decide +kernel
theorem d_1_14 : decode prog_5_method_1_code 14 = .ok (.aload_n 0, 1) := by decide +kernel
theorem d_1_15 : decode prog_5_method_1_code 15 = .ok (.iconst 4, 1) := by decide +kernel
theorem d_1_16 : decode prog_5_method_1_code 16 = .ok (.newarray .int, 2) := by decide +kernel
theorem d_1_18 : decode prog_5_method_1_code 18 = .ok (.putfield 18, 3) := by decide +kernel
theorem d_1_21 : decode prog_5_method_1_code 21 = .ok (.aload_n 0, 1) := by decide +kernel
theorem d_1_22 : decode prog_5_method_1_code 22 = .ok (.iconst 4, 1) := by decide +kernel
theorem d_1_23 : decode prog_5_method_1_code 23 = .ok (.newarray .int, 2) := by decide +kernel
theorem d_1_25 : decode prog_5_method_1_code 25 = .ok (.putfield 22, 3) := by decide +kernel
theorem d_1_28 : decode prog_5_method_1_code 28 = .ok (.aload_n 0, 1) := by decide +kernel
theorem d_1_29 : decode prog_5_method_1_code 29 = .ok (.iconst 0, 1) := by decide +kernel
theorem d_1_30 : decode prog_5_method_1_code 30 = .ok (.putfield 25, 3) := by decide +kernel
theorem d_1_33 : decode prog_5_method_1_code 33 = .ok (.aload_n 0, 1) := by decide +kernel
theorem d_1_34 : decode prog_5_method_1_code 34 = .ok (.iconst 5, 1) := by decide +kernel
theorem d_1_35 : decode prog_5_method_1_code 35 = .ok (.newarray .int, 2) := by decide +kernel
theorem d_1_37 : decode prog_5_method_1_code 37 = .ok (.putfield 28, 3) := by decide +kernel
theorem d_1_40 : decode prog_5_method_1_code 40 = .ok (.aload_n 0, 1) := by decide +kernel
theorem d_1_41 : decode prog_5_method_1_code 41 = .ok (.iconst 5, 1) := by decide +kernel
theorem d_1_42 : decode prog_5_method_1_code 42 = .ok (.anewarray 31, 3) := by decide +kernel
theorem d_1_45 : decode prog_5_method_1_code 45 = .ok (.putfield 33, 3) := by decide +kernel
theorem d_1_48 : decode prog_5_method_1_code 48 = .ok (.iconst 0, 1) := by decide +kernel
theorem d_1_49 : decode prog_5_method_1_code 49 = .ok (.istore_n 1, 1) := by decide +kernel
theorem d_1_50 : decode prog_5_method_1_code 50 = .ok (.iload_n 1, 1) := by decide +kernel
theorem d_1_51 : decode prog_5_method_1_code 51 = .ok (.iconst 5, 1) := by decide +kernel
theorem d_1_52 : decode prog_5_method_1_code 52 = .ok (.if_icmp .ge 22, 3) := by decide +kernel
theorem d_1_55 : decode prog_5_method_1_code 55 = .ok (.aload_n 0, 1) := by decide +kernel
theorem d_1_56 : decode prog_5_method_1_code 56 = .ok (.getfield 33, 3) := by decide +kernel
theorem d_1_59 : decode prog_5_method_1_code 59 = .ok (.iload_n 1, 1) := by decide +kernel
theorem d_1_60 : decode prog_5_method_1_code 60 = .ok (.new 31, 3) := by decide +kernel
theorem d_1_63 : decode prog_5_method_1_code 63 = .ok (.dup, 1) := by decide +kernel
theorem d_1_64 : decode prog_5_method_1_code 64 = .ok (.invokespecial 37, 3) := by decide +kernel
theorem d_1_67 : decode prog_5_method_1_code 67 = .ok (.aastore, 1) := by decide +kernel
theorem d_1_68 : decode prog_5_method_1_code 68 = .ok (.iinc 1 1, 3) := by decide +kernel
theorem d_1_71 : decode prog_5_method_1_code 71 = .ok (.goto (-21), 3) := by decide +kernel
theorem d_1_74 : decode prog_5_method_1_code 74 = .ok (.aload_n 0, 1) := by decide +kernel
theorem d_1_75 : decode prog_5_method_1_code 75 = .ok (.new 38, 3) := by decide +kernel
theorem d_1_78 : decode prog_5_method_1_code 78 = .ok (.dup, 1) := by decide +kernel
theorem d_1_79 : decode prog_5_method_1_code 79 = .ok (.invokespecial 40, 3) := by decide +kernel
theorem d_1_82 : decode prog_5_method_1_code 82 = .ok (.putfield 41, 3) := by decide +kernel
theorem d_1_85 : decode prog_5_method_1_code 85 = .ok (.return_, 1) := by decide +kernel
theorem d_2_0 : decode prog_6_method_1_code 0 = .ok (.aload_n 0, 1) := by decide +kernel
theorem d_2_1 : decode prog_6_method_1_code 1 = .ok (.invokespecial 3, 3) := by decide +kernel
theorem d_2_4 : decode prog_6_method_1_code 4 = .ok (.aload_n 0, 1) := by decide +kernel
theorem d_2_5 : decode prog_6_method_1_code 5 = .ok (.iconst 1, 1) := by decide +kernel
theorem d_2_6 : decode prog_6_method_1_code 6 = .ok (.putfield 9, 3) := by decide +kernel
theorem d_2_9 : decode prog_6_method_1_code 9 = .ok (.aload_n 0, 1) := by decide +kernel
theorem d_2_10 : decode prog_6_method_1_code 10 = .ok (.iconst (-1), 1) := by decide +kernel
theorem d_2_11 : decode prog_6_method_1_code 11 = .ok (.putfield 15, 3) := by decide +kernel
theorem d_2_14 : decode prog_6_method_1_code 14 = .ok (.aload_n 0, 1) := by decide +kernel
theorem d_2_15 : decode prog_6_method_1_code 15 = .ok (.iconst (-1), 1) := by decide +kernel
theorem d_2_16 : decode prog_6_method_1_code 16 = .ok (.putfield 18, 3) := by decide +kernel
theorem d_2_19 : decode prog_6_method_1_code 19 = .ok (.aload_n 0, 1) := by decide +kernel
theorem d_2_20 : decode prog_6_method_1_code 20 = .ok (.iconst 0, 1) := by decide +kernel
theorem d_2_21 : decode prog_6_method_1_code 21 = .ok (.putfield 21, 3) := by decide +kernel
theorem d_2_24 : decode prog_6_method_1_code 24 = .ok (.aload_n 0, 1) := by decide +kernel
theorem d_2_25 : decode prog_6_method_1_code 25 = .ok (.iconst 1, 1) := by decide +kernel
theorem d_2_26 : decode prog_6_method_1_code 26 = .ok (.putfield 25, 3) := by decide +kernel
theorem d_2_29 : decode prog_6_method_1_code 29 = .ok (.aload_n 0, 1) := by decide +kernel
theorem d_2_30 : decode prog_6_method_1_code 30 = .ok (.iconst 1, 1) := by decide +kernel
theorem d_2_31 : decode prog_6_method_1_code 31 = .ok (.putfield 28, 3) := by decide +kernel
theorem d_2_34 : decode prog_6_method_1_code 34 = .ok (.aload_n 0, 1) := by decide +kernel
theorem d_2_35 : decode prog_6_method_1_code 35 = .ok (.new 31, 3) := by decide +kernel
theorem d_2_38 : decode prog_6_method_1_code 38 = .ok (.dup, 1) := by decide +kernel
theorem d_2_39 : decode prog_6_method_1_code 39 = .ok (.invokespecial 33, 3) := by decide +kernel
theorem d_2_42 : decode prog_6_method_1_code 42 = .ok (.putfield 34, 3) := by decide +kernel
theorem d_2_45 : decode prog_6_method_1_code 45 = .ok (.aload_n 0, 1) := by decide +kernel
theorem d_2_46 : decode prog_6_method_1_code 46 = .ok (.sipush 800, 3) := by decide +kernel
theorem d_2_49 : decode prog_6_method_1_code 49 = .ok (.newarray .int, 2) := by decide +kernel
theorem d_2_51 : decode prog_6_method_1_code 51 = .ok (.putfield 38, 3) := by decide +kernel
theorem d_2_54 : decode prog_6_method_1_code 54 = .ok (.return_, 1) := by decide +kernel
theorem d_3_0 : decode prog_2_method_1_code 0 = .ok (.aload_n 0, 1) := by decide +kernel
theorem d_3_1 : decode prog_2_method_1_code 1 = .ok (.invokespecial 3, 3) := by decide +kernel
theorem d_3_4 : decode prog_2_method_1_code 4 = .ok (.aload_n 0, 1) := by decide +kernel
theorem d_3_5 : decode prog_2_method_1_code 5 = .ok (.iconst 0, 1) := by decide +kernel
theorem d_3_6 : decode prog_2_method_1_code 6 = .ok (.putfield 9, 3) := by decide +kernel
theorem d_3_9 : decode prog_2_method_1_code 9 = .ok (.aload_n 0, 1) := by decide +kernel
theorem d_3_10 : decode prog_2_method_1_code 10 = .ok (.iconst 3, 1) := by decide +kernel
theorem d_3_11 : decode prog_2_method_1_code 11 = .ok (.newarray .int, 2) := by decide +kernel
theorem d_3_13 : decode prog_2_method_1_code 13 = .ok (.putfield 15, 3) := by decide +kernel
theorem d_3_16 : decode prog_2_method_1_code 16 = .ok (.aload_n 0, 1) := by decide +kernel
theorem d_3_17 : decode prog_2_method_1_code 17 = .ok (.iconst 3, 1) := by decide +kernel
theorem d_3_18 : decode prog_2_method_1_code 18 = .ok (.newarray .int, 2) := by decide +kernel
theorem d_3_20 : decode prog_2_method_1_code 20 = .ok (.putfield 19, 3) := by decide +kernel
theorem d_3_23 : decode prog_2_method_1_code 23 = .ok (.aload_n 0, 1) := by decide +kernel
theorem d_3_24 : decode prog_2_method_1_code 24 = .ok (.iconst 3, 1) := by decide +kernel
theorem d_3_25 : decode prog_2_method_1_code 25 = .ok (.newarray .int, 2) := by decide +kernel
theorem d_3_27 : decode prog_2_method_1_code 27 = .ok (.putfield 22, 3) := by decide +kernel
theorem d_3_30 : decode prog_2_method_1_code 30 = .ok (.aload_n 0, 1) := by decide +kernel
theorem d_3_31 : decode prog_2_method_1_code 31 = .ok (.iconst 3, 1) := by decide +kernel
theorem d_3_32 : decode prog_2_method_1_code 32 = .ok (.newarray .int, 2) := by decide +kernel
theorem d_3_34 : decode prog_2_method_1_code 34 = .ok (.putfield 25, 3) := by decide +kernel
theorem d_3_37 : decode prog_2_method_1_code 37 = .ok (.return_, 1) := by decide +kernel
theorem d_4_0 : decode prog_4_method_1_code 0 = .ok (.aload_n 0, 1) := by decide +kernel
theorem d_4_1 : decode prog_4_method_1_code 1 = .ok (.invokespecial 1, 3) := by decide +kernel
theorem d_4_4 : decode prog_4_method_1_code 4 = .ok (.aload_n 0, 1) := by decide +kernel
theorem d_4_5 : decode prog_4_method_1_code 5 = .ok (.iconst 0, 1) := by decide +kernel
theorem d_4_6 : decode prog_4_method_1_code 6 = .ok (.putfield 7, 3) := by decide +kernel
theorem d_4_9 : decode prog_4_method_1_code 9 = .ok (.aload_n 0, 1) := by decide +kernel
theorem d_4_10 : decode prog_4_method_1_code 10 = .ok (.iconst 1, 1) := by decide +kernel
theorem d_4_11 : decode prog_4_method_1_code 11 = .ok (.putfield 13, 3) := by decide +kernel
theorem d_4_14 : decode prog_4_method_1_code 14 = .ok (.aload_n 0, 1) := by decide +kernel
theorem d_4_15 : decode prog_4_method_1_code 15 = .ok (.iconst 1, 1) := by decide +kernel
theorem d_4_16 : decode prog_4_method_1_code 16 = .ok (.putfield 16, 3) := by decide +kernel
theorem d_4_19 : decode prog_4_method_1_code 19 = .ok (.return_, 1) := by decide +kernel
theorem d_5_0 : decode prog_3_method_1_code 0 = .ok (.aload_n 0, 1) := by decide +kernel
theorem d_5_1 : decode prog_3_method_1_code 1 = .ok (.invokespecial 3, 3) := by decide +kernel
theorem d_5_4 : decode prog_3_method_1_code 4 = .ok (.aload_n 0, 1) := by decide +kernel
theorem d_5_5 : decode prog_3_method_1_code 5 = .ok (.sipush 800, 3) := by decide +kernel
theorem d_5_8 : decode prog_3_method_1_code 8 = .ok (.newarray .byte, 2) := by decide +kernel
theorem d_5_10 : decode prog_3_method_1_code 10 = .ok (.putfield 9, 3) := by decide +kernel
theorem d_5_13 : decode prog_3_method_1_code 13 = .ok (.aload_n 0, 1) := by decide +kernel
theorem d_5_14 : decode prog_3_method_1_code 14 = .ok (.iconst 0, 1) := by decide +kernel
theorem d_5_15 : decode prog_3_method_1_code 15 = .ok (.putfield 15, 3) := by decide +kernel
theorem d_5_18 : decode prog_3_method_1_code 18 = .ok (.aload_n 0, 1) := by decide +kernel
theorem d_5_19 : decode prog_3_method_1_code 19 = .ok (.iconst 0, 1) := by decide +kernel
theorem d_5_20 : decode prog_3_method_1_code 20 = .ok (.putfield 19, 3) := by decide +kernel
theorem d_5_23 : decode prog_3_method_1_code 23 = .ok (.return_, 1) := by decide +kernel
theorem d_6_0 : decode prog_1_method_2_code 0 = .ok (.aload_n 0, 1) := by decide +kernel
theorem d_6_1 : decode prog_1_method_2_code 1 = .ok (.getfield 19, 3) := by decide +kernel
theorem d_6_4 : decode prog_1_method_2_code 4 = .ok (.ifCond .eq 15, 3) := by decide +kernel
theorem d_6_7 : decode prog_1_method_2_code 7 = .ok (.aload_n 0, 1) := by decide +kernel
theorem d_6_8 : decode prog_1_method_2_code 8 = .ok (.getfield 10, 3) := by decide +kernel
theorem d_6_11 : decode prog_1_method_2_code 11 = .ok (.iload_n 1, 1) := by decide +kernel
theorem d_6_12 : decode prog_1_method_2_code 12 = .ok (.iload_n 2, 1) := by decide +kernel
theorem d_6_13 : decode prog_1_method_2_code 13 = .ok (.invokevirtual 46, 3) := by decide +kernel
theorem d_6_16 : decode prog_1_method_2_code 16 = .ok (.goto 4, 3) := by decide +kernel
theorem d_6_19 : decode prog_1_method_2_code 19 = .ok (.iconst (-1), 1) := by decide +kernel
theorem d_6_20 : decode prog_1_method_2_code 20 = .ok (.ireturn, 1) := by decide +kernel
theorem d_7_0 : decode prog_5_method_3_code 0 = .ok (.iload_n 1, 1) := by decide +kernel
theorem d_7_1 : decode prog_5_method_3_code 1 = .ok (.invokestatic 49, 3) := by decide +kernel
theorem d_7_4 : decode prog_5_method_3_code 4 = .ok (.ifCond .eq 13, 3) := by decide +kernel
theorem d_7_7 : decode prog_5_method_3_code 7 = .ok (.iload_n 2, 1) := by decide +kernel
theorem d_7_8 : decode prog_5_method_3_code 8 = .ok (.ifCond .lt 9, 3) := by decide +kernel
theorem d_7_11 : decode prog_5_method_3_code 11 = .ok (.iload_n 2, 1) := by decide +kernel
theorem d_7_12 : decode prog_5_method_3_code 12 = .ok (.bipush 8, 2) := by decide +kernel
theorem d_7_14 : decode prog_5_method_3_code 14 = .ok (.if_icmp .le 6, 3) := by decide +kernel
theorem d_7_17 : decode prog_5_method_3_code 17 = .ok (.bipush (-2), 2) := by decide +kernel
theorem d_7_19 : decode prog_5_method_3_code 19 = .ok (.ireturn, 1) := by decide +kernel
theorem d_7_20 : decode prog_5_method_3_code 20 = .ok (.iload_n 1, 1) := by decide +kernel
theorem d_7_21 : decode prog_5_method_3_code 21 = .ok (.aload_n 0, 1) := by decide +kernel
theorem d_7_22 : decode prog_5_method_3_code 22 = .ok (.getfield 18, 3) := by decide +kernel
theorem d_7_25 : decode prog_5_method_3_code 25 = .ok (.aload_n 0, 1) := by decide +kernel
theorem d_7_26 : decode prog_5_method_3_code 26 = .ok (.getfield 15, 3) := by decide +kernel
theorem d_7_29 : decode prog_5_method_3_code 29 = .ok (.invokestatic 53, 3) := by decide +kernel
theorem d_7_32 : decode prog_5_method_3_code 32 = .ok (.ifCond .lt 6, 3) := by decide +kernel
theorem d_7_35 : decode prog_5_method_3_code 35 = .ok (.bipush (-4), 2) := by decide +kernel
theorem d_7_37 : decode prog_5_method_3_code 37 = .ok (.ireturn, 1) := by decide +kernel
theorem d_7_38 : decode prog_5_method_3_code 38 = .ok (.aload_n 0, 1) := by decide +kernel
theorem d_7_39 : decode prog_5_method_3_code 39 = .ok (.getfield 15, 3) := by decide +kernel
theorem d_7_42 : decode prog_5_method_3_code 42 = .ok (.iconst 4, 1) := by decide +kernel
theorem d_7_43 : decode prog_5_method_3_code 43 = .ok (.if_icmp .ge 14, 3) := by decide +kernel
theorem d_7_46 : decode prog_5_method_3_code 46 = .ok (.iload_n 2, 1) := by decide +kernel
theorem d_7_47 : decode prog_5_method_3_code 47 = .ok (.ifCond .ne 13, 3) := by decide +kernel
theorem d_7_50 : decode prog_5_method_3_code 50 = .ok (.aload_n 0, 1) := by decide +kernel
theorem d_7_51 : decode prog_5_method_3_code 51 = .ok (.invokevirtual 57, 3) := by decide +kernel
theorem d_7_54 : decode prog_5_method_3_code 54 = .ok (.ifCond .eq 6, 3) := by decide +kernel
theorem d_7_57 : decode prog_5_method_3_code 57 = .ok (.bipush (-5), 2) := by decide +kernel
theorem d_7_59 : decode prog_5_method_3_code 59 = .ok (.ireturn, 1) := by decide +kernel
theorem d_7_60 : decode prog_5_method_3_code 60 = .ok (.aload_n 0, 1) := by decide +kernel
theorem d_7_61 : decode prog_5_method_3_code 61 = .ok (.getfield 18, 3) := by decide +kernel
theorem d_7_64 : decode prog_5_method_3_code 64 = .ok (.aload_n 0, 1) := by decide +kernel
theorem d_7_65 : decode prog_5_method_3_code 65 = .ok (.getfield 15, 3) := by decide +kernel
theorem d_7_68 : decode prog_5_method_3_code 68 = .ok (.iload_n 1, 1) := by decide +kernel
theorem d_7_69 : decode prog_5_method_3_code 69 = .ok (.iastore, 1) := by decide +kernel
theorem d_7_70 : decode prog_5_method_3_code 70 = .ok (.aload_n 0, 1) := by decide +kernel
theorem d_7_71 : decode prog_5_method_3_code 71 = .ok (.getfield 22, 3) := by decide +kernel
theorem d_7_74 : decode prog_5_method_3_code 74 = .ok (.aload_n 0, 1) := by decide +kernel
theorem d_7_75 : decode prog_5_method_3_code 75 = .ok (.getfield 15, 3) := by decide +kernel
theorem d_7_78 : decode prog_5_method_3_code 78 = .ok (.iload_n 2, 1) := by decide +kernel
theorem d_7_79 : decode prog_5_method_3_code 79 = .ok (.iastore, 1) := by decide +kernel
theorem d_7_80 : decode prog_5_method_3_code 80 = .ok (.aload_n 0, 1) := by decide +kernel
theorem d_7_81 : decode prog_5_method_3_code 81 = .ok (.dup, 1) := by decide +kernel
theorem d_7_82 : decode prog_5_method_3_code 82 = .ok (.getfield 15, 3) := by decide +kernel
theorem d_7_85 : decode prog_5_method_3_code 85 = .ok (.iconst 1, 1) := by decide +kernel
theorem d_7_86 : decode prog_5_method_3_code 86 = .ok (.iadd, 1) := by decide +kernel
theorem d_7_87 : decode prog_5_method_3_code 87 = .ok (.putfield 15, 3) := by decide +kernel
theorem d_7_90 : decode prog_5_method_3_code 90 = .ok (.aload_n 0, 1) := by decide +kernel
theorem d_7_91 : decode prog_5_method_3_code 91 = .ok (.getfield 15, 3) := by decide +kernel
theorem d_7_94 : decode prog_5_method_3_code 94 = .ok (.iconst 1, 1) := by decide +kernel
theorem d_7_95 : decode prog_5_method_3_code 95 = .ok (.isub, 1) := by decide +kernel
theorem d_7_96 : decode prog_5_method_3_code 96 = .ok (.ireturn, 1) := by decide +kernel
theorem d_8_0 : decode prog_1_method_23_code 0 = .ok (.iload_n 0, 1) := by decide +kernel
theorem d_8_1 : decode prog_1_method_23_code 1 = .ok (.bipush 33, 2) := by decide +kernel
theorem d_8_3 : decode prog_1_method_23_code 3 = .ok (.if_icmp .lt 13, 3) := by decide +kernel
theorem d_8_6 : decode prog_1_method_23_code 6 = .ok (.iload_n 0, 1) := by decide +kernel
theorem d_8_7 : decode prog_1_method_23_code 7 = .ok (.bipush 126, 2) := by decide +kernel
theorem d_8_9 : decode prog_1_method_23_code 9 = .ok (.if_icmp .gt 7, 3) := by decide +kernel
theorem d_8_12 : decode prog_1_method_23_code 12 = .ok (.iconst 1, 1) := by decide +kernel
theorem d_8_13 : decode prog_1_method_23_code 13 = .ok (.goto 4, 3) := by decide +kernel
theorem d_8_16 : decode prog_1_method_23_code 16 = .ok (.iconst 0, 1) := by decide +kernel
theorem d_8_17 : decode prog_1_method_23_code 17 = .ok (.ireturn, 1) := by decide +kernel
theorem d_9_0 : decode prog_1_method_28_code 0 = .ok (.iconst 0, 1) := by decide +kernel
theorem d_9_1 : decode prog_1_method_28_code 1 = .ok (.istore_n 3, 1) := by decide +kernel
theorem d_9_2 : decode prog_1_method_28_code 2 = .ok (.iload_n 3, 1) := by decide +kernel
theorem d_9_3 : decode prog_1_method_28_code 3 = .ok (.iload_n 2, 1) := by decide +kernel
theorem d_9_4 : decode prog_1_method_28_code 4 = .ok (.if_icmp .ge 24, 3) := by decide +kernel
theorem d_9_7 : decode prog_1_method_28_code 7 = .ok (.iload_n 3, 1) := by decide +kernel
theorem d_9_8 : decode prog_1_method_28_code 8 = .ok (.aload_n 1, 1) := by decide +kernel
theorem d_9_9 : decode prog_1_method_28_code 9 = .ok (.arraylength, 1) := by decide +kernel
theorem d_9_10 : decode prog_1_method_28_code 10 = .ok (.if_icmp .ge 18, 3) := by decide +kernel
theorem d_9_13 : decode prog_1_method_28_code 13 = .ok (.aload_n 1, 1) := by decide +kernel
theorem d_9_14 : decode prog_1_method_28_code 14 = .ok (.iload_n 3, 1) := by decide +kernel
theorem d_9_15 : decode prog_1_method_28_code 15 = .ok (.iaload, 1) := by decide +kernel
theorem d_9_16 : decode prog_1_method_28_code 16 = .ok (.iload_n 0, 1) := by decide +kernel
theorem d_9_17 : decode prog_1_method_28_code 17 = .ok (.if_icmp .ne 5, 3) := by decide +kernel
theorem d_9_20 : decode prog_1_method_28_code 20 = .ok (.iload_n 3, 1) := by decide +kernel
theorem d_9_21 : decode prog_1_method_28_code 21 = .ok (.ireturn, 1) := by decide +kernel
theorem d_9_22 : decode prog_1_method_28_code 22 = .ok (.iinc 3 1, 3) := by decide +kernel
theorem d_9_25 : decode prog_1_method_28_code 25 = .ok (.goto (-23), 3) := by decide +kernel
theorem d_9_28 : decode prog_1_method_28_code 28 = .ok (.iconst (-1), 1) := by decide +kernel
theorem d_9_29 : decode prog_1_method_28_code 29 = .ok (.ireturn, 1) := by decide +kernel
theorem d_10_0 : decode prog_5_method_4_code 0 = .ok (.iconst 0, 1) := by decide +kernel
theorem d_10_1 : decode prog_5_method_4_code 1 = .ok (.istore_n 1, 1) := by decide +kernel
theorem d_10_2 : decode prog_5_method_4_code 2 = .ok (.iload_n 1, 1) := by decide +kernel
theorem d_10_3 : decode prog_5_method_4_code 3 = .ok (.aload_n 0, 1) := by decide +kernel
theorem d_10_4 : decode prog_5_method_4_code 4 = .ok (.getfield 15, 3) := by decide +kernel
theorem d_10_7 : decode prog_5_method_4_code 7 = .ok (.if_icmp .ge 20, 3) := by decide +kernel
theorem d_10_10 : decode prog_5_method_4_code 10 = .ok (.aload_n 0, 1) := by decide +kernel
theorem d_10_11 : decode prog_5_method_4_code 11 = .ok (.getfield 22, 3) := by decide +kernel
theorem d_10_14 : decode prog_5_method_4_code 14 = .ok (.iload_n 1, 1) := by decide +kernel
theorem d_10_15 : decode prog_5_method_4_code 15 = .ok (.iaload, 1) := by decide +kernel
theorem d_10_16 : decode prog_5_method_4_code 16 = .ok (.ifCond .ne 5, 3) := by decide +kernel
theorem d_10_19 : decode prog_5_method_4_code 19 = .ok (.iconst 1, 1) := by decide +kernel
theorem d_10_20 : decode prog_5_method_4_code 20 = .ok (.ireturn, 1) := by decide +kernel
theorem d_10_21 : decode prog_5_method_4_code 21 = .ok (.iinc 1 1, 3) := by decide +kernel
theorem d_10_24 : decode prog_5_method_4_code 24 = .ok (.goto (-22), 3) := by decide +kernel
theorem d_10_27 : decode prog_5_method_4_code 27 = .ok (.iconst 0, 1) := by decide +kernel
theorem d_10_28 : decode prog_5_method_4_code 28 = .ok (.ireturn, 1) := by decide +kernel
theorem d_11_0 : decode prog_1_method_3_code 0 = .ok (.aload_n 0, 1) := by decide +kernel
theorem d_11_1 : decode prog_1_method_3_code 1 = .ok (.getfield 19, 3) := by decide +kernel
theorem d_11_4 : decode prog_1_method_3_code 4 = .ok (.ifCond .eq 18, 3) := by decide +kernel
theorem d_11_7 : decode prog_1_method_3_code 7 = .ok (.aload_n 0, 1) := by decide +kernel
theorem d_11_8 : decode prog_1_method_3_code 8 = .ok (.getfield 10, 3) := by decide +kernel
theorem d_11_11 : decode prog_1_method_3_code 11 = .ok (.iload_n 1, 1) := by decide +kernel
theorem d_11_12 : decode prog_1_method_3_code 12 = .ok (.iload_n 2, 1) := by decide +kernel
theorem d_11_13 : decode prog_1_method_3_code 13 = .ok (.iload_n 3, 1) := by decide +kernel
theorem d_11_14 : decode prog_1_method_3_code 14 = .ok (.iload 4, 2) := by decide +kernel
theorem d_11_16 : decode prog_1_method_3_code 16 = .ok (.invokevirtual 50, 3) := by decide +kernel
theorem d_11_19 : decode prog_1_method_3_code 19 = .ok (.goto 4, 3) := by decide +kernel
theorem d_11_22 : decode prog_1_method_3_code 22 = .ok (.iconst (-1), 1) := by decide +kernel
theorem d_11_23 : decode prog_1_method_3_code 23 = .ok (.ireturn, 1) := by decide +kernel
theorem d_12_0 : decode prog_5_method_5_code 0 = .ok (.iload_n 1, 1) := by decide +kernel
theorem d_12_1 : decode prog_5_method_5_code 1 = .ok (.invokestatic 49, 3) := by decide +kernel
theorem d_12_4 : decode prog_5_method_5_code 4 = .ok (.ifCond .eq 10, 3) := by decide +kernel
theorem d_12_7 : decode prog_5_method_5_code 7 = .ok (.iload_n 2, 1) := by decide +kernel
theorem d_12_8 : decode prog_5_method_5_code 8 = .ok (.invokestatic 61, 3) := by decide +kernel
theorem d_12_11 : decode prog_5_method_5_code 11 = .ok (.ifCond .ne 6, 3) := by decide +kernel
theorem d_12_14 : decode prog_5_method_5_code 14 = .ok (.bipush (-2), 2) := by decide +kernel
theorem d_12_16 : decode prog_5_method_5_code 16 = .ok (.ireturn, 1) := by decide +kernel
theorem d_12_17 : decode prog_5_method_5_code 17 = .ok (.aload_n 0, 1) := by decide +kernel
theorem d_12_18 : decode prog_5_method_5_code 18 = .ok (.iload_n 3, 1) := by decide +kernel
theorem d_12_19 : decode prog_5_method_5_code 19 = .ok (.invokevirtual 64, 3) := by decide +kernel
theorem d_12_22 : decode prog_5_method_5_code 22 = .ok (.ifCond .eq 23, 3) := by decide +kernel
theorem d_12_25 : decode prog_5_method_5_code 25 = .ok (.aload_n 0, 1) := by decide +kernel
theorem d_12_26 : decode prog_5_method_5_code 26 = .ok (.iload 4, 2) := by decide +kernel
theorem d_12_28 : decode prog_5_method_5_code 28 = .ok (.invokevirtual 64, 3) := by decide +kernel
theorem d_12_31 : decode prog_5_method_5_code 31 = .ok (.ifCond .eq 14, 3) := by decide +kernel
theorem d_12_34 : decode prog_5_method_5_code 34 = .ok (.iload_n 3, 1) := by decide +kernel
theorem d_12_35 : decode prog_5_method_5_code 35 = .ok (.iconst (-1), 1) := by decide +kernel
theorem d_12_36 : decode prog_5_method_5_code 36 = .ok (.if_icmp .ne 12, 3) := by decide +kernel
theorem d_12_39 : decode prog_5_method_5_code 39 = .ok (.iload 4, 2) := by decide +kernel
theorem d_12_41 : decode prog_5_method_5_code 41 = .ok (.iconst (-1), 1) := by decide +kernel
theorem d_12_42 : decode prog_5_method_5_code 42 = .ok (.if_icmp .eq 6, 3) := by decide +kernel
theorem d_12_45 : decode prog_5_method_5_code 45 = .ok (.bipush (-3), 2) := by decide +kernel
theorem d_12_47 : decode prog_5_method_5_code 47 = .ok (.ireturn, 1) := by decide +kernel
theorem d_12_48 : decode prog_5_method_5_code 48 = .ok (.aload_n 0, 1) := by decide +kernel
theorem d_12_49 : decode prog_5_method_5_code 49 = .ok (.iload 4, 2) := by decide +kernel
theorem d_12_51 : decode prog_5_method_5_code 51 = .ok (.invokevirtual 67, 3) := by decide +kernel
theorem d_12_54 : decode prog_5_method_5_code 54 = .ok (.ifCond .ne 6, 3) := by decide +kernel
theorem d_12_57 : decode prog_5_method_5_code 57 = .ok (.bipush (-2), 2) := by decide +kernel
theorem d_12_59 : decode prog_5_method_5_code 59 = .ok (.ireturn, 1) := by decide +kernel
theorem d_12_60 : decode prog_5_method_5_code 60 = .ok (.iload_n 1, 1) := by decide +kernel
theorem d_12_61 : decode prog_5_method_5_code 61 = .ok (.aload_n 0, 1) := by decide +kernel
theorem d_12_62 : decode prog_5_method_5_code 62 = .ok (.getfield 28, 3) := by decide +kernel
theorem d_12_65 : decode prog_5_method_5_code 65 = .ok (.aload_n 0, 1) := by decide +kernel
theorem d_12_66 : decode prog_5_method_5_code 66 = .ok (.getfield 25, 3) := by decide +kernel
theorem d_12_69 : decode prog_5_method_5_code 69 = .ok (.invokestatic 53, 3) := by decide +kernel
theorem d_12_72 : decode prog_5_method_5_code 72 = .ok (.ifCond .lt 6, 3) := by decide +kernel
theorem d_12_75 : decode prog_5_method_5_code 75 = .ok (.bipush (-4), 2) := by decide +kernel
theorem d_12_77 : decode prog_5_method_5_code 77 = .ok (.ireturn, 1) := by decide +kernel
theorem d_12_78 : decode prog_5_method_5_code 78 = .ok (.aload_n 0, 1) := by decide +kernel
theorem d_12_79 : decode prog_5_method_5_code 79 = .ok (.getfield 25, 3) := by decide +kernel
theorem d_12_82 : decode prog_5_method_5_code 82 = .ok (.iconst 5, 1) := by decide +kernel
theorem d_12_83 : decode prog_5_method_5_code 83 = .ok (.if_icmp .lt 6, 3) := by decide +kernel
theorem d_12_86 : decode prog_5_method_5_code 86 = .ok (.bipush (-5), 2) := by decide +kernel
theorem d_12_88 : decode prog_5_method_5_code 88 = .ok (.ireturn, 1) := by decide +kernel
theorem d_12_89 : decode prog_5_method_5_code 89 = .ok (.aload_n 0, 1) := by decide +kernel
theorem d_12_90 : decode prog_5_method_5_code 90 = .ok (.getfield 28, 3) := by decide +kernel
theorem d_12_93 : decode prog_5_method_5_code 93 = .ok (.aload_n 0, 1) := by decide +kernel
theorem d_12_94 : decode prog_5_method_5_code 94 = .ok (.getfield 25, 3) := by decide +kernel
theorem d_12_97 : decode prog_5_method_5_code 97 = .ok (.iload_n 1, 1) := by decide +kernel
theorem d_12_98 : decode prog_5_method_5_code 98 = .ok (.iastore, 1) := by decide +kernel
theorem d_12_99 : decode prog_5_method_5_code 99 = .ok (.aload_n 0, 1) := by decide +kernel
theorem d_12_100 : decode prog_5_method_5_code 100 = .ok (.getfield 33, 3) := by decide +kernel
theorem d_12_103 : decode prog_5_method_5_code 103 = .ok (.aload_n 0, 1) := by decide +kernel
theorem d_12_104 : decode prog_5_method_5_code 104 = .ok (.getfield 25, 3) := by decide +kernel
theorem d_12_107 : decode prog_5_method_5_code 107 = .ok (.aaload, 1) := by decide +kernel
theorem d_12_108 : decode prog_5_method_5_code 108 = .ok (.iload_n 3, 1) := by decide +kernel
theorem d_12_109 : decode prog_5_method_5_code 109 = .ok (.aload_n 0, 1) := by decide +kernel
theorem d_12_110 : decode prog_5_method_5_code 110 = .ok (.iload_n 3, 1) := by decide +kernel
theorem d_12_111 : decode prog_5_method_5_code 111 = .ok (.invokevirtual 67, 3) := by decide +kernel
theorem d_12_114 : decode prog_5_method_5_code 114 = .ok (.iload 4, 2) := by decide +kernel
theorem d_12_116 : decode prog_5_method_5_code 116 = .ok (.aload_n 0, 1) := by decide +kernel
theorem d_12_117 : decode prog_5_method_5_code 117 = .ok (.iload 4, 2) := by decide +kernel
theorem d_12_119 : decode prog_5_method_5_code 119 = .ok (.invokevirtual 67, 3) := by decide +kernel
theorem d_12_122 : decode prog_5_method_5_code 122 = .ok (.invokevirtual 71, 3) := by decide +kernel
theorem d_12_125 : decode prog_5_method_5_code 125 = .ok (.aload_n 0, 1) := by decide +kernel
theorem d_12_126 : decode prog_5_method_5_code 126 = .ok (.getfield 33, 3) := by decide +kernel
theorem d_12_129 : decode prog_5_method_5_code 129 = .ok (.aload_n 0, 1) := by decide +kernel
theorem d_12_130 : decode prog_5_method_5_code 130 = .ok (.getfield 25, 3) := by decide +kernel
theorem d_12_133 : decode prog_5_method_5_code 133 = .ok (.aaload, 1) := by decide +kernel
theorem d_12_134 : decode prog_5_method_5_code 134 = .ok (.iload_n 2, 1) := by decide +kernel
theorem d_12_135 : decode prog_5_method_5_code 135 = .ok (.invokevirtual 75, 3) := by decide +kernel
theorem d_12_138 : decode prog_5_method_5_code 138 = .ok (.aload_n 0, 1) := by decide +kernel
theorem d_12_139 : decode prog_5_method_5_code 139 = .ok (.dup, 1) := by decide +kernel
theorem d_12_140 : decode prog_5_method_5_code 140 = .ok (.getfield 25, 3) := by decide +kernel
theorem d_12_143 : decode prog_5_method_5_code 143 = .ok (.iconst 1, 1) := by decide +kernel
theorem d_12_144 : decode prog_5_method_5_code 144 = .ok (.iadd, 1) := by decide +kernel
theorem d_12_145 : decode prog_5_method_5_code 145 = .ok (.putfield 25, 3) := by decide +kernel
theorem d_12_148 : decode prog_5_method_5_code 148 = .ok (.aload_n 0, 1) := by decide +kernel
theorem d_12_149 : decode prog_5_method_5_code 149 = .ok (.getfield 25, 3) := by decide +kernel
theorem d_12_152 : decode prog_5_method_5_code 152 = .ok (.iconst 1, 1) := by decide +kernel
theorem d_12_153 : decode prog_5_method_5_code 153 = .ok (.isub, 1) := by decide +kernel
theorem d_12_154 : decode prog_5_method_5_code 154 = .ok (.ireturn, 1) := by decide +kernel
theorem d_13_0 : decode prog_1_method_24_code 0 = .ok (.iload_n 0, 1) := by decide +kernel
theorem d_13_1 : decode prog_1_method_24_code 1 = .ok (.iconst 1, 1) := by decide +kernel
theorem d_13_2 : decode prog_1_method_24_code 2 = .ok (.if_icmp .lt 12, 3) := by decide +kernel
theorem d_13_5 : decode prog_1_method_24_code 5 = .ok (.iload_n 0, 1) := by decide +kernel
theorem d_13_6 : decode prog_1_method_24_code 6 = .ok (.iconst 4, 1) := by decide +kernel
theorem d_13_7 : decode prog_1_method_24_code 7 = .ok (.if_icmp .gt 7, 3) := by decide +kernel
theorem d_13_10 : decode prog_1_method_24_code 10 = .ok (.iconst 1, 1) := by decide +kernel
theorem d_13_11 : decode prog_1_method_24_code 11 = .ok (.goto 4, 3) := by decide +kernel
theorem d_13_14 : decode prog_1_method_24_code 14 = .ok (.iconst 0, 1) := by decide +kernel
theorem d_13_15 : decode prog_1_method_24_code 15 = .ok (.ireturn, 1) := by decide +kernel
theorem d_14_0 : decode prog_5_method_7_code 0 = .ok (.iload_n 1, 1) := by decide +kernel
theorem d_14_1 : decode prog_5_method_7_code 1 = .ok (.iconst (-1), 1) := by decide +kernel
theorem d_14_2 : decode prog_5_method_7_code 2 = .ok (.if_icmp .eq 11, 3) := by decide +kernel
theorem d_14_5 : decode prog_5_method_7_code 5 = .ok (.aload_n 0, 1) := by decide +kernel
theorem d_14_6 : decode prog_5_method_7_code 6 = .ok (.iload_n 1, 1) := by decide +kernel
theorem d_14_7 : decode prog_5_method_7_code 7 = .ok (.invokevirtual 79, 3) := by decide +kernel
theorem d_14_10 : decode prog_5_method_7_code 10 = .ok (.ifCond .eq 7, 3) := by decide +kernel
theorem d_14_13 : decode prog_5_method_7_code 13 = .ok (.iconst 1, 1) := by decide +kernel
theorem d_14_14 : decode prog_5_method_7_code 14 = .ok (.goto 4, 3) := by decide +kernel
theorem d_14_17 : decode prog_5_method_7_code 17 = .ok (.iconst 0, 1) := by decide +kernel
theorem d_14_18 : decode prog_5_method_7_code 18 = .ok (.ireturn, 1) := by decide +kernel
theorem d_15_0 : decode prog_5_method_6_code 0 = .ok (.iload_n 1, 1) := by decide +kernel
theorem d_15_1 : decode prog_5_method_6_code 1 = .ok (.ifCond .lt 15, 3) := by decide +kernel
theorem d_15_4 : decode prog_5_method_6_code 4 = .ok (.iload_n 1, 1) := by decide +kernel
theorem d_15_5 : decode prog_5_method_6_code 5 = .ok (.aload_n 0, 1) := by decide +kernel
theorem d_15_6 : decode prog_5_method_6_code 6 = .ok (.getfield 15, 3) := by decide +kernel
theorem d_15_9 : decode prog_5_method_6_code 9 = .ok (.if_icmp .ge 7, 3) := by decide +kernel
theorem d_15_12 : decode prog_5_method_6_code 12 = .ok (.iconst 1, 1) := by decide +kernel
theorem d_15_13 : decode prog_5_method_6_code 13 = .ok (.goto 4, 3) := by decide +kernel
theorem d_15_16 : decode prog_5_method_6_code 16 = .ok (.iconst 0, 1) := by decide +kernel
theorem d_15_17 : decode prog_5_method_6_code 17 = .ok (.ireturn, 1) := by decide +kernel
theorem d_16_0 : decode prog_5_method_8_code 0 = .ok (.aload_n 0, 1) := by decide +kernel
theorem d_16_1 : decode prog_5_method_8_code 1 = .ok (.iload_n 1, 1) := by decide +kernel
theorem d_16_2 : decode prog_5_method_8_code 2 = .ok (.invokevirtual 79, 3) := by decide +kernel
theorem d_16_5 : decode prog_5_method_8_code 5 = .ok (.ifCond .eq 12, 3) := by decide +kernel
theorem d_16_8 : decode prog_5_method_8_code 8 = .ok (.aload_n 0, 1) := by decide +kernel
theorem d_16_9 : decode prog_5_method_8_code 9 = .ok (.getfield 22, 3) := by decide +kernel
theorem d_16_12 : decode prog_5_method_8_code 12 = .ok (.iload_n 1, 1) := by decide +kernel
theorem d_16_13 : decode prog_5_method_8_code 13 = .ok (.iaload, 1) := by decide +kernel
theorem d_16_14 : decode prog_5_method_8_code 14 = .ok (.goto 4, 3) := by decide +kernel
theorem d_16_17 : decode prog_5_method_8_code 17 = .ok (.iconst 1, 1) := by decide +kernel
theorem d_16_18 : decode prog_5_method_8_code 18 = .ok (.ireturn, 1) := by decide +kernel
theorem d_17_0 : decode prog_6_method_2_code 0 = .ok (.aload_n 0, 1) := by decide +kernel
theorem d_17_1 : decode prog_6_method_2_code 1 = .ok (.iload_n 1, 1) := by decide +kernel
theorem d_17_2 : decode prog_6_method_2_code 2 = .ok (.putfield 15, 3) := by decide +kernel
theorem d_17_5 : decode prog_6_method_2_code 5 = .ok (.aload_n 0, 1) := by decide +kernel
theorem d_17_6 : decode prog_6_method_2_code 6 = .ok (.iload_n 3, 1) := by decide +kernel
theorem d_17_7 : decode prog_6_method_2_code 7 = .ok (.putfield 18, 3) := by decide +kernel
theorem d_17_10 : decode prog_6_method_2_code 10 = .ok (.aload_n 0, 1) := by decide +kernel
theorem d_17_11 : decode prog_6_method_2_code 11 = .ok (.iload_n 2, 1) := by decide +kernel
theorem d_17_12 : decode prog_6_method_2_code 12 = .ok (.ifCond .ne 7, 3) := by decide +kernel
theorem d_17_15 : decode prog_6_method_2_code 15 = .ok (.iconst 1, 1) := by decide +kernel
theorem d_17_16 : decode prog_6_method_2_code 16 = .ok (.goto 4, 3) := by decide +kernel
theorem d_17_19 : decode prog_6_method_2_code 19 = .ok (.iconst 0, 1) := by decide +kernel
theorem d_17_20 : decode prog_6_method_2_code 20 = .ok (.putfield 21, 3) := by decide +kernel
theorem d_17_23 : decode prog_6_method_2_code 23 = .ok (.aload_n 0, 1) := by decide +kernel
theorem d_17_24 : decode prog_6_method_2_code 24 = .ok (.iload_n 2, 1) := by decide +kernel
theorem d_17_25 : decode prog_6_method_2_code 25 = .ok (.putfield 25, 3) := by decide +kernel
theorem d_17_28 : decode prog_6_method_2_code 28 = .ok (.aload_n 0, 1) := by decide +kernel
theorem d_17_29 : decode prog_6_method_2_code 29 = .ok (.iload 4, 2) := by decide +kernel
theorem d_17_31 : decode prog_6_method_2_code 31 = .ok (.putfield 28, 3) := by decide +kernel
theorem d_17_34 : decode prog_6_method_2_code 34 = .ok (.return_, 1) := by decide +kernel
theorem d_18_0 : decode prog_6_method_3_code 0 = .ok (.aload_n 0, 1) := by decide +kernel
theorem d_18_1 : decode prog_6_method_3_code 1 = .ok (.iload_n 1, 1) := by decide +kernel
theorem d_18_2 : decode prog_6_method_3_code 2 = .ok (.putfield 9, 3) := by decide +kernel
theorem d_18_5 : decode prog_6_method_3_code 5 = .ok (.aload_n 0, 1) := by decide +kernel
theorem d_18_6 : decode prog_6_method_3_code 6 = .ok (.getfield 38, 3) := by decide +kernel
theorem d_18_9 : decode prog_6_method_3_code 9 = .ok (.getstatic 42, 3) := by decide +kernel
theorem d_18_12 : decode prog_6_method_3_code 12 = .ok (.iload_n 1, 1) := by decide +kernel
theorem d_18_13 : decode prog_6_method_3_code 13 = .ok (.iaload, 1) := by decide +kernel
theorem d_18_14 : decode prog_6_method_3_code 14 = .ok (.invokestatic 45, 3) := by decide +kernel
theorem d_18_17 : decode prog_6_method_3_code 17 = .ok (.return_, 1) := by decide +kernel
theorem d_19_0 : decode prog_9_method_103_code 0 = .ok (.iconst 0, 1) := by decide +kernel
theorem d_19_1 : decode prog_9_method_103_code 1 = .ok (.istore_n 2, 1) := by decide +kernel
theorem d_19_2 : decode prog_9_method_103_code 2 = .ok (.aload_n 0, 1) := by decide +kernel
theorem d_19_3 : decode prog_9_method_103_code 3 = .ok (.arraylength, 1) := by decide +kernel
theorem d_19_4 : decode prog_9_method_103_code 4 = .ok (.istore_n 3, 1) := by decide +kernel
theorem d_19_5 : decode prog_9_method_103_code 5 = .ok (.iload_n 2, 1) := by decide +kernel
theorem d_19_6 : decode prog_9_method_103_code 6 = .ok (.iload_n 3, 1) := by decide +kernel
theorem d_19_7 : decode prog_9_method_103_code 7 = .ok (.if_icmp .ge 13, 3) := by decide +kernel
theorem d_19_10 : decode prog_9_method_103_code 10 = .ok (.aload_n 0, 1) := by decide +kernel
theorem d_19_11 : decode prog_9_method_103_code 11 = .ok (.iload_n 2, 1) := by decide +kernel
theorem d_19_12 : decode prog_9_method_103_code 12 = .ok (.iload_n 1, 1) := by decide +kernel
theorem d_19_13 : decode prog_9_method_103_code 13 = .ok (.iastore, 1) := by decide +kernel
theorem d_19_14 : decode prog_9_method_103_code 14 = .ok (.iinc 2 1, 3) := by decide +kernel
theorem d_19_17 : decode prog_9_method_103_code 17 = .ok (.goto (-12), 3) := by decide +kernel
theorem d_19_20 : decode prog_9_method_103_code 20 = .ok (.return_, 1) := by decide +kernel
theorem d_20_0 : decode prog_1_method_4_code 0 = .ok (.aload_n 0, 1) := by decide +kernel
theorem d_20_1 : decode prog_1_method_4_code 1 = .ok (.getfield 19, 3) := by decide +kernel
theorem d_20_4 : decode prog_1_method_4_code 4 = .ok (.ifCond .ne 5, 3) := by decide +kernel
theorem d_20_7 : decode prog_1_method_4_code 7 = .ok (.iconst (-1), 1) := by decide +kernel
theorem d_20_8 : decode prog_1_method_4_code 8 = .ok (.ireturn, 1) := by decide +kernel
theorem d_20_9 : decode prog_1_method_4_code 9 = .ok (.aload_n 0, 1) := by decide +kernel
theorem d_20_10 : decode prog_1_method_4_code 10 = .ok (.getfield 10, 3) := by decide +kernel
theorem d_20_13 : decode prog_1_method_4_code 13 = .ok (.iload_n 1, 1) := by decide +kernel
theorem d_20_14 : decode prog_1_method_4_code 14 = .ok (.invokevirtual 54, 3) := by decide +kernel
theorem d_20_17 : decode prog_1_method_4_code 17 = .ok (.astore 6, 2) := by decide +kernel
theorem d_20_19 : decode prog_1_method_4_code 19 = .ok (.aload 6, 2) := by decide +kernel
theorem d_20_21 : decode prog_1_method_4_code 21 = .ok (.ifnonnull 8, 3) := by decide +kernel
theorem d_20_24 : decode prog_1_method_4_code 24 = .ok (.bipush (-3), 2) := by decide +kernel
theorem d_20_26 : decode prog_1_method_4_code 26 = .ok (.goto 14, 3) := by decide +kernel
theorem d_20_29 : decode prog_1_method_4_code 29 = .ok (.aload 6, 2) := by decide +kernel
theorem d_20_31 : decode prog_1_method_4_code 31 = .ok (.iload_n 2, 1) := by decide +kernel
theorem d_20_32 : decode prog_1_method_4_code 32 = .ok (.iload_n 3, 1) := by decide +kernel
theorem d_20_33 : decode prog_1_method_4_code 33 = .ok (.iload 4, 2) := by decide +kernel
theorem d_20_35 : decode prog_1_method_4_code 35 = .ok (.iload 5, 2) := by decide +kernel
theorem d_20_37 : decode prog_1_method_4_code 37 = .ok (.invokevirtual 58, 3) := by decide +kernel
theorem d_20_40 : decode prog_1_method_4_code 40 = .ok (.ireturn, 1) := by decide +kernel
theorem d_21_0 : decode prog_5_method_10_code 0 = .ok (.iload_n 1, 1) := by decide +kernel
theorem d_21_1 : decode prog_5_method_10_code 1 = .ok (.iconst (-1), 1) := by decide +kernel
theorem d_21_2 : decode prog_5_method_10_code 2 = .ok (.if_icmp .ne 8, 3) := by decide +kernel
theorem d_21_5 : decode prog_5_method_10_code 5 = .ok (.aload_n 0, 1) := by decide +kernel
theorem d_21_6 : decode prog_5_method_10_code 6 = .ok (.getfield 41, 3) := by decide +kernel
theorem d_21_9 : decode prog_5_method_10_code 9 = .ok (.areturn, 1) := by decide +kernel
theorem d_21_10 : decode prog_5_method_10_code 10 = .ok (.aload_n 0, 1) := by decide +kernel
theorem d_21_11 : decode prog_5_method_10_code 11 = .ok (.iload_n 1, 1) := by decide +kernel
theorem d_21_12 : decode prog_5_method_10_code 12 = .ok (.invokevirtual 82, 3) := by decide +kernel
theorem d_21_15 : decode prog_5_method_10_code 15 = .ok (.astore_n 2, 1) := by decide +kernel
theorem d_21_16 : decode prog_5_method_10_code 16 = .ok (.aload_n 2, 1) := by decide +kernel
theorem d_21_17 : decode prog_5_method_10_code 17 = .ok (.ifnonnull 7, 3) := by decide +kernel
theorem d_21_20 : decode prog_5_method_10_code 20 = .ok (.aconst_null, 1) := by decide +kernel
theorem d_21_21 : decode prog_5_method_10_code 21 = .ok (.goto 7, 3) := by decide +kernel
theorem d_21_24 : decode prog_5_method_10_code 24 = .ok (.aload_n 2, 1) := by decide +kernel
theorem d_21_25 : decode prog_5_method_10_code 25 = .ok (.getfield 48, 3) := by decide +kernel
theorem d_21_28 : decode prog_5_method_10_code 28 = .ok (.areturn, 1) := by decide +kernel
theorem d_22_0 : decode prog_5_method_9_code 0 = .ok (.iload_n 1, 1) := by decide +kernel
theorem d_22_1 : decode prog_5_method_9_code 1 = .ok (.ifCond .lt 20, 3) := by decide +kernel
theorem d_22_4 : decode prog_5_method_9_code 4 = .ok (.iload_n 1, 1) := by decide +kernel
theorem d_22_5 : decode prog_5_method_9_code 5 = .ok (.aload_n 0, 1) := by decide +kernel
theorem d_22_6 : decode prog_5_method_9_code 6 = .ok (.getfield 25, 3) := by decide +kernel
theorem d_22_9 : decode prog_5_method_9_code 9 = .ok (.if_icmp .ge 12, 3) := by decide +kernel
theorem d_22_12 : decode prog_5_method_9_code 12 = .ok (.aload_n 0, 1) := by decide +kernel
theorem d_22_13 : decode prog_5_method_9_code 13 = .ok (.getfield 33, 3) := by decide +kernel
theorem d_22_16 : decode prog_5_method_9_code 16 = .ok (.iload_n 1, 1) := by decide +kernel
theorem d_22_17 : decode prog_5_method_9_code 17 = .ok (.aaload, 1) := by decide +kernel
theorem d_22_18 : decode prog_5_method_9_code 18 = .ok (.goto 4, 3) := by decide +kernel
theorem d_22_21 : decode prog_5_method_9_code 21 = .ok (.aconst_null, 1) := by decide +kernel
theorem d_22_22 : decode prog_5_method_9_code 22 = .ok (.areturn, 1) := by decide +kernel
theorem d_23_0 : decode prog_2_method_3_code 0 = .ok (.iload_n 1, 1) := by decide +kernel
theorem d_23_1 : decode prog_2_method_3_code 1 = .ok (.invokestatic 28, 3) := by decide +kernel
theorem d_23_4 : decode prog_2_method_3_code 4 = .ok (.ifCond .eq 10, 3) := by decide +kernel
theorem d_23_7 : decode prog_2_method_3_code 7 = .ok (.iload_n 2, 1) := by decide +kernel
theorem d_23_8 : decode prog_2_method_3_code 8 = .ok (.invokestatic 32, 3) := by decide +kernel
theorem d_23_11 : decode prog_2_method_3_code 11 = .ok (.ifCond .ne 6, 3) := by decide +kernel
theorem d_23_14 : decode prog_2_method_3_code 14 = .ok (.bipush (-2), 2) := by decide +kernel
theorem d_23_16 : decode prog_2_method_3_code 16 = .ok (.ireturn, 1) := by decide +kernel
theorem d_23_17 : decode prog_2_method_3_code 17 = .ok (.iload_n 2, 1) := by decide +kernel
theorem d_23_18 : decode prog_2_method_3_code 18 = .ok (.iload_n 3, 1) := by decide +kernel
theorem d_23_19 : decode prog_2_method_3_code 19 = .ok (.invokestatic 35, 3) := by decide +kernel
theorem d_23_22 : decode prog_2_method_3_code 22 = .ok (.ifCond .eq 12, 3) := by decide +kernel
theorem d_23_25 : decode prog_2_method_3_code 25 = .ok (.iload_n 2, 1) := by decide +kernel
theorem d_23_26 : decode prog_2_method_3_code 26 = .ok (.iload 4, 2) := by decide +kernel
theorem d_23_28 : decode prog_2_method_3_code 28 = .ok (.invokestatic 35, 3) := by decide +kernel
theorem d_23_31 : decode prog_2_method_3_code 31 = .ok (.ifCond .ne 6, 3) := by decide +kernel
theorem d_23_34 : decode prog_2_method_3_code 34 = .ok (.bipush (-6), 2) := by decide +kernel
theorem d_23_36 : decode prog_2_method_3_code 36 = .ok (.ireturn, 1) := by decide +kernel
theorem d_23_37 : decode prog_2_method_3_code 37 = .ok (.iload_n 1, 1) := by decide +kernel
theorem d_23_38 : decode prog_2_method_3_code 38 = .ok (.aload_n 0, 1) := by decide +kernel
theorem d_23_39 : decode prog_2_method_3_code 39 = .ok (.getfield 15, 3) := by decide +kernel
theorem d_23_42 : decode prog_2_method_3_code 42 = .ok (.aload_n 0, 1) := by decide +kernel
theorem d_23_43 : decode prog_2_method_3_code 43 = .ok (.getfield 9, 3) := by decide +kernel
theorem d_23_46 : decode prog_2_method_3_code 46 = .ok (.invokestatic 39, 3) := by decide +kernel
theorem d_23_49 : decode prog_2_method_3_code 49 = .ok (.istore 5, 2) := by decide +kernel
theorem d_23_51 : decode prog_2_method_3_code 51 = .ok (.iload 5, 2) := by decide +kernel
theorem d_23_53 : decode prog_2_method_3_code 53 = .ok (.ifCond .ge 30, 3) := by decide +kernel
theorem d_23_56 : decode prog_2_method_3_code 56 = .ok (.aload_n 0, 1) := by decide +kernel
theorem d_23_57 : decode prog_2_method_3_code 57 = .ok (.getfield 9, 3) := by decide +kernel
theorem d_23_60 : decode prog_2_method_3_code 60 = .ok (.iconst 3, 1) := by decide +kernel
theorem d_23_61 : decode prog_2_method_3_code 61 = .ok (.if_icmp .lt 6, 3) := by decide +kernel
theorem d_23_64 : decode prog_2_method_3_code 64 = .ok (.bipush (-5), 2) := by decide +kernel
theorem d_23_66 : decode prog_2_method_3_code 66 = .ok (.ireturn, 1) := by decide +kernel
theorem d_23_67 : decode prog_2_method_3_code 67 = .ok (.aload_n 0, 1) := by decide +kernel
theorem d_23_68 : decode prog_2_method_3_code 68 = .ok (.getfield 9, 3) := by decide +kernel
theorem d_23_71 : decode prog_2_method_3_code 71 = .ok (.istore 5, 2) := by decide +kernel
theorem d_23_73 : decode prog_2_method_3_code 73 = .ok (.aload_n 0, 1) := by decide +kernel
theorem d_23_74 : decode prog_2_method_3_code 74 = .ok (.dup, 1) := by decide +kernel
theorem d_23_75 : decode prog_2_method_3_code 75 = .ok (.getfield 9, 3) := by decide +kernel
theorem d_23_78 : decode prog_2_method_3_code 78 = .ok (.iconst 1, 1) := by decide +kernel
theorem d_23_79 : decode prog_2_method_3_code 79 = .ok (.iadd, 1) := by decide +kernel
theorem d_23_80 : decode prog_2_method_3_code 80 = .ok (.putfield 9, 3) := by decide +kernel
theorem d_23_83 : decode prog_2_method_3_code 83 = .ok (.aload_n 0, 1) := by decide +kernel
theorem d_23_84 : decode prog_2_method_3_code 84 = .ok (.getfield 15, 3) := by decide +kernel
theorem d_23_87 : decode prog_2_method_3_code 87 = .ok (.iload 5, 2) := by decide +kernel
theorem d_23_89 : decode prog_2_method_3_code 89 = .ok (.iload_n 1, 1) := by decide +kernel
theorem d_23_90 : decode prog_2_method_3_code 90 = .ok (.iastore, 1) := by decide +kernel
theorem d_23_91 : decode prog_2_method_3_code 91 = .ok (.aload_n 0, 1) := by decide +kernel
theorem d_23_92 : decode prog_2_method_3_code 92 = .ok (.getfield 19, 3) := by decide +kernel
theorem d_23_95 : decode prog_2_method_3_code 95 = .ok (.iload 5, 2) := by decide +kernel
theorem d_23_97 : decode prog_2_method_3_code 97 = .ok (.iload_n 2, 1) := by decide +kernel
theorem d_23_98 : decode prog_2_method_3_code 98 = .ok (.iastore, 1) := by decide +kernel
theorem d_23_99 : decode prog_2_method_3_code 99 = .ok (.aload_n 0, 1) := by decide +kernel
theorem d_23_100 : decode prog_2_method_3_code 100 = .ok (.getfield 22, 3) := by decide +kernel
theorem d_23_103 : decode prog_2_method_3_code 103 = .ok (.iload 5, 2) := by decide +kernel
theorem d_23_105 : decode prog_2_method_3_code 105 = .ok (.iload_n 3, 1) := by decide +kernel
theorem d_23_106 : decode prog_2_method_3_code 106 = .ok (.iastore, 1) := by decide +kernel
theorem d_23_107 : decode prog_2_method_3_code 107 = .ok (.aload_n 0, 1) := by decide +kernel
theorem d_23_108 : decode prog_2_method_3_code 108 = .ok (.getfield 25, 3) := by decide +kernel
theorem d_23_111 : decode prog_2_method_3_code 111 = .ok (.iload 5, 2) := by decide +kernel
theorem d_23_113 : decode prog_2_method_3_code 113 = .ok (.iload 4, 2) := by decide +kernel
theorem d_23_115 : decode prog_2_method_3_code 115 = .ok (.iastore, 1) := by decide +kernel
theorem d_23_116 : decode prog_2_method_3_code 116 = .ok (.iconst 0, 1) := by decide +kernel
theorem d_23_117 : decode prog_2_method_3_code 117 = .ok (.ireturn, 1) := by decide +kernel
theorem d_24_0 : decode prog_1_method_25_code 0 = .ok (.iload_n 1, 1) := by decide +kernel
theorem d_24_1 : decode prog_1_method_25_code 1 = .ok (.getstatic 175, 3) := by decide +kernel
theorem d_24_4 : decode prog_1_method_25_code 4 = .ok (.iload_n 0, 1) := by decide +kernel
theorem d_24_5 : decode prog_1_method_25_code 5 = .ok (.iaload, 1) := by decide +kernel
theorem d_24_6 : decode prog_1_method_25_code 6 = .ok (.if_icmp .lt 16, 3) := by decide +kernel
theorem d_24_9 : decode prog_1_method_25_code 9 = .ok (.iload_n 1, 1) := by decide +kernel
theorem d_24_10 : decode prog_1_method_25_code 10 = .ok (.getstatic 179, 3) := by decide +kernel
theorem d_24_13 : decode prog_1_method_25_code 13 = .ok (.iload_n 0, 1) := by decide +kernel
theorem d_24_14 : decode prog_1_method_25_code 14 = .ok (.iaload, 1) := by decide +kernel
theorem d_24_15 : decode prog_1_method_25_code 15 = .ok (.if_icmp .gt 7, 3) := by decide +kernel
theorem d_24_18 : decode prog_1_method_25_code 18 = .ok (.iconst 1, 1) := by decide +kernel
theorem d_24_19 : decode prog_1_method_25_code 19 = .ok (.goto 4, 3) := by decide +kernel
theorem d_24_22 : decode prog_1_method_25_code 22 = .ok (.iconst 0, 1) := by decide +kernel
theorem d_24_23 : decode prog_1_method_25_code 23 = .ok (.ireturn, 1) := by decide +kernel
theorem d_25_0 : decode prog_1_method_5_code 0 = .ok (.aload_n 0, 1) := by decide +kernel
theorem d_25_1 : decode prog_1_method_5_code 1 = .ok (.getfield 19, 3) := by decide +kernel
theorem d_25_4 : decode prog_1_method_5_code 4 = .ok (.ifCond .ne 5, 3) := by decide +kernel
theorem d_25_7 : decode prog_1_method_5_code 7 = .ok (.iconst (-1), 1) := by decide +kernel
theorem d_25_8 : decode prog_1_method_5_code 8 = .ok (.ireturn, 1) := by decide +kernel
theorem d_25_9 : decode prog_1_method_5_code 9 = .ok (.aload_n 0, 1) := by decide +kernel
theorem d_25_10 : decode prog_1_method_5_code 10 = .ok (.getfield 10, 3) := by decide +kernel
theorem d_25_13 : decode prog_1_method_5_code 13 = .ok (.iload_n 1, 1) := by decide +kernel
theorem d_25_14 : decode prog_1_method_5_code 14 = .ok (.invokevirtual 54, 3) := by decide +kernel
theorem d_25_17 : decode prog_1_method_5_code 17 = .ok (.astore_n 3, 1) := by decide +kernel
theorem d_25_18 : decode prog_1_method_5_code 18 = .ok (.aload_n 3, 1) := by decide +kernel
theorem d_25_19 : decode prog_1_method_5_code 19 = .ok (.ifnonnull 8, 3) := by decide +kernel
theorem d_25_22 : decode prog_1_method_5_code 22 = .ok (.bipush (-3), 2) := by decide +kernel
theorem d_25_24 : decode prog_1_method_5_code 24 = .ok (.goto 8, 3) := by decide +kernel
theorem d_25_27 : decode prog_1_method_5_code 27 = .ok (.aload_n 3, 1) := by decide +kernel
theorem d_25_28 : decode prog_1_method_5_code 28 = .ok (.iload_n 2, 1) := by decide +kernel
theorem d_25_29 : decode prog_1_method_5_code 29 = .ok (.invokevirtual 63, 3) := by decide +kernel
theorem d_25_32 : decode prog_1_method_5_code 32 = .ok (.ireturn, 1) := by decide +kernel
theorem d_26_0 : decode prog_2_method_4_code 0 = .ok (.iload_n 1, 1) := by decide +kernel
theorem d_26_1 : decode prog_2_method_4_code 1 = .ok (.aload_n 0, 1) := by decide +kernel
theorem d_26_2 : decode prog_2_method_4_code 2 = .ok (.getfield 15, 3) := by decide +kernel
theorem d_26_5 : decode prog_2_method_4_code 5 = .ok (.aload_n 0, 1) := by decide +kernel
theorem d_26_6 : decode prog_2_method_4_code 6 = .ok (.getfield 9, 3) := by decide +kernel
theorem d_26_9 : decode prog_2_method_4_code 9 = .ok (.invokestatic 39, 3) := by decide +kernel
theorem d_26_12 : decode prog_2_method_4_code 12 = .ok (.istore_n 2, 1) := by decide +kernel
theorem d_26_13 : decode prog_2_method_4_code 13 = .ok (.iload_n 2, 1) := by decide +kernel
theorem d_26_14 : decode prog_2_method_4_code 14 = .ok (.ifCond .ge 6, 3) := by decide +kernel
theorem d_26_17 : decode prog_2_method_4_code 17 = .ok (.bipush (-3), 2) := by decide +kernel
theorem d_26_19 : decode prog_2_method_4_code 19 = .ok (.ireturn, 1) := by decide +kernel
theorem d_26_20 : decode prog_2_method_4_code 20 = .ok (.iload_n 2, 1) := by decide +kernel
theorem d_26_21 : decode prog_2_method_4_code 21 = .ok (.iconst 1, 1) := by decide +kernel
theorem d_26_22 : decode prog_2_method_4_code 22 = .ok (.iadd, 1) := by decide +kernel
theorem d_26_23 : decode prog_2_method_4_code 23 = .ok (.istore_n 3, 1) := by decide +kernel
theorem d_26_24 : decode prog_2_method_4_code 24 = .ok (.iload_n 3, 1) := by decide +kernel
theorem d_26_25 : decode prog_2_method_4_code 25 = .ok (.aload_n 0, 1) := by decide +kernel
theorem d_26_26 : decode prog_2_method_4_code 26 = .ok (.getfield 9, 3) := by decide +kernel
theorem d_26_29 : decode prog_2_method_4_code 29 = .ok (.if_icmp .ge 65, 3) := by decide +kernel
theorem d_26_32 : decode prog_2_method_4_code 32 = .ok (.aload_n 0, 1) := by decide +kernel
theorem d_26_33 : decode prog_2_method_4_code 33 = .ok (.getfield 15, 3) := by decide +kernel
theorem d_26_36 : decode prog_2_method_4_code 36 = .ok (.iload_n 3, 1) := by decide +kernel
theorem d_26_37 : decode prog_2_method_4_code 37 = .ok (.iconst 1, 1) := by decide +kernel
theorem d_26_38 : decode prog_2_method_4_code 38 = .ok (.isub, 1) := by decide +kernel
theorem d_26_39 : decode prog_2_method_4_code 39 = .ok (.aload_n 0, 1) := by decide +kernel
theorem d_26_40 : decode prog_2_method_4_code 40 = .ok (.getfield 15, 3) := by decide +kernel
theorem d_26_43 : decode prog_2_method_4_code 43 = .ok (.iload_n 3, 1) := by decide +kernel
theorem d_26_44 : decode prog_2_method_4_code 44 = .ok (.iaload, 1) := by decide +kernel
theorem d_26_45 : decode prog_2_method_4_code 45 = .ok (.iastore, 1) := by decide +kernel
theorem d_26_46 : decode prog_2_method_4_code 46 = .ok (.aload_n 0, 1) := by decide +kernel
theorem d_26_47 : decode prog_2_method_4_code 47 = .ok (.getfield 19, 3) := by decide +kernel
theorem d_26_50 : decode prog_2_method_4_code 50 = .ok (.iload_n 3, 1) := by decide +kernel
theorem d_26_51 : decode prog_2_method_4_code 51 = .ok (.iconst 1, 1) := by decide +kernel
theorem d_26_52 : decode prog_2_method_4_code 52 = .ok (.isub, 1) := by decide +kernel
theorem d_26_53 : decode prog_2_method_4_code 53 = .ok (.aload_n 0, 1) := by decide +kernel
theorem d_26_54 : decode prog_2_method_4_code 54 = .ok (.getfield 19, 3) := by decide +kernel
theorem d_26_57 : decode prog_2_method_4_code 57 = .ok (.iload_n 3, 1) := by decide +kernel
theorem d_26_58 : decode prog_2_method_4_code 58 = .ok (.iaload, 1) := by decide +kernel
theorem d_26_59 : decode prog_2_method_4_code 59 = .ok (.iastore, 1) := by decide +kernel
theorem d_26_60 : decode prog_2_method_4_code 60 = .ok (.aload_n 0, 1) := by decide +kernel
theorem d_26_61 : decode prog_2_method_4_code 61 = .ok (.getfield 22, 3) := by decide +kernel
theorem d_26_64 : decode prog_2_method_4_code 64 = .ok (.iload_n 3, 1) := by decide +kernel
theorem d_26_65 : decode prog_2_method_4_code 65 = .ok (.iconst 1, 1) := by decide +kernel
theorem d_26_66 : decode prog_2_method_4_code 66 = .ok (.isub, 1) := by decide +kernel
theorem d_26_67 : decode prog_2_method_4_code 67 = .ok (.aload_n 0, 1) := by decide +kernel
theorem d_26_68 : decode prog_2_method_4_code 68 = .ok (.getfield 22, 3) := by decide +kernel
theorem d_26_71 : decode prog_2_method_4_code 71 = .ok (.iload_n 3, 1) := by decide +kernel
theorem d_26_72 : decode prog_2_method_4_code 72 = .ok (.iaload, 1) := by decide +kernel
theorem d_26_73 : decode prog_2_method_4_code 73 = .ok (.iastore, 1) := by decide +kernel
theorem d_26_74 : decode prog_2_method_4_code 74 = .ok (.aload_n 0, 1) := by decide +kernel
theorem d_26_75 : decode prog_2_method_4_code 75 = .ok (.getfield 25, 3) := by decide +kernel
theorem d_26_78 : decode prog_2_method_4_code 78 = .ok (.iload_n 3, 1) := by decide +kernel
theorem d_26_79 : decode prog_2_method_4_code 79 = .ok (.iconst 1, 1) := by decide +kernel
theorem d_26_80 : decode prog_2_method_4_code 80 = .ok (.isub, 1) := by decide +kernel
theorem d_26_81 : decode prog_2_method_4_code 81 = .ok (.aload_n 0, 1) := by decide +kernel
theorem d_26_82 : decode prog_2_method_4_code 82 = .ok (.getfield 25, 3) := by decide +kernel
theorem d_26_85 : decode prog_2_method_4_code 85 = .ok (.iload_n 3, 1) := by decide +kernel
theorem d_26_86 : decode prog_2_method_4_code 86 = .ok (.iaload, 1) := by decide +kernel
theorem d_26_87 : decode prog_2_method_4_code 87 = .ok (.iastore, 1) := by decide +kernel
theorem d_26_88 : decode prog_2_method_4_code 88 = .ok (.iinc 3 1, 3) := by decide +kernel
theorem d_26_91 : decode prog_2_method_4_code 91 = .ok (.goto (-67), 3) := by decide +kernel
theorem d_26_94 : decode prog_2_method_4_code 94 = .ok (.aload_n 0, 1) := by decide +kernel
theorem d_26_95 : decode prog_2_method_4_code 95 = .ok (.dup, 1) := by decide +kernel
theorem d_26_96 : decode prog_2_method_4_code 96 = .ok (.getfield 9, 3) := by decide +kernel
theorem d_26_99 : decode prog_2_method_4_code 99 = .ok (.iconst 1, 1) := by decide +kernel
theorem d_26_100 : decode prog_2_method_4_code 100 = .ok (.isub, 1) := by decide +kernel
theorem d_26_101 : decode prog_2_method_4_code 101 = .ok (.putfield 9, 3) := by decide +kernel
theorem d_26_104 : decode prog_2_method_4_code 104 = .ok (.iconst 0, 1) := by decide +kernel
theorem d_26_105 : decode prog_2_method_4_code 105 = .ok (.ireturn, 1) := by decide +kernel
theorem d_27_0 : decode prog_1_method_6_code 0 = .ok (.aload_n 0, 1) := by decide +kernel
theorem d_27_1 : decode prog_1_method_6_code 1 = .ok (.getfield 19, 3) := by decide +kernel
theorem d_27_4 : decode prog_1_method_6_code 4 = .ok (.ifCond .ne 5, 3) := by decide +kernel
theorem d_27_7 : decode prog_1_method_6_code 7 = .ok (.iconst (-1), 1) := by decide +kernel
theorem d_27_8 : decode prog_1_method_6_code 8 = .ok (.ireturn, 1) := by decide +kernel
theorem d_27_9 : decode prog_1_method_6_code 9 = .ok (.iload_n 1, 1) := by decide +kernel
theorem d_27_10 : decode prog_1_method_6_code 10 = .ok (.ifCond .eq 15, 3) := by decide +kernel
theorem d_27_13 : decode prog_1_method_6_code 13 = .ok (.aload_n 0, 1) := by decide +kernel
theorem d_27_14 : decode prog_1_method_6_code 14 = .ok (.getfield 10, 3) := by decide +kernel
theorem d_27_17 : decode prog_1_method_6_code 17 = .ok (.iload_n 2, 1) := by decide +kernel
theorem d_27_18 : decode prog_1_method_6_code 18 = .ok (.iload_n 3, 1) := by decide +kernel
theorem d_27_19 : decode prog_1_method_6_code 19 = .ok (.invokevirtual 67, 3) := by decide +kernel
theorem d_27_22 : decode prog_1_method_6_code 22 = .ok (.goto 12, 3) := by decide +kernel
theorem d_27_25 : decode prog_1_method_6_code 25 = .ok (.aload_n 0, 1) := by decide +kernel
theorem d_27_26 : decode prog_1_method_6_code 26 = .ok (.getfield 10, 3) := by decide +kernel
theorem d_27_29 : decode prog_1_method_6_code 29 = .ok (.iload_n 2, 1) := by decide +kernel
theorem d_27_30 : decode prog_1_method_6_code 30 = .ok (.iload_n 3, 1) := by decide +kernel
theorem d_27_31 : decode prog_1_method_6_code 31 = .ok (.invokevirtual 70, 3) := by decide +kernel
theorem d_27_34 : decode prog_1_method_6_code 34 = .ok (.ireturn, 1) := by decide +kernel
theorem d_28_0 : decode prog_5_method_12_code 0 = .ok (.aload_n 0, 1) := by decide +kernel
theorem d_28_1 : decode prog_5_method_12_code 1 = .ok (.getfield 28, 3) := by decide +kernel
theorem d_28_4 : decode prog_5_method_12_code 4 = .ok (.aload_n 0, 1) := by decide +kernel
theorem d_28_5 : decode prog_5_method_12_code 5 = .ok (.getfield 25, 3) := by decide +kernel
theorem d_28_8 : decode prog_5_method_12_code 8 = .ok (.iload_n 1, 1) := by decide +kernel
theorem d_28_9 : decode prog_5_method_12_code 9 = .ok (.iload_n 2, 1) := by decide +kernel
theorem d_28_10 : decode prog_5_method_12_code 10 = .ok (.invokestatic 86, 3) := by decide +kernel
theorem d_28_13 : decode prog_5_method_12_code 13 = .ok (.ireturn, 1) := by decide +kernel
theorem d_29_0 : decode prog_5_method_13_code 0 = .ok (.iload_n 2, 1) := by decide +kernel
theorem d_29_1 : decode prog_5_method_13_code 1 = .ok (.ifCond .lt 8, 3) := by decide +kernel
theorem d_29_4 : decode prog_5_method_13_code 4 = .ok (.iload_n 2, 1) := by decide +kernel
theorem d_29_5 : decode prog_5_method_13_code 5 = .ok (.iload_n 1, 1) := by decide +kernel
theorem d_29_6 : decode prog_5_method_13_code 6 = .ok (.if_icmp .lt 6, 3) := by decide +kernel
theorem d_29_9 : decode prog_5_method_13_code 9 = .ok (.bipush (-3), 2) := by decide +kernel
theorem d_29_11 : decode prog_5_method_13_code 11 = .ok (.ireturn, 1) := by decide +kernel
theorem d_29_12 : decode prog_5_method_13_code 12 = .ok (.iload_n 3, 1) := by decide +kernel
theorem d_29_13 : decode prog_5_method_13_code 13 = .ok (.invokestatic 49, 3) := by decide +kernel
theorem d_29_16 : decode prog_5_method_13_code 16 = .ok (.ifCond .ne 6, 3) := by decide +kernel
theorem d_29_19 : decode prog_5_method_13_code 19 = .ok (.bipush (-2), 2) := by decide +kernel
theorem d_29_21 : decode prog_5_method_13_code 21 = .ok (.ireturn, 1) := by decide +kernel
theorem d_29_22 : decode prog_5_method_13_code 22 = .ok (.iload_n 3, 1) := by decide +kernel
theorem d_29_23 : decode prog_5_method_13_code 23 = .ok (.aload_n 0, 1) := by decide +kernel
theorem d_29_24 : decode prog_5_method_13_code 24 = .ok (.iload_n 1, 1) := by decide +kernel
theorem d_29_25 : decode prog_5_method_13_code 25 = .ok (.invokestatic 53, 3) := by decide +kernel
theorem d_29_28 : decode prog_5_method_13_code 28 = .ok (.istore 4, 2) := by decide +kernel
theorem d_29_30 : decode prog_5_method_13_code 30 = .ok (.iload 4, 2) := by decide +kernel
theorem d_29_32 : decode prog_5_method_13_code 32 = .ok (.ifCond .lt 12, 3) := by decide +kernel
theorem d_29_35 : decode prog_5_method_13_code 35 = .ok (.iload 4, 2) := by decide +kernel
theorem d_29_37 : decode prog_5_method_13_code 37 = .ok (.iload_n 2, 1) := by decide +kernel
theorem d_29_38 : decode prog_5_method_13_code 38 = .ok (.if_icmp .eq 6, 3) := by decide +kernel
theorem d_29_41 : decode prog_5_method_13_code 41 = .ok (.bipush (-4), 2) := by decide +kernel
theorem d_29_43 : decode prog_5_method_13_code 43 = .ok (.ireturn, 1) := by decide +kernel
theorem d_29_44 : decode prog_5_method_13_code 44 = .ok (.aload_n 0, 1) := by decide +kernel
theorem d_29_45 : decode prog_5_method_13_code 45 = .ok (.iload_n 2, 1) := by decide +kernel
theorem d_29_46 : decode prog_5_method_13_code 46 = .ok (.iload_n 3, 1) := by decide +kernel
theorem d_29_47 : decode prog_5_method_13_code 47 = .ok (.iastore, 1) := by decide +kernel
theorem d_29_48 : decode prog_5_method_13_code 48 = .ok (.iconst 0, 1) := by decide +kernel
theorem d_29_49 : decode prog_5_method_13_code 49 = .ok (.ireturn, 1) := by decide +kernel
theorem d_30_0 : decode prog_5_method_11_code 0 = .ok (.aload_n 0, 1) := by decide +kernel
theorem d_30_1 : decode prog_5_method_11_code 1 = .ok (.getfield 18, 3) := by decide +kernel
theorem d_30_4 : decode prog_5_method_11_code 4 = .ok (.aload_n 0, 1) := by decide +kernel
theorem d_30_5 : decode prog_5_method_11_code 5 = .ok (.getfield 15, 3) := by decide +kernel
theorem d_30_8 : decode prog_5_method_11_code 8 = .ok (.iload_n 1, 1) := by decide +kernel
theorem d_30_9 : decode prog_5_method_11_code 9 = .ok (.iload_n 2, 1) := by decide +kernel
theorem d_30_10 : decode prog_5_method_11_code 10 = .ok (.invokestatic 86, 3) := by decide +kernel
theorem d_30_13 : decode prog_5_method_11_code 13 = .ok (.ireturn, 1) := by decide +kernel
theorem d_31_0 : decode prog_1_method_7_code 0 = .ok (.aload_n 0, 1) := by decide +kernel
theorem d_31_1 : decode prog_1_method_7_code 1 = .ok (.getfield 19, 3) := by decide +kernel
theorem d_31_4 : decode prog_1_method_7_code 4 = .ok (.ifCond .ne 5, 3) := by decide +kernel
theorem d_31_7 : decode prog_1_method_7_code 7 = .ok (.iconst (-1), 1) := by decide +kernel
theorem d_31_8 : decode prog_1_method_7_code 8 = .ok (.ireturn, 1) := by decide +kernel
theorem d_31_9 : decode prog_1_method_7_code 9 = .ok (.aload_n 0, 1) := by decide +kernel
theorem d_31_10 : decode prog_1_method_7_code 10 = .ok (.getfield 10, 3) := by decide +kernel
theorem d_31_13 : decode prog_1_method_7_code 13 = .ok (.aload_n 0, 1) := by decide +kernel
theorem d_31_14 : decode prog_1_method_7_code 14 = .ok (.getfield 10, 3) := by decide +kernel
theorem d_31_17 : decode prog_1_method_7_code 17 = .ok (.getfield 73, 3) := by decide +kernel
theorem d_31_20 : decode prog_1_method_7_code 20 = .ok (.i2l, 1) := by decide +kernel
theorem d_31_21 : decode prog_1_method_7_code 21 = .ok (.invokevirtual 77, 3) := by decide +kernel
theorem d_31_24 : decode prog_1_method_7_code 24 = .ok (.lstore_n 1, 1) := by decide +kernel
theorem d_31_25 : decode prog_1_method_7_code 25 = .ok (.lload_n 1, 1) := by decide +kernel
theorem d_31_26 : decode prog_1_method_7_code 26 = .ok (.ldc2_w 81, 3) := by decide +kernel
theorem d_31_29 : decode prog_1_method_7_code 29 = .ok (.lcmp, 1) := by decide +kernel
theorem d_31_30 : decode prog_1_method_7_code 30 = .ok (.ifCond .le 6, 3) := by decide +kernel
theorem d_31_33 : decode prog_1_method_7_code 33 = .ok (.bipush (-8), 2) := by decide +kernel
theorem d_31_35 : decode prog_1_method_7_code 35 = .ok (.ireturn, 1) := by decide +kernel
theorem d_31_36 : decode prog_1_method_7_code 36 = .ok (.aload_n 0, 1) := by decide +kernel
theorem d_31_37 : decode prog_1_method_7_code 37 = .ok (.iconst 0, 1) := by decide +kernel
theorem d_31_38 : decode prog_1_method_7_code 38 = .ok (.putfield 19, 3) := by decide +kernel
theorem d_31_41 : decode prog_1_method_7_code 41 = .ok (.lload_n 1, 1) := by decide +kernel
theorem d_31_42 : decode prog_1_method_7_code 42 = .ok (.l2i, 1) := by decide +kernel
theorem d_31_43 : decode prog_1_method_7_code 43 = .ok (.ireturn, 1) := by decide +kernel
theorem d_32_0 : decode prog_5_method_20_code 0 = .ok (.aload_n 0, 1) := by decide +kernel
theorem d_32_1 : decode prog_5_method_20_code 1 = .ok (.invokevirtual 122, 3) := by decide +kernel
theorem d_32_4 : decode prog_5_method_20_code 4 = .ok (.aload_n 0, 1) := by decide +kernel
theorem d_32_5 : decode prog_5_method_20_code 5 = .ok (.aload_n 0, 1) := by decide +kernel
theorem d_32_6 : decode prog_5_method_20_code 6 = .ok (.getfield 25, 3) := by decide +kernel
theorem d_32_9 : decode prog_5_method_20_code 9 = .ok (.iconst 0, 1) := by decide +kernel
theorem d_32_10 : decode prog_5_method_20_code 10 = .ok (.invokevirtual 115, 3) := by decide +kernel
theorem d_32_13 : decode prog_5_method_20_code 13 = .ok (.iadd, 1) := by decide +kernel
theorem d_32_14 : decode prog_5_method_20_code 14 = .ok (.i2l, 1) := by decide +kernel
theorem d_32_15 : decode prog_5_method_20_code 15 = .ok (.lload_n 1, 1) := by decide +kernel
theorem d_32_16 : decode prog_5_method_20_code 16 = .ok (.aload_n 0, 1) := by decide +kernel
theorem d_32_17 : decode prog_5_method_20_code 17 = .ok (.invokevirtual 123, 3) := by decide +kernel
theorem d_32_20 : decode prog_5_method_20_code 20 = .ok (.i2l, 1) := by decide +kernel
theorem d_32_21 : decode prog_5_method_20_code 21 = .ok (.lmul, 1) := by decide +kernel
theorem d_32_22 : decode prog_5_method_20_code 22 = .ok (.ladd, 1) := by decide +kernel
theorem d_32_23 : decode prog_5_method_20_code 23 = .ok (.lreturn, 1) := by decide +kernel
theorem d_33_0 : decode prog_5_method_17_code 0 = .ok (.bipush 24, 2) := by decide +kernel
theorem d_33_2 : decode prog_5_method_17_code 2 = .ok (.aload_n 0, 1) := by decide +kernel
theorem d_33_3 : decode prog_5_method_17_code 3 = .ok (.getfield 41, 3) := by decide +kernel
theorem d_33_6 : decode prog_5_method_17_code 6 = .ok (.invokevirtual 104, 3) := by decide +kernel
theorem d_33_9 : decode prog_5_method_17_code 9 = .ok (.iadd, 1) := by decide +kernel
theorem d_33_10 : decode prog_5_method_17_code 10 = .ok (.istore_n 1, 1) := by decide +kernel
theorem d_33_11 : decode prog_5_method_17_code 11 = .ok (.iload_n 1, 1) := by decide +kernel
theorem d_33_12 : decode prog_5_method_17_code 12 = .ok (.aload_n 0, 1) := by decide +kernel
theorem d_33_13 : decode prog_5_method_17_code 13 = .ok (.getfield 15, 3) := by decide +kernel
theorem d_33_16 : decode prog_5_method_17_code 16 = .ok (.bipush 12, 2) := by decide +kernel
theorem d_33_18 : decode prog_5_method_17_code 18 = .ok (.imul, 1) := by decide +kernel
theorem d_33_19 : decode prog_5_method_17_code 19 = .ok (.iadd, 1) := by decide +kernel
theorem d_33_20 : decode prog_5_method_17_code 20 = .ok (.istore_n 1, 1) := by decide +kernel
theorem d_33_21 : decode prog_5_method_17_code 21 = .ok (.iconst 0, 1) := by decide +kernel
theorem d_33_22 : decode prog_5_method_17_code 22 = .ok (.istore_n 2, 1) := by decide +kernel
theorem d_33_23 : decode prog_5_method_17_code 23 = .ok (.iload_n 2, 1) := by decide +kernel
theorem d_33_24 : decode prog_5_method_17_code 24 = .ok (.aload_n 0, 1) := by decide +kernel
theorem d_33_25 : decode prog_5_method_17_code 25 = .ok (.getfield 25, 3) := by decide +kernel
theorem d_33_28 : decode prog_5_method_17_code 28 = .ok (.if_icmp .ge 21, 3) := by decide +kernel
theorem d_33_31 : decode prog_5_method_17_code 31 = .ok (.iload_n 1, 1) := by decide +kernel
theorem d_33_32 : decode prog_5_method_17_code 32 = .ok (.aload_n 0, 1) := by decide +kernel
theorem d_33_33 : decode prog_5_method_17_code 33 = .ok (.getfield 33, 3) := by decide +kernel
theorem d_33_36 : decode prog_5_method_17_code 36 = .ok (.iload_n 2, 1) := by decide +kernel
theorem d_33_37 : decode prog_5_method_17_code 37 = .ok (.aaload, 1) := by decide +kernel
theorem d_33_38 : decode prog_5_method_17_code 38 = .ok (.invokevirtual 108, 3) := by decide +kernel
theorem d_33_41 : decode prog_5_method_17_code 41 = .ok (.iadd, 1) := by decide +kernel
theorem d_33_42 : decode prog_5_method_17_code 42 = .ok (.istore_n 1, 1) := by decide +kernel
theorem d_33_43 : decode prog_5_method_17_code 43 = .ok (.iinc 2 1, 3) := by decide +kernel
theorem d_33_46 : decode prog_5_method_17_code 46 = .ok (.goto (-23), 3) := by decide +kernel
theorem d_33_49 : decode prog_5_method_17_code 49 = .ok (.iload_n 1, 1) := by decide +kernel
theorem d_33_50 : decode prog_5_method_17_code 50 = .ok (.ireturn, 1) := by decide +kernel
theorem d_34_0 : decode prog_2_method_5_code 0 = .ok (.bipush 8, 2) := by decide +kernel
theorem d_34_2 : decode prog_2_method_5_code 2 = .ok (.istore_n 1, 1) := by decide +kernel
theorem d_34_3 : decode prog_2_method_5_code 3 = .ok (.iconst 0, 1) := by decide +kernel
theorem d_34_4 : decode prog_2_method_5_code 4 = .ok (.istore_n 2, 1) := by decide +kernel
theorem d_34_5 : decode prog_2_method_5_code 5 = .ok (.iload_n 2, 1) := by decide +kernel
theorem d_34_6 : decode prog_2_method_5_code 6 = .ok (.aload_n 0, 1) := by decide +kernel
theorem d_34_7 : decode prog_2_method_5_code 7 = .ok (.getfield 9, 3) := by decide +kernel
theorem d_34_10 : decode prog_2_method_5_code 10 = .ok (.if_icmp .ge 30, 3) := by decide +kernel
theorem d_34_13 : decode prog_2_method_5_code 13 = .ok (.iload_n 1, 1) := by decide +kernel
theorem d_34_14 : decode prog_2_method_5_code 14 = .ok (.bipush 16, 2) := by decide +kernel
theorem d_34_16 : decode prog_2_method_5_code 16 = .ok (.iconst 2, 1) := by decide +kernel
theorem d_34_17 : decode prog_2_method_5_code 17 = .ok (.getstatic 43, 3) := by decide +kernel
theorem d_34_20 : decode prog_2_method_5_code 20 = .ok (.aload_n 0, 1) := by decide +kernel
theorem d_34_21 : decode prog_2_method_5_code 21 = .ok (.getfield 19, 3) := by decide +kernel
theorem d_34_24 : decode prog_2_method_5_code 24 = .ok (.iload_n 2, 1) := by decide +kernel
theorem d_34_25 : decode prog_2_method_5_code 25 = .ok (.iaload, 1) := by decide +kernel
theorem d_34_26 : decode prog_2_method_5_code 26 = .ok (.iaload, 1) := by decide +kernel
theorem d_34_27 : decode prog_2_method_5_code 27 = .ok (.imul, 1) := by decide +kernel
theorem d_34_28 : decode prog_2_method_5_code 28 = .ok (.invokestatic 46, 3) := by decide +kernel
theorem d_34_31 : decode prog_2_method_5_code 31 = .ok (.iadd, 1) := by decide +kernel
theorem d_34_32 : decode prog_2_method_5_code 32 = .ok (.iadd, 1) := by decide +kernel
theorem d_34_33 : decode prog_2_method_5_code 33 = .ok (.istore_n 1, 1) := by decide +kernel
theorem d_34_34 : decode prog_2_method_5_code 34 = .ok (.iinc 2 1, 3) := by decide +kernel
theorem d_34_37 : decode prog_2_method_5_code 37 = .ok (.goto (-32), 3) := by decide +kernel
theorem d_34_40 : decode prog_2_method_5_code 40 = .ok (.iload_n 1, 1) := by decide +kernel
theorem d_34_41 : decode prog_2_method_5_code 41 = .ok (.ireturn, 1) := by decide +kernel
theorem d_35_0 : decode prog_1_method_27_code 0 = .ok (.iload_n 0, 1) := by decide +kernel
theorem d_35_1 : decode prog_1_method_27_code 1 = .ok (.iconst 4, 1) := by decide +kernel
theorem d_35_2 : decode prog_1_method_27_code 2 = .ok (.iadd, 1) := by decide +kernel
theorem d_35_3 : decode prog_1_method_27_code 3 = .ok (.iconst 1, 1) := by decide +kernel
theorem d_35_4 : decode prog_1_method_27_code 4 = .ok (.isub, 1) := by decide +kernel
theorem d_35_5 : decode prog_1_method_27_code 5 = .ok (.iconst 4, 1) := by decide +kernel
theorem d_35_6 : decode prog_1_method_27_code 6 = .ok (.idiv, 1) := by decide +kernel
theorem d_35_7 : decode prog_1_method_27_code 7 = .ok (.iconst 4, 1) := by decide +kernel
theorem d_35_8 : decode prog_1_method_27_code 8 = .ok (.imul, 1) := by decide +kernel
theorem d_35_9 : decode prog_1_method_27_code 9 = .ok (.ireturn, 1) := by decide +kernel
theorem d_36_0 : decode prog_6_method_11_code 0 = .ok (.bipush 12, 2) := by decide +kernel
theorem d_36_2 : decode prog_6_method_11_code 2 = .ok (.aload_n 0, 1) := by decide +kernel
theorem d_36_3 : decode prog_6_method_11_code 3 = .ok (.invokevirtual 74, 3) := by decide +kernel
theorem d_36_6 : decode prog_6_method_11_code 6 = .ok (.iconst 4, 1) := by decide +kernel
theorem d_36_7 : decode prog_6_method_11_code 7 = .ok (.imul, 1) := by decide +kernel
theorem d_36_8 : decode prog_6_method_11_code 8 = .ok (.iadd, 1) := by decide +kernel
theorem d_36_9 : decode prog_6_method_11_code 9 = .ok (.aload_n 0, 1) := by decide +kernel
theorem d_36_10 : decode prog_6_method_11_code 10 = .ok (.getfield 34, 3) := by decide +kernel
theorem d_36_13 : decode prog_6_method_11_code 13 = .ok (.invokevirtual 77, 3) := by decide +kernel
theorem d_36_16 : decode prog_6_method_11_code 16 = .ok (.iadd, 1) := by decide +kernel
theorem d_36_17 : decode prog_6_method_11_code 17 = .ok (.bipush 12, 2) := by decide +kernel
theorem d_36_19 : decode prog_6_method_11_code 19 = .ok (.iadd, 1) := by decide +kernel
theorem d_36_20 : decode prog_6_method_11_code 20 = .ok (.ireturn, 1) := by decide +kernel
theorem d_37_0 : decode prog_6_method_4_code 0 = .ok (.aload_n 0, 1) := by decide +kernel
theorem d_37_1 : decode prog_6_method_4_code 1 = .ok (.getfield 15, 3) := by decide +kernel
theorem d_37_4 : decode prog_6_method_4_code 4 = .ok (.iconst (-1), 1) := by decide +kernel
theorem d_37_5 : decode prog_6_method_4_code 5 = .ok (.if_icmp .ne 5, 3) := by decide +kernel
theorem d_37_8 : decode prog_6_method_4_code 8 = .ok (.iconst 0, 1) := by decide +kernel
theorem d_37_9 : decode prog_6_method_4_code 9 = .ok (.ireturn, 1) := by decide +kernel
theorem d_37_10 : decode prog_6_method_4_code 10 = .ok (.aload_n 0, 1) := by decide +kernel
theorem d_37_11 : decode prog_6_method_4_code 11 = .ok (.getfield 18, 3) := by decide +kernel
theorem d_37_14 : decode prog_6_method_4_code 14 = .ok (.iconst (-1), 1) := by decide +kernel
theorem d_37_15 : decode prog_6_method_4_code 15 = .ok (.if_icmp .ne 7, 3) := by decide +kernel
theorem d_37_18 : decode prog_6_method_4_code 18 = .ok (.iconst 1, 1) := by decide +kernel
theorem d_37_19 : decode prog_6_method_4_code 19 = .ok (.goto 4, 3) := by decide +kernel
theorem d_37_22 : decode prog_6_method_4_code 22 = .ok (.iconst 2, 1) := by decide +kernel
theorem d_37_23 : decode prog_6_method_4_code 23 = .ok (.ireturn, 1) := by decide +kernel
theorem d_38_0 : decode prog_5_method_18_code 0 = .ok (.iconst 0, 1) := by decide +kernel
theorem d_38_1 : decode prog_5_method_18_code 1 = .ok (.istore_n 3, 1) := by decide +kernel
theorem d_38_2 : decode prog_5_method_18_code 2 = .ok (.iconst 0, 1) := by decide +kernel
theorem d_38_3 : decode prog_5_method_18_code 3 = .ok (.istore 4, 2) := by decide +kernel
theorem d_38_5 : decode prog_5_method_18_code 5 = .ok (.iload 4, 2) := by decide +kernel
theorem d_38_7 : decode prog_5_method_18_code 7 = .ok (.iload_n 1, 1) := by decide +kernel
theorem d_38_8 : decode prog_5_method_18_code 8 = .ok (.if_icmp .ge 45, 3) := by decide +kernel
theorem d_38_11 : decode prog_5_method_18_code 11 = .ok (.iload 4, 2) := by decide +kernel
theorem d_38_13 : decode prog_5_method_18_code 13 = .ok (.aload_n 0, 1) := by decide +kernel
theorem d_38_14 : decode prog_5_method_18_code 14 = .ok (.getfield 25, 3) := by decide +kernel
theorem d_38_17 : decode prog_5_method_18_code 17 = .ok (.if_icmp .ge 36, 3) := by decide +kernel
theorem d_38_20 : decode prog_5_method_18_code 20 = .ok (.aload_n 0, 1) := by decide +kernel
theorem d_38_21 : decode prog_5_method_18_code 21 = .ok (.getfield 33, 3) := by decide +kernel
theorem d_38_24 : decode prog_5_method_18_code 24 = .ok (.iload 4, 2) := by decide +kernel
theorem d_38_26 : decode prog_5_method_18_code 26 = .ok (.aaload, 1) := by decide +kernel
theorem d_38_27 : decode prog_5_method_18_code 27 = .ok (.getfield 94, 3) := by decide +kernel
theorem d_38_30 : decode prog_5_method_18_code 30 = .ok (.iload_n 2, 1) := by decide +kernel
theorem d_38_31 : decode prog_5_method_18_code 31 = .ok (.if_icmp .ne 16, 3) := by decide +kernel
theorem d_38_34 : decode prog_5_method_18_code 34 = .ok (.iload_n 3, 1) := by decide +kernel
theorem d_38_35 : decode prog_5_method_18_code 35 = .ok (.aload_n 0, 1) := by decide +kernel
theorem d_38_36 : decode prog_5_method_18_code 36 = .ok (.getfield 33, 3) := by decide +kernel
theorem d_38_39 : decode prog_5_method_18_code 39 = .ok (.iload 4, 2) := by decide +kernel
theorem d_38_41 : decode prog_5_method_18_code 41 = .ok (.aaload, 1) := by decide +kernel
theorem d_38_42 : decode prog_5_method_18_code 42 = .ok (.invokevirtual 109, 3) := by decide +kernel
theorem d_38_45 : decode prog_5_method_18_code 45 = .ok (.iadd, 1) := by decide +kernel
theorem d_38_46 : decode prog_5_method_18_code 46 = .ok (.istore_n 3, 1) := by decide +kernel
theorem d_38_47 : decode prog_5_method_18_code 47 = .ok (.iinc 4 1, 3) := by decide +kernel
theorem d_38_50 : decode prog_5_method_18_code 50 = .ok (.goto (-45), 3) := by decide +kernel
theorem d_38_53 : decode prog_5_method_18_code 53 = .ok (.iload_n 3, 1) := by decide +kernel
theorem d_38_54 : decode prog_5_method_18_code 54 = .ok (.ireturn, 1) := by decide +kernel
theorem d_39_0 : decode prog_6_method_10_code 0 = .ok (.aload_n 0, 1) := by decide +kernel
theorem d_39_1 : decode prog_6_method_10_code 1 = .ok (.getfield 21, 3) := by decide +kernel
theorem d_39_4 : decode prog_6_method_10_code 4 = .ok (.ifCond .eq 10, 3) := by decide +kernel
theorem d_39_7 : decode prog_6_method_10_code 7 = .ok (.aload_n 0, 1) := by decide +kernel
theorem d_39_8 : decode prog_6_method_10_code 8 = .ok (.invokevirtual 67, 3) := by decide +kernel
theorem d_39_11 : decode prog_6_method_10_code 11 = .ok (.goto 12, 3) := by decide +kernel
theorem d_39_14 : decode prog_6_method_10_code 14 = .ok (.aload_n 0, 1) := by decide +kernel
theorem d_39_15 : decode prog_6_method_10_code 15 = .ok (.getfield 25, 3) := by decide +kernel
theorem d_39_18 : decode prog_6_method_10_code 18 = .ok (.aload_n 0, 1) := by decide +kernel
theorem d_39_19 : decode prog_6_method_10_code 19 = .ok (.invokevirtual 67, 3) := by decide +kernel
theorem d_39_22 : decode prog_6_method_10_code 22 = .ok (.imul, 1) := by decide +kernel
theorem d_39_23 : decode prog_6_method_10_code 23 = .ok (.invokestatic 71, 3) := by decide +kernel
theorem d_39_26 : decode prog_6_method_10_code 26 = .ok (.ireturn, 1) := by decide +kernel
theorem d_40_0 : decode prog_6_method_9_code 0 = .ok (.aload_n 0, 1) := by decide +kernel
theorem d_40_1 : decode prog_6_method_9_code 1 = .ok (.getfield 28, 3) := by decide +kernel
theorem d_40_4 : decode prog_6_method_9_code 4 = .ok (.getstatic 64, 3) := by decide +kernel
theorem d_40_7 : decode prog_6_method_9_code 7 = .ok (.aload_n 0, 1) := by decide +kernel
theorem d_40_8 : decode prog_6_method_9_code 8 = .ok (.getfield 9, 3) := by decide +kernel
theorem d_40_11 : decode prog_6_method_9_code 11 = .ok (.iaload, 1) := by decide +kernel
theorem d_40_12 : decode prog_6_method_9_code 12 = .ok (.imul, 1) := by decide +kernel
theorem d_40_13 : decode prog_6_method_9_code 13 = .ok (.ireturn, 1) := by decide +kernel
theorem d_41_0 : decode prog_5_method_19_code 0 = .ok (.aload_n 0, 1) := by decide +kernel
theorem d_41_1 : decode prog_5_method_19_code 1 = .ok (.invokevirtual 112, 3) := by decide +kernel
theorem d_41_4 : decode prog_5_method_19_code 4 = .ok (.iconst 1, 1) := by decide +kernel
theorem d_41_5 : decode prog_5_method_19_code 5 = .ok (.if_icmp .eq 13, 3) := by decide +kernel
theorem d_41_8 : decode prog_5_method_19_code 8 = .ok (.aload_n 0, 1) := by decide +kernel
theorem d_41_9 : decode prog_5_method_19_code 9 = .ok (.aload_n 0, 1) := by decide +kernel
theorem d_41_10 : decode prog_5_method_19_code 10 = .ok (.getfield 25, 3) := by decide +kernel
theorem d_41_13 : decode prog_5_method_19_code 13 = .ok (.iconst 1, 1) := by decide +kernel
theorem d_41_14 : decode prog_5_method_19_code 14 = .ok (.invokevirtual 115, 3) := by decide +kernel
theorem d_41_17 : decode prog_5_method_19_code 17 = .ok (.ireturn, 1) := by decide +kernel
theorem d_41_18 : decode prog_5_method_19_code 18 = .ok (.iconst 0, 1) := by decide +kernel
theorem d_41_19 : decode prog_5_method_19_code 19 = .ok (.istore_n 1, 1) := by decide +kernel
theorem d_41_20 : decode prog_5_method_19_code 20 = .ok (.iconst 0, 1) := by decide +kernel
theorem d_41_21 : decode prog_5_method_19_code 21 = .ok (.istore_n 2, 1) := by decide +kernel
theorem d_41_22 : decode prog_5_method_19_code 22 = .ok (.iload_n 2, 1) := by decide +kernel
theorem d_41_23 : decode prog_5_method_19_code 23 = .ok (.aload_n 0, 1) := by decide +kernel
theorem d_41_24 : decode prog_5_method_19_code 24 = .ok (.getfield 25, 3) := by decide +kernel
theorem d_41_27 : decode prog_5_method_19_code 27 = .ok (.if_icmp .ge 31, 3) := by decide +kernel
theorem d_41_30 : decode prog_5_method_19_code 30 = .ok (.aload_n 0, 1) := by decide +kernel
theorem d_41_31 : decode prog_5_method_19_code 31 = .ok (.getfield 33, 3) := by decide +kernel
theorem d_41_34 : decode prog_5_method_19_code 34 = .ok (.iload_n 2, 1) := by decide +kernel
theorem d_41_35 : decode prog_5_method_19_code 35 = .ok (.aaload, 1) := by decide +kernel
theorem d_41_36 : decode prog_5_method_19_code 36 = .ok (.getfield 94, 3) := by decide +kernel
theorem d_41_39 : decode prog_5_method_19_code 39 = .ok (.ifCond .eq 13, 3) := by decide +kernel
theorem d_41_42 : decode prog_5_method_19_code 42 = .ok (.aload_n 0, 1) := by decide +kernel
theorem d_41_43 : decode prog_5_method_19_code 43 = .ok (.getfield 33, 3) := by decide +kernel
theorem d_41_46 : decode prog_5_method_19_code 46 = .ok (.iload_n 2, 1) := by decide +kernel
theorem d_41_47 : decode prog_5_method_19_code 47 = .ok (.aaload, 1) := by decide +kernel
theorem d_41_48 : decode prog_5_method_19_code 48 = .ok (.invokevirtual 119, 3) := by decide +kernel
theorem d_41_51 : decode prog_5_method_19_code 51 = .ok (.istore_n 1, 1) := by decide +kernel
theorem d_41_52 : decode prog_5_method_19_code 52 = .ok (.iinc 2 1, 3) := by decide +kernel
theorem d_41_55 : decode prog_5_method_19_code 55 = .ok (.goto (-33), 3) := by decide +kernel
theorem d_41_58 : decode prog_5_method_19_code 58 = .ok (.iload_n 1, 1) := by decide +kernel
theorem d_41_59 : decode prog_5_method_19_code 59 = .ok (.ireturn, 1) := by decide +kernel
theorem d_42_0 : decode prog_5_method_16_code 0 = .ok (.iconst 0, 1) := by decide +kernel
theorem d_42_1 : decode prog_5_method_16_code 1 = .ok (.istore_n 1, 1) := by decide +kernel
theorem d_42_2 : decode prog_5_method_16_code 2 = .ok (.iconst 0, 1) := by decide +kernel
theorem d_42_3 : decode prog_5_method_16_code 3 = .ok (.istore_n 2, 1) := by decide +kernel
theorem d_42_4 : decode prog_5_method_16_code 4 = .ok (.iload_n 2, 1) := by decide +kernel
theorem d_42_5 : decode prog_5_method_16_code 5 = .ok (.aload_n 0, 1) := by decide +kernel
theorem d_42_6 : decode prog_5_method_16_code 6 = .ok (.getfield 25, 3) := by decide +kernel
theorem d_42_9 : decode prog_5_method_16_code 9 = .ok (.if_icmp .ge 24, 3) := by decide +kernel
theorem d_42_12 : decode prog_5_method_16_code 12 = .ok (.aload_n 0, 1) := by decide +kernel
theorem d_42_13 : decode prog_5_method_16_code 13 = .ok (.getfield 33, 3) := by decide +kernel
theorem d_42_16 : decode prog_5_method_16_code 16 = .ok (.iload_n 2, 1) := by decide +kernel
theorem d_42_17 : decode prog_5_method_16_code 17 = .ok (.aaload, 1) := by decide +kernel
theorem d_42_18 : decode prog_5_method_16_code 18 = .ok (.getfield 94, 3) := by decide +kernel
theorem d_42_21 : decode prog_5_method_16_code 21 = .ok (.ifCond .eq 6, 3) := by decide +kernel
theorem d_42_24 : decode prog_5_method_16_code 24 = .ok (.iinc 1 1, 3) := by decide +kernel
theorem d_42_27 : decode prog_5_method_16_code 27 = .ok (.iinc 2 1, 3) := by decide +kernel
theorem d_42_30 : decode prog_5_method_16_code 30 = .ok (.goto (-26), 3) := by decide +kernel
theorem d_42_33 : decode prog_5_method_16_code 33 = .ok (.iload_n 1, 1) := by decide +kernel
theorem d_42_34 : decode prog_5_method_16_code 34 = .ok (.ireturn, 1) := by decide +kernel
theorem d_43_0 : decode prog_1_method_8_code 0 = .ok (.aload_n 0, 1) := by decide +kernel
theorem d_43_1 : decode prog_1_method_8_code 1 = .ok (.getfield 19, 3) := by decide +kernel
theorem d_43_4 : decode prog_1_method_8_code 4 = .ok (.ifCond .eq 5, 3) := by decide +kernel
theorem d_43_7 : decode prog_1_method_8_code 7 = .ok (.iconst (-1), 1) := by decide +kernel
theorem d_43_8 : decode prog_1_method_8_code 8 = .ok (.ireturn, 1) := by decide +kernel
theorem d_43_9 : decode prog_1_method_8_code 9 = .ok (.aload_n 0, 1) := by decide +kernel
theorem d_43_10 : decode prog_1_method_8_code 10 = .ok (.iconst 1, 1) := by decide +kernel
theorem d_43_11 : decode prog_1_method_8_code 11 = .ok (.putfield 19, 3) := by decide +kernel
theorem d_43_14 : decode prog_1_method_8_code 14 = .ok (.iconst 0, 1) := by decide +kernel
theorem d_43_15 : decode prog_1_method_8_code 15 = .ok (.ireturn, 1) := by decide +kernel
theorem d_44_0 : decode prog_1_method_9_code 0 = .ok (.aload_n 0, 1) := by decide +kernel
theorem d_44_1 : decode prog_1_method_9_code 1 = .ok (.getfield 19, 3) := by decide +kernel
theorem d_44_4 : decode prog_1_method_9_code 4 = .ok (.ifCond .eq 5, 3) := by decide +kernel
theorem d_44_7 : decode prog_1_method_9_code 7 = .ok (.iconst (-1), 1) := by decide +kernel
theorem d_44_8 : decode prog_1_method_9_code 8 = .ok (.ireturn, 1) := by decide +kernel
theorem d_44_9 : decode prog_1_method_9_code 9 = .ok (.aload_n 0, 1) := by decide +kernel
theorem d_44_10 : decode prog_1_method_9_code 10 = .ok (.getfield 10, 3) := by decide +kernel
theorem d_44_13 : decode prog_1_method_9_code 13 = .ok (.iload_n 1, 1) := by decide +kernel
theorem d_44_14 : decode prog_1_method_9_code 14 = .ok (.invokevirtual 83, 3) := by decide +kernel
theorem d_44_17 : decode prog_1_method_9_code 17 = .ok (.astore 5, 2) := by decide +kernel
theorem d_44_19 : decode prog_1_method_9_code 19 = .ok (.aload 5, 2) := by decide +kernel
end
section
theorem d_44_21 : decode prog_1_method_9_code 21 = .ok (.ifnonnull 6, 3) := by decide +kernel
theorem d_44_24 : decode prog_1_method_9_code 24 = .ok (.bipush (-3), 2) := by decide +kernel
theorem d_44_26 : decode prog_1_method_9_code 26 = .ok (.ireturn, 1) := by decide +kernel
theorem d_44_27 : decode prog_1_method_9_code 27 = .ok (.aload 5, 2) := by decide +kernel
theorem d_44_29 : decode prog_1_method_9_code 29 = .ok (.iload_n 2, 1) := by decide +kernel
theorem d_44_30 : decode prog_1_method_9_code 30 = .ok (.i2l, 1) := by decide +kernel
theorem d_44_31 : decode prog_1_method_9_code 31 = .ok (.iload_n 3, 1) := by decide +kernel
theorem d_44_32 : decode prog_1_method_9_code 32 = .ok (.i2l, 1) := by decide +kernel
theorem d_44_33 : decode prog_1_method_9_code 33 = .ok (.invokevirtual 87, 3) := by decide +kernel
theorem d_44_36 : decode prog_1_method_9_code 36 = .ok (.ifCond .ne 6, 3) := by decide +kernel
theorem d_44_39 : decode prog_1_method_9_code 39 = .ok (.bipush (-7), 2) := by decide +kernel
theorem d_44_41 : decode prog_1_method_9_code 41 = .ok (.ireturn, 1) := by decide +kernel
theorem d_44_42 : decode prog_1_method_9_code 42 = .ok (.aload 5, 2) := by decide +kernel
theorem d_44_44 : decode prog_1_method_9_code 44 = .ok (.getfield 93, 3) := by decide +kernel
theorem d_44_47 : decode prog_1_method_9_code 47 = .ok (.iload 4, 2) := by decide +kernel
theorem d_44_49 : decode prog_1_method_9_code 49 = .ok (.invokestatic 96, 3) := by decide +kernel
theorem d_44_52 : decode prog_1_method_9_code 52 = .ok (.ifCond .ne 6, 3) := by decide +kernel
theorem d_44_55 : decode prog_1_method_9_code 55 = .ok (.bipush (-6), 2) := by decide +kernel
theorem d_44_57 : decode prog_1_method_9_code 57 = .ok (.ireturn, 1) := by decide +kernel
theorem d_44_58 : decode prog_1_method_9_code 58 = .ok (.aload_n 0, 1) := by decide +kernel
theorem d_44_59 : decode prog_1_method_9_code 59 = .ok (.getfield 10, 3) := by decide +kernel
theorem d_44_62 : decode prog_1_method_9_code 62 = .ok (.aload 5, 2) := by decide +kernel
theorem d_44_64 : decode prog_1_method_9_code 64 = .ok (.iload_n 2, 1) := by decide +kernel
theorem d_44_65 : decode prog_1_method_9_code 65 = .ok (.i2l, 1) := by decide +kernel
theorem d_44_66 : decode prog_1_method_9_code 66 = .ok (.invokevirtual 100, 3) := by decide +kernel
theorem d_44_69 : decode prog_1_method_9_code 69 = .ok (.ifCond .ne 6, 3) := by decide +kernel
theorem d_44_72 : decode prog_1_method_9_code 72 = .ok (.bipush (-8), 2) := by decide +kernel
theorem d_44_74 : decode prog_1_method_9_code 74 = .ok (.ireturn, 1) := by decide +kernel
theorem d_44_75 : decode prog_1_method_9_code 75 = .ok (.aload 5, 2) := by decide +kernel
theorem d_44_77 : decode prog_1_method_9_code 77 = .ok (.iload_n 2, 1) := by decide +kernel
theorem d_44_78 : decode prog_1_method_9_code 78 = .ok (.iload_n 3, 1) := by decide +kernel
theorem d_44_79 : decode prog_1_method_9_code 79 = .ok (.iload 4, 2) := by decide +kernel
theorem d_44_81 : decode prog_1_method_9_code 81 = .ok (.invokevirtual 104, 3) := by decide +kernel
theorem d_44_84 : decode prog_1_method_9_code 84 = .ok (.iconst 0, 1) := by decide +kernel
theorem d_44_85 : decode prog_1_method_9_code 85 = .ok (.ireturn, 1) := by decide +kernel
theorem d_45_0 : decode prog_6_method_5_code 0 = .ok (.lload_n 1, 1) := by decide +kernel
theorem d_45_1 : decode prog_6_method_5_code 1 = .ok (.lconst 0, 1) := by decide +kernel
theorem d_45_2 : decode prog_6_method_5_code 2 = .ok (.lcmp, 1) := by decide +kernel
theorem d_45_3 : decode prog_6_method_5_code 3 = .ok (.ifCond .lt 40, 3) := by decide +kernel
theorem d_45_6 : decode prog_6_method_5_code 6 = .ok (.aload_n 0, 1) := by decide +kernel
theorem d_45_7 : decode prog_6_method_5_code 7 = .ok (.getfield 21, 3) := by decide +kernel
theorem d_45_10 : decode prog_6_method_5_code 10 = .ok (.ifCond .ne 13, 3) := by decide +kernel
theorem d_45_13 : decode prog_6_method_5_code 13 = .ok (.lload_n 1, 1) := by decide +kernel
theorem d_45_14 : decode prog_6_method_5_code 14 = .ok (.aload_n 0, 1) := by decide +kernel
theorem d_45_15 : decode prog_6_method_5_code 15 = .ok (.getfield 25, 3) := by decide +kernel
theorem d_45_18 : decode prog_6_method_5_code 18 = .ok (.i2l, 1) := by decide +kernel
theorem d_45_19 : decode prog_6_method_5_code 19 = .ok (.lcmp, 1) := by decide +kernel
theorem d_45_20 : decode prog_6_method_5_code 20 = .ok (.ifCond .ge 23, 3) := by decide +kernel
theorem d_45_23 : decode prog_6_method_5_code 23 = .ok (.lload_n 3, 1) := by decide +kernel
theorem d_45_24 : decode prog_6_method_5_code 24 = .ok (.lconst 0, 1) := by decide +kernel
theorem d_45_25 : decode prog_6_method_5_code 25 = .ok (.lcmp, 1) := by decide +kernel
theorem d_45_26 : decode prog_6_method_5_code 26 = .ok (.ifCond .lt 17, 3) := by decide +kernel
theorem d_45_29 : decode prog_6_method_5_code 29 = .ok (.lload_n 3, 1) := by decide +kernel
theorem d_45_30 : decode prog_6_method_5_code 30 = .ok (.aload_n 0, 1) := by decide +kernel
theorem d_45_31 : decode prog_6_method_5_code 31 = .ok (.getfield 28, 3) := by decide +kernel
theorem d_45_34 : decode prog_6_method_5_code 34 = .ok (.i2l, 1) := by decide +kernel
theorem d_45_35 : decode prog_6_method_5_code 35 = .ok (.lcmp, 1) := by decide +kernel
theorem d_45_36 : decode prog_6_method_5_code 36 = .ok (.ifCond .ge 7, 3) := by decide +kernel
theorem d_45_39 : decode prog_6_method_5_code 39 = .ok (.iconst 1, 1) := by decide +kernel
theorem d_45_40 : decode prog_6_method_5_code 40 = .ok (.goto 4, 3) := by decide +kernel
theorem d_45_43 : decode prog_6_method_5_code 43 = .ok (.iconst 0, 1) := by decide +kernel
theorem d_45_44 : decode prog_6_method_5_code 44 = .ok (.ireturn, 1) := by decide +kernel
theorem d_46_0 : decode prog_5_method_15_code 0 = .ok (.aload_n 1, 1) := by decide +kernel
theorem d_46_1 : decode prog_5_method_15_code 1 = .ok (.getfield 94, 3) := by decide +kernel
theorem d_46_4 : decode prog_5_method_15_code 4 = .ok (.ifCond .eq 13, 3) := by decide +kernel
theorem d_46_7 : decode prog_5_method_15_code 7 = .ok (.lload_n 2, 1) := by decide +kernel
theorem d_46_8 : decode prog_5_method_15_code 8 = .ok (.aload_n 0, 1) := by decide +kernel
theorem d_46_9 : decode prog_5_method_15_code 9 = .ok (.getfield 9, 3) := by decide +kernel
theorem d_46_12 : decode prog_5_method_15_code 12 = .ok (.i2l, 1) := by decide +kernel
theorem d_46_13 : decode prog_5_method_15_code 13 = .ok (.lcmp, 1) := by decide +kernel
theorem d_46_14 : decode prog_5_method_15_code 14 = .ok (.ifCond .ge 5, 3) := by decide +kernel
theorem d_46_17 : decode prog_5_method_15_code 17 = .ok (.iconst 1, 1) := by decide +kernel
theorem d_46_18 : decode prog_5_method_15_code 18 = .ok (.ireturn, 1) := by decide +kernel
theorem d_46_19 : decode prog_5_method_15_code 19 = .ok (.aload_n 0, 1) := by decide +kernel
theorem d_46_20 : decode prog_5_method_15_code 20 = .ok (.lload_n 2, 1) := by decide +kernel
theorem d_46_21 : decode prog_5_method_15_code 21 = .ok (.lconst 1, 1) := by decide +kernel
theorem d_46_22 : decode prog_5_method_15_code 22 = .ok (.ladd, 1) := by decide +kernel
theorem d_46_23 : decode prog_5_method_15_code 23 = .ok (.invokevirtual 98, 3) := by decide +kernel
theorem d_46_26 : decode prog_5_method_15_code 26 = .ok (.ldc2_w 102, 3) := by decide +kernel
theorem d_46_29 : decode prog_5_method_15_code 29 = .ok (.lcmp, 1) := by decide +kernel
theorem d_46_30 : decode prog_5_method_15_code 30 = .ok (.ifCond .le 5, 3) := by decide +kernel
theorem d_46_33 : decode prog_5_method_15_code 33 = .ok (.iconst 0, 1) := by decide +kernel
theorem d_46_34 : decode prog_5_method_15_code 34 = .ok (.ireturn, 1) := by decide +kernel
theorem d_46_35 : decode prog_5_method_15_code 35 = .ok (.aload_n 0, 1) := by decide +kernel
theorem d_46_36 : decode prog_5_method_15_code 36 = .ok (.lload_n 2, 1) := by decide +kernel
theorem d_46_37 : decode prog_5_method_15_code 37 = .ok (.lconst 1, 1) := by decide +kernel
theorem d_46_38 : decode prog_5_method_15_code 38 = .ok (.ladd, 1) := by decide +kernel
theorem d_46_39 : decode prog_5_method_15_code 39 = .ok (.l2i, 1) := by decide +kernel
theorem d_46_40 : decode prog_5_method_15_code 40 = .ok (.putfield 9, 3) := by decide +kernel
theorem d_46_43 : decode prog_5_method_15_code 43 = .ok (.iconst 1, 1) := by decide +kernel
theorem d_46_44 : decode prog_5_method_15_code 44 = .ok (.ireturn, 1) := by decide +kernel
theorem d_47_0 : decode prog_6_method_7_code 0 = .ok (.iload_n 1, 1) := by decide +kernel
theorem d_47_1 : decode prog_6_method_7_code 1 = .ok (.aload_n 0, 1) := by decide +kernel
theorem d_47_2 : decode prog_6_method_7_code 2 = .ok (.getfield 28, 3) := by decide +kernel
theorem d_47_5 : decode prog_6_method_7_code 5 = .ok (.imul, 1) := by decide +kernel
theorem d_47_6 : decode prog_6_method_7_code 6 = .ok (.iload_n 2, 1) := by decide +kernel
theorem d_47_7 : decode prog_6_method_7_code 7 = .ok (.iadd, 1) := by decide +kernel
theorem d_47_8 : decode prog_6_method_7_code 8 = .ok (.istore 4, 2) := by decide +kernel
theorem d_47_10 : decode prog_6_method_7_code 10 = .ok (.iload 4, 2) := by decide +kernel
theorem d_47_12 : decode prog_6_method_7_code 12 = .ok (.ifCond .lt 21, 3) := by decide +kernel
theorem d_47_15 : decode prog_6_method_7_code 15 = .ok (.iload 4, 2) := by decide +kernel
theorem d_47_17 : decode prog_6_method_7_code 17 = .ok (.aload_n 0, 1) := by decide +kernel
theorem d_47_18 : decode prog_6_method_7_code 18 = .ok (.getfield 38, 3) := by decide +kernel
theorem d_47_21 : decode prog_6_method_7_code 21 = .ok (.arraylength, 1) := by decide +kernel
theorem d_47_22 : decode prog_6_method_7_code 22 = .ok (.if_icmp .ge 11, 3) := by decide +kernel
theorem d_47_25 : decode prog_6_method_7_code 25 = .ok (.aload_n 0, 1) := by decide +kernel
theorem d_47_26 : decode prog_6_method_7_code 26 = .ok (.getfield 38, 3) := by decide +kernel
theorem d_47_29 : decode prog_6_method_7_code 29 = .ok (.iload 4, 2) := by decide +kernel
theorem d_47_31 : decode prog_6_method_7_code 31 = .ok (.iload_n 3, 1) := by decide +kernel
theorem d_47_32 : decode prog_6_method_7_code 32 = .ok (.iastore, 1) := by decide +kernel
theorem d_47_33 : decode prog_6_method_7_code 33 = .ok (.return_, 1) := by decide +kernel
theorem d_48_0 : decode prog_1_method_10_code 0 = .ok (.aload_n 0, 1) := by decide +kernel
theorem d_48_1 : decode prog_1_method_10_code 1 = .ok (.getfield 19, 3) := by decide +kernel
theorem d_48_4 : decode prog_1_method_10_code 4 = .ok (.ifCond .eq 7, 3) := by decide +kernel
theorem d_48_7 : decode prog_1_method_10_code 7 = .ok (.ldc2_w 108, 3) := by decide +kernel
theorem d_48_10 : decode prog_1_method_10_code 10 = .ok (.lreturn, 1) := by decide +kernel
theorem d_48_11 : decode prog_1_method_10_code 11 = .ok (.aload_n 0, 1) := by decide +kernel
theorem d_48_12 : decode prog_1_method_10_code 12 = .ok (.getfield 10, 3) := by decide +kernel
theorem d_48_15 : decode prog_1_method_10_code 15 = .ok (.iload_n 1, 1) := by decide +kernel
theorem d_48_16 : decode prog_1_method_10_code 16 = .ok (.invokevirtual 83, 3) := by decide +kernel
theorem d_48_19 : decode prog_1_method_10_code 19 = .ok (.astore 4, 2) := by decide +kernel
theorem d_48_21 : decode prog_1_method_10_code 21 = .ok (.aload 4, 2) := by decide +kernel
theorem d_48_23 : decode prog_1_method_10_code 23 = .ok (.ifnull 19, 3) := by decide +kernel
theorem d_48_26 : decode prog_1_method_10_code 26 = .ok (.aload_n 0, 1) := by decide +kernel
theorem d_48_27 : decode prog_1_method_10_code 27 = .ok (.getfield 10, 3) := by decide +kernel
theorem d_48_30 : decode prog_1_method_10_code 30 = .ok (.aload 4, 2) := by decide +kernel
theorem d_48_32 : decode prog_1_method_10_code 32 = .ok (.iload_n 2, 1) := by decide +kernel
theorem d_48_33 : decode prog_1_method_10_code 33 = .ok (.i2l, 1) := by decide +kernel
theorem d_48_34 : decode prog_1_method_10_code 34 = .ok (.iload_n 3, 1) := by decide +kernel
theorem d_48_35 : decode prog_1_method_10_code 35 = .ok (.i2l, 1) := by decide +kernel
theorem d_48_36 : decode prog_1_method_10_code 36 = .ok (.invokevirtual 110, 3) := by decide +kernel
theorem d_48_39 : decode prog_1_method_10_code 39 = .ok (.ifCond .ne 7, 3) := by decide +kernel
theorem d_48_42 : decode prog_1_method_10_code 42 = .ok (.ldc2_w 108, 3) := by decide +kernel
theorem d_48_45 : decode prog_1_method_10_code 45 = .ok (.lreturn, 1) := by decide +kernel
theorem d_48_46 : decode prog_1_method_10_code 46 = .ok (.aload 4, 2) := by decide +kernel
theorem d_48_48 : decode prog_1_method_10_code 48 = .ok (.iload_n 2, 1) := by decide +kernel
theorem d_48_49 : decode prog_1_method_10_code 49 = .ok (.iload_n 3, 1) := by decide +kernel
theorem d_48_50 : decode prog_1_method_10_code 50 = .ok (.invokevirtual 114, 3) := by decide +kernel
theorem d_48_53 : decode prog_1_method_10_code 53 = .ok (.i2l, 1) := by decide +kernel
theorem d_48_54 : decode prog_1_method_10_code 54 = .ok (.lreturn, 1) := by decide +kernel
theorem d_49_0 : decode prog_5_method_14_code 0 = .ok (.aload_n 1, 1) := by decide +kernel
theorem d_49_1 : decode prog_5_method_14_code 1 = .ok (.lload_n 2, 1) := by decide +kernel
theorem d_49_2 : decode prog_5_method_14_code 2 = .ok (.lload 4, 2) := by decide +kernel
theorem d_49_4 : decode prog_5_method_14_code 4 = .ok (.invokevirtual 90, 3) := by decide +kernel
theorem d_49_7 : decode prog_5_method_14_code 7 = .ok (.ifCond .eq 24, 3) := by decide +kernel
theorem d_49_10 : decode prog_5_method_14_code 10 = .ok (.aload_n 1, 1) := by decide +kernel
theorem d_49_11 : decode prog_5_method_14_code 11 = .ok (.getfield 94, 3) := by decide +kernel
theorem d_49_14 : decode prog_5_method_14_code 14 = .ok (.ifCond .eq 13, 3) := by decide +kernel
theorem d_49_17 : decode prog_5_method_14_code 17 = .ok (.lload_n 2, 1) := by decide +kernel
theorem d_49_18 : decode prog_5_method_14_code 18 = .ok (.aload_n 0, 1) := by decide +kernel
theorem d_49_19 : decode prog_5_method_14_code 19 = .ok (.getfield 9, 3) := by decide +kernel
theorem d_49_22 : decode prog_5_method_14_code 22 = .ok (.i2l, 1) := by decide +kernel
theorem d_49_23 : decode prog_5_method_14_code 23 = .ok (.lcmp, 1) := by decide +kernel
theorem d_49_24 : decode prog_5_method_14_code 24 = .ok (.ifCond .ge 7, 3) := by decide +kernel
theorem d_49_27 : decode prog_5_method_14_code 27 = .ok (.iconst 1, 1) := by decide +kernel
theorem d_49_28 : decode prog_5_method_14_code 28 = .ok (.goto 4, 3) := by decide +kernel
theorem d_49_31 : decode prog_5_method_14_code 31 = .ok (.iconst 0, 1) := by decide +kernel
theorem d_49_32 : decode prog_5_method_14_code 32 = .ok (.ireturn, 1) := by decide +kernel
theorem d_50_0 : decode prog_6_method_6_code 0 = .ok (.iload_n 1, 1) := by decide +kernel
theorem d_50_1 : decode prog_6_method_6_code 1 = .ok (.aload_n 0, 1) := by decide +kernel
theorem d_50_2 : decode prog_6_method_6_code 2 = .ok (.getfield 28, 3) := by decide +kernel
theorem d_50_5 : decode prog_6_method_6_code 5 = .ok (.imul, 1) := by decide +kernel
theorem d_50_6 : decode prog_6_method_6_code 6 = .ok (.iload_n 2, 1) := by decide +kernel
theorem d_50_7 : decode prog_6_method_6_code 7 = .ok (.iadd, 1) := by decide +kernel
theorem d_50_8 : decode prog_6_method_6_code 8 = .ok (.istore_n 3, 1) := by decide +kernel
theorem d_50_9 : decode prog_6_method_6_code 9 = .ok (.iload_n 3, 1) := by decide +kernel
theorem d_50_10 : decode prog_6_method_6_code 10 = .ok (.ifCond .lt 21, 3) := by decide +kernel
theorem d_50_13 : decode prog_6_method_6_code 13 = .ok (.iload_n 3, 1) := by decide +kernel
theorem d_50_14 : decode prog_6_method_6_code 14 = .ok (.aload_n 0, 1) := by decide +kernel
theorem d_50_15 : decode prog_6_method_6_code 15 = .ok (.getfield 38, 3) := by decide +kernel
theorem d_50_18 : decode prog_6_method_6_code 18 = .ok (.arraylength, 1) := by decide +kernel
theorem d_50_19 : decode prog_6_method_6_code 19 = .ok (.if_icmp .ge 12, 3) := by decide +kernel
theorem d_50_22 : decode prog_6_method_6_code 22 = .ok (.aload_n 0, 1) := by decide +kernel
theorem d_50_23 : decode prog_6_method_6_code 23 = .ok (.getfield 38, 3) := by decide +kernel
theorem d_50_26 : decode prog_6_method_6_code 26 = .ok (.iload_n 3, 1) := by decide +kernel
theorem d_50_27 : decode prog_6_method_6_code 27 = .ok (.iaload, 1) := by decide +kernel
theorem d_50_28 : decode prog_6_method_6_code 28 = .ok (.goto 11, 3) := by decide +kernel
theorem d_50_31 : decode prog_6_method_6_code 31 = .ok (.getstatic 42, 3) := by decide +kernel
theorem d_50_34 : decode prog_6_method_6_code 34 = .ok (.aload_n 0, 1) := by decide +kernel
theorem d_50_35 : decode prog_6_method_6_code 35 = .ok (.getfield 9, 3) := by decide +kernel
theorem d_50_38 : decode prog_6_method_6_code 38 = .ok (.iaload, 1) := by decide +kernel
theorem d_50_39 : decode prog_6_method_6_code 39 = .ok (.ireturn, 1) := by decide +kernel
theorem d_51_0 : decode prog_1_method_11_code 0 = .ok (.iload_n 1, 1) := by decide +kernel
theorem d_51_1 : decode prog_1_method_11_code 1 = .ok (.ifCond .eq 11, 3) := by decide +kernel
theorem d_51_4 : decode prog_1_method_11_code 4 = .ok (.iload_n 1, 1) := by decide +kernel
theorem d_51_5 : decode prog_1_method_11_code 5 = .ok (.iconst 1, 1) := by decide +kernel
theorem d_51_6 : decode prog_1_method_11_code 6 = .ok (.if_icmp .eq 6, 3) := by decide +kernel
theorem d_51_9 : decode prog_1_method_11_code 9 = .ok (.bipush (-3), 2) := by decide +kernel
theorem d_51_11 : decode prog_1_method_11_code 11 = .ok (.ireturn, 1) := by decide +kernel
theorem d_51_12 : decode prog_1_method_11_code 12 = .ok (.iload_n 2, 1) := by decide +kernel
theorem d_51_13 : decode prog_1_method_11_code 13 = .ok (.ifCond .lt 27, 3) := by decide +kernel
theorem d_51_16 : decode prog_1_method_11_code 16 = .ok (.iload_n 3, 1) := by decide +kernel
theorem d_51_17 : decode prog_1_method_11_code 17 = .ok (.iconst 1, 1) := by decide +kernel
theorem d_51_18 : decode prog_1_method_11_code 18 = .ok (.if_icmp .lt 22, 3) := by decide +kernel
theorem d_51_21 : decode prog_1_method_11_code 21 = .ok (.iload_n 3, 1) := by decide +kernel
theorem d_51_22 : decode prog_1_method_11_code 22 = .ok (.bipush 8, 2) := by decide +kernel
theorem d_51_24 : decode prog_1_method_11_code 24 = .ok (.if_icmp .gt 16, 3) := by decide +kernel
theorem d_51_27 : decode prog_1_method_11_code 27 = .ok (.iload 4, 2) := by decide +kernel
theorem d_51_29 : decode prog_1_method_11_code 29 = .ok (.iconst 1, 1) := by decide +kernel
theorem d_51_30 : decode prog_1_method_11_code 30 = .ok (.if_icmp .lt 10, 3) := by decide +kernel
theorem d_51_33 : decode prog_1_method_11_code 33 = .ok (.iload 4, 2) := by decide +kernel
theorem d_51_35 : decode prog_1_method_11_code 35 = .ok (.bipush 8, 2) := by decide +kernel
theorem d_51_37 : decode prog_1_method_11_code 37 = .ok (.if_icmp .le 6, 3) := by decide +kernel
theorem d_51_40 : decode prog_1_method_11_code 40 = .ok (.bipush (-2), 2) := by decide +kernel
theorem d_51_42 : decode prog_1_method_11_code 42 = .ok (.ireturn, 1) := by decide +kernel
theorem d_51_43 : decode prog_1_method_11_code 43 = .ok (.iload_n 1, 1) := by decide +kernel
theorem d_51_44 : decode prog_1_method_11_code 44 = .ok (.ifCond .ne 10, 3) := by decide +kernel
theorem d_51_47 : decode prog_1_method_11_code 47 = .ok (.aload_n 0, 1) := by decide +kernel
theorem d_51_48 : decode prog_1_method_11_code 48 = .ok (.getfield 26, 3) := by decide +kernel
theorem d_51_51 : decode prog_1_method_11_code 51 = .ok (.goto 7, 3) := by decide +kernel
theorem d_51_54 : decode prog_1_method_11_code 54 = .ok (.aload_n 0, 1) := by decide +kernel
theorem d_51_55 : decode prog_1_method_11_code 55 = .ok (.getfield 30, 3) := by decide +kernel
theorem d_51_58 : decode prog_1_method_11_code 58 = .ok (.astore 5, 2) := by decide +kernel
theorem d_51_60 : decode prog_1_method_11_code 60 = .ok (.aload 5, 2) := by decide +kernel
theorem d_51_62 : decode prog_1_method_11_code 62 = .ok (.iload_n 2, 1) := by decide +kernel
theorem d_51_63 : decode prog_1_method_11_code 63 = .ok (.iload_n 3, 1) := by decide +kernel
theorem d_51_64 : decode prog_1_method_11_code 64 = .ok (.iload 4, 2) := by decide +kernel
theorem d_51_66 : decode prog_1_method_11_code 66 = .ok (.invokevirtual 117, 3) := by decide +kernel
theorem d_51_69 : decode prog_1_method_11_code 69 = .ok (.iconst 0, 1) := by decide +kernel
theorem d_51_70 : decode prog_1_method_11_code 70 = .ok (.ireturn, 1) := by decide +kernel
theorem d_52_0 : decode prog_4_method_2_code 0 = .ok (.aload_n 0, 1) := by decide +kernel
theorem d_52_1 : decode prog_4_method_2_code 1 = .ok (.iload_n 1, 1) := by decide +kernel
theorem d_52_2 : decode prog_4_method_2_code 2 = .ok (.putfield 7, 3) := by decide +kernel
theorem d_52_5 : decode prog_4_method_2_code 5 = .ok (.aload_n 0, 1) := by decide +kernel
theorem d_52_6 : decode prog_4_method_2_code 6 = .ok (.iload_n 2, 1) := by decide +kernel
theorem d_52_7 : decode prog_4_method_2_code 7 = .ok (.putfield 13, 3) := by decide +kernel
theorem d_52_10 : decode prog_4_method_2_code 10 = .ok (.aload_n 0, 1) := by decide +kernel
theorem d_52_11 : decode prog_4_method_2_code 11 = .ok (.iload_n 3, 1) := by decide +kernel
theorem d_52_12 : decode prog_4_method_2_code 12 = .ok (.putfield 16, 3) := by decide +kernel
theorem d_52_15 : decode prog_4_method_2_code 15 = .ok (.return_, 1) := by decide +kernel
theorem d_53_0 : decode prog_1_method_12_code 0 = .ok (.aload_n 0, 1) := by decide +kernel
theorem d_53_1 : decode prog_1_method_12_code 1 = .ok (.getfield 19, 3) := by decide +kernel
theorem d_53_4 : decode prog_1_method_12_code 4 = .ok (.ifCond .eq 5, 3) := by decide +kernel
theorem d_53_7 : decode prog_1_method_12_code 7 = .ok (.iconst (-1), 1) := by decide +kernel
theorem d_53_8 : decode prog_1_method_12_code 8 = .ok (.ireturn, 1) := by decide +kernel
theorem d_53_9 : decode prog_1_method_12_code 9 = .ok (.aload_n 0, 1) := by decide +kernel
theorem d_53_10 : decode prog_1_method_12_code 10 = .ok (.getfield 10, 3) := by decide +kernel
theorem d_53_13 : decode prog_1_method_12_code 13 = .ok (.iload_n 1, 1) := by decide +kernel
theorem d_53_14 : decode prog_1_method_12_code 14 = .ok (.invokevirtual 83, 3) := by decide +kernel
theorem d_53_17 : decode prog_1_method_12_code 17 = .ok (.astore 4, 2) := by decide +kernel
theorem d_53_19 : decode prog_1_method_12_code 19 = .ok (.aload 4, 2) := by decide +kernel
theorem d_53_21 : decode prog_1_method_12_code 21 = .ok (.ifnonnull 6, 3) := by decide +kernel
theorem d_53_24 : decode prog_1_method_12_code 24 = .ok (.bipush (-3), 2) := by decide +kernel
theorem d_53_26 : decode prog_1_method_12_code 26 = .ok (.ireturn, 1) := by decide +kernel
theorem d_53_27 : decode prog_1_method_12_code 27 = .ok (.aload_n 0, 1) := by decide +kernel
theorem d_53_28 : decode prog_1_method_12_code 28 = .ok (.aload 4, 2) := by decide +kernel
theorem d_53_30 : decode prog_1_method_12_code 30 = .ok (.invokevirtual 120, 3) := by decide +kernel
theorem d_53_33 : decode prog_1_method_12_code 33 = .ok (.astore 5, 2) := by decide +kernel
theorem d_53_35 : decode prog_1_method_12_code 35 = .ok (.aload_n 0, 1) := by decide +kernel
theorem d_53_36 : decode prog_1_method_12_code 36 = .ok (.aload 4, 2) := by decide +kernel
theorem d_53_38 : decode prog_1_method_12_code 38 = .ok (.invokevirtual 124, 3) := by decide +kernel
theorem d_53_41 : decode prog_1_method_12_code 41 = .ok (.astore 6, 2) := by decide +kernel
theorem d_53_43 : decode prog_1_method_12_code 43 = .ok (.aload 4, 2) := by decide +kernel
theorem d_53_45 : decode prog_1_method_12_code 45 = .ok (.aload 5, 2) := by decide +kernel
theorem d_53_47 : decode prog_1_method_12_code 47 = .ok (.invokevirtual 127, 3) := by decide +kernel
theorem d_53_50 : decode prog_1_method_12_code 50 = .ok (.aload 6, 2) := by decide +kernel
theorem d_53_52 : decode prog_1_method_12_code 52 = .ok (.invokevirtual 127, 3) := by decide +kernel
theorem d_53_55 : decode prog_1_method_12_code 55 = .ok (.invokevirtual 87, 3) := by decide +kernel
theorem d_53_58 : decode prog_1_method_12_code 58 = .ok (.ifCond .ne 6, 3) := by decide +kernel
theorem d_53_61 : decode prog_1_method_12_code 61 = .ok (.bipush (-7), 2) := by decide +kernel
theorem d_53_63 : decode prog_1_method_12_code 63 = .ok (.ireturn, 1) := by decide +kernel
theorem d_53_64 : decode prog_1_method_12_code 64 = .ok (.aload 5, 2) := by decide +kernel
theorem d_53_66 : decode prog_1_method_12_code 66 = .ok (.getfield 131, 3) := by decide +kernel
theorem d_53_69 : decode prog_1_method_12_code 69 = .ok (.aload 6, 2) := by decide +kernel
theorem d_53_71 : decode prog_1_method_12_code 71 = .ok (.getfield 131, 3) := by decide +kernel
theorem d_53_74 : decode prog_1_method_12_code 74 = .ok (.imul, 1) := by decide +kernel
theorem d_53_75 : decode prog_1_method_12_code 75 = .ok (.istore 7, 2) := by decide +kernel
theorem d_53_77 : decode prog_1_method_12_code 77 = .ok (.aload 4, 2) := by decide +kernel
theorem d_53_79 : decode prog_1_method_12_code 79 = .ok (.getfield 93, 3) := by decide +kernel
theorem d_53_82 : decode prog_1_method_12_code 82 = .ok (.iload 7, 2) := by decide +kernel
theorem d_53_84 : decode prog_1_method_12_code 84 = .ok (.iload_n 2, 1) := by decide +kernel
theorem d_53_85 : decode prog_1_method_12_code 85 = .ok (.iload_n 3, 1) := by decide +kernel
theorem d_53_86 : decode prog_1_method_12_code 86 = .ok (.invokestatic 134, 3) := by decide +kernel
theorem d_53_89 : decode prog_1_method_12_code 89 = .ok (.ifCond .ne 6, 3) := by decide +kernel
theorem d_53_92 : decode prog_1_method_12_code 92 = .ok (.bipush (-6), 2) := by decide +kernel
theorem d_53_94 : decode prog_1_method_12_code 94 = .ok (.ireturn, 1) := by decide +kernel
theorem d_53_95 : decode prog_1_method_12_code 95 = .ok (.aload_n 0, 1) := by decide +kernel
theorem d_53_96 : decode prog_1_method_12_code 96 = .ok (.getfield 10, 3) := by decide +kernel
theorem d_53_99 : decode prog_1_method_12_code 99 = .ok (.aload 4, 2) := by decide +kernel
theorem d_53_101 : decode prog_1_method_12_code 101 = .ok (.aload 5, 2) := by decide +kernel
theorem d_53_103 : decode prog_1_method_12_code 103 = .ok (.invokevirtual 127, 3) := by decide +kernel
theorem d_53_106 : decode prog_1_method_12_code 106 = .ok (.invokevirtual 100, 3) := by decide +kernel
theorem d_53_109 : decode prog_1_method_12_code 109 = .ok (.ifCond .ne 6, 3) := by decide +kernel
theorem d_53_112 : decode prog_1_method_12_code 112 = .ok (.bipush (-8), 2) := by decide +kernel
theorem d_53_114 : decode prog_1_method_12_code 114 = .ok (.ireturn, 1) := by decide +kernel
theorem d_53_115 : decode prog_1_method_12_code 115 = .ok (.aload 4, 2) := by decide +kernel
theorem d_53_117 : decode prog_1_method_12_code 117 = .ok (.aload 5, 2) := by decide +kernel
theorem d_53_119 : decode prog_1_method_12_code 119 = .ok (.aload 6, 2) := by decide +kernel
theorem d_53_121 : decode prog_1_method_12_code 121 = .ok (.iload_n 2, 1) := by decide +kernel
theorem d_53_122 : decode prog_1_method_12_code 122 = .ok (.iload_n 3, 1) := by decide +kernel
theorem d_53_123 : decode prog_1_method_12_code 123 = .ok (.invokevirtual 138, 3) := by decide +kernel
theorem d_53_126 : decode prog_1_method_12_code 126 = .ok (.iload 7, 2) := by decide +kernel
theorem d_53_128 : decode prog_1_method_12_code 128 = .ok (.ireturn, 1) := by decide +kernel
theorem d_54_0 : decode prog_1_method_21_code 0 = .ok (.aload_n 1, 1) := by decide +kernel
theorem d_54_1 : decode prog_1_method_21_code 1 = .ok (.invokevirtual 171, 3) := by decide +kernel
theorem d_54_4 : decode prog_1_method_21_code 4 = .ok (.ifCond .le 10, 3) := by decide +kernel
theorem d_54_7 : decode prog_1_method_21_code 7 = .ok (.aload_n 0, 1) := by decide +kernel
theorem d_54_8 : decode prog_1_method_21_code 8 = .ok (.getfield 26, 3) := by decide +kernel
theorem d_54_11 : decode prog_1_method_21_code 11 = .ok (.goto 7, 3) := by decide +kernel
theorem d_54_14 : decode prog_1_method_21_code 14 = .ok (.aload_n 0, 1) := by decide +kernel
theorem d_54_15 : decode prog_1_method_21_code 15 = .ok (.getfield 33, 3) := by decide +kernel
theorem d_54_18 : decode prog_1_method_21_code 18 = .ok (.areturn, 1) := by decide +kernel
theorem d_55_0 : decode prog_1_method_22_code 0 = .ok (.aload_n 1, 1) := by decide +kernel
theorem d_55_1 : decode prog_1_method_22_code 1 = .ok (.invokevirtual 171, 3) := by decide +kernel
theorem d_55_4 : decode prog_1_method_22_code 4 = .ok (.iconst 1, 1) := by decide +kernel
theorem d_55_5 : decode prog_1_method_22_code 5 = .ok (.if_icmp .le 10, 3) := by decide +kernel
theorem d_55_8 : decode prog_1_method_22_code 8 = .ok (.aload_n 0, 1) := by decide +kernel
theorem d_55_9 : decode prog_1_method_22_code 9 = .ok (.getfield 30, 3) := by decide +kernel
theorem d_55_12 : decode prog_1_method_22_code 12 = .ok (.goto 7, 3) := by decide +kernel
theorem d_55_15 : decode prog_1_method_22_code 15 = .ok (.aload_n 0, 1) := by decide +kernel
theorem d_55_16 : decode prog_1_method_22_code 16 = .ok (.getfield 33, 3) := by decide +kernel
theorem d_55_19 : decode prog_1_method_22_code 19 = .ok (.areturn, 1) := by decide +kernel
theorem d_56_0 : decode prog_4_method_3_code 0 = .ok (.aload_n 0, 1) := by decide +kernel
theorem d_56_1 : decode prog_4_method_3_code 1 = .ok (.getfield 7, 3) := by decide +kernel
theorem d_56_4 : decode prog_4_method_3_code 4 = .ok (.i2l, 1) := by decide +kernel
theorem d_56_5 : decode prog_4_method_3_code 5 = .ok (.aload_n 0, 1) := by decide +kernel
theorem d_56_6 : decode prog_4_method_3_code 6 = .ok (.getfield 13, 3) := by decide +kernel
theorem d_56_9 : decode prog_4_method_3_code 9 = .ok (.i2l, 1) := by decide +kernel
theorem d_56_10 : decode prog_4_method_3_code 10 = .ok (.lconst 1, 1) := by decide +kernel
theorem d_56_11 : decode prog_4_method_3_code 11 = .ok (.lsub, 1) := by decide +kernel
theorem d_56_12 : decode prog_4_method_3_code 12 = .ok (.aload_n 0, 1) := by decide +kernel
theorem d_56_13 : decode prog_4_method_3_code 13 = .ok (.getfield 16, 3) := by decide +kernel
theorem d_56_16 : decode prog_4_method_3_code 16 = .ok (.i2l, 1) := by decide +kernel
theorem d_56_17 : decode prog_4_method_3_code 17 = .ok (.lmul, 1) := by decide +kernel
theorem d_56_18 : decode prog_4_method_3_code 18 = .ok (.ladd, 1) := by decide +kernel
theorem d_56_19 : decode prog_4_method_3_code 19 = .ok (.lreturn, 1) := by decide +kernel
theorem d_57_0 : decode prog_1_method_26_code 0 = .ok (.iconst 0, 1) := by decide +kernel
theorem d_57_1 : decode prog_1_method_26_code 1 = .ok (.istore 4, 2) := by decide +kernel
theorem d_57_3 : decode prog_1_method_26_code 3 = .ok (.iload 4, 2) := by decide +kernel
theorem d_57_5 : decode prog_1_method_26_code 5 = .ok (.iload_n 1, 1) := by decide +kernel
theorem d_57_6 : decode prog_1_method_26_code 6 = .ok (.if_icmp .ge 24, 3) := by decide +kernel
theorem d_57_9 : decode prog_1_method_26_code 9 = .ok (.iload_n 0, 1) := by decide +kernel
theorem d_57_10 : decode prog_1_method_26_code 10 = .ok (.iload_n 2, 1) := by decide +kernel
theorem d_57_11 : decode prog_1_method_26_code 11 = .ok (.iload 4, 2) := by decide +kernel
theorem d_57_13 : decode prog_1_method_26_code 13 = .ok (.iload_n 3, 1) := by decide +kernel
theorem d_57_14 : decode prog_1_method_26_code 14 = .ok (.imul, 1) := by decide +kernel
theorem d_57_15 : decode prog_1_method_26_code 15 = .ok (.iadd, 1) := by decide +kernel
theorem d_57_16 : decode prog_1_method_26_code 16 = .ok (.invokestatic 96, 3) := by decide +kernel
theorem d_57_19 : decode prog_1_method_26_code 19 = .ok (.ifCond .ne 5, 3) := by decide +kernel
theorem d_57_22 : decode prog_1_method_26_code 22 = .ok (.iconst 0, 1) := by decide +kernel
theorem d_57_23 : decode prog_1_method_26_code 23 = .ok (.ireturn, 1) := by decide +kernel
theorem d_57_24 : decode prog_1_method_26_code 24 = .ok (.iinc 4 1, 3) := by decide +kernel
theorem d_57_27 : decode prog_1_method_26_code 27 = .ok (.goto (-24), 3) := by decide +kernel
theorem d_57_30 : decode prog_1_method_26_code 30 = .ok (.iconst 1, 1) := by decide +kernel
theorem d_57_31 : decode prog_1_method_26_code 31 = .ok (.ireturn, 1) := by decide +kernel
theorem d_58_0 : decode prog_6_method_8_code 0 = .ok (.iload_n 3, 1) := by decide +kernel
theorem d_58_1 : decode prog_6_method_8_code 1 = .ok (.istore 5, 2) := by decide +kernel
theorem d_58_3 : decode prog_6_method_8_code 3 = .ok (.iconst 0, 1) := by decide +kernel
theorem d_58_4 : decode prog_6_method_8_code 4 = .ok (.istore 6, 2) := by decide +kernel
theorem d_58_6 : decode prog_6_method_8_code 6 = .ok (.iload 6, 2) := by decide +kernel
theorem d_58_8 : decode prog_6_method_8_code 8 = .ok (.aload_n 1, 1) := by decide +kernel
theorem d_58_9 : decode prog_6_method_8_code 9 = .ok (.getfield 51, 3) := by decide +kernel
theorem d_58_12 : decode prog_6_method_8_code 12 = .ok (.if_icmp .ge 52, 3) := by decide +kernel
theorem d_58_15 : decode prog_6_method_8_code 15 = .ok (.iconst 0, 1) := by decide +kernel
theorem d_58_16 : decode prog_6_method_8_code 16 = .ok (.istore 7, 2) := by decide +kernel
theorem d_58_18 : decode prog_6_method_8_code 18 = .ok (.iload 7, 2) := by decide +kernel
theorem d_58_20 : decode prog_6_method_8_code 20 = .ok (.aload_n 2, 1) := by decide +kernel
theorem d_58_21 : decode prog_6_method_8_code 21 = .ok (.getfield 51, 3) := by decide +kernel
theorem d_58_24 : decode prog_6_method_8_code 24 = .ok (.if_icmp .ge 34, 3) := by decide +kernel
theorem d_58_27 : decode prog_6_method_8_code 27 = .ok (.aload_n 0, 1) := by decide +kernel
theorem d_58_28 : decode prog_6_method_8_code 28 = .ok (.aload_n 1, 1) := by decide +kernel
theorem d_58_29 : decode prog_6_method_8_code 29 = .ok (.iload 6, 2) := by decide +kernel
theorem d_58_31 : decode prog_6_method_8_code 31 = .ok (.invokevirtual 56, 3) := by decide +kernel
theorem d_58_34 : decode prog_6_method_8_code 34 = .ok (.aload_n 2, 1) := by decide +kernel
theorem d_58_35 : decode prog_6_method_8_code 35 = .ok (.iload 7, 2) := by decide +kernel
theorem d_58_37 : decode prog_6_method_8_code 37 = .ok (.invokevirtual 56, 3) := by decide +kernel
theorem d_58_40 : decode prog_6_method_8_code 40 = .ok (.iload 5, 2) := by decide +kernel
theorem d_58_42 : decode prog_6_method_8_code 42 = .ok (.invokevirtual 60, 3) := by decide +kernel
theorem d_58_45 : decode prog_6_method_8_code 45 = .ok (.iload 5, 2) := by decide +kernel
theorem d_58_47 : decode prog_6_method_8_code 47 = .ok (.iload 4, 2) := by decide +kernel
theorem d_58_49 : decode prog_6_method_8_code 49 = .ok (.iadd, 1) := by decide +kernel
theorem d_58_50 : decode prog_6_method_8_code 50 = .ok (.istore 5, 2) := by decide +kernel
theorem d_58_52 : decode prog_6_method_8_code 52 = .ok (.iinc 7 1, 3) := by decide +kernel
theorem d_58_55 : decode prog_6_method_8_code 55 = .ok (.goto (-37), 3) := by decide +kernel
theorem d_58_58 : decode prog_6_method_8_code 58 = .ok (.iinc 6 1, 3) := by decide +kernel
theorem d_58_61 : decode prog_6_method_8_code 61 = .ok (.goto (-55), 3) := by decide +kernel
theorem d_58_64 : decode prog_6_method_8_code 64 = .ok (.return_, 1) := by decide +kernel
theorem d_59_0 : decode prog_4_method_4_code 0 = .ok (.aload_n 0, 1) := by decide +kernel
theorem d_59_1 : decode prog_4_method_4_code 1 = .ok (.getfield 7, 3) := by decide +kernel
theorem d_59_4 : decode prog_4_method_4_code 4 = .ok (.iload_n 1, 1) := by decide +kernel
theorem d_59_5 : decode prog_4_method_4_code 5 = .ok (.aload_n 0, 1) := by decide +kernel
theorem d_59_6 : decode prog_4_method_4_code 6 = .ok (.getfield 16, 3) := by decide +kernel
theorem d_59_9 : decode prog_4_method_4_code 9 = .ok (.imul, 1) := by decide +kernel
theorem d_59_10 : decode prog_4_method_4_code 10 = .ok (.iadd, 1) := by decide +kernel
theorem d_59_11 : decode prog_4_method_4_code 11 = .ok (.ireturn, 1) := by decide +kernel
theorem d_60_0 : decode prog_1_method_13_code 0 = .ok (.aload_n 0, 1) := by decide +kernel
theorem d_60_1 : decode prog_1_method_13_code 1 = .ok (.getfield 19, 3) := by decide +kernel
theorem d_60_4 : decode prog_1_method_13_code 4 = .ok (.ifCond .eq 7, 3) := by decide +kernel
theorem d_60_7 : decode prog_1_method_13_code 7 = .ok (.ldc2_w 108, 3) := by decide +kernel
theorem d_60_10 : decode prog_1_method_13_code 10 = .ok (.lreturn, 1) := by decide +kernel
theorem d_60_11 : decode prog_1_method_13_code 11 = .ok (.aload_n 0, 1) := by decide +kernel
theorem d_60_12 : decode prog_1_method_13_code 12 = .ok (.getfield 10, 3) := by decide +kernel
theorem d_60_15 : decode prog_1_method_13_code 15 = .ok (.iload_n 1, 1) := by decide +kernel
theorem d_60_16 : decode prog_1_method_13_code 16 = .ok (.invokevirtual 83, 3) := by decide +kernel
theorem d_60_19 : decode prog_1_method_13_code 19 = .ok (.astore_n 3, 1) := by decide +kernel
theorem d_60_20 : decode prog_1_method_13_code 20 = .ok (.aload_n 3, 1) := by decide +kernel
theorem d_60_21 : decode prog_1_method_13_code 21 = .ok (.ifnonnull 7, 3) := by decide +kernel
theorem d_60_24 : decode prog_1_method_13_code 24 = .ok (.ldc2_w 108, 3) := by decide +kernel
theorem d_60_27 : decode prog_1_method_13_code 27 = .ok (.lreturn, 1) := by decide +kernel
theorem d_60_28 : decode prog_1_method_13_code 28 = .ok (.aload_n 0, 1) := by decide +kernel
theorem d_60_29 : decode prog_1_method_13_code 29 = .ok (.aload_n 3, 1) := by decide +kernel
theorem d_60_30 : decode prog_1_method_13_code 30 = .ok (.invokevirtual 120, 3) := by decide +kernel
theorem d_60_33 : decode prog_1_method_13_code 33 = .ok (.astore 4, 2) := by decide +kernel
theorem d_60_35 : decode prog_1_method_13_code 35 = .ok (.aload_n 0, 1) := by decide +kernel
theorem d_60_36 : decode prog_1_method_13_code 36 = .ok (.aload_n 3, 1) := by decide +kernel
theorem d_60_37 : decode prog_1_method_13_code 37 = .ok (.invokevirtual 124, 3) := by decide +kernel
theorem d_60_40 : decode prog_1_method_13_code 40 = .ok (.astore 5, 2) := by decide +kernel
theorem d_60_42 : decode prog_1_method_13_code 42 = .ok (.aload_n 0, 1) := by decide +kernel
theorem d_60_43 : decode prog_1_method_13_code 43 = .ok (.getfield 10, 3) := by decide +kernel
theorem d_60_46 : decode prog_1_method_13_code 46 = .ok (.aload_n 3, 1) := by decide +kernel
theorem d_60_47 : decode prog_1_method_13_code 47 = .ok (.aload 4, 2) := by decide +kernel
theorem d_60_49 : decode prog_1_method_13_code 49 = .ok (.invokevirtual 127, 3) := by decide +kernel
theorem d_60_52 : decode prog_1_method_13_code 52 = .ok (.aload 5, 2) := by decide +kernel
theorem d_60_54 : decode prog_1_method_13_code 54 = .ok (.invokevirtual 127, 3) := by decide +kernel
theorem d_60_57 : decode prog_1_method_13_code 57 = .ok (.invokevirtual 110, 3) := by decide +kernel
theorem d_60_60 : decode prog_1_method_13_code 60 = .ok (.ifCond .ne 7, 3) := by decide +kernel
theorem d_60_63 : decode prog_1_method_13_code 63 = .ok (.ldc2_w 108, 3) := by decide +kernel
theorem d_60_66 : decode prog_1_method_13_code 66 = .ok (.lreturn, 1) := by decide +kernel
theorem d_60_67 : decode prog_1_method_13_code 67 = .ok (.iload_n 2, 1) := by decide +kernel
theorem d_60_68 : decode prog_1_method_13_code 68 = .ok (.ifCond .lt 18, 3) := by decide +kernel
theorem d_60_71 : decode prog_1_method_13_code 71 = .ok (.iload_n 2, 1) := by decide +kernel
theorem d_60_72 : decode prog_1_method_13_code 72 = .ok (.aload 4, 2) := by decide +kernel
theorem d_60_74 : decode prog_1_method_13_code 74 = .ok (.getfield 131, 3) := by decide +kernel
theorem d_60_77 : decode prog_1_method_13_code 77 = .ok (.aload 5, 2) := by decide +kernel
theorem d_60_79 : decode prog_1_method_13_code 79 = .ok (.getfield 131, 3) := by decide +kernel
theorem d_60_82 : decode prog_1_method_13_code 82 = .ok (.imul, 1) := by decide +kernel
theorem d_60_83 : decode prog_1_method_13_code 83 = .ok (.if_icmp .lt 7, 3) := by decide +kernel
theorem d_60_86 : decode prog_1_method_13_code 86 = .ok (.ldc2_w 108, 3) := by decide +kernel
theorem d_60_89 : decode prog_1_method_13_code 89 = .ok (.lreturn, 1) := by decide +kernel
theorem d_60_90 : decode prog_1_method_13_code 90 = .ok (.aload_n 3, 1) := by decide +kernel
theorem d_60_91 : decode prog_1_method_13_code 91 = .ok (.aload 4, 2) := by decide +kernel
theorem d_60_93 : decode prog_1_method_13_code 93 = .ok (.iload_n 2, 1) := by decide +kernel
theorem d_60_94 : decode prog_1_method_13_code 94 = .ok (.aload 5, 2) := by decide +kernel
theorem d_60_96 : decode prog_1_method_13_code 96 = .ok (.getfield 131, 3) := by decide +kernel
theorem d_60_99 : decode prog_1_method_13_code 99 = .ok (.idiv, 1) := by decide +kernel
theorem d_60_100 : decode prog_1_method_13_code 100 = .ok (.invokevirtual 142, 3) := by decide +kernel
theorem d_60_103 : decode prog_1_method_13_code 103 = .ok (.aload 5, 2) := by decide +kernel
theorem d_60_105 : decode prog_1_method_13_code 105 = .ok (.iload_n 2, 1) := by decide +kernel
theorem d_60_106 : decode prog_1_method_13_code 106 = .ok (.aload 5, 2) := by decide +kernel
theorem d_60_108 : decode prog_1_method_13_code 108 = .ok (.getfield 131, 3) := by decide +kernel
theorem d_60_111 : decode prog_1_method_13_code 111 = .ok (.irem, 1) := by decide +kernel
theorem d_60_112 : decode prog_1_method_13_code 112 = .ok (.invokevirtual 142, 3) := by decide +kernel
theorem d_60_115 : decode prog_1_method_13_code 115 = .ok (.invokevirtual 114, 3) := by decide +kernel
theorem d_60_118 : decode prog_1_method_13_code 118 = .ok (.i2l, 1) := by decide +kernel
theorem d_60_119 : decode prog_1_method_13_code 119 = .ok (.lreturn, 1) := by decide +kernel
theorem d_61_0 : decode prog_1_method_14_code 0 = .ok (.aload_n 0, 1) := by decide +kernel
theorem d_61_1 : decode prog_1_method_14_code 1 = .ok (.getfield 10, 3) := by decide +kernel
theorem d_61_4 : decode prog_1_method_14_code 4 = .ok (.getfield 73, 3) := by decide +kernel
theorem d_61_7 : decode prog_1_method_14_code 7 = .ok (.ireturn, 1) := by decide +kernel
theorem d_62_0 : decode prog_1_method_15_code 0 = .ok (.aload_n 0, 1) := by decide +kernel
theorem d_62_1 : decode prog_1_method_15_code 1 = .ok (.getfield 19, 3) := by decide +kernel
theorem d_62_4 : decode prog_1_method_15_code 4 = .ok (.ifCond .eq 7, 3) := by decide +kernel
theorem d_62_7 : decode prog_1_method_15_code 7 = .ok (.iconst (-1), 1) := by decide +kernel
theorem d_62_8 : decode prog_1_method_15_code 8 = .ok (.goto 19, 3) := by decide +kernel
theorem d_62_11 : decode prog_1_method_15_code 11 = .ok (.aload_n 0, 1) := by decide +kernel
theorem d_62_12 : decode prog_1_method_15_code 12 = .ok (.getfield 10, 3) := by decide +kernel
theorem d_62_15 : decode prog_1_method_15_code 15 = .ok (.aload_n 0, 1) := by decide +kernel
theorem d_62_16 : decode prog_1_method_15_code 16 = .ok (.getfield 10, 3) := by decide +kernel
theorem d_62_19 : decode prog_1_method_15_code 19 = .ok (.getfield 73, 3) := by decide +kernel
theorem d_62_22 : decode prog_1_method_15_code 22 = .ok (.i2l, 1) := by decide +kernel
theorem d_62_23 : decode prog_1_method_15_code 23 = .ok (.invokevirtual 77, 3) := by decide +kernel
theorem d_62_26 : decode prog_1_method_15_code 26 = .ok (.l2i, 1) := by decide +kernel
theorem d_62_27 : decode prog_1_method_15_code 27 = .ok (.ireturn, 1) := by decide +kernel
theorem d_63_0 : decode prog_1_method_16_code 0 = .ok (.aload_n 0, 1) := by decide +kernel
theorem d_63_1 : decode prog_1_method_16_code 1 = .ok (.getfield 19, 3) := by decide +kernel
theorem d_63_4 : decode prog_1_method_16_code 4 = .ok (.ifCond .eq 5, 3) := by decide +kernel
theorem d_63_7 : decode prog_1_method_16_code 7 = .ok (.iconst (-1), 1) := by decide +kernel
theorem d_63_8 : decode prog_1_method_16_code 8 = .ok (.ireturn, 1) := by decide +kernel
theorem d_63_9 : decode prog_1_method_16_code 9 = .ok (.aload_n 0, 1) := by decide +kernel
theorem d_63_10 : decode prog_1_method_16_code 10 = .ok (.getfield 10, 3) := by decide +kernel
theorem d_63_13 : decode prog_1_method_16_code 13 = .ok (.iload_n 1, 1) := by decide +kernel
theorem d_63_14 : decode prog_1_method_16_code 14 = .ok (.invokevirtual 83, 3) := by decide +kernel
theorem d_63_17 : decode prog_1_method_16_code 17 = .ok (.ifnonnull 8, 3) := by decide +kernel
theorem d_63_20 : decode prog_1_method_16_code 20 = .ok (.bipush (-3), 2) := by decide +kernel
theorem d_63_22 : decode prog_1_method_16_code 22 = .ok (.goto 11, 3) := by decide +kernel
theorem d_63_25 : decode prog_1_method_16_code 25 = .ok (.aload_n 0, 1) := by decide +kernel
theorem d_63_26 : decode prog_1_method_16_code 26 = .ok (.getfield 10, 3) := by decide +kernel
theorem d_63_29 : decode prog_1_method_16_code 29 = .ok (.iload_n 1, 1) := by decide +kernel
theorem d_63_30 : decode prog_1_method_16_code 30 = .ok (.invokevirtual 145, 3) := by decide +kernel
theorem d_63_33 : decode prog_1_method_16_code 33 = .ok (.ireturn, 1) := by decide +kernel
theorem d_64_0 : decode prog_5_method_21_code 0 = .ok (.aload_n 0, 1) := by decide +kernel
theorem d_64_1 : decode prog_5_method_21_code 1 = .ok (.getfield 33, 3) := by decide +kernel
theorem d_64_4 : decode prog_5_method_21_code 4 = .ok (.iload_n 1, 1) := by decide +kernel
theorem d_64_5 : decode prog_5_method_21_code 5 = .ok (.aaload, 1) := by decide +kernel
theorem d_64_6 : decode prog_5_method_21_code 6 = .ok (.getfield 94, 3) := by decide +kernel
theorem d_64_9 : decode prog_5_method_21_code 9 = .ok (.ifCond .ne 15, 3) := by decide +kernel
theorem d_64_12 : decode prog_5_method_21_code 12 = .ok (.aload_n 0, 1) := by decide +kernel
theorem d_64_13 : decode prog_5_method_21_code 13 = .ok (.invokevirtual 122, 3) := by decide +kernel
theorem d_64_16 : decode prog_5_method_21_code 16 = .ok (.aload_n 0, 1) := by decide +kernel
theorem d_64_17 : decode prog_5_method_21_code 17 = .ok (.iload_n 1, 1) := by decide +kernel
theorem d_64_18 : decode prog_5_method_21_code 18 = .ok (.iconst 0, 1) := by decide +kernel
theorem d_64_19 : decode prog_5_method_21_code 19 = .ok (.invokevirtual 115, 3) := by decide +kernel
theorem d_64_22 : decode prog_5_method_21_code 22 = .ok (.iadd, 1) := by decide +kernel
theorem d_64_23 : decode prog_5_method_21_code 23 = .ok (.ireturn, 1) := by decide +kernel
theorem d_64_24 : decode prog_5_method_21_code 24 = .ok (.aload_n 0, 1) := by decide +kernel
theorem d_64_25 : decode prog_5_method_21_code 25 = .ok (.invokevirtual 122, 3) := by decide +kernel
theorem d_64_28 : decode prog_5_method_21_code 28 = .ok (.aload_n 0, 1) := by decide +kernel
theorem d_64_29 : decode prog_5_method_21_code 29 = .ok (.aload_n 0, 1) := by decide +kernel
theorem d_64_30 : decode prog_5_method_21_code 30 = .ok (.getfield 25, 3) := by decide +kernel
theorem d_64_33 : decode prog_5_method_21_code 33 = .ok (.iconst 0, 1) := by decide +kernel
theorem d_64_34 : decode prog_5_method_21_code 34 = .ok (.invokevirtual 115, 3) := by decide +kernel
theorem d_64_37 : decode prog_5_method_21_code 37 = .ok (.iadd, 1) := by decide +kernel
theorem d_64_38 : decode prog_5_method_21_code 38 = .ok (.aload_n 0, 1) := by decide +kernel
theorem d_64_39 : decode prog_5_method_21_code 39 = .ok (.iload_n 1, 1) := by decide +kernel
theorem d_64_40 : decode prog_5_method_21_code 40 = .ok (.iconst 1, 1) := by decide +kernel
theorem d_64_41 : decode prog_5_method_21_code 41 = .ok (.invokevirtual 115, 3) := by decide +kernel
theorem d_64_44 : decode prog_5_method_21_code 44 = .ok (.iadd, 1) := by decide +kernel
theorem d_64_45 : decode prog_5_method_21_code 45 = .ok (.ireturn, 1) := by decide +kernel
theorem d_65_0 : decode prog_1_method_17_code 0 = .ok (.aload_n 0, 1) := by decide +kernel
theorem d_65_1 : decode prog_1_method_17_code 1 = .ok (.getfield 19, 3) := by decide +kernel
theorem d_65_4 : decode prog_1_method_17_code 4 = .ok (.ifCond .ne 13, 3) := by decide +kernel
theorem d_65_7 : decode prog_1_method_17_code 7 = .ok (.iload_n 1, 1) := by decide +kernel
theorem d_65_8 : decode prog_1_method_17_code 8 = .ok (.ifCond .lt 9, 3) := by decide +kernel
theorem d_65_11 : decode prog_1_method_17_code 11 = .ok (.iload_n 1, 1) := by decide +kernel
theorem d_65_12 : decode prog_1_method_17_code 12 = .ok (.bipush 100, 2) := by decide +kernel
theorem d_65_14 : decode prog_1_method_17_code 14 = .ok (.if_icmp .lt 5, 3) := by decide +kernel
theorem d_65_17 : decode prog_1_method_17_code 17 = .ok (.lconst 0, 1) := by decide +kernel
theorem d_65_18 : decode prog_1_method_17_code 18 = .ok (.lreturn, 1) := by decide +kernel
theorem d_65_19 : decode prog_1_method_17_code 19 = .ok (.aload_n 0, 1) := by decide +kernel
theorem d_65_20 : decode prog_1_method_17_code 20 = .ok (.getfield 10, 3) := by decide +kernel
theorem d_65_23 : decode prog_1_method_17_code 23 = .ok (.aload_n 0, 1) := by decide +kernel
theorem d_65_24 : decode prog_1_method_17_code 24 = .ok (.getfield 43, 3) := by decide +kernel
theorem d_65_27 : decode prog_1_method_17_code 27 = .ok (.invokevirtual 148, 3) := by decide +kernel
theorem d_65_30 : decode prog_1_method_17_code 30 = .ok (.lconst 0, 1) := by decide +kernel
theorem d_65_31 : decode prog_1_method_17_code 31 = .ok (.lstore_n 2, 1) := by decide +kernel
theorem d_65_32 : decode prog_1_method_17_code 32 = .ok (.iconst 0, 1) := by decide +kernel
theorem d_65_33 : decode prog_1_method_17_code 33 = .ok (.istore 4, 2) := by decide +kernel
theorem d_65_35 : decode prog_1_method_17_code 35 = .ok (.iload 4, 2) := by decide +kernel
theorem d_65_37 : decode prog_1_method_17_code 37 = .ok (.bipush 8, 2) := by decide +kernel
theorem d_65_39 : decode prog_1_method_17_code 39 = .ok (.if_icmp .ge 30, 3) := by decide +kernel
theorem d_65_42 : decode prog_1_method_17_code 42 = .ok (.lload_n 2, 1) := by decide +kernel
theorem d_65_43 : decode prog_1_method_17_code 43 = .ok (.bipush 8, 2) := by decide +kernel
theorem d_65_45 : decode prog_1_method_17_code 45 = .ok (.lshl, 1) := by decide +kernel
theorem d_65_46 : decode prog_1_method_17_code 46 = .ok (.aload_n 0, 1) := by decide +kernel
theorem d_65_47 : decode prog_1_method_17_code 47 = .ok (.getfield 43, 3) := by decide +kernel
theorem d_65_50 : decode prog_1_method_17_code 50 = .ok (.bipush 8, 2) := by decide +kernel
theorem d_65_52 : decode prog_1_method_17_code 52 = .ok (.iload_n 1, 1) := by decide +kernel
theorem d_65_53 : decode prog_1_method_17_code 53 = .ok (.imul, 1) := by decide +kernel
theorem d_65_54 : decode prog_1_method_17_code 54 = .ok (.iload 4, 2) := by decide +kernel
theorem d_65_56 : decode prog_1_method_17_code 56 = .ok (.iadd, 1) := by decide +kernel
theorem d_65_57 : decode prog_1_method_17_code 57 = .ok (.invokevirtual 152, 3) := by decide +kernel
theorem d_65_60 : decode prog_1_method_17_code 60 = .ok (.i2l, 1) := by decide +kernel
theorem d_65_61 : decode prog_1_method_17_code 61 = .ok (.lor, 1) := by decide +kernel
theorem d_65_62 : decode prog_1_method_17_code 62 = .ok (.lstore_n 2, 1) := by decide +kernel
theorem d_65_63 : decode prog_1_method_17_code 63 = .ok (.iinc 4 1, 3) := by decide +kernel
theorem d_65_66 : decode prog_1_method_17_code 66 = .ok (.goto (-31), 3) := by decide +kernel
theorem d_65_69 : decode prog_1_method_17_code 69 = .ok (.lload_n 2, 1) := by decide +kernel
theorem d_65_70 : decode prog_1_method_17_code 70 = .ok (.lreturn, 1) := by decide +kernel
theorem d_66_0 : decode prog_5_method_22_code 0 = .ok (.aload_n 1, 1) := by decide +kernel
theorem d_66_1 : decode prog_5_method_22_code 1 = .ok (.invokevirtual 126, 3) := by decide +kernel
theorem d_66_4 : decode prog_5_method_22_code 4 = .ok (.aload_n 1, 1) := by decide +kernel
theorem d_66_5 : decode prog_5_method_22_code 5 = .ok (.ldc 129, 2) := by decide +kernel
theorem d_66_7 : decode prog_5_method_22_code 7 = .ok (.invokevirtual 130, 3) := by decide +kernel
theorem d_66_10 : decode prog_5_method_22_code 10 = .ok (.aload_n 1, 1) := by decide +kernel
theorem d_66_11 : decode prog_5_method_22_code 11 = .ok (.aload_n 0, 1) := by decide +kernel
theorem d_66_12 : decode prog_5_method_22_code 12 = .ok (.getfield 9, 3) := by decide +kernel
theorem d_66_15 : decode prog_5_method_22_code 15 = .ok (.invokevirtual 130, 3) := by decide +kernel
theorem d_66_18 : decode prog_5_method_22_code 18 = .ok (.aload_n 1, 1) := by decide +kernel
theorem d_66_19 : decode prog_5_method_22_code 19 = .ok (.bipush 10, 2) := by decide +kernel
theorem d_66_21 : decode prog_5_method_22_code 21 = .ok (.aload_n 0, 1) := by decide +kernel
theorem d_66_22 : decode prog_5_method_22_code 22 = .ok (.getfield 15, 3) := by decide +kernel
theorem d_66_25 : decode prog_5_method_22_code 25 = .ok (.invokevirtual 133, 3) := by decide +kernel
theorem d_66_28 : decode prog_5_method_22_code 28 = .ok (.iconst 0, 1) := by decide +kernel
theorem d_66_29 : decode prog_5_method_22_code 29 = .ok (.istore_n 2, 1) := by decide +kernel
theorem d_66_30 : decode prog_5_method_22_code 30 = .ok (.iload_n 2, 1) := by decide +kernel
theorem d_66_31 : decode prog_5_method_22_code 31 = .ok (.aload_n 0, 1) := by decide +kernel
theorem d_66_32 : decode prog_5_method_22_code 32 = .ok (.getfield 15, 3) := by decide +kernel
theorem d_66_35 : decode prog_5_method_22_code 35 = .ok (.if_icmp .ge 29, 3) := by decide +kernel
theorem d_66_38 : decode prog_5_method_22_code 38 = .ok (.aload_n 1, 1) := by decide +kernel
theorem d_66_39 : decode prog_5_method_22_code 39 = .ok (.aload_n 0, 1) := by decide +kernel
theorem d_66_40 : decode prog_5_method_22_code 40 = .ok (.getfield 18, 3) := by decide +kernel
theorem d_66_43 : decode prog_5_method_22_code 43 = .ok (.iload_n 2, 1) := by decide +kernel
theorem d_66_44 : decode prog_5_method_22_code 44 = .ok (.iaload, 1) := by decide +kernel
theorem d_66_45 : decode prog_5_method_22_code 45 = .ok (.invokevirtual 137, 3) := by decide +kernel
theorem d_66_48 : decode prog_5_method_22_code 48 = .ok (.aload_n 1, 1) := by decide +kernel
theorem d_66_49 : decode prog_5_method_22_code 49 = .ok (.aload_n 0, 1) := by decide +kernel
theorem d_66_50 : decode prog_5_method_22_code 50 = .ok (.getfield 22, 3) := by decide +kernel
theorem d_66_53 : decode prog_5_method_22_code 53 = .ok (.iload_n 2, 1) := by decide +kernel
theorem d_66_54 : decode prog_5_method_22_code 54 = .ok (.iaload, 1) := by decide +kernel
theorem d_66_55 : decode prog_5_method_22_code 55 = .ok (.invokevirtual 130, 3) := by decide +kernel
theorem d_66_58 : decode prog_5_method_22_code 58 = .ok (.iinc 2 1, 3) := by decide +kernel
theorem d_66_61 : decode prog_5_method_22_code 61 = .ok (.goto (-31), 3) := by decide +kernel
theorem d_66_64 : decode prog_5_method_22_code 64 = .ok (.aload_n 0, 1) := by decide +kernel
theorem d_66_65 : decode prog_5_method_22_code 65 = .ok (.getfield 41, 3) := by decide +kernel
theorem d_66_68 : decode prog_5_method_22_code 68 = .ok (.aload_n 1, 1) := by decide +kernel
theorem d_66_69 : decode prog_5_method_22_code 69 = .ok (.invokevirtual 140, 3) := by decide +kernel
theorem d_66_72 : decode prog_5_method_22_code 72 = .ok (.aload_n 1, 1) := by decide +kernel
theorem d_66_73 : decode prog_5_method_22_code 73 = .ok (.bipush 11, 2) := by decide +kernel
theorem d_66_75 : decode prog_5_method_22_code 75 = .ok (.aload_n 0, 1) := by decide +kernel
theorem d_66_76 : decode prog_5_method_22_code 76 = .ok (.getfield 25, 3) := by decide +kernel
theorem d_66_79 : decode prog_5_method_22_code 79 = .ok (.invokevirtual 133, 3) := by decide +kernel
theorem d_66_82 : decode prog_5_method_22_code 82 = .ok (.iconst 0, 1) := by decide +kernel
theorem d_66_83 : decode prog_5_method_22_code 83 = .ok (.istore_n 2, 1) := by decide +kernel
theorem d_66_84 : decode prog_5_method_22_code 84 = .ok (.iload_n 2, 1) := by decide +kernel
theorem d_66_85 : decode prog_5_method_22_code 85 = .ok (.aload_n 0, 1) := by decide +kernel
theorem d_66_86 : decode prog_5_method_22_code 86 = .ok (.getfield 25, 3) := by decide +kernel
theorem d_66_89 : decode prog_5_method_22_code 89 = .ok (.if_icmp .ge 20, 3) := by decide +kernel
theorem d_66_92 : decode prog_5_method_22_code 92 = .ok (.aload_n 0, 1) := by decide +kernel
theorem d_66_93 : decode prog_5_method_22_code 93 = .ok (.aload_n 1, 1) := by decide +kernel
theorem d_66_94 : decode prog_5_method_22_code 94 = .ok (.iload_n 2, 1) := by decide +kernel
theorem d_66_95 : decode prog_5_method_22_code 95 = .ok (.aload_n 0, 1) := by decide +kernel
theorem d_66_96 : decode prog_5_method_22_code 96 = .ok (.iload_n 2, 1) := by decide +kernel
theorem d_66_97 : decode prog_5_method_22_code 97 = .ok (.invokevirtual 144, 3) := by decide +kernel
theorem d_66_100 : decode prog_5_method_22_code 100 = .ok (.invokevirtual 147, 3) := by decide +kernel
theorem d_66_103 : decode prog_5_method_22_code 103 = .ok (.iinc 2 1, 3) := by decide +kernel
theorem d_66_106 : decode prog_5_method_22_code 106 = .ok (.goto (-22), 3) := by decide +kernel
theorem d_66_109 : decode prog_5_method_22_code 109 = .ok (.aload_n 0, 1) := by decide +kernel
theorem d_66_110 : decode prog_5_method_22_code 110 = .ok (.aload_n 1, 1) := by decide +kernel
theorem d_66_111 : decode prog_5_method_22_code 111 = .ok (.invokevirtual 151, 3) := by decide +kernel
theorem d_66_114 : decode prog_5_method_22_code 114 = .ok (.return_, 1) := by decide +kernel
theorem d_67_0 : decode prog_3_method_2_code 0 = .ok (.aload_n 0, 1) := by decide +kernel
theorem d_67_1 : decode prog_3_method_2_code 1 = .ok (.iconst 0, 1) := by decide +kernel
theorem d_67_2 : decode prog_3_method_2_code 2 = .ok (.putfield 15, 3) := by decide +kernel
theorem d_67_5 : decode prog_3_method_2_code 5 = .ok (.aload_n 0, 1) := by decide +kernel
theorem d_67_6 : decode prog_3_method_2_code 6 = .ok (.iconst 0, 1) := by decide +kernel
theorem d_67_7 : decode prog_3_method_2_code 7 = .ok (.putfield 19, 3) := by decide +kernel
theorem d_67_10 : decode prog_3_method_2_code 10 = .ok (.return_, 1) := by decide +kernel
theorem d_68_0 : decode prog_3_method_5_code 0 = .ok (.aload_n 0, 1) := by decide +kernel
theorem d_68_1 : decode prog_3_method_5_code 1 = .ok (.iload_n 1, 1) := by decide +kernel
theorem d_68_2 : decode prog_3_method_5_code 2 = .ok (.iconst 4, 1) := by decide +kernel
theorem d_68_3 : decode prog_3_method_5_code 3 = .ok (.invokevirtual 26, 3) := by decide +kernel
theorem d_68_6 : decode prog_3_method_5_code 6 = .ok (.return_, 1) := by decide +kernel
theorem d_69_0 : decode prog_3_method_4_code 0 = .ok (.iload_n 2, 1) := by decide +kernel
theorem d_69_1 : decode prog_3_method_4_code 1 = .ok (.iconst 1, 1) := by decide +kernel
theorem d_69_2 : decode prog_3_method_4_code 2 = .ok (.isub, 1) := by decide +kernel
theorem d_69_3 : decode prog_3_method_4_code 3 = .ok (.istore_n 3, 1) := by decide +kernel
theorem d_69_4 : decode prog_3_method_4_code 4 = .ok (.iload_n 3, 1) := by decide +kernel
theorem d_69_5 : decode prog_3_method_4_code 5 = .ok (.ifCond .lt 19, 3) := by decide +kernel
theorem d_69_8 : decode prog_3_method_4_code 8 = .ok (.aload_n 0, 1) := by decide +kernel
theorem d_69_9 : decode prog_3_method_4_code 9 = .ok (.iload_n 1, 1) := by decide +kernel
theorem d_69_10 : decode prog_3_method_4_code 10 = .ok (.bipush 8, 2) := by decide +kernel
theorem d_69_12 : decode prog_3_method_4_code 12 = .ok (.iload_n 3, 1) := by decide +kernel
theorem d_69_13 : decode prog_3_method_4_code 13 = .ok (.imul, 1) := by decide +kernel
theorem d_69_14 : decode prog_3_method_4_code 14 = .ok (.ishr, 1) := by decide +kernel
theorem d_69_15 : decode prog_3_method_4_code 15 = .ok (.invokevirtual 22, 3) := by decide +kernel
theorem d_69_18 : decode prog_3_method_4_code 18 = .ok (.iinc 3 (-1), 3) := by decide +kernel
theorem d_69_21 : decode prog_3_method_4_code 21 = .ok (.goto (-17), 3) := by decide +kernel
theorem d_69_24 : decode prog_3_method_4_code 24 = .ok (.return_, 1) := by decide +kernel
theorem d_70_0 : decode prog_3_method_3_code 0 = .ok (.aload_n 0, 1) := by decide +kernel
theorem d_70_1 : decode prog_3_method_3_code 1 = .ok (.getfield 15, 3) := by decide +kernel
theorem d_70_4 : decode prog_3_method_3_code 4 = .ok (.aload_n 0, 1) := by decide +kernel
theorem d_70_5 : decode prog_3_method_3_code 5 = .ok (.getfield 9, 3) := by decide +kernel
theorem d_70_8 : decode prog_3_method_3_code 8 = .ok (.arraylength, 1) := by decide +kernel
theorem d_70_9 : decode prog_3_method_3_code 9 = .ok (.if_icmp .ge 24, 3) := by decide +kernel
theorem d_70_12 : decode prog_3_method_3_code 12 = .ok (.aload_n 0, 1) := by decide +kernel
theorem d_70_13 : decode prog_3_method_3_code 13 = .ok (.getfield 9, 3) := by decide +kernel
theorem d_70_16 : decode prog_3_method_3_code 16 = .ok (.aload_n 0, 1) := by decide +kernel
theorem d_70_17 : decode prog_3_method_3_code 17 = .ok (.getfield 15, 3) := by decide +kernel
theorem d_70_20 : decode prog_3_method_3_code 20 = .ok (.iload_n 1, 1) := by decide +kernel
theorem d_70_21 : decode prog_3_method_3_code 21 = .ok (.i2b, 1) := by decide +kernel
theorem d_70_22 : decode prog_3_method_3_code 22 = .ok (.bastore, 1) := by decide +kernel
theorem d_70_23 : decode prog_3_method_3_code 23 = .ok (.aload_n 0, 1) := by decide +kernel
theorem d_70_24 : decode prog_3_method_3_code 24 = .ok (.dup, 1) := by decide +kernel
theorem d_70_25 : decode prog_3_method_3_code 25 = .ok (.getfield 15, 3) := by decide +kernel
theorem d_70_28 : decode prog_3_method_3_code 28 = .ok (.iconst 1, 1) := by decide +kernel
theorem d_70_29 : decode prog_3_method_3_code 29 = .ok (.iadd, 1) := by decide +kernel
theorem d_70_30 : decode prog_3_method_3_code 30 = .ok (.putfield 15, 3) := by decide +kernel
theorem d_70_33 : decode prog_3_method_3_code 33 = .ok (.return_, 1) := by decide +kernel
theorem d_71_0 : decode prog_3_method_7_code 0 = .ok (.aload_n 0, 1) := by decide +kernel
theorem d_71_1 : decode prog_3_method_7_code 1 = .ok (.iload_n 2, 1) := by decide +kernel
theorem d_71_2 : decode prog_3_method_7_code 2 = .ok (.ifCond .ne 7, 3) := by decide +kernel
theorem d_71_5 : decode prog_3_method_7_code 5 = .ok (.iconst 0, 1) := by decide +kernel
theorem d_71_6 : decode prog_3_method_7_code 6 = .ok (.goto 4, 3) := by decide +kernel
theorem d_71_9 : decode prog_3_method_7_code 9 = .ok (.iload_n 1, 1) := by decide +kernel
theorem d_71_10 : decode prog_3_method_7_code 10 = .ok (.iconst 4, 1) := by decide +kernel
theorem d_71_11 : decode prog_3_method_7_code 11 = .ok (.invokevirtual 26, 3) := by decide +kernel
theorem d_71_14 : decode prog_3_method_7_code 14 = .ok (.aload_n 0, 1) := by decide +kernel
theorem d_71_15 : decode prog_3_method_7_code 15 = .ok (.iload_n 2, 1) := by decide +kernel
theorem d_71_16 : decode prog_3_method_7_code 16 = .ok (.iconst 4, 1) := by decide +kernel
theorem d_71_17 : decode prog_3_method_7_code 17 = .ok (.invokevirtual 26, 3) := by decide +kernel
theorem d_71_20 : decode prog_3_method_7_code 20 = .ok (.return_, 1) := by decide +kernel
theorem d_72_0 : decode prog_3_method_6_code 0 = .ok (.aload_n 0, 1) := by decide +kernel
theorem d_72_1 : decode prog_3_method_6_code 1 = .ok (.iconst 1, 1) := by decide +kernel
theorem d_72_2 : decode prog_3_method_6_code 2 = .ok (.iconst 4, 1) := by decide +kernel
theorem d_72_3 : decode prog_3_method_6_code 3 = .ok (.invokevirtual 26, 3) := by decide +kernel
theorem d_72_6 : decode prog_3_method_6_code 6 = .ok (.aload_n 0, 1) := by decide +kernel
theorem d_72_7 : decode prog_3_method_6_code 7 = .ok (.iload_n 1, 1) := by decide +kernel
theorem d_72_8 : decode prog_3_method_6_code 8 = .ok (.bipush 24, 2) := by decide +kernel
theorem d_72_10 : decode prog_3_method_6_code 10 = .ok (.ishl, 1) := by decide +kernel
theorem d_72_11 : decode prog_3_method_6_code 11 = .ok (.iconst 4, 1) := by decide +kernel
theorem d_72_12 : decode prog_3_method_6_code 12 = .ok (.invokevirtual 26, 3) := by decide +kernel
theorem d_72_15 : decode prog_3_method_6_code 15 = .ok (.return_, 1) := by decide +kernel
theorem d_73_0 : decode prog_2_method_6_code 0 = .ok (.aload_n 1, 1) := by decide +kernel
theorem d_73_1 : decode prog_2_method_6_code 1 = .ok (.bipush 12, 2) := by decide +kernel
theorem d_73_3 : decode prog_2_method_6_code 3 = .ok (.aload_n 0, 1) := by decide +kernel
theorem d_73_4 : decode prog_2_method_6_code 4 = .ok (.getfield 9, 3) := by decide +kernel
theorem d_73_7 : decode prog_2_method_6_code 7 = .ok (.invokevirtual 50, 3) := by decide +kernel
theorem d_73_10 : decode prog_2_method_6_code 10 = .ok (.iconst 0, 1) := by decide +kernel
theorem d_73_11 : decode prog_2_method_6_code 11 = .ok (.istore_n 2, 1) := by decide +kernel
theorem d_73_12 : decode prog_2_method_6_code 12 = .ok (.iload_n 2, 1) := by decide +kernel
theorem d_73_13 : decode prog_2_method_6_code 13 = .ok (.aload_n 0, 1) := by decide +kernel
theorem d_73_14 : decode prog_2_method_6_code 14 = .ok (.getfield 9, 3) := by decide +kernel
theorem d_73_17 : decode prog_2_method_6_code 17 = .ok (.if_icmp .ge 78, 3) := by decide +kernel
theorem d_73_20 : decode prog_2_method_6_code 20 = .ok (.aload_n 1, 1) := by decide +kernel
theorem d_73_21 : decode prog_2_method_6_code 21 = .ok (.aload_n 0, 1) := by decide +kernel
theorem d_73_22 : decode prog_2_method_6_code 22 = .ok (.getfield 15, 3) := by decide +kernel
theorem d_73_25 : decode prog_2_method_6_code 25 = .ok (.iload_n 2, 1) := by decide +kernel
theorem d_73_26 : decode prog_2_method_6_code 26 = .ok (.iaload, 1) := by decide +kernel
theorem d_73_27 : decode prog_2_method_6_code 27 = .ok (.invokevirtual 56, 3) := by decide +kernel
theorem d_73_30 : decode prog_2_method_6_code 30 = .ok (.aload_n 1, 1) := by decide +kernel
theorem d_73_31 : decode prog_2_method_6_code 31 = .ok (.aload_n 0, 1) := by decide +kernel
theorem d_73_32 : decode prog_2_method_6_code 32 = .ok (.getfield 19, 3) := by decide +kernel
theorem d_73_35 : decode prog_2_method_6_code 35 = .ok (.iload_n 2, 1) := by decide +kernel
theorem d_73_36 : decode prog_2_method_6_code 36 = .ok (.iaload, 1) := by decide +kernel
theorem d_73_37 : decode prog_2_method_6_code 37 = .ok (.invokevirtual 60, 3) := by decide +kernel
theorem d_73_40 : decode prog_2_method_6_code 40 = .ok (.aload_n 1, 1) := by decide +kernel
theorem d_73_41 : decode prog_2_method_6_code 41 = .ok (.iconst 2, 1) := by decide +kernel
theorem d_73_42 : decode prog_2_method_6_code 42 = .ok (.invokevirtual 60, 3) := by decide +kernel
theorem d_73_45 : decode prog_2_method_6_code 45 = .ok (.aload_n 1, 1) := by decide +kernel
theorem d_73_46 : decode prog_2_method_6_code 46 = .ok (.aload_n 0, 1) := by decide +kernel
theorem d_73_47 : decode prog_2_method_6_code 47 = .ok (.getfield 22, 3) := by decide +kernel
theorem d_73_50 : decode prog_2_method_6_code 50 = .ok (.iload_n 2, 1) := by decide +kernel
theorem d_73_51 : decode prog_2_method_6_code 51 = .ok (.iaload, 1) := by decide +kernel
theorem d_73_52 : decode prog_2_method_6_code 52 = .ok (.getstatic 43, 3) := by decide +kernel
theorem d_73_55 : decode prog_2_method_6_code 55 = .ok (.aload_n 0, 1) := by decide +kernel
theorem d_73_56 : decode prog_2_method_6_code 56 = .ok (.getfield 19, 3) := by decide +kernel
theorem d_73_59 : decode prog_2_method_6_code 59 = .ok (.iload_n 2, 1) := by decide +kernel
theorem d_73_60 : decode prog_2_method_6_code 60 = .ok (.iaload, 1) := by decide +kernel
theorem d_73_61 : decode prog_2_method_6_code 61 = .ok (.iaload, 1) := by decide +kernel
theorem d_73_62 : decode prog_2_method_6_code 62 = .ok (.invokevirtual 63, 3) := by decide +kernel
theorem d_73_65 : decode prog_2_method_6_code 65 = .ok (.aload_n 1, 1) := by decide +kernel
theorem d_73_66 : decode prog_2_method_6_code 66 = .ok (.aload_n 0, 1) := by decide +kernel
theorem d_73_67 : decode prog_2_method_6_code 67 = .ok (.getfield 25, 3) := by decide +kernel
theorem d_73_70 : decode prog_2_method_6_code 70 = .ok (.iload_n 2, 1) := by decide +kernel
theorem d_73_71 : decode prog_2_method_6_code 71 = .ok (.iaload, 1) := by decide +kernel
theorem d_73_72 : decode prog_2_method_6_code 72 = .ok (.getstatic 43, 3) := by decide +kernel
theorem d_73_75 : decode prog_2_method_6_code 75 = .ok (.aload_n 0, 1) := by decide +kernel
theorem d_73_76 : decode prog_2_method_6_code 76 = .ok (.getfield 19, 3) := by decide +kernel
theorem d_73_79 : decode prog_2_method_6_code 79 = .ok (.iload_n 2, 1) := by decide +kernel
theorem d_73_80 : decode prog_2_method_6_code 80 = .ok (.iaload, 1) := by decide +kernel
theorem d_73_81 : decode prog_2_method_6_code 81 = .ok (.iaload, 1) := by decide +kernel
theorem d_73_82 : decode prog_2_method_6_code 82 = .ok (.invokevirtual 63, 3) := by decide +kernel
theorem d_73_85 : decode prog_2_method_6_code 85 = .ok (.aload_n 1, 1) := by decide +kernel
theorem d_73_86 : decode prog_2_method_6_code 86 = .ok (.invokevirtual 66, 3) := by decide +kernel
theorem d_73_89 : decode prog_2_method_6_code 89 = .ok (.iinc 2 1, 3) := by decide +kernel
theorem d_73_92 : decode prog_2_method_6_code 92 = .ok (.goto (-80), 3) := by decide +kernel
theorem d_73_95 : decode prog_2_method_6_code 95 = .ok (.return_, 1) := by decide +kernel
theorem d_74_0 : decode prog_3_method_8_code 0 = .ok (.aload_n 0, 1) := by decide +kernel
theorem d_74_1 : decode prog_3_method_8_code 1 = .ok (.getfield 15, 3) := by decide +kernel
theorem d_74_4 : decode prog_3_method_8_code 4 = .ok (.invokestatic 30, 3) := by decide +kernel
theorem d_74_7 : decode prog_3_method_8_code 7 = .ok (.aload_n 0, 1) := by decide +kernel
theorem d_74_8 : decode prog_3_method_8_code 8 = .ok (.getfield 15, 3) := by decide +kernel
theorem d_74_11 : decode prog_3_method_8_code 11 = .ok (.isub, 1) := by decide +kernel
theorem d_74_12 : decode prog_3_method_8_code 12 = .ok (.istore_n 1, 1) := by decide +kernel
theorem d_74_13 : decode prog_3_method_8_code 13 = .ok (.iconst 0, 1) := by decide +kernel
theorem d_74_14 : decode prog_3_method_8_code 14 = .ok (.istore_n 2, 1) := by decide +kernel
theorem d_74_15 : decode prog_3_method_8_code 15 = .ok (.iload_n 2, 1) := by decide +kernel
theorem d_74_16 : decode prog_3_method_8_code 16 = .ok (.iload_n 1, 1) := by decide +kernel
theorem d_74_17 : decode prog_3_method_8_code 17 = .ok (.if_icmp .ge 14, 3) := by decide +kernel
theorem d_74_20 : decode prog_3_method_8_code 20 = .ok (.aload_n 0, 1) := by decide +kernel
theorem d_74_21 : decode prog_3_method_8_code 21 = .ok (.iconst 0, 1) := by decide +kernel
theorem d_74_22 : decode prog_3_method_8_code 22 = .ok (.invokevirtual 22, 3) := by decide +kernel
theorem d_74_25 : decode prog_3_method_8_code 25 = .ok (.iinc 2 1, 3) := by decide +kernel
theorem d_74_28 : decode prog_3_method_8_code 28 = .ok (.goto (-13), 3) := by decide +kernel
theorem d_74_31 : decode prog_3_method_8_code 31 = .ok (.return_, 1) := by decide +kernel
theorem d_75_0 : decode prog_5_method_23_code 0 = .ok (.aload_n 0, 1) := by decide +kernel
theorem d_75_1 : decode prog_5_method_23_code 1 = .ok (.getfield 33, 3) := by decide +kernel
theorem d_75_4 : decode prog_5_method_23_code 4 = .ok (.iload_n 2, 1) := by decide +kernel
theorem d_75_5 : decode prog_5_method_23_code 5 = .ok (.aaload, 1) := by decide +kernel
theorem d_75_6 : decode prog_5_method_23_code 6 = .ok (.astore 4, 2) := by decide +kernel
theorem d_75_8 : decode prog_5_method_23_code 8 = .ok (.aload_n 1, 1) := by decide +kernel
theorem d_75_9 : decode prog_5_method_23_code 9 = .ok (.aload_n 0, 1) := by decide +kernel
theorem d_75_10 : decode prog_5_method_23_code 10 = .ok (.getfield 28, 3) := by decide +kernel
theorem d_75_13 : decode prog_5_method_23_code 13 = .ok (.iload_n 2, 1) := by decide +kernel
theorem d_75_14 : decode prog_5_method_23_code 14 = .ok (.iaload, 1) := by decide +kernel
theorem d_75_15 : decode prog_5_method_23_code 15 = .ok (.invokevirtual 137, 3) := by decide +kernel
theorem d_75_18 : decode prog_5_method_23_code 18 = .ok (.aload_n 1, 1) := by decide +kernel
theorem d_75_19 : decode prog_5_method_23_code 19 = .ok (.aload 4, 2) := by decide +kernel
theorem d_75_21 : decode prog_5_method_23_code 21 = .ok (.invokevirtual 154, 3) := by decide +kernel
theorem d_75_24 : decode prog_5_method_23_code 24 = .ok (.invokevirtual 130, 3) := by decide +kernel
theorem d_75_27 : decode prog_5_method_23_code 27 = .ok (.aload 4, 2) := by decide +kernel
theorem d_75_29 : decode prog_5_method_23_code 29 = .ok (.invokevirtual 154, 3) := by decide +kernel
theorem d_75_32 : decode prog_5_method_23_code 32 = .ok (.ifCond .le 12, 3) := by decide +kernel
theorem d_75_35 : decode prog_5_method_23_code 35 = .ok (.aload_n 1, 1) := by decide +kernel
theorem d_75_36 : decode prog_5_method_23_code 36 = .ok (.aload 4, 2) := by decide +kernel
theorem d_75_38 : decode prog_5_method_23_code 38 = .ok (.getfield 157, 3) := by decide +kernel
theorem d_75_41 : decode prog_5_method_23_code 41 = .ok (.invokevirtual 130, 3) := by decide +kernel
theorem d_75_44 : decode prog_5_method_23_code 44 = .ok (.aload 4, 2) := by decide +kernel
theorem d_75_46 : decode prog_5_method_23_code 46 = .ok (.invokevirtual 154, 3) := by decide +kernel
theorem d_75_49 : decode prog_5_method_23_code 49 = .ok (.iconst 1, 1) := by decide +kernel
theorem d_75_50 : decode prog_5_method_23_code 50 = .ok (.if_icmp .le 12, 3) := by decide +kernel
theorem d_75_53 : decode prog_5_method_23_code 53 = .ok (.aload_n 1, 1) := by decide +kernel
theorem d_75_54 : decode prog_5_method_23_code 54 = .ok (.aload 4, 2) := by decide +kernel
theorem d_75_56 : decode prog_5_method_23_code 56 = .ok (.getfield 160, 3) := by decide +kernel
theorem d_75_59 : decode prog_5_method_23_code 59 = .ok (.invokevirtual 130, 3) := by decide +kernel
theorem d_75_62 : decode prog_5_method_23_code 62 = .ok (.aload 4, 2) := by decide +kernel
theorem d_75_64 : decode prog_5_method_23_code 64 = .ok (.getfield 48, 3) := by decide +kernel
theorem d_75_67 : decode prog_5_method_23_code 67 = .ok (.aload_n 1, 1) := by decide +kernel
theorem d_75_68 : decode prog_5_method_23_code 68 = .ok (.invokevirtual 140, 3) := by decide +kernel
theorem d_75_71 : decode prog_5_method_23_code 71 = .ok (.aload_n 1, 1) := by decide +kernel
theorem d_75_72 : decode prog_5_method_23_code 72 = .ok (.aload 4, 2) := by decide +kernel
theorem d_75_74 : decode prog_5_method_23_code 74 = .ok (.getfield 163, 3) := by decide +kernel
theorem d_75_77 : decode prog_5_method_23_code 77 = .ok (.invokevirtual 130, 3) := by decide +kernel
theorem d_75_80 : decode prog_5_method_23_code 80 = .ok (.aload_n 1, 1) := by decide +kernel
theorem d_75_81 : decode prog_5_method_23_code 81 = .ok (.aload 4, 2) := by decide +kernel
theorem d_75_83 : decode prog_5_method_23_code 83 = .ok (.invokevirtual 109, 3) := by decide +kernel
theorem d_75_86 : decode prog_5_method_23_code 86 = .ok (.invokevirtual 130, 3) := by decide +kernel
theorem d_75_89 : decode prog_5_method_23_code 89 = .ok (.aload_n 1, 1) := by decide +kernel
theorem d_75_90 : decode prog_5_method_23_code 90 = .ok (.iload_n 3, 1) := by decide +kernel
theorem d_75_91 : decode prog_5_method_23_code 91 = .ok (.invokevirtual 130, 3) := by decide +kernel
theorem d_75_94 : decode prog_5_method_23_code 94 = .ok (.return_, 1) := by decide +kernel
theorem d_76_0 : decode prog_5_method_24_code 0 = .ok (.iconst 0, 1) := by decide +kernel
theorem d_76_1 : decode prog_5_method_24_code 1 = .ok (.istore_n 2, 1) := by decide +kernel
theorem d_76_2 : decode prog_5_method_24_code 2 = .ok (.iload_n 2, 1) := by decide +kernel
theorem d_76_3 : decode prog_5_method_24_code 3 = .ok (.aload_n 0, 1) := by decide +kernel
theorem d_76_4 : decode prog_5_method_24_code 4 = .ok (.getfield 25, 3) := by decide +kernel
theorem d_76_7 : decode prog_5_method_24_code 7 = .ok (.if_icmp .ge 57, 3) := by decide +kernel
theorem d_76_10 : decode prog_5_method_24_code 10 = .ok (.aload_n 0, 1) := by decide +kernel
theorem d_76_11 : decode prog_5_method_24_code 11 = .ok (.getfield 33, 3) := by decide +kernel
theorem d_76_14 : decode prog_5_method_24_code 14 = .ok (.iload_n 2, 1) := by decide +kernel
theorem d_76_15 : decode prog_5_method_24_code 15 = .ok (.aaload, 1) := by decide +kernel
theorem d_76_16 : decode prog_5_method_24_code 16 = .ok (.getfield 94, 3) := by decide +kernel
theorem d_76_19 : decode prog_5_method_24_code 19 = .ok (.ifCond .ne 39, 3) := by decide +kernel
theorem d_76_22 : decode prog_5_method_24_code 22 = .ok (.iconst 0, 1) := by decide +kernel
theorem d_76_23 : decode prog_5_method_24_code 23 = .ok (.istore_n 3, 1) := by decide +kernel
theorem d_76_24 : decode prog_5_method_24_code 24 = .ok (.iload_n 3, 1) := by decide +kernel
theorem d_76_25 : decode prog_5_method_24_code 25 = .ok (.aload_n 0, 1) := by decide +kernel
theorem d_76_26 : decode prog_5_method_24_code 26 = .ok (.getfield 33, 3) := by decide +kernel
theorem d_76_29 : decode prog_5_method_24_code 29 = .ok (.iload_n 2, 1) := by decide +kernel
theorem d_76_30 : decode prog_5_method_24_code 30 = .ok (.aaload, 1) := by decide +kernel
theorem d_76_31 : decode prog_5_method_24_code 31 = .ok (.getfield 166, 3) := by decide +kernel
theorem d_76_34 : decode prog_5_method_24_code 34 = .ok (.if_icmp .ge 20, 3) := by decide +kernel
theorem d_76_37 : decode prog_5_method_24_code 37 = .ok (.aload_n 0, 1) := by decide +kernel
theorem d_76_38 : decode prog_5_method_24_code 38 = .ok (.getfield 33, 3) := by decide +kernel
theorem d_76_41 : decode prog_5_method_24_code 41 = .ok (.iload_n 2, 1) := by decide +kernel
theorem d_76_42 : decode prog_5_method_24_code 42 = .ok (.aaload, 1) := by decide +kernel
theorem d_76_43 : decode prog_5_method_24_code 43 = .ok (.aload_n 1, 1) := by decide +kernel
theorem d_76_44 : decode prog_5_method_24_code 44 = .ok (.iload_n 3, 1) := by decide +kernel
theorem d_76_45 : decode prog_5_method_24_code 45 = .ok (.invokevirtual 169, 3) := by decide +kernel
theorem d_76_48 : decode prog_5_method_24_code 48 = .ok (.iinc 3 1, 3) := by decide +kernel
theorem d_76_51 : decode prog_5_method_24_code 51 = .ok (.goto (-27), 3) := by decide +kernel
theorem d_76_54 : decode prog_5_method_24_code 54 = .ok (.aload_n 1, 1) := by decide +kernel
theorem d_76_55 : decode prog_5_method_24_code 55 = .ok (.invokevirtual 173, 3) := by decide +kernel
theorem d_76_58 : decode prog_5_method_24_code 58 = .ok (.iinc 2 1, 3) := by decide +kernel
theorem d_76_61 : decode prog_5_method_24_code 61 = .ok (.goto (-59), 3) := by decide +kernel
theorem d_76_64 : decode prog_5_method_24_code 64 = .ok (.aload_n 0, 1) := by decide +kernel
theorem d_76_65 : decode prog_5_method_24_code 65 = .ok (.invokevirtual 112, 3) := by decide +kernel
theorem d_76_68 : decode prog_5_method_24_code 68 = .ok (.iconst 1, 1) := by decide +kernel
theorem d_76_69 : decode prog_5_method_24_code 69 = .ok (.if_icmp .le 7, 3) := by decide +kernel
theorem d_76_72 : decode prog_5_method_24_code 72 = .ok (.iconst 1, 1) := by decide +kernel
theorem d_76_73 : decode prog_5_method_24_code 73 = .ok (.goto 4, 3) := by decide +kernel
theorem d_76_76 : decode prog_5_method_24_code 76 = .ok (.iconst 0, 1) := by decide +kernel
theorem d_76_77 : decode prog_5_method_24_code 77 = .ok (.istore_n 2, 1) := by decide +kernel
theorem d_76_78 : decode prog_5_method_24_code 78 = .ok (.iconst 0, 1) := by decide +kernel
theorem d_76_79 : decode prog_5_method_24_code 79 = .ok (.istore_n 3, 1) := by decide +kernel
theorem d_76_80 : decode prog_5_method_24_code 80 = .ok (.iload_n 3, 1) := by decide +kernel
theorem d_76_81 : decode prog_5_method_24_code 81 = .ok (.aload_n 0, 1) := by decide +kernel
theorem d_76_82 : decode prog_5_method_24_code 82 = .ok (.getfield 9, 3) := by decide +kernel
theorem d_76_85 : decode prog_5_method_24_code 85 = .ok (.if_icmp .ge 16, 3) := by decide +kernel
theorem d_76_88 : decode prog_5_method_24_code 88 = .ok (.aload_n 0, 1) := by decide +kernel
theorem d_76_89 : decode prog_5_method_24_code 89 = .ok (.aload_n 1, 1) := by decide +kernel
theorem d_76_90 : decode prog_5_method_24_code 90 = .ok (.iload_n 3, 1) := by decide +kernel
theorem d_76_91 : decode prog_5_method_24_code 91 = .ok (.iload_n 2, 1) := by decide +kernel
theorem d_76_92 : decode prog_5_method_24_code 92 = .ok (.invokevirtual 176, 3) := by decide +kernel
theorem d_76_95 : decode prog_5_method_24_code 95 = .ok (.iinc 3 1, 3) := by decide +kernel
theorem d_76_98 : decode prog_5_method_24_code 98 = .ok (.goto (-18), 3) := by decide +kernel
theorem d_76_101 : decode prog_5_method_24_code 101 = .ok (.return_, 1) := by decide +kernel
theorem d_77_0 : decode prog_6_method_12_code 0 = .ok (.iconst 0, 1) := by decide +kernel
theorem d_77_1 : decode prog_6_method_12_code 1 = .ok (.istore_n 3, 1) := by decide +kernel
theorem d_77_2 : decode prog_6_method_12_code 2 = .ok (.iload_n 3, 1) := by decide +kernel
theorem d_77_3 : decode prog_6_method_12_code 3 = .ok (.aload_n 0, 1) := by decide +kernel
theorem d_77_4 : decode prog_6_method_12_code 4 = .ok (.getfield 28, 3) := by decide +kernel
theorem d_77_7 : decode prog_6_method_12_code 7 = .ok (.if_icmp .ge 27, 3) := by decide +kernel
theorem d_77_10 : decode prog_6_method_12_code 10 = .ok (.aload_n 1, 1) := by decide +kernel
theorem d_77_11 : decode prog_6_method_12_code 11 = .ok (.aload_n 0, 1) := by decide +kernel
theorem d_77_12 : decode prog_6_method_12_code 12 = .ok (.iload_n 2, 1) := by decide +kernel
theorem d_77_13 : decode prog_6_method_12_code 13 = .ok (.iload_n 3, 1) := by decide +kernel
theorem d_77_14 : decode prog_6_method_12_code 14 = .ok (.invokevirtual 80, 3) := by decide +kernel
theorem d_77_17 : decode prog_6_method_12_code 17 = .ok (.getstatic 64, 3) := by decide +kernel
theorem d_77_20 : decode prog_6_method_12_code 20 = .ok (.aload_n 0, 1) := by decide +kernel
theorem d_77_21 : decode prog_6_method_12_code 21 = .ok (.getfield 9, 3) := by decide +kernel
theorem d_77_24 : decode prog_6_method_12_code 24 = .ok (.iaload, 1) := by decide +kernel
theorem d_77_25 : decode prog_6_method_12_code 25 = .ok (.invokevirtual 84, 3) := by decide +kernel
theorem d_77_28 : decode prog_6_method_12_code 28 = .ok (.iinc 3 1, 3) := by decide +kernel
theorem d_77_31 : decode prog_6_method_12_code 31 = .ok (.goto (-29), 3) := by decide +kernel
theorem d_77_34 : decode prog_6_method_12_code 34 = .ok (.return_, 1) := by decide +kernel
theorem d_78_0 : decode prog_5_method_25_code 0 = .ok (.iconst 0, 1) := by decide +kernel
theorem d_78_1 : decode prog_5_method_25_code 1 = .ok (.istore 4, 2) := by decide +kernel
theorem d_78_3 : decode prog_5_method_25_code 3 = .ok (.iload 4, 2) := by decide +kernel
theorem d_78_5 : decode prog_5_method_25_code 5 = .ok (.aload_n 0, 1) := by decide +kernel
theorem d_78_6 : decode prog_5_method_25_code 6 = .ok (.getfield 25, 3) := by decide +kernel
theorem d_78_9 : decode prog_5_method_25_code 9 = .ok (.if_icmp .ge 42, 3) := by decide +kernel
theorem d_78_12 : decode prog_5_method_25_code 12 = .ok (.aload_n 0, 1) := by decide +kernel
theorem d_78_13 : decode prog_5_method_25_code 13 = .ok (.getfield 33, 3) := by decide +kernel
theorem d_78_16 : decode prog_5_method_25_code 16 = .ok (.iload 4, 2) := by decide +kernel
theorem d_78_18 : decode prog_5_method_25_code 18 = .ok (.aaload, 1) := by decide +kernel
theorem d_78_19 : decode prog_5_method_25_code 19 = .ok (.getfield 94, 3) := by decide +kernel
theorem d_78_22 : decode prog_5_method_25_code 22 = .ok (.ifCond .eq 23, 3) := by decide +kernel
theorem d_78_25 : decode prog_5_method_25_code 25 = .ok (.aload_n 0, 1) := by decide +kernel
theorem d_78_26 : decode prog_5_method_25_code 26 = .ok (.getfield 33, 3) := by decide +kernel
theorem d_78_29 : decode prog_5_method_25_code 29 = .ok (.iload 4, 2) := by decide +kernel
theorem d_78_31 : decode prog_5_method_25_code 31 = .ok (.aaload, 1) := by decide +kernel
theorem d_78_32 : decode prog_5_method_25_code 32 = .ok (.aload_n 1, 1) := by decide +kernel
theorem d_78_33 : decode prog_5_method_25_code 33 = .ok (.iload_n 2, 1) := by decide +kernel
theorem d_78_34 : decode prog_5_method_25_code 34 = .ok (.invokevirtual 169, 3) := by decide +kernel
theorem d_78_37 : decode prog_5_method_25_code 37 = .ok (.iload_n 3, 1) := by decide +kernel
theorem d_78_38 : decode prog_5_method_25_code 38 = .ok (.ifCond .eq 7, 3) := by decide +kernel
theorem d_78_41 : decode prog_5_method_25_code 41 = .ok (.aload_n 1, 1) := by decide +kernel
theorem d_78_42 : decode prog_5_method_25_code 42 = .ok (.invokevirtual 173, 3) := by decide +kernel
theorem d_78_45 : decode prog_5_method_25_code 45 = .ok (.iinc 4 1, 3) := by decide +kernel
theorem d_78_48 : decode prog_5_method_25_code 48 = .ok (.goto (-45), 3) := by decide +kernel
theorem d_78_51 : decode prog_5_method_25_code 51 = .ok (.return_, 1) := by decide +kernel
theorem d_79_0 : decode prog_3_method_9_code 0 = .ok (.iload_n 1, 1) := by decide +kernel
theorem d_79_1 : decode prog_3_method_9_code 1 = .ok (.ifCond .lt 24, 3) := by decide +kernel
theorem d_79_4 : decode prog_3_method_9_code 4 = .ok (.iload_n 1, 1) := by decide +kernel
theorem d_79_5 : decode prog_3_method_9_code 5 = .ok (.aload_n 0, 1) := by decide +kernel
theorem d_79_6 : decode prog_3_method_9_code 6 = .ok (.getfield 15, 3) := by decide +kernel
theorem d_79_9 : decode prog_3_method_9_code 9 = .ok (.if_icmp .ge 16, 3) := by decide +kernel
theorem d_79_12 : decode prog_3_method_9_code 12 = .ok (.aload_n 0, 1) := by decide +kernel
theorem d_79_13 : decode prog_3_method_9_code 13 = .ok (.getfield 9, 3) := by decide +kernel
theorem d_79_16 : decode prog_3_method_9_code 16 = .ok (.iload_n 1, 1) := by decide +kernel
theorem d_79_17 : decode prog_3_method_9_code 17 = .ok (.baload, 1) := by decide +kernel
theorem d_79_18 : decode prog_3_method_9_code 18 = .ok (.sipush 255, 3) := by decide +kernel
theorem d_79_21 : decode prog_3_method_9_code 21 = .ok (.iand, 1) := by decide +kernel
theorem d_79_22 : decode prog_3_method_9_code 22 = .ok (.goto 4, 3) := by decide +kernel
theorem d_79_25 : decode prog_3_method_9_code 25 = .ok (.iconst 0, 1) := by decide +kernel
theorem d_79_26 : decode prog_3_method_9_code 26 = .ok (.ireturn, 1) := by decide +kernel
theorem d_80_0 : decode prog_1_method_18_code 0 = .ok (.iload_n 3, 1) := by decide +kernel
theorem d_80_1 : decode prog_1_method_18_code 1 = .ok (.iconst 1, 1) := by decide +kernel
theorem d_80_2 : decode prog_1_method_18_code 2 = .ok (.if_icmp .lt 24, 3) := by decide +kernel
theorem d_80_5 : decode prog_1_method_18_code 5 = .ok (.iload_n 3, 1) := by decide +kernel
theorem d_80_6 : decode prog_1_method_18_code 6 = .ok (.bipush 8, 2) := by decide +kernel
theorem d_80_8 : decode prog_1_method_18_code 8 = .ok (.if_icmp .gt 18, 3) := by decide +kernel
theorem d_80_11 : decode prog_1_method_18_code 11 = .ok (.aload_n 0, 1) := by decide +kernel
theorem d_80_12 : decode prog_1_method_18_code 12 = .ok (.getfield 39, 3) := by decide +kernel
theorem d_80_15 : decode prog_1_method_18_code 15 = .ok (.getfield 153, 3) := by decide +kernel
theorem d_80_18 : decode prog_1_method_18_code 18 = .ok (.iload_n 3, 1) := by decide +kernel
theorem d_80_19 : decode prog_1_method_18_code 19 = .ok (.iadd, 1) := by decide +kernel
theorem d_80_20 : decode prog_1_method_18_code 20 = .ok (.sipush 800, 3) := by decide +kernel
theorem d_80_23 : decode prog_1_method_18_code 23 = .ok (.if_icmp .le 5, 3) := by decide +kernel
theorem d_80_26 : decode prog_1_method_18_code 26 = .ok (.iconst 0, 1) := by decide +kernel
theorem d_80_27 : decode prog_1_method_18_code 27 = .ok (.ireturn, 1) := by decide +kernel
theorem d_80_28 : decode prog_1_method_18_code 28 = .ok (.iconst 0, 1) := by decide +kernel
theorem d_80_29 : decode prog_1_method_18_code 29 = .ok (.istore 4, 2) := by decide +kernel
theorem d_80_31 : decode prog_1_method_18_code 31 = .ok (.iload 4, 2) := by decide +kernel
theorem d_80_33 : decode prog_1_method_18_code 33 = .ok (.iload_n 3, 1) := by decide +kernel
theorem d_80_34 : decode prog_1_method_18_code 34 = .ok (.if_icmp .ge 27, 3) := by decide +kernel
theorem d_80_37 : decode prog_1_method_18_code 37 = .ok (.aload_n 0, 1) := by decide +kernel
theorem d_80_38 : decode prog_1_method_18_code 38 = .ok (.getfield 39, 3) := by decide +kernel
theorem d_80_41 : decode prog_1_method_18_code 41 = .ok (.lload_n 1, 1) := by decide +kernel
theorem d_80_42 : decode prog_1_method_18_code 42 = .ok (.bipush 56, 2) := by decide +kernel
theorem d_80_44 : decode prog_1_method_18_code 44 = .ok (.bipush 8, 2) := by decide +kernel
theorem d_80_46 : decode prog_1_method_18_code 46 = .ok (.iload 4, 2) := by decide +kernel
theorem d_80_48 : decode prog_1_method_18_code 48 = .ok (.imul, 1) := by decide +kernel
theorem d_80_49 : decode prog_1_method_18_code 49 = .ok (.isub, 1) := by decide +kernel
theorem d_80_50 : decode prog_1_method_18_code 50 = .ok (.lushr, 1) := by decide +kernel
theorem d_80_51 : decode prog_1_method_18_code 51 = .ok (.l2i, 1) := by decide +kernel
theorem d_80_52 : decode prog_1_method_18_code 52 = .ok (.invokevirtual 156, 3) := by decide +kernel
theorem d_80_55 : decode prog_1_method_18_code 55 = .ok (.iinc 4 1, 3) := by decide +kernel
theorem d_80_58 : decode prog_1_method_18_code 58 = .ok (.goto (-27), 3) := by decide +kernel
theorem d_80_61 : decode prog_1_method_18_code 61 = .ok (.iconst 1, 1) := by decide +kernel
theorem d_80_62 : decode prog_1_method_18_code 62 = .ok (.ireturn, 1) := by decide +kernel
theorem d_81_0 : decode prog_1_method_19_code 0 = .ok (.aload_n 0, 1) := by decide +kernel
theorem d_81_1 : decode prog_1_method_19_code 1 = .ok (.getfield 39, 3) := by decide +kernel
theorem d_81_4 : decode prog_1_method_19_code 4 = .ok (.invokevirtual 160, 3) := by decide +kernel
theorem d_81_7 : decode prog_1_method_19_code 7 = .ok (.return_, 1) := by decide +kernel
theorem d_82_0 : decode prog_1_method_20_code 0 = .ok (.aload_n 0, 1) := by decide +kernel
theorem d_82_1 : decode prog_1_method_20_code 1 = .ok (.getfield 16, 3) := by decide +kernel
theorem d_82_4 : decode prog_1_method_20_code 4 = .ok (.invokevirtual 163, 3) := by decide +kernel
theorem d_82_7 : decode prog_1_method_20_code 7 = .ok (.aload_n 0, 1) := by decide +kernel
theorem d_82_8 : decode prog_1_method_20_code 8 = .ok (.getfield 16, 3) := by decide +kernel
theorem d_82_11 : decode prog_1_method_20_code 11 = .ok (.aload_n 0, 1) := by decide +kernel
theorem d_82_12 : decode prog_1_method_20_code 12 = .ok (.getfield 39, 3) := by decide +kernel
theorem d_82_15 : decode prog_1_method_20_code 15 = .ok (.invokevirtual 164, 3) := by decide +kernel
theorem d_82_18 : decode prog_1_method_20_code 18 = .ok (.ifCond .ne 6, 3) := by decide +kernel
theorem d_82_21 : decode prog_1_method_20_code 21 = .ok (.bipush (-9), 2) := by decide +kernel
theorem d_82_23 : decode prog_1_method_20_code 23 = .ok (.ireturn, 1) := by decide +kernel
theorem d_82_24 : decode prog_1_method_20_code 24 = .ok (.aload_n 0, 1) := by decide +kernel
theorem d_82_25 : decode prog_1_method_20_code 25 = .ok (.getfield 16, 3) := by decide +kernel
theorem d_82_28 : decode prog_1_method_20_code 28 = .ok (.aload_n 0, 1) := by decide +kernel
theorem d_82_29 : decode prog_1_method_20_code 29 = .ok (.getfield 43, 3) := by decide +kernel
theorem d_82_32 : decode prog_1_method_20_code 32 = .ok (.invokevirtual 148, 3) := by decide +kernel
theorem d_82_35 : decode prog_1_method_20_code 35 = .ok (.aload_n 0, 1) := by decide +kernel
theorem d_82_36 : decode prog_1_method_20_code 36 = .ok (.getfield 43, 3) := by decide +kernel
theorem d_82_39 : decode prog_1_method_20_code 39 = .ok (.aload_n 0, 1) := by decide +kernel
theorem d_82_40 : decode prog_1_method_20_code 40 = .ok (.getfield 39, 3) := by decide +kernel
theorem d_82_43 : decode prog_1_method_20_code 43 = .ok (.invokevirtual 168, 3) := by decide +kernel
theorem d_82_46 : decode prog_1_method_20_code 46 = .ok (.ifCond .ne 6, 3) := by decide +kernel
theorem d_82_49 : decode prog_1_method_20_code 49 = .ok (.bipush (-9), 2) := by decide +kernel
theorem d_82_51 : decode prog_1_method_20_code 51 = .ok (.ireturn, 1) := by decide +kernel
theorem d_82_52 : decode prog_1_method_20_code 52 = .ok (.aload_n 0, 1) := by decide +kernel
theorem d_82_53 : decode prog_1_method_20_code 53 = .ok (.getfield 10, 3) := by decide +kernel
theorem d_82_56 : decode prog_1_method_20_code 56 = .ok (.astore_n 1, 1) := by decide +kernel
theorem d_82_57 : decode prog_1_method_20_code 57 = .ok (.aload_n 0, 1) := by decide +kernel
theorem d_82_58 : decode prog_1_method_20_code 58 = .ok (.aload_n 0, 1) := by decide +kernel
theorem d_82_59 : decode prog_1_method_20_code 59 = .ok (.getfield 16, 3) := by decide +kernel
theorem d_82_62 : decode prog_1_method_20_code 62 = .ok (.putfield 10, 3) := by decide +kernel
theorem d_82_65 : decode prog_1_method_20_code 65 = .ok (.aload_n 0, 1) := by decide +kernel
theorem d_82_66 : decode prog_1_method_20_code 66 = .ok (.aload_n 1, 1) := by decide +kernel
theorem d_82_67 : decode prog_1_method_20_code 67 = .ok (.putfield 16, 3) := by decide +kernel
theorem d_82_70 : decode prog_1_method_20_code 70 = .ok (.aload_n 0, 1) := by decide +kernel
theorem d_82_71 : decode prog_1_method_20_code 71 = .ok (.iconst 0, 1) := by decide +kernel
theorem d_82_72 : decode prog_1_method_20_code 72 = .ok (.putfield 19, 3) := by decide +kernel
theorem d_82_75 : decode prog_1_method_20_code 75 = .ok (.aload_n 0, 1) := by decide +kernel
theorem d_82_76 : decode prog_1_method_20_code 76 = .ok (.getfield 39, 3) := by decide +kernel
theorem d_82_79 : decode prog_1_method_20_code 79 = .ok (.getfield 153, 3) := by decide +kernel
theorem d_82_82 : decode prog_1_method_20_code 82 = .ok (.ireturn, 1) := by decide +kernel
theorem d_83_0 : decode prog_5_method_2_code 0 = .ok (.aload_n 0, 1) := by decide +kernel
theorem d_83_1 : decode prog_5_method_2_code 1 = .ok (.iconst 0, 1) := by decide +kernel
theorem d_83_2 : decode prog_5_method_2_code 2 = .ok (.putfield 9, 3) := by decide +kernel
end
section
theorem d_83_5 : decode prog_5_method_2_code 5 = .ok (.aload_n 0, 1) := by decide +kernel
theorem d_83_6 : decode prog_5_method_2_code 6 = .ok (.iconst 0, 1) := by decide +kernel
theorem d_83_7 : decode prog_5_method_2_code 7 = .ok (.putfield 15, 3) := by decide +kernel
theorem d_83_10 : decode prog_5_method_2_code 10 = .ok (.aload_n 0, 1) := by decide +kernel
theorem d_83_11 : decode prog_5_method_2_code 11 = .ok (.iconst 0, 1) := by decide +kernel
theorem d_83_12 : decode prog_5_method_2_code 12 = .ok (.putfield 25, 3) := by decide +kernel
theorem d_83_15 : decode prog_5_method_2_code 15 = .ok (.aload_n 0, 1) := by decide +kernel
theorem d_83_16 : decode prog_5_method_2_code 16 = .ok (.getfield 41, 3) := by decide +kernel
theorem d_83_19 : decode prog_5_method_2_code 19 = .ok (.invokevirtual 45, 3) := by decide +kernel
theorem d_83_22 : decode prog_5_method_2_code 22 = .ok (.iconst 0, 1) := by decide +kernel
theorem d_83_23 : decode prog_5_method_2_code 23 = .ok (.istore_n 1, 1) := by decide +kernel
theorem d_83_24 : decode prog_5_method_2_code 24 = .ok (.iload_n 1, 1) := by decide +kernel
theorem d_83_25 : decode prog_5_method_2_code 25 = .ok (.iconst 5, 1) := by decide +kernel
theorem d_83_26 : decode prog_5_method_2_code 26 = .ok (.if_icmp .ge 21, 3) := by decide +kernel
theorem d_83_29 : decode prog_5_method_2_code 29 = .ok (.aload_n 0, 1) := by decide +kernel
theorem d_83_30 : decode prog_5_method_2_code 30 = .ok (.getfield 33, 3) := by decide +kernel
theorem d_83_33 : decode prog_5_method_2_code 33 = .ok (.iload_n 1, 1) := by decide +kernel
theorem d_83_34 : decode prog_5_method_2_code 34 = .ok (.aaload, 1) := by decide +kernel
theorem d_83_35 : decode prog_5_method_2_code 35 = .ok (.getfield 48, 3) := by decide +kernel
theorem d_83_38 : decode prog_5_method_2_code 38 = .ok (.invokevirtual 45, 3) := by decide +kernel
theorem d_83_41 : decode prog_5_method_2_code 41 = .ok (.iinc 1 1, 3) := by decide +kernel
theorem d_83_44 : decode prog_5_method_2_code 44 = .ok (.goto (-20), 3) := by decide +kernel
theorem d_83_47 : decode prog_5_method_2_code 47 = .ok (.return_, 1) := by decide +kernel
theorem d_84_0 : decode prog_2_method_2_code 0 = .ok (.aload_n 0, 1) := by decide +kernel
theorem d_84_1 : decode prog_2_method_2_code 1 = .ok (.iconst 0, 1) := by decide +kernel
theorem d_84_2 : decode prog_2_method_2_code 2 = .ok (.putfield 9, 3) := by decide +kernel
theorem d_84_5 : decode prog_2_method_2_code 5 = .ok (.return_, 1) := by decide +kernel
theorem d_85_0 : decode prog_5_method_26_code 0 = .ok (.aload_n 1, 1) := by decide +kernel
theorem d_85_1 : decode prog_5_method_26_code 1 = .ok (.invokevirtual 180, 3) := by decide +kernel
theorem d_85_4 : decode prog_5_method_26_code 4 = .ok (.aload_n 1, 1) := by decide +kernel
theorem d_85_5 : decode prog_5_method_26_code 5 = .ok (.invokevirtual 183, 3) := by decide +kernel
theorem d_85_8 : decode prog_5_method_26_code 8 = .ok (.pop, 1) := by decide +kernel
theorem d_85_9 : decode prog_5_method_26_code 9 = .ok (.aload_n 1, 1) := by decide +kernel
theorem d_85_10 : decode prog_5_method_26_code 10 = .ok (.invokevirtual 183, 3) := by decide +kernel
theorem d_85_13 : decode prog_5_method_26_code 13 = .ok (.istore_n 2, 1) := by decide +kernel
theorem d_85_14 : decode prog_5_method_26_code 14 = .ok (.aload_n 0, 1) := by decide +kernel
theorem d_85_15 : decode prog_5_method_26_code 15 = .ok (.aload_n 1, 1) := by decide +kernel
theorem d_85_16 : decode prog_5_method_26_code 16 = .ok (.invokevirtual 186, 3) := by decide +kernel
theorem d_85_19 : decode prog_5_method_26_code 19 = .ok (.ifCond .eq 22, 3) := by decide +kernel
theorem d_85_22 : decode prog_5_method_26_code 22 = .ok (.aload_n 0, 1) := by decide +kernel
theorem d_85_23 : decode prog_5_method_26_code 23 = .ok (.getfield 41, 3) := by decide +kernel
theorem d_85_26 : decode prog_5_method_26_code 26 = .ok (.aload_n 1, 1) := by decide +kernel
theorem d_85_27 : decode prog_5_method_26_code 27 = .ok (.invokevirtual 190, 3) := by decide +kernel
theorem d_85_30 : decode prog_5_method_26_code 30 = .ok (.ifCond .eq 11, 3) := by decide +kernel
theorem d_85_33 : decode prog_5_method_26_code 33 = .ok (.aload_n 0, 1) := by decide +kernel
theorem d_85_34 : decode prog_5_method_26_code 34 = .ok (.aload_n 1, 1) := by decide +kernel
theorem d_85_35 : decode prog_5_method_26_code 35 = .ok (.invokevirtual 193, 3) := by decide +kernel
theorem d_85_38 : decode prog_5_method_26_code 38 = .ok (.ifCond .ne 5, 3) := by decide +kernel
theorem d_85_41 : decode prog_5_method_26_code 41 = .ok (.iconst 0, 1) := by decide +kernel
theorem d_85_42 : decode prog_5_method_26_code 42 = .ok (.ireturn, 1) := by decide +kernel
theorem d_85_43 : decode prog_5_method_26_code 43 = .ok (.iload_n 2, 1) := by decide +kernel
theorem d_85_44 : decode prog_5_method_26_code 44 = .ok (.ifCond .lt 14, 3) := by decide +kernel
theorem d_85_47 : decode prog_5_method_26_code 47 = .ok (.iload_n 2, 1) := by decide +kernel
theorem d_85_48 : decode prog_5_method_26_code 48 = .ok (.ifCond .le 12, 3) := by decide +kernel
theorem d_85_51 : decode prog_5_method_26_code 51 = .ok (.aload_n 0, 1) := by decide +kernel
theorem d_85_52 : decode prog_5_method_26_code 52 = .ok (.invokevirtual 112, 3) := by decide +kernel
theorem d_85_55 : decode prog_5_method_26_code 55 = .ok (.ifCond .ne 5, 3) := by decide +kernel
theorem d_85_58 : decode prog_5_method_26_code 58 = .ok (.iconst 0, 1) := by decide +kernel
theorem d_85_59 : decode prog_5_method_26_code 59 = .ok (.ireturn, 1) := by decide +kernel
theorem d_85_60 : decode prog_5_method_26_code 60 = .ok (.aload_n 0, 1) := by decide +kernel
theorem d_85_61 : decode prog_5_method_26_code 61 = .ok (.iload_n 2, 1) := by decide +kernel
theorem d_85_62 : decode prog_5_method_26_code 62 = .ok (.i2l, 1) := by decide +kernel
theorem d_85_63 : decode prog_5_method_26_code 63 = .ok (.invokevirtual 98, 3) := by decide +kernel
theorem d_85_66 : decode prog_5_method_26_code 66 = .ok (.aload_n 1, 1) := by decide +kernel
theorem d_85_67 : decode prog_5_method_26_code 67 = .ok (.getfield 196, 3) := by decide +kernel
theorem d_85_70 : decode prog_5_method_26_code 70 = .ok (.i2l, 1) := by decide +kernel
theorem d_85_71 : decode prog_5_method_26_code 71 = .ok (.lcmp, 1) := by decide +kernel
theorem d_85_72 : decode prog_5_method_26_code 72 = .ok (.ifCond .eq 5, 3) := by decide +kernel
theorem d_85_75 : decode prog_5_method_26_code 75 = .ok (.iconst 0, 1) := by decide +kernel
theorem d_85_76 : decode prog_5_method_26_code 76 = .ok (.ireturn, 1) := by decide +kernel
theorem d_85_77 : decode prog_5_method_26_code 77 = .ok (.aload_n 0, 1) := by decide +kernel
theorem d_85_78 : decode prog_5_method_26_code 78 = .ok (.iload_n 2, 1) := by decide +kernel
theorem d_85_79 : decode prog_5_method_26_code 79 = .ok (.putfield 9, 3) := by decide +kernel
theorem d_85_82 : decode prog_5_method_26_code 82 = .ok (.aload_n 0, 1) := by decide +kernel
theorem d_85_83 : decode prog_5_method_26_code 83 = .ok (.aload_n 1, 1) := by decide +kernel
theorem d_85_84 : decode prog_5_method_26_code 84 = .ok (.invokevirtual 199, 3) := by decide +kernel
theorem d_85_87 : decode prog_5_method_26_code 87 = .ok (.iconst 1, 1) := by decide +kernel
theorem d_85_88 : decode prog_5_method_26_code 88 = .ok (.ireturn, 1) := by decide +kernel
theorem d_86_0 : decode prog_3_method_10_code 0 = .ok (.aload_n 0, 1) := by decide +kernel
theorem d_86_1 : decode prog_3_method_10_code 1 = .ok (.iconst 0, 1) := by decide +kernel
theorem d_86_2 : decode prog_3_method_10_code 2 = .ok (.putfield 19, 3) := by decide +kernel
theorem d_86_5 : decode prog_3_method_10_code 5 = .ok (.return_, 1) := by decide +kernel
theorem d_87_0 : decode prog_3_method_12_code 0 = .ok (.aload_n 0, 1) := by decide +kernel
theorem d_87_1 : decode prog_3_method_12_code 1 = .ok (.iconst 4, 1) := by decide +kernel
theorem d_87_2 : decode prog_3_method_12_code 2 = .ok (.invokevirtual 34, 3) := by decide +kernel
theorem d_87_5 : decode prog_3_method_12_code 5 = .ok (.ireturn, 1) := by decide +kernel
theorem d_88_0 : decode prog_3_method_11_code 0 = .ok (.iconst 0, 1) := by decide +kernel
theorem d_88_1 : decode prog_3_method_11_code 1 = .ok (.istore_n 2, 1) := by decide +kernel
theorem d_88_2 : decode prog_3_method_11_code 2 = .ok (.iconst 0, 1) := by decide +kernel
theorem d_88_3 : decode prog_3_method_11_code 3 = .ok (.istore_n 3, 1) := by decide +kernel
theorem d_88_4 : decode prog_3_method_11_code 4 = .ok (.iload_n 3, 1) := by decide +kernel
theorem d_88_5 : decode prog_3_method_11_code 5 = .ok (.iload_n 1, 1) := by decide +kernel
theorem d_88_6 : decode prog_3_method_11_code 6 = .ok (.if_icmp .ge 53, 3) := by decide +kernel
theorem d_88_9 : decode prog_3_method_11_code 9 = .ok (.iload_n 2, 1) := by decide +kernel
theorem d_88_10 : decode prog_3_method_11_code 10 = .ok (.bipush 8, 2) := by decide +kernel
theorem d_88_12 : decode prog_3_method_11_code 12 = .ok (.ishl, 1) := by decide +kernel
theorem d_88_13 : decode prog_3_method_11_code 13 = .ok (.aload_n 0, 1) := by decide +kernel
theorem d_88_14 : decode prog_3_method_11_code 14 = .ok (.getfield 19, 3) := by decide +kernel
theorem d_88_17 : decode prog_3_method_11_code 17 = .ok (.aload_n 0, 1) := by decide +kernel
theorem d_88_18 : decode prog_3_method_11_code 18 = .ok (.getfield 15, 3) := by decide +kernel
theorem d_88_21 : decode prog_3_method_11_code 21 = .ok (.if_icmp .ge 19, 3) := by decide +kernel
theorem d_88_24 : decode prog_3_method_11_code 24 = .ok (.aload_n 0, 1) := by decide +kernel
theorem d_88_25 : decode prog_3_method_11_code 25 = .ok (.getfield 9, 3) := by decide +kernel
theorem d_88_28 : decode prog_3_method_11_code 28 = .ok (.aload_n 0, 1) := by decide +kernel
theorem d_88_29 : decode prog_3_method_11_code 29 = .ok (.getfield 19, 3) := by decide +kernel
theorem d_88_32 : decode prog_3_method_11_code 32 = .ok (.baload, 1) := by decide +kernel
theorem d_88_33 : decode prog_3_method_11_code 33 = .ok (.sipush 255, 3) := by decide +kernel
theorem d_88_36 : decode prog_3_method_11_code 36 = .ok (.iand, 1) := by decide +kernel
theorem d_88_37 : decode prog_3_method_11_code 37 = .ok (.goto 4, 3) := by decide +kernel
theorem d_88_40 : decode prog_3_method_11_code 40 = .ok (.iconst 0, 1) := by decide +kernel
theorem d_88_41 : decode prog_3_method_11_code 41 = .ok (.ior, 1) := by decide +kernel
theorem d_88_42 : decode prog_3_method_11_code 42 = .ok (.istore_n 2, 1) := by decide +kernel
theorem d_88_43 : decode prog_3_method_11_code 43 = .ok (.aload_n 0, 1) := by decide +kernel
theorem d_88_44 : decode prog_3_method_11_code 44 = .ok (.dup, 1) := by decide +kernel
theorem d_88_45 : decode prog_3_method_11_code 45 = .ok (.getfield 19, 3) := by decide +kernel
theorem d_88_48 : decode prog_3_method_11_code 48 = .ok (.iconst 1, 1) := by decide +kernel
theorem d_88_49 : decode prog_3_method_11_code 49 = .ok (.iadd, 1) := by decide +kernel
theorem d_88_50 : decode prog_3_method_11_code 50 = .ok (.putfield 19, 3) := by decide +kernel
theorem d_88_53 : decode prog_3_method_11_code 53 = .ok (.iinc 3 1, 3) := by decide +kernel
theorem d_88_56 : decode prog_3_method_11_code 56 = .ok (.goto (-52), 3) := by decide +kernel
theorem d_88_59 : decode prog_3_method_11_code 59 = .ok (.iload_n 2, 1) := by decide +kernel
theorem d_88_60 : decode prog_3_method_11_code 60 = .ok (.ireturn, 1) := by decide +kernel
theorem d_89_0 : decode prog_5_method_27_code 0 = .ok (.aload_n 1, 1) := by decide +kernel
theorem d_89_1 : decode prog_5_method_27_code 1 = .ok (.invokevirtual 202, 3) := by decide +kernel
theorem d_89_4 : decode prog_5_method_27_code 4 = .ok (.istore_n 2, 1) := by decide +kernel
theorem d_89_5 : decode prog_5_method_27_code 5 = .ok (.iload_n 2, 1) := by decide +kernel
theorem d_89_6 : decode prog_5_method_27_code 6 = .ok (.ifCond .lt 8, 3) := by decide +kernel
theorem d_89_9 : decode prog_5_method_27_code 9 = .ok (.iload_n 2, 1) := by decide +kernel
theorem d_89_10 : decode prog_5_method_27_code 10 = .ok (.iconst 4, 1) := by decide +kernel
theorem d_89_11 : decode prog_5_method_27_code 11 = .ok (.if_icmp .le 5, 3) := by decide +kernel
theorem d_89_14 : decode prog_5_method_27_code 14 = .ok (.iconst 0, 1) := by decide +kernel
theorem d_89_15 : decode prog_5_method_27_code 15 = .ok (.ireturn, 1) := by decide +kernel
theorem d_89_16 : decode prog_5_method_27_code 16 = .ok (.iconst 0, 1) := by decide +kernel
theorem d_89_17 : decode prog_5_method_27_code 17 = .ok (.istore_n 3, 1) := by decide +kernel
theorem d_89_18 : decode prog_5_method_27_code 18 = .ok (.iload_n 3, 1) := by decide +kernel
theorem d_89_19 : decode prog_5_method_27_code 19 = .ok (.iload_n 2, 1) := by decide +kernel
theorem d_89_20 : decode prog_5_method_27_code 20 = .ok (.if_icmp .ge 34, 3) := by decide +kernel
theorem d_89_23 : decode prog_5_method_27_code 23 = .ok (.aload_n 1, 1) := by decide +kernel
theorem d_89_24 : decode prog_5_method_27_code 24 = .ok (.invokevirtual 205, 3) := by decide +kernel
theorem d_89_27 : decode prog_5_method_27_code 27 = .ok (.istore 4, 2) := by decide +kernel
theorem d_89_29 : decode prog_5_method_27_code 29 = .ok (.aload_n 1, 1) := by decide +kernel
theorem d_89_30 : decode prog_5_method_27_code 30 = .ok (.invokevirtual 183, 3) := by decide +kernel
theorem d_89_33 : decode prog_5_method_27_code 33 = .ok (.istore 5, 2) := by decide +kernel
theorem d_89_35 : decode prog_5_method_27_code 35 = .ok (.aload_n 0, 1) := by decide +kernel
theorem d_89_36 : decode prog_5_method_27_code 36 = .ok (.iload 4, 2) := by decide +kernel
theorem d_89_38 : decode prog_5_method_27_code 38 = .ok (.iload 5, 2) := by decide +kernel
theorem d_89_40 : decode prog_5_method_27_code 40 = .ok (.invokevirtual 208, 3) := by decide +kernel
theorem d_89_43 : decode prog_5_method_27_code 43 = .ok (.ifCond .ge 5, 3) := by decide +kernel
theorem d_89_46 : decode prog_5_method_27_code 46 = .ok (.iconst 0, 1) := by decide +kernel
theorem d_89_47 : decode prog_5_method_27_code 47 = .ok (.ireturn, 1) := by decide +kernel
theorem d_89_48 : decode prog_5_method_27_code 48 = .ok (.iinc 3 1, 3) := by decide +kernel
theorem d_89_51 : decode prog_5_method_27_code 51 = .ok (.goto (-33), 3) := by decide +kernel
theorem d_89_54 : decode prog_5_method_27_code 54 = .ok (.iconst 1, 1) := by decide +kernel
theorem d_89_55 : decode prog_5_method_27_code 55 = .ok (.ireturn, 1) := by decide +kernel
theorem d_90_0 : decode prog_3_method_14_code 0 = .ok (.aload_n 0, 1) := by decide +kernel
theorem d_90_1 : decode prog_3_method_14_code 1 = .ok (.iconst 4, 1) := by decide +kernel
theorem d_90_2 : decode prog_3_method_14_code 2 = .ok (.invokevirtual 34, 3) := by decide +kernel
theorem d_90_5 : decode prog_3_method_14_code 5 = .ok (.pop, 1) := by decide +kernel
theorem d_90_6 : decode prog_3_method_14_code 6 = .ok (.aload_n 0, 1) := by decide +kernel
theorem d_90_7 : decode prog_3_method_14_code 7 = .ok (.iconst 4, 1) := by decide +kernel
theorem d_90_8 : decode prog_3_method_14_code 8 = .ok (.invokevirtual 34, 3) := by decide +kernel
theorem d_90_11 : decode prog_3_method_14_code 11 = .ok (.ireturn, 1) := by decide +kernel
theorem d_91_0 : decode prog_3_method_13_code 0 = .ok (.aload_n 0, 1) := by decide +kernel
theorem d_91_1 : decode prog_3_method_13_code 1 = .ok (.iconst 4, 1) := by decide +kernel
theorem d_91_2 : decode prog_3_method_13_code 2 = .ok (.invokevirtual 34, 3) := by decide +kernel
theorem d_91_5 : decode prog_3_method_13_code 5 = .ok (.pop, 1) := by decide +kernel
theorem d_91_6 : decode prog_3_method_13_code 6 = .ok (.aload_n 0, 1) := by decide +kernel
theorem d_91_7 : decode prog_3_method_13_code 7 = .ok (.iconst 4, 1) := by decide +kernel
theorem d_91_8 : decode prog_3_method_13_code 8 = .ok (.invokevirtual 34, 3) := by decide +kernel
theorem d_91_11 : decode prog_3_method_13_code 11 = .ok (.bipush 24, 2) := by decide +kernel
theorem d_91_13 : decode prog_3_method_13_code 13 = .ok (.iushr, 1) := by decide +kernel
theorem d_91_14 : decode prog_3_method_13_code 14 = .ok (.ireturn, 1) := by decide +kernel
theorem d_92_0 : decode prog_2_method_7_code 0 = .ok (.aload_n 1, 1) := by decide +kernel
theorem d_92_1 : decode prog_2_method_7_code 1 = .ok (.invokevirtual 69, 3) := by decide +kernel
theorem d_92_4 : decode prog_2_method_7_code 4 = .ok (.istore_n 2, 1) := by decide +kernel
theorem d_92_5 : decode prog_2_method_7_code 5 = .ok (.iload_n 2, 1) := by decide +kernel
theorem d_92_6 : decode prog_2_method_7_code 6 = .ok (.ifCond .lt 8, 3) := by decide +kernel
theorem d_92_9 : decode prog_2_method_7_code 9 = .ok (.iload_n 2, 1) := by decide +kernel
theorem d_92_10 : decode prog_2_method_7_code 10 = .ok (.iconst 3, 1) := by decide +kernel
theorem d_92_11 : decode prog_2_method_7_code 11 = .ok (.if_icmp .le 5, 3) := by decide +kernel
theorem d_92_14 : decode prog_2_method_7_code 14 = .ok (.iconst 0, 1) := by decide +kernel
theorem d_92_15 : decode prog_2_method_7_code 15 = .ok (.ireturn, 1) := by decide +kernel
theorem d_92_16 : decode prog_2_method_7_code 16 = .ok (.iconst 0, 1) := by decide +kernel
theorem d_92_17 : decode prog_2_method_7_code 17 = .ok (.istore_n 3, 1) := by decide +kernel
theorem d_92_18 : decode prog_2_method_7_code 18 = .ok (.iload_n 3, 1) := by decide +kernel
theorem d_92_19 : decode prog_2_method_7_code 19 = .ok (.iload_n 2, 1) := by decide +kernel
theorem d_92_20 : decode prog_2_method_7_code 20 = .ok (.if_icmp .ge 73, 3) := by decide +kernel
theorem d_92_23 : decode prog_2_method_7_code 23 = .ok (.aload_n 1, 1) := by decide +kernel
theorem d_92_24 : decode prog_2_method_7_code 24 = .ok (.invokevirtual 73, 3) := by decide +kernel
theorem d_92_27 : decode prog_2_method_7_code 27 = .ok (.istore 4, 2) := by decide +kernel
theorem d_92_29 : decode prog_2_method_7_code 29 = .ok (.aload_n 1, 1) := by decide +kernel
theorem d_92_30 : decode prog_2_method_7_code 30 = .ok (.invokevirtual 76, 3) := by decide +kernel
theorem d_92_33 : decode prog_2_method_7_code 33 = .ok (.istore 5, 2) := by decide +kernel
theorem d_92_35 : decode prog_2_method_7_code 35 = .ok (.aload_n 1, 1) := by decide +kernel
theorem d_92_36 : decode prog_2_method_7_code 36 = .ok (.invokevirtual 76, 3) := by decide +kernel
theorem d_92_39 : decode prog_2_method_7_code 39 = .ok (.pop, 1) := by decide +kernel
theorem d_92_40 : decode prog_2_method_7_code 40 = .ok (.iload 5, 2) := by decide +kernel
theorem d_92_42 : decode prog_2_method_7_code 42 = .ok (.invokestatic 32, 3) := by decide +kernel
theorem d_92_45 : decode prog_2_method_7_code 45 = .ok (.ifCond .ne 5, 3) := by decide +kernel
theorem d_92_48 : decode prog_2_method_7_code 48 = .ok (.iconst 0, 1) := by decide +kernel
theorem d_92_49 : decode prog_2_method_7_code 49 = .ok (.ireturn, 1) := by decide +kernel
theorem d_92_50 : decode prog_2_method_7_code 50 = .ok (.aload_n 1, 1) := by decide +kernel
theorem d_92_51 : decode prog_2_method_7_code 51 = .ok (.iload 5, 2) := by decide +kernel
theorem d_92_53 : decode prog_2_method_7_code 53 = .ok (.invokevirtual 79, 3) := by decide +kernel
theorem d_92_56 : decode prog_2_method_7_code 56 = .ok (.istore 6, 2) := by decide +kernel
theorem d_92_58 : decode prog_2_method_7_code 58 = .ok (.aload_n 1, 1) := by decide +kernel
theorem d_92_59 : decode prog_2_method_7_code 59 = .ok (.iload 5, 2) := by decide +kernel
theorem d_92_61 : decode prog_2_method_7_code 61 = .ok (.invokevirtual 79, 3) := by decide +kernel
theorem d_92_64 : decode prog_2_method_7_code 64 = .ok (.istore 7, 2) := by decide +kernel
theorem d_92_66 : decode prog_2_method_7_code 66 = .ok (.aload_n 1, 1) := by decide +kernel
theorem d_92_67 : decode prog_2_method_7_code 67 = .ok (.invokevirtual 82, 3) := by decide +kernel
theorem d_92_70 : decode prog_2_method_7_code 70 = .ok (.aload_n 0, 1) := by decide +kernel
theorem d_92_71 : decode prog_2_method_7_code 71 = .ok (.iload 4, 2) := by decide +kernel
theorem d_92_73 : decode prog_2_method_7_code 73 = .ok (.iload 5, 2) := by decide +kernel
theorem d_92_75 : decode prog_2_method_7_code 75 = .ok (.iload 6, 2) := by decide +kernel
theorem d_92_77 : decode prog_2_method_7_code 77 = .ok (.iload 7, 2) := by decide +kernel
theorem d_92_79 : decode prog_2_method_7_code 79 = .ok (.invokevirtual 85, 3) := by decide +kernel
theorem d_92_82 : decode prog_2_method_7_code 82 = .ok (.ifCond .ge 5, 3) := by decide +kernel
theorem d_92_85 : decode prog_2_method_7_code 85 = .ok (.iconst 0, 1) := by decide +kernel
theorem d_92_86 : decode prog_2_method_7_code 86 = .ok (.ireturn, 1) := by decide +kernel
theorem d_92_87 : decode prog_2_method_7_code 87 = .ok (.iinc 3 1, 3) := by decide +kernel
theorem d_92_90 : decode prog_2_method_7_code 90 = .ok (.goto (-72), 3) := by decide +kernel
theorem d_92_93 : decode prog_2_method_7_code 93 = .ok (.iconst 1, 1) := by decide +kernel
theorem d_92_94 : decode prog_2_method_7_code 94 = .ok (.ireturn, 1) := by decide +kernel
theorem d_93_0 : decode prog_3_method_15_code 0 = .ok (.aload_n 0, 1) := by decide +kernel
theorem d_93_1 : decode prog_3_method_15_code 1 = .ok (.getstatic 37, 3) := by decide +kernel
theorem d_93_4 : decode prog_3_method_15_code 4 = .ok (.iload_n 1, 1) := by decide +kernel
theorem d_93_5 : decode prog_3_method_15_code 5 = .ok (.iaload, 1) := by decide +kernel
theorem d_93_6 : decode prog_3_method_15_code 6 = .ok (.invokevirtual 34, 3) := by decide +kernel
theorem d_93_9 : decode prog_3_method_15_code 9 = .ok (.istore_n 2, 1) := by decide +kernel
theorem d_93_10 : decode prog_3_method_15_code 10 = .ok (.iload_n 1, 1) := by decide +kernel
theorem d_93_11 : decode prog_3_method_15_code 11 = .ok (.iconst 1, 1) := by decide +kernel
theorem d_93_12 : decode prog_3_method_15_code 12 = .ok (.if_icmp .ne 6, 3) := by decide +kernel
theorem d_93_15 : decode prog_3_method_15_code 15 = .ok (.iload_n 2, 1) := by decide +kernel
theorem d_93_16 : decode prog_3_method_15_code 16 = .ok (.i2b, 1) := by decide +kernel
theorem d_93_17 : decode prog_3_method_15_code 17 = .ok (.ireturn, 1) := by decide +kernel
theorem d_93_18 : decode prog_3_method_15_code 18 = .ok (.iload_n 1, 1) := by decide +kernel
theorem d_93_19 : decode prog_3_method_15_code 19 = .ok (.iconst 3, 1) := by decide +kernel
theorem d_93_20 : decode prog_3_method_15_code 20 = .ok (.if_icmp .ne 8, 3) := by decide +kernel
theorem d_93_23 : decode prog_3_method_15_code 23 = .ok (.iload_n 2, 1) := by decide +kernel
theorem d_93_24 : decode prog_3_method_15_code 24 = .ok (.i2s, 1) := by decide +kernel
theorem d_93_25 : decode prog_3_method_15_code 25 = .ok (.goto 4, 3) := by decide +kernel
theorem d_93_28 : decode prog_3_method_15_code 28 = .ok (.iload_n 2, 1) := by decide +kernel
theorem d_93_29 : decode prog_3_method_15_code 29 = .ok (.ireturn, 1) := by decide +kernel
theorem d_94_0 : decode prog_3_method_16_code 0 = .ok (.aload_n 0, 1) := by decide +kernel
theorem d_94_1 : decode prog_3_method_16_code 1 = .ok (.aload_n 0, 1) := by decide +kernel
theorem d_94_2 : decode prog_3_method_16_code 2 = .ok (.getfield 19, 3) := by decide +kernel
theorem d_94_5 : decode prog_3_method_16_code 5 = .ok (.invokestatic 30, 3) := by decide +kernel
theorem d_94_8 : decode prog_3_method_16_code 8 = .ok (.putfield 19, 3) := by decide +kernel
theorem d_94_11 : decode prog_3_method_16_code 11 = .ok (.return_, 1) := by decide +kernel
theorem d_95_0 : decode prog_5_method_28_code 0 = .ok (.aload_n 1, 1) := by decide +kernel
theorem d_95_1 : decode prog_5_method_28_code 1 = .ok (.invokevirtual 202, 3) := by decide +kernel
theorem d_95_4 : decode prog_5_method_28_code 4 = .ok (.istore_n 2, 1) := by decide +kernel
theorem d_95_5 : decode prog_5_method_28_code 5 = .ok (.iload_n 2, 1) := by decide +kernel
theorem d_95_6 : decode prog_5_method_28_code 6 = .ok (.ifCond .lt 8, 3) := by decide +kernel
theorem d_95_9 : decode prog_5_method_28_code 9 = .ok (.iload_n 2, 1) := by decide +kernel
theorem d_95_10 : decode prog_5_method_28_code 10 = .ok (.iconst 5, 1) := by decide +kernel
theorem d_95_11 : decode prog_5_method_28_code 11 = .ok (.if_icmp .le 5, 3) := by decide +kernel
theorem d_95_14 : decode prog_5_method_28_code 14 = .ok (.iconst 0, 1) := by decide +kernel
theorem d_95_15 : decode prog_5_method_28_code 15 = .ok (.ireturn, 1) := by decide +kernel
theorem d_95_16 : decode prog_5_method_28_code 16 = .ok (.iconst 0, 1) := by decide +kernel
theorem d_95_17 : decode prog_5_method_28_code 17 = .ok (.istore_n 3, 1) := by decide +kernel
theorem d_95_18 : decode prog_5_method_28_code 18 = .ok (.iload_n 3, 1) := by decide +kernel
theorem d_95_19 : decode prog_5_method_28_code 19 = .ok (.iload_n 2, 1) := by decide +kernel
theorem d_95_20 : decode prog_5_method_28_code 20 = .ok (.if_icmp .ge 28, 3) := by decide +kernel
theorem d_95_23 : decode prog_5_method_28_code 23 = .ok (.aload_n 0, 1) := by decide +kernel
theorem d_95_24 : decode prog_5_method_28_code 24 = .ok (.aload_n 1, 1) := by decide +kernel
theorem d_95_25 : decode prog_5_method_28_code 25 = .ok (.aload_n 0, 1) := by decide +kernel
theorem d_95_26 : decode prog_5_method_28_code 26 = .ok (.getfield 33, 3) := by decide +kernel
theorem d_95_29 : decode prog_5_method_28_code 29 = .ok (.iload_n 3, 1) := by decide +kernel
theorem d_95_30 : decode prog_5_method_28_code 30 = .ok (.aaload, 1) := by decide +kernel
theorem d_95_31 : decode prog_5_method_28_code 31 = .ok (.getfield 48, 3) := by decide +kernel
theorem d_95_34 : decode prog_5_method_28_code 34 = .ok (.invokevirtual 212, 3) := by decide +kernel
theorem d_95_37 : decode prog_5_method_28_code 37 = .ok (.ifCond .ne 5, 3) := by decide +kernel
theorem d_95_40 : decode prog_5_method_28_code 40 = .ok (.iconst 0, 1) := by decide +kernel
theorem d_95_41 : decode prog_5_method_28_code 41 = .ok (.ireturn, 1) := by decide +kernel
theorem d_95_42 : decode prog_5_method_28_code 42 = .ok (.iinc 3 1, 3) := by decide +kernel
theorem d_95_45 : decode prog_5_method_28_code 45 = .ok (.goto (-27), 3) := by decide +kernel
theorem d_95_48 : decode prog_5_method_28_code 48 = .ok (.iconst 1, 1) := by decide +kernel
theorem d_95_49 : decode prog_5_method_28_code 49 = .ok (.ireturn, 1) := by decide +kernel
theorem d_96_0 : decode prog_5_method_29_code 0 = .ok (.aload_n 1, 1) := by decide +kernel
theorem d_96_1 : decode prog_5_method_29_code 1 = .ok (.invokevirtual 205, 3) := by decide +kernel
theorem d_96_4 : decode prog_5_method_29_code 4 = .ok (.istore_n 3, 1) := by decide +kernel
theorem d_96_5 : decode prog_5_method_29_code 5 = .ok (.aload_n 1, 1) := by decide +kernel
theorem d_96_6 : decode prog_5_method_29_code 6 = .ok (.invokevirtual 183, 3) := by decide +kernel
theorem d_96_9 : decode prog_5_method_29_code 9 = .ok (.istore 4, 2) := by decide +kernel
theorem d_96_11 : decode prog_5_method_29_code 11 = .ok (.iload 4, 2) := by decide +kernel
theorem d_96_13 : decode prog_5_method_29_code 13 = .ok (.ifCond .lt 9, 3) := by decide +kernel
theorem d_96_16 : decode prog_5_method_29_code 16 = .ok (.iload 4, 2) := by decide +kernel
theorem d_96_18 : decode prog_5_method_29_code 18 = .ok (.iconst 2, 1) := by decide +kernel
theorem d_96_19 : decode prog_5_method_29_code 19 = .ok (.if_icmp .le 5, 3) := by decide +kernel
theorem d_96_22 : decode prog_5_method_29_code 22 = .ok (.iconst 0, 1) := by decide +kernel
theorem d_96_23 : decode prog_5_method_29_code 23 = .ok (.ireturn, 1) := by decide +kernel
theorem d_96_24 : decode prog_5_method_29_code 24 = .ok (.iload 4, 2) := by decide +kernel
theorem d_96_26 : decode prog_5_method_29_code 26 = .ok (.ifCond .le 10, 3) := by decide +kernel
theorem d_96_29 : decode prog_5_method_29_code 29 = .ok (.aload_n 1, 1) := by decide +kernel
theorem d_96_30 : decode prog_5_method_29_code 30 = .ok (.invokevirtual 183, 3) := by decide +kernel
theorem d_96_33 : decode prog_5_method_29_code 33 = .ok (.goto 4, 3) := by decide +kernel
theorem d_96_36 : decode prog_5_method_29_code 36 = .ok (.iconst (-1), 1) := by decide +kernel
theorem d_96_37 : decode prog_5_method_29_code 37 = .ok (.istore 5, 2) := by decide +kernel
theorem d_96_39 : decode prog_5_method_29_code 39 = .ok (.iload 4, 2) := by decide +kernel
theorem d_96_41 : decode prog_5_method_29_code 41 = .ok (.iconst 1, 1) := by decide +kernel
theorem d_96_42 : decode prog_5_method_29_code 42 = .ok (.if_icmp .le 10, 3) := by decide +kernel
theorem d_96_45 : decode prog_5_method_29_code 45 = .ok (.aload_n 1, 1) := by decide +kernel
theorem d_96_46 : decode prog_5_method_29_code 46 = .ok (.invokevirtual 183, 3) := by decide +kernel
theorem d_96_49 : decode prog_5_method_29_code 49 = .ok (.goto 4, 3) := by decide +kernel
theorem d_96_52 : decode prog_5_method_29_code 52 = .ok (.iconst (-1), 1) := by decide +kernel
theorem d_96_53 : decode prog_5_method_29_code 53 = .ok (.istore 6, 2) := by decide +kernel
theorem d_96_55 : decode prog_5_method_29_code 55 = .ok (.aload_n 2, 1) := by decide +kernel
theorem d_96_56 : decode prog_5_method_29_code 56 = .ok (.aload_n 1, 1) := by decide +kernel
theorem d_96_57 : decode prog_5_method_29_code 57 = .ok (.invokevirtual 190, 3) := by decide +kernel
theorem d_96_60 : decode prog_5_method_29_code 60 = .ok (.ifCond .ne 5, 3) := by decide +kernel
theorem d_96_63 : decode prog_5_method_29_code 63 = .ok (.iconst 0, 1) := by decide +kernel
theorem d_96_64 : decode prog_5_method_29_code 64 = .ok (.ireturn, 1) := by decide +kernel
theorem d_96_65 : decode prog_5_method_29_code 65 = .ok (.aload_n 1, 1) := by decide +kernel
theorem d_96_66 : decode prog_5_method_29_code 66 = .ok (.invokevirtual 183, 3) := by decide +kernel
theorem d_96_69 : decode prog_5_method_29_code 69 = .ok (.istore 7, 2) := by decide +kernel
theorem d_96_71 : decode prog_5_method_29_code 71 = .ok (.aload_n 1, 1) := by decide +kernel
theorem d_96_72 : decode prog_5_method_29_code 72 = .ok (.invokevirtual 183, 3) := by decide +kernel
theorem d_96_75 : decode prog_5_method_29_code 75 = .ok (.pop, 1) := by decide +kernel
theorem d_96_76 : decode prog_5_method_29_code 76 = .ok (.aload_n 1, 1) := by decide +kernel
theorem d_96_77 : decode prog_5_method_29_code 77 = .ok (.invokevirtual 183, 3) := by decide +kernel
theorem d_96_80 : decode prog_5_method_29_code 80 = .ok (.pop, 1) := by decide +kernel
theorem d_96_81 : decode prog_5_method_29_code 81 = .ok (.aload_n 0, 1) := by decide +kernel
theorem d_96_82 : decode prog_5_method_29_code 82 = .ok (.iload_n 3, 1) := by decide +kernel
theorem d_96_83 : decode prog_5_method_29_code 83 = .ok (.iload 7, 2) := by decide +kernel
theorem d_96_85 : decode prog_5_method_29_code 85 = .ok (.iload 5, 2) := by decide +kernel
theorem d_96_87 : decode prog_5_method_29_code 87 = .ok (.iload 6, 2) := by decide +kernel
theorem d_96_89 : decode prog_5_method_29_code 89 = .ok (.invokevirtual 216, 3) := by decide +kernel
theorem d_96_92 : decode prog_5_method_29_code 92 = .ok (.ifCond .lt 7, 3) := by decide +kernel
theorem d_96_95 : decode prog_5_method_29_code 95 = .ok (.iconst 1, 1) := by decide +kernel
theorem d_96_96 : decode prog_5_method_29_code 96 = .ok (.goto 4, 3) := by decide +kernel
theorem d_96_99 : decode prog_5_method_29_code 99 = .ok (.iconst 0, 1) := by decide +kernel
theorem d_96_100 : decode prog_5_method_29_code 100 = .ok (.ireturn, 1) := by decide +kernel
theorem d_97_0 : decode prog_5_method_30_code 0 = .ok (.iconst 0, 1) := by decide +kernel
theorem d_97_1 : decode prog_5_method_30_code 1 = .ok (.istore_n 2, 1) := by decide +kernel
theorem d_97_2 : decode prog_5_method_30_code 2 = .ok (.iload_n 2, 1) := by decide +kernel
theorem d_97_3 : decode prog_5_method_30_code 3 = .ok (.aload_n 0, 1) := by decide +kernel
theorem d_97_4 : decode prog_5_method_30_code 4 = .ok (.getfield 25, 3) := by decide +kernel
theorem d_97_7 : decode prog_5_method_30_code 7 = .ok (.if_icmp .ge 57, 3) := by decide +kernel
theorem d_97_10 : decode prog_5_method_30_code 10 = .ok (.aload_n 0, 1) := by decide +kernel
theorem d_97_11 : decode prog_5_method_30_code 11 = .ok (.getfield 33, 3) := by decide +kernel
theorem d_97_14 : decode prog_5_method_30_code 14 = .ok (.iload_n 2, 1) := by decide +kernel
theorem d_97_15 : decode prog_5_method_30_code 15 = .ok (.aaload, 1) := by decide +kernel
theorem d_97_16 : decode prog_5_method_30_code 16 = .ok (.getfield 94, 3) := by decide +kernel
theorem d_97_19 : decode prog_5_method_30_code 19 = .ok (.ifCond .ne 39, 3) := by decide +kernel
theorem d_97_22 : decode prog_5_method_30_code 22 = .ok (.iconst 0, 1) := by decide +kernel
theorem d_97_23 : decode prog_5_method_30_code 23 = .ok (.istore_n 3, 1) := by decide +kernel
theorem d_97_24 : decode prog_5_method_30_code 24 = .ok (.iload_n 3, 1) := by decide +kernel
theorem d_97_25 : decode prog_5_method_30_code 25 = .ok (.aload_n 0, 1) := by decide +kernel
theorem d_97_26 : decode prog_5_method_30_code 26 = .ok (.getfield 33, 3) := by decide +kernel
theorem d_97_29 : decode prog_5_method_30_code 29 = .ok (.iload_n 2, 1) := by decide +kernel
theorem d_97_30 : decode prog_5_method_30_code 30 = .ok (.aaload, 1) := by decide +kernel
theorem d_97_31 : decode prog_5_method_30_code 31 = .ok (.getfield 166, 3) := by decide +kernel
theorem d_97_34 : decode prog_5_method_30_code 34 = .ok (.if_icmp .ge 20, 3) := by decide +kernel
theorem d_97_37 : decode prog_5_method_30_code 37 = .ok (.aload_n 0, 1) := by decide +kernel
theorem d_97_38 : decode prog_5_method_30_code 38 = .ok (.getfield 33, 3) := by decide +kernel
theorem d_97_41 : decode prog_5_method_30_code 41 = .ok (.iload_n 2, 1) := by decide +kernel
theorem d_97_42 : decode prog_5_method_30_code 42 = .ok (.aaload, 1) := by decide +kernel
theorem d_97_43 : decode prog_5_method_30_code 43 = .ok (.aload_n 1, 1) := by decide +kernel
theorem d_97_44 : decode prog_5_method_30_code 44 = .ok (.iload_n 3, 1) := by decide +kernel
theorem d_97_45 : decode prog_5_method_30_code 45 = .ok (.invokevirtual 220, 3) := by decide +kernel
theorem d_97_48 : decode prog_5_method_30_code 48 = .ok (.iinc 3 1, 3) := by decide +kernel
theorem d_97_51 : decode prog_5_method_30_code 51 = .ok (.goto (-27), 3) := by decide +kernel
theorem d_97_54 : decode prog_5_method_30_code 54 = .ok (.aload_n 1, 1) := by decide +kernel
theorem d_97_55 : decode prog_5_method_30_code 55 = .ok (.invokevirtual 223, 3) := by decide +kernel
theorem d_97_58 : decode prog_5_method_30_code 58 = .ok (.iinc 2 1, 3) := by decide +kernel
theorem d_97_61 : decode prog_5_method_30_code 61 = .ok (.goto (-59), 3) := by decide +kernel
theorem d_97_64 : decode prog_5_method_30_code 64 = .ok (.aload_n 0, 1) := by decide +kernel
theorem d_97_65 : decode prog_5_method_30_code 65 = .ok (.invokevirtual 112, 3) := by decide +kernel
theorem d_97_68 : decode prog_5_method_30_code 68 = .ok (.iconst 1, 1) := by decide +kernel
theorem d_97_69 : decode prog_5_method_30_code 69 = .ok (.if_icmp .le 7, 3) := by decide +kernel
theorem d_97_72 : decode prog_5_method_30_code 72 = .ok (.iconst 1, 1) := by decide +kernel
theorem d_97_73 : decode prog_5_method_30_code 73 = .ok (.goto 4, 3) := by decide +kernel
theorem d_97_76 : decode prog_5_method_30_code 76 = .ok (.iconst 0, 1) := by decide +kernel
theorem d_97_77 : decode prog_5_method_30_code 77 = .ok (.istore_n 2, 1) := by decide +kernel
theorem d_97_78 : decode prog_5_method_30_code 78 = .ok (.iconst 0, 1) := by decide +kernel
theorem d_97_79 : decode prog_5_method_30_code 79 = .ok (.istore_n 3, 1) := by decide +kernel
theorem d_97_80 : decode prog_5_method_30_code 80 = .ok (.iload_n 3, 1) := by decide +kernel
theorem d_97_81 : decode prog_5_method_30_code 81 = .ok (.aload_n 0, 1) := by decide +kernel
theorem d_97_82 : decode prog_5_method_30_code 82 = .ok (.getfield 9, 3) := by decide +kernel
theorem d_97_85 : decode prog_5_method_30_code 85 = .ok (.if_icmp .ge 16, 3) := by decide +kernel
theorem d_97_88 : decode prog_5_method_30_code 88 = .ok (.aload_n 0, 1) := by decide +kernel
theorem d_97_89 : decode prog_5_method_30_code 89 = .ok (.aload_n 1, 1) := by decide +kernel
theorem d_97_90 : decode prog_5_method_30_code 90 = .ok (.iload_n 3, 1) := by decide +kernel
theorem d_97_91 : decode prog_5_method_30_code 91 = .ok (.iload_n 2, 1) := by decide +kernel
theorem d_97_92 : decode prog_5_method_30_code 92 = .ok (.invokevirtual 226, 3) := by decide +kernel
theorem d_97_95 : decode prog_5_method_30_code 95 = .ok (.iinc 3 1, 3) := by decide +kernel
theorem d_97_98 : decode prog_5_method_30_code 98 = .ok (.goto (-18), 3) := by decide +kernel
theorem d_97_101 : decode prog_5_method_30_code 101 = .ok (.return_, 1) := by decide +kernel
theorem d_98_0 : decode prog_6_method_13_code 0 = .ok (.iconst 0, 1) := by decide +kernel
theorem d_98_1 : decode prog_6_method_13_code 1 = .ok (.istore_n 3, 1) := by decide +kernel
theorem d_98_2 : decode prog_6_method_13_code 2 = .ok (.iload_n 3, 1) := by decide +kernel
theorem d_98_3 : decode prog_6_method_13_code 3 = .ok (.aload_n 0, 1) := by decide +kernel
theorem d_98_4 : decode prog_6_method_13_code 4 = .ok (.getfield 28, 3) := by decide +kernel
theorem d_98_7 : decode prog_6_method_13_code 7 = .ok (.if_icmp .ge 23, 3) := by decide +kernel
theorem d_98_10 : decode prog_6_method_13_code 10 = .ok (.aload_n 0, 1) := by decide +kernel
theorem d_98_11 : decode prog_6_method_13_code 11 = .ok (.iload_n 2, 1) := by decide +kernel
theorem d_98_12 : decode prog_6_method_13_code 12 = .ok (.iload_n 3, 1) := by decide +kernel
theorem d_98_13 : decode prog_6_method_13_code 13 = .ok (.aload_n 1, 1) := by decide +kernel
theorem d_98_14 : decode prog_6_method_13_code 14 = .ok (.aload_n 0, 1) := by decide +kernel
theorem d_98_15 : decode prog_6_method_13_code 15 = .ok (.getfield 9, 3) := by decide +kernel
theorem d_98_18 : decode prog_6_method_13_code 18 = .ok (.invokevirtual 90, 3) := by decide +kernel
theorem d_98_21 : decode prog_6_method_13_code 21 = .ok (.invokevirtual 60, 3) := by decide +kernel
theorem d_98_24 : decode prog_6_method_13_code 24 = .ok (.iinc 3 1, 3) := by decide +kernel
theorem d_98_27 : decode prog_6_method_13_code 27 = .ok (.goto (-25), 3) := by decide +kernel
theorem d_98_30 : decode prog_6_method_13_code 30 = .ok (.return_, 1) := by decide +kernel
theorem d_99_0 : decode prog_5_method_31_code 0 = .ok (.iconst 0, 1) := by decide +kernel
theorem d_99_1 : decode prog_5_method_31_code 1 = .ok (.istore 4, 2) := by decide +kernel
theorem d_99_3 : decode prog_5_method_31_code 3 = .ok (.iload 4, 2) := by decide +kernel
theorem d_99_5 : decode prog_5_method_31_code 5 = .ok (.aload_n 0, 1) := by decide +kernel
theorem d_99_6 : decode prog_5_method_31_code 6 = .ok (.getfield 25, 3) := by decide +kernel
theorem d_99_9 : decode prog_5_method_31_code 9 = .ok (.if_icmp .ge 42, 3) := by decide +kernel
theorem d_99_12 : decode prog_5_method_31_code 12 = .ok (.aload_n 0, 1) := by decide +kernel
theorem d_99_13 : decode prog_5_method_31_code 13 = .ok (.getfield 33, 3) := by decide +kernel
theorem d_99_16 : decode prog_5_method_31_code 16 = .ok (.iload 4, 2) := by decide +kernel
theorem d_99_18 : decode prog_5_method_31_code 18 = .ok (.aaload, 1) := by decide +kernel
theorem d_99_19 : decode prog_5_method_31_code 19 = .ok (.getfield 94, 3) := by decide +kernel
theorem d_99_22 : decode prog_5_method_31_code 22 = .ok (.ifCond .eq 23, 3) := by decide +kernel
theorem d_99_25 : decode prog_5_method_31_code 25 = .ok (.aload_n 0, 1) := by decide +kernel
theorem d_99_26 : decode prog_5_method_31_code 26 = .ok (.getfield 33, 3) := by decide +kernel
theorem d_99_29 : decode prog_5_method_31_code 29 = .ok (.iload 4, 2) := by decide +kernel
theorem d_99_31 : decode prog_5_method_31_code 31 = .ok (.aaload, 1) := by decide +kernel
theorem d_99_32 : decode prog_5_method_31_code 32 = .ok (.aload_n 1, 1) := by decide +kernel
theorem d_99_33 : decode prog_5_method_31_code 33 = .ok (.iload_n 2, 1) := by decide +kernel
theorem d_99_34 : decode prog_5_method_31_code 34 = .ok (.invokevirtual 220, 3) := by decide +kernel
theorem d_99_37 : decode prog_5_method_31_code 37 = .ok (.iload_n 3, 1) := by decide +kernel
theorem d_99_38 : decode prog_5_method_31_code 38 = .ok (.ifCond .eq 7, 3) := by decide +kernel
theorem d_99_41 : decode prog_5_method_31_code 41 = .ok (.aload_n 1, 1) := by decide +kernel
theorem d_99_42 : decode prog_5_method_31_code 42 = .ok (.invokevirtual 223, 3) := by decide +kernel
theorem d_99_45 : decode prog_5_method_31_code 45 = .ok (.iinc 4 1, 3) := by decide +kernel
theorem d_99_48 : decode prog_5_method_31_code 48 = .ok (.goto (-45), 3) := by decide +kernel
theorem d_99_51 : decode prog_5_method_31_code 51 = .ok (.return_, 1) := by decide +kernel
theorem d_100_0 : decode prog_3_method_17_code 0 = .ok (.aload_n 0, 1) := by decide +kernel
theorem d_100_1 : decode prog_3_method_17_code 1 = .ok (.getfield 15, 3) := by decide +kernel
theorem d_100_4 : decode prog_3_method_17_code 4 = .ok (.aload_n 1, 1) := by decide +kernel
theorem d_100_5 : decode prog_3_method_17_code 5 = .ok (.getfield 15, 3) := by decide +kernel
theorem d_100_8 : decode prog_3_method_17_code 8 = .ok (.if_icmp .eq 5, 3) := by decide +kernel
theorem d_100_11 : decode prog_3_method_17_code 11 = .ok (.iconst 0, 1) := by decide +kernel
theorem d_100_12 : decode prog_3_method_17_code 12 = .ok (.ireturn, 1) := by decide +kernel
theorem d_100_13 : decode prog_3_method_17_code 13 = .ok (.iconst 0, 1) := by decide +kernel
theorem d_100_14 : decode prog_3_method_17_code 14 = .ok (.istore_n 2, 1) := by decide +kernel
theorem d_100_15 : decode prog_3_method_17_code 15 = .ok (.iload_n 2, 1) := by decide +kernel
theorem d_100_16 : decode prog_3_method_17_code 16 = .ok (.aload_n 0, 1) := by decide +kernel
theorem d_100_17 : decode prog_3_method_17_code 17 = .ok (.getfield 15, 3) := by decide +kernel
theorem d_100_20 : decode prog_3_method_17_code 20 = .ok (.if_icmp .ge 26, 3) := by decide +kernel
theorem d_100_23 : decode prog_3_method_17_code 23 = .ok (.aload_n 0, 1) := by decide +kernel
theorem d_100_24 : decode prog_3_method_17_code 24 = .ok (.getfield 9, 3) := by decide +kernel
theorem d_100_27 : decode prog_3_method_17_code 27 = .ok (.iload_n 2, 1) := by decide +kernel
theorem d_100_28 : decode prog_3_method_17_code 28 = .ok (.baload, 1) := by decide +kernel
theorem d_100_29 : decode prog_3_method_17_code 29 = .ok (.aload_n 1, 1) := by decide +kernel
theorem d_100_30 : decode prog_3_method_17_code 30 = .ok (.getfield 9, 3) := by decide +kernel
theorem d_100_33 : decode prog_3_method_17_code 33 = .ok (.iload_n 2, 1) := by decide +kernel
theorem d_100_34 : decode prog_3_method_17_code 34 = .ok (.baload, 1) := by decide +kernel
theorem d_100_35 : decode prog_3_method_17_code 35 = .ok (.if_icmp .eq 5, 3) := by decide +kernel
theorem d_100_38 : decode prog_3_method_17_code 38 = .ok (.iconst 0, 1) := by decide +kernel
theorem d_100_39 : decode prog_3_method_17_code 39 = .ok (.ireturn, 1) := by decide +kernel
theorem d_100_40 : decode prog_3_method_17_code 40 = .ok (.iinc 2 1, 3) := by decide +kernel
theorem d_100_43 : decode prog_3_method_17_code 43 = .ok (.goto (-28), 3) := by decide +kernel
theorem d_100_46 : decode prog_3_method_17_code 46 = .ok (.iconst 1, 1) := by decide +kernel
theorem d_100_47 : decode prog_3_method_17_code 47 = .ok (.ireturn, 1) := by decide +kernel
theorem d_101_0 : decode prog_8_method_1_code 0 = .ok (.aload_n 0, 1) := by decide +kernel
theorem d_101_1 : decode prog_8_method_1_code 1 = .ok (.invokespecial 1, 3) := by decide +kernel
theorem d_101_4 : decode prog_8_method_1_code 4 = .ok (.aload_n 0, 1) := by decide +kernel
theorem d_101_5 : decode prog_8_method_1_code 5 = .ok (.iconst 2, 1) := by decide +kernel
theorem d_101_6 : decode prog_8_method_1_code 6 = .ok (.newarray .int, 2) := by decide +kernel
theorem d_101_8 : decode prog_8_method_1_code 8 = .ok (.putfield 7, 3) := by decide +kernel
theorem d_101_11 : decode prog_8_method_1_code 11 = .ok (.aload_n 0, 1) := by decide +kernel
theorem d_101_12 : decode prog_8_method_1_code 12 = .ok (.bipush 8, 2) := by decide +kernel
theorem d_101_14 : decode prog_8_method_1_code 14 = .ok (.newarray .int, 2) := by decide +kernel
theorem d_101_16 : decode prog_8_method_1_code 16 = .ok (.putfield 13, 3) := by decide +kernel
theorem d_101_19 : decode prog_8_method_1_code 19 = .ok (.aload_n 0, 1) := by decide +kernel
theorem d_101_20 : decode prog_8_method_1_code 20 = .ok (.bipush 8, 2) := by decide +kernel
theorem d_101_22 : decode prog_8_method_1_code 22 = .ok (.newarray .int, 2) := by decide +kernel
theorem d_101_24 : decode prog_8_method_1_code 24 = .ok (.putfield 16, 3) := by decide +kernel
theorem d_101_27 : decode prog_8_method_1_code 27 = .ok (.aload_n 0, 1) := by decide +kernel
theorem d_101_28 : decode prog_8_method_1_code 28 = .ok (.iconst 2, 1) := by decide +kernel
theorem d_101_29 : decode prog_8_method_1_code 29 = .ok (.newarray .int, 2) := by decide +kernel
theorem d_101_31 : decode prog_8_method_1_code 31 = .ok (.putfield 19, 3) := by decide +kernel
theorem d_101_34 : decode prog_8_method_1_code 34 = .ok (.aload_n 0, 1) := by decide +kernel
theorem d_101_35 : decode prog_8_method_1_code 35 = .ok (.bipush 10, 2) := by decide +kernel
theorem d_101_37 : decode prog_8_method_1_code 37 = .ok (.newarray .int, 2) := by decide +kernel
theorem d_101_39 : decode prog_8_method_1_code 39 = .ok (.putfield 22, 3) := by decide +kernel
theorem d_101_42 : decode prog_8_method_1_code 42 = .ok (.aload_n 0, 1) := by decide +kernel
theorem d_101_43 : decode prog_8_method_1_code 43 = .ok (.bipush 10, 2) := by decide +kernel
theorem d_101_45 : decode prog_8_method_1_code 45 = .ok (.newarray .int, 2) := by decide +kernel
theorem d_101_47 : decode prog_8_method_1_code 47 = .ok (.putfield 25, 3) := by decide +kernel
theorem d_101_50 : decode prog_8_method_1_code 50 = .ok (.aload_n 0, 1) := by decide +kernel
theorem d_101_51 : decode prog_8_method_1_code 51 = .ok (.bipush 10, 2) := by decide +kernel
theorem d_101_53 : decode prog_8_method_1_code 53 = .ok (.newarray .int, 2) := by decide +kernel
theorem d_101_55 : decode prog_8_method_1_code 55 = .ok (.putfield 28, 3) := by decide +kernel
theorem d_101_58 : decode prog_8_method_1_code 58 = .ok (.aload_n 0, 1) := by decide +kernel
theorem d_101_59 : decode prog_8_method_1_code 59 = .ok (.bipush 20, 2) := by decide +kernel
theorem d_101_61 : decode prog_8_method_1_code 61 = .ok (.newarray .int, 2) := by decide +kernel
theorem d_101_63 : decode prog_8_method_1_code 63 = .ok (.putfield 31, 3) := by decide +kernel
theorem d_101_66 : decode prog_8_method_1_code 66 = .ok (.aload_n 0, 1) := by decide +kernel
theorem d_101_67 : decode prog_8_method_1_code 67 = .ok (.bipush 12, 2) := by decide +kernel
theorem d_101_69 : decode prog_8_method_1_code 69 = .ok (.newarray .int, 2) := by decide +kernel
theorem d_101_71 : decode prog_8_method_1_code 71 = .ok (.putfield 34, 3) := by decide +kernel
theorem d_101_74 : decode prog_8_method_1_code 74 = .ok (.aload_n 0, 1) := by decide +kernel
theorem d_101_75 : decode prog_8_method_1_code 75 = .ok (.bipush 36, 2) := by decide +kernel
theorem d_101_77 : decode prog_8_method_1_code 77 = .ok (.newarray .int, 2) := by decide +kernel
theorem d_101_79 : decode prog_8_method_1_code 79 = .ok (.putfield 37, 3) := by decide +kernel
theorem d_101_82 : decode prog_8_method_1_code 82 = .ok (.aload_n 0, 1) := by decide +kernel
theorem d_101_83 : decode prog_8_method_1_code 83 = .ok (.bipush 36, 2) := by decide +kernel
theorem d_101_85 : decode prog_8_method_1_code 85 = .ok (.newarray .int, 2) := by decide +kernel
theorem d_101_87 : decode prog_8_method_1_code 87 = .ok (.putfield 40, 3) := by decide +kernel
theorem d_101_90 : decode prog_8_method_1_code 90 = .ok (.aload_n 0, 1) := by decide +kernel
theorem d_101_91 : decode prog_8_method_1_code 91 = .ok (.bipush 36, 2) := by decide +kernel
theorem d_101_93 : decode prog_8_method_1_code 93 = .ok (.newarray .int, 2) := by decide +kernel
theorem d_101_95 : decode prog_8_method_1_code 95 = .ok (.putfield 43, 3) := by decide +kernel
theorem d_101_98 : decode prog_8_method_1_code 98 = .ok (.aload_n 0, 1) := by decide +kernel
theorem d_101_99 : decode prog_8_method_1_code 99 = .ok (.bipush 36, 2) := by decide +kernel
theorem d_101_101 : decode prog_8_method_1_code 101 = .ok (.newarray .int, 2) := by decide +kernel
theorem d_101_103 : decode prog_8_method_1_code 103 = .ok (.putfield 46, 3) := by decide +kernel
theorem d_101_106 : decode prog_8_method_1_code 106 = .ok (.aload_n 0, 1) := by decide +kernel
theorem d_101_107 : decode prog_8_method_1_code 107 = .ok (.iconst 2, 1) := by decide +kernel
theorem d_101_108 : decode prog_8_method_1_code 108 = .ok (.newarray .int, 2) := by decide +kernel
theorem d_101_110 : decode prog_8_method_1_code 110 = .ok (.putfield 49, 3) := by decide +kernel
theorem d_101_113 : decode prog_8_method_1_code 113 = .ok (.aload_n 0, 1) := by decide +kernel
theorem d_101_114 : decode prog_8_method_1_code 114 = .ok (.sipush 8000, 3) := by decide +kernel
theorem d_101_117 : decode prog_8_method_1_code 117 = .ok (.newarray .int, 2) := by decide +kernel
theorem d_101_119 : decode prog_8_method_1_code 119 = .ok (.putfield 52, 3) := by decide +kernel
theorem d_101_122 : decode prog_8_method_1_code 122 = .ok (.aload_n 0, 1) := by decide +kernel
theorem d_101_123 : decode prog_8_method_1_code 123 = .ok (.iconst 2, 1) := by decide +kernel
theorem d_101_124 : decode prog_8_method_1_code 124 = .ok (.newarray .int, 2) := by decide +kernel
theorem d_101_126 : decode prog_8_method_1_code 126 = .ok (.putfield 55, 3) := by decide +kernel
theorem d_101_129 : decode prog_8_method_1_code 129 = .ok (.aload_n 0, 1) := by decide +kernel
theorem d_101_130 : decode prog_8_method_1_code 130 = .ok (.iconst 2, 1) := by decide +kernel
theorem d_101_131 : decode prog_8_method_1_code 131 = .ok (.newarray .int, 2) := by decide +kernel
theorem d_101_133 : decode prog_8_method_1_code 133 = .ok (.dup, 1) := by decide +kernel
theorem d_101_134 : decode prog_8_method_1_code 134 = .ok (.iconst 0, 1) := by decide +kernel
theorem d_101_135 : decode prog_8_method_1_code 135 = .ok (.iconst 1, 1) := by decide +kernel
theorem d_101_136 : decode prog_8_method_1_code 136 = .ok (.iastore, 1) := by decide +kernel
theorem d_101_137 : decode prog_8_method_1_code 137 = .ok (.dup, 1) := by decide +kernel
theorem d_101_138 : decode prog_8_method_1_code 138 = .ok (.iconst 1, 1) := by decide +kernel
theorem d_101_139 : decode prog_8_method_1_code 139 = .ok (.iconst 1, 1) := by decide +kernel
theorem d_101_140 : decode prog_8_method_1_code 140 = .ok (.iastore, 1) := by decide +kernel
theorem d_101_141 : decode prog_8_method_1_code 141 = .ok (.putfield 58, 3) := by decide +kernel
theorem d_101_144 : decode prog_8_method_1_code 144 = .ok (.aload_n 0, 1) := by decide +kernel
theorem d_101_145 : decode prog_8_method_1_code 145 = .ok (.iconst 2, 1) := by decide +kernel
theorem d_101_146 : decode prog_8_method_1_code 146 = .ok (.newarray .int, 2) := by decide +kernel
theorem d_101_148 : decode prog_8_method_1_code 148 = .ok (.dup, 1) := by decide +kernel
theorem d_101_149 : decode prog_8_method_1_code 149 = .ok (.iconst 0, 1) := by decide +kernel
theorem d_101_150 : decode prog_8_method_1_code 150 = .ok (.iconst 1, 1) := by decide +kernel
theorem d_101_151 : decode prog_8_method_1_code 151 = .ok (.iastore, 1) := by decide +kernel
theorem d_101_152 : decode prog_8_method_1_code 152 = .ok (.dup, 1) := by decide +kernel
theorem d_101_153 : decode prog_8_method_1_code 153 = .ok (.iconst 1, 1) := by decide +kernel
theorem d_101_154 : decode prog_8_method_1_code 154 = .ok (.iconst 1, 1) := by decide +kernel
theorem d_101_155 : decode prog_8_method_1_code 155 = .ok (.iastore, 1) := by decide +kernel
theorem d_101_156 : decode prog_8_method_1_code 156 = .ok (.putfield 61, 3) := by decide +kernel
theorem d_101_159 : decode prog_8_method_1_code 159 = .ok (.aload_n 0, 1) := by decide +kernel
theorem d_101_160 : decode prog_8_method_1_code 160 = .ok (.sipush 800, 3) := by decide +kernel
theorem d_101_163 : decode prog_8_method_1_code 163 = .ok (.newarray .int, 2) := by decide +kernel
theorem d_101_165 : decode prog_8_method_1_code 165 = .ok (.putfield 64, 3) := by decide +kernel
theorem d_101_168 : decode prog_8_method_1_code 168 = .ok (.aload_n 0, 1) := by decide +kernel
theorem d_101_169 : decode prog_8_method_1_code 169 = .ok (.sipush 800, 3) := by decide +kernel
theorem d_101_172 : decode prog_8_method_1_code 172 = .ok (.newarray .int, 2) := by decide +kernel
theorem d_101_174 : decode prog_8_method_1_code 174 = .ok (.putfield 67, 3) := by decide +kernel
theorem d_101_177 : decode prog_8_method_1_code 177 = .ok (.return_, 1) := by decide +kernel
theorem d_102_0 : decode prog_8_method_30_code 0 = .ok (.aload_n 0, 1) := by decide +kernel
theorem d_102_1 : decode prog_8_method_30_code 1 = .ok (.getfield 140, 3) := by decide +kernel
theorem d_102_4 : decode prog_8_method_30_code 4 = .ok (.ifCond .eq 5, 3) := by decide +kernel
theorem d_102_7 : decode prog_8_method_30_code 7 = .ok (.iconst (-1), 1) := by decide +kernel
theorem d_102_8 : decode prog_8_method_30_code 8 = .ok (.ireturn, 1) := by decide +kernel
theorem d_102_9 : decode prog_8_method_30_code 9 = .ok (.iload_n 1, 1) := by decide +kernel
theorem d_102_10 : decode prog_8_method_30_code 10 = .ok (.invokestatic 144, 3) := by decide +kernel
theorem d_102_13 : decode prog_8_method_30_code 13 = .ok (.ifCond .eq 13, 3) := by decide +kernel
theorem d_102_16 : decode prog_8_method_30_code 16 = .ok (.iload_n 2, 1) := by decide +kernel
theorem d_102_17 : decode prog_8_method_30_code 17 = .ok (.ifCond .lt 9, 3) := by decide +kernel
theorem d_102_20 : decode prog_8_method_30_code 20 = .ok (.iload_n 2, 1) := by decide +kernel
theorem d_102_21 : decode prog_8_method_30_code 21 = .ok (.bipush 8, 2) := by decide +kernel
theorem d_102_23 : decode prog_8_method_30_code 23 = .ok (.if_icmp .le 6, 3) := by decide +kernel
theorem d_102_26 : decode prog_8_method_30_code 26 = .ok (.bipush (-2), 2) := by decide +kernel
theorem d_102_28 : decode prog_8_method_30_code 28 = .ok (.ireturn, 1) := by decide +kernel
theorem d_102_29 : decode prog_8_method_30_code 29 = .ok (.aload_n 0, 1) := by decide +kernel
theorem d_102_30 : decode prog_8_method_30_code 30 = .ok (.aload_n 0, 1) := by decide +kernel
theorem d_102_31 : decode prog_8_method_30_code 31 = .ok (.getfield 137, 3) := by decide +kernel
theorem d_102_34 : decode prog_8_method_30_code 34 = .ok (.iload_n 1, 1) := by decide +kernel
theorem d_102_35 : decode prog_8_method_30_code 35 = .ok (.iconst (-1), 1) := by decide +kernel
theorem d_102_36 : decode prog_8_method_30_code 36 = .ok (.invokevirtual 148, 3) := by decide +kernel
theorem d_102_39 : decode prog_8_method_30_code 39 = .ok (.ifCond .eq 6, 3) := by decide +kernel
theorem d_102_42 : decode prog_8_method_30_code 42 = .ok (.bipush (-4), 2) := by decide +kernel
theorem d_102_44 : decode prog_8_method_30_code 44 = .ok (.ireturn, 1) := by decide +kernel
theorem d_102_45 : decode prog_8_method_30_code 45 = .ok (.aload_n 0, 1) := by decide +kernel
theorem d_102_46 : decode prog_8_method_30_code 46 = .ok (.getfield 7, 3) := by decide +kernel
theorem d_102_49 : decode prog_8_method_30_code 49 = .ok (.aload_n 0, 1) := by decide +kernel
theorem d_102_50 : decode prog_8_method_30_code 50 = .ok (.getfield 137, 3) := by decide +kernel
theorem d_102_53 : decode prog_8_method_30_code 53 = .ok (.iaload, 1) := by decide +kernel
theorem d_102_54 : decode prog_8_method_30_code 54 = .ok (.iconst 4, 1) := by decide +kernel
theorem d_102_55 : decode prog_8_method_30_code 55 = .ok (.if_icmp .eq 18, 3) := by decide +kernel
theorem d_102_58 : decode prog_8_method_30_code 58 = .ok (.iload_n 2, 1) := by decide +kernel
theorem d_102_59 : decode prog_8_method_30_code 59 = .ok (.ifCond .ne 17, 3) := by decide +kernel
theorem d_102_62 : decode prog_8_method_30_code 62 = .ok (.aload_n 0, 1) := by decide +kernel
theorem d_102_63 : decode prog_8_method_30_code 63 = .ok (.aload_n 0, 1) := by decide +kernel
theorem d_102_64 : decode prog_8_method_30_code 64 = .ok (.getfield 137, 3) := by decide +kernel
theorem d_102_67 : decode prog_8_method_30_code 67 = .ok (.invokevirtual 152, 3) := by decide +kernel
theorem d_102_70 : decode prog_8_method_30_code 70 = .ok (.ifCond .le 6, 3) := by decide +kernel
theorem d_102_73 : decode prog_8_method_30_code 73 = .ok (.bipush (-5), 2) := by decide +kernel
theorem d_102_75 : decode prog_8_method_30_code 75 = .ok (.ireturn, 1) := by decide +kernel
theorem d_102_76 : decode prog_8_method_30_code 76 = .ok (.aload_n 0, 1) := by decide +kernel
theorem d_102_77 : decode prog_8_method_30_code 77 = .ok (.getfield 7, 3) := by decide +kernel
theorem d_102_80 : decode prog_8_method_30_code 80 = .ok (.aload_n 0, 1) := by decide +kernel
theorem d_102_81 : decode prog_8_method_30_code 81 = .ok (.getfield 137, 3) := by decide +kernel
theorem d_102_84 : decode prog_8_method_30_code 84 = .ok (.iaload, 1) := by decide +kernel
theorem d_102_85 : decode prog_8_method_30_code 85 = .ok (.istore_n 3, 1) := by decide +kernel
theorem d_102_86 : decode prog_8_method_30_code 86 = .ok (.aload_n 0, 1) := by decide +kernel
theorem d_102_87 : decode prog_8_method_30_code 87 = .ok (.getfield 13, 3) := by decide +kernel
theorem d_102_90 : decode prog_8_method_30_code 90 = .ok (.iconst 4, 1) := by decide +kernel
theorem d_102_91 : decode prog_8_method_30_code 91 = .ok (.aload_n 0, 1) := by decide +kernel
theorem d_102_92 : decode prog_8_method_30_code 92 = .ok (.getfield 137, 3) := by decide +kernel
theorem d_102_95 : decode prog_8_method_30_code 95 = .ok (.imul, 1) := by decide +kernel
theorem d_102_96 : decode prog_8_method_30_code 96 = .ok (.iload_n 3, 1) := by decide +kernel
theorem d_102_97 : decode prog_8_method_30_code 97 = .ok (.iadd, 1) := by decide +kernel
theorem d_102_98 : decode prog_8_method_30_code 98 = .ok (.iload_n 1, 1) := by decide +kernel
theorem d_102_99 : decode prog_8_method_30_code 99 = .ok (.iastore, 1) := by decide +kernel
theorem d_102_100 : decode prog_8_method_30_code 100 = .ok (.aload_n 0, 1) := by decide +kernel
theorem d_102_101 : decode prog_8_method_30_code 101 = .ok (.getfield 16, 3) := by decide +kernel
theorem d_102_104 : decode prog_8_method_30_code 104 = .ok (.iconst 4, 1) := by decide +kernel
theorem d_102_105 : decode prog_8_method_30_code 105 = .ok (.aload_n 0, 1) := by decide +kernel
theorem d_102_106 : decode prog_8_method_30_code 106 = .ok (.getfield 137, 3) := by decide +kernel
theorem d_102_109 : decode prog_8_method_30_code 109 = .ok (.imul, 1) := by decide +kernel
theorem d_102_110 : decode prog_8_method_30_code 110 = .ok (.iload_n 3, 1) := by decide +kernel
theorem d_102_111 : decode prog_8_method_30_code 111 = .ok (.iadd, 1) := by decide +kernel
theorem d_102_112 : decode prog_8_method_30_code 112 = .ok (.iload_n 2, 1) := by decide +kernel
theorem d_102_113 : decode prog_8_method_30_code 113 = .ok (.iastore, 1) := by decide +kernel
theorem d_102_114 : decode prog_8_method_30_code 114 = .ok (.aload_n 0, 1) := by decide +kernel
theorem d_102_115 : decode prog_8_method_30_code 115 = .ok (.getfield 7, 3) := by decide +kernel
theorem d_102_118 : decode prog_8_method_30_code 118 = .ok (.aload_n 0, 1) := by decide +kernel
theorem d_102_119 : decode prog_8_method_30_code 119 = .ok (.getfield 137, 3) := by decide +kernel
theorem d_102_122 : decode prog_8_method_30_code 122 = .ok (.iload_n 3, 1) := by decide +kernel
theorem d_102_123 : decode prog_8_method_30_code 123 = .ok (.iconst 1, 1) := by decide +kernel
theorem d_102_124 : decode prog_8_method_30_code 124 = .ok (.iadd, 1) := by decide +kernel
theorem d_102_125 : decode prog_8_method_30_code 125 = .ok (.iastore, 1) := by decide +kernel
theorem d_102_126 : decode prog_8_method_30_code 126 = .ok (.iload_n 3, 1) := by decide +kernel
theorem d_102_127 : decode prog_8_method_30_code 127 = .ok (.ireturn, 1) := by decide +kernel
theorem d_103_0 : decode prog_8_method_2_code 0 = .ok (.iload_n 0, 1) := by decide +kernel
theorem d_103_1 : decode prog_8_method_2_code 1 = .ok (.bipush 33, 2) := by decide +kernel
theorem d_103_3 : decode prog_8_method_2_code 3 = .ok (.if_icmp .lt 13, 3) := by decide +kernel
theorem d_103_6 : decode prog_8_method_2_code 6 = .ok (.iload_n 0, 1) := by decide +kernel
theorem d_103_7 : decode prog_8_method_2_code 7 = .ok (.bipush 126, 2) := by decide +kernel
theorem d_103_9 : decode prog_8_method_2_code 9 = .ok (.if_icmp .gt 7, 3) := by decide +kernel
theorem d_103_12 : decode prog_8_method_2_code 12 = .ok (.iconst 1, 1) := by decide +kernel
theorem d_103_13 : decode prog_8_method_2_code 13 = .ok (.goto 4, 3) := by decide +kernel
theorem d_103_16 : decode prog_8_method_2_code 16 = .ok (.iconst 0, 1) := by decide +kernel
theorem d_103_17 : decode prog_8_method_2_code 17 = .ok (.ireturn, 1) := by decide +kernel
theorem d_104_0 : decode prog_8_method_27_code 0 = .ok (.iconst 0, 1) := by decide +kernel
theorem d_104_1 : decode prog_8_method_27_code 1 = .ok (.istore 4, 2) := by decide +kernel
theorem d_104_3 : decode prog_8_method_27_code 3 = .ok (.iconst 0, 1) := by decide +kernel
theorem d_104_4 : decode prog_8_method_27_code 4 = .ok (.istore 5, 2) := by decide +kernel
theorem d_104_6 : decode prog_8_method_27_code 6 = .ok (.iload 5, 2) := by decide +kernel
theorem d_104_8 : decode prog_8_method_27_code 8 = .ok (.aload_n 0, 1) := by decide +kernel
theorem d_104_9 : decode prog_8_method_27_code 9 = .ok (.getfield 7, 3) := by decide +kernel
theorem d_104_12 : decode prog_8_method_27_code 12 = .ok (.iload_n 1, 1) := by decide +kernel
theorem d_104_13 : decode prog_8_method_27_code 13 = .ok (.iaload, 1) := by decide +kernel
theorem d_104_14 : decode prog_8_method_27_code 14 = .ok (.if_icmp .ge 42, 3) := by decide +kernel
theorem d_104_17 : decode prog_8_method_27_code 17 = .ok (.iload 4, 2) := by decide +kernel
theorem d_104_19 : decode prog_8_method_27_code 19 = .ok (.ifCond .ne 24, 3) := by decide +kernel
theorem d_104_22 : decode prog_8_method_27_code 22 = .ok (.iload 5, 2) := by decide +kernel
theorem d_104_24 : decode prog_8_method_27_code 24 = .ok (.iload_n 3, 1) := by decide +kernel
theorem d_104_25 : decode prog_8_method_27_code 25 = .ok (.if_icmp .eq 22, 3) := by decide +kernel
theorem d_104_28 : decode prog_8_method_27_code 28 = .ok (.aload_n 0, 1) := by decide +kernel
theorem d_104_29 : decode prog_8_method_27_code 29 = .ok (.getfield 13, 3) := by decide +kernel
theorem d_104_32 : decode prog_8_method_27_code 32 = .ok (.iconst 4, 1) := by decide +kernel
theorem d_104_33 : decode prog_8_method_27_code 33 = .ok (.iload_n 1, 1) := by decide +kernel
theorem d_104_34 : decode prog_8_method_27_code 34 = .ok (.imul, 1) := by decide +kernel
theorem d_104_35 : decode prog_8_method_27_code 35 = .ok (.iload 5, 2) := by decide +kernel
theorem d_104_37 : decode prog_8_method_27_code 37 = .ok (.iadd, 1) := by decide +kernel
theorem d_104_38 : decode prog_8_method_27_code 38 = .ok (.iaload, 1) := by decide +kernel
theorem d_104_39 : decode prog_8_method_27_code 39 = .ok (.iload_n 2, 1) := by decide +kernel
theorem d_104_40 : decode prog_8_method_27_code 40 = .ok (.if_icmp .ne 7, 3) := by decide +kernel
theorem d_104_43 : decode prog_8_method_27_code 43 = .ok (.iconst 1, 1) := by decide +kernel
theorem d_104_44 : decode prog_8_method_27_code 44 = .ok (.goto 4, 3) := by decide +kernel
theorem d_104_47 : decode prog_8_method_27_code 47 = .ok (.iconst 0, 1) := by decide +kernel
theorem d_104_48 : decode prog_8_method_27_code 48 = .ok (.istore 4, 2) := by decide +kernel
theorem d_104_50 : decode prog_8_method_27_code 50 = .ok (.iinc 5 1, 3) := by decide +kernel
theorem d_104_53 : decode prog_8_method_27_code 53 = .ok (.goto (-47), 3) := by decide +kernel
theorem d_104_56 : decode prog_8_method_27_code 56 = .ok (.iload 4, 2) := by decide +kernel
theorem d_104_58 : decode prog_8_method_27_code 58 = .ok (.ireturn, 1) := by decide +kernel
theorem d_105_0 : decode prog_8_method_29_code 0 = .ok (.iconst 0, 1) := by decide +kernel
theorem d_105_1 : decode prog_8_method_29_code 1 = .ok (.istore_n 2, 1) := by decide +kernel
theorem d_105_2 : decode prog_8_method_29_code 2 = .ok (.iconst 0, 1) := by decide +kernel
theorem d_105_3 : decode prog_8_method_29_code 3 = .ok (.istore_n 3, 1) := by decide +kernel
theorem d_105_4 : decode prog_8_method_29_code 4 = .ok (.iload_n 3, 1) := by decide +kernel
theorem d_105_5 : decode prog_8_method_29_code 5 = .ok (.aload_n 0, 1) := by decide +kernel
theorem d_105_6 : decode prog_8_method_29_code 6 = .ok (.getfield 7, 3) := by decide +kernel
theorem d_105_9 : decode prog_8_method_29_code 9 = .ok (.iload_n 1, 1) := by decide +kernel
theorem d_105_10 : decode prog_8_method_29_code 10 = .ok (.iaload, 1) := by decide +kernel
theorem d_105_11 : decode prog_8_method_29_code 11 = .ok (.if_icmp .ge 30, 3) := by decide +kernel
theorem d_105_14 : decode prog_8_method_29_code 14 = .ok (.aload_n 0, 1) := by decide +kernel
theorem d_105_15 : decode prog_8_method_29_code 15 = .ok (.getfield 16, 3) := by decide +kernel
theorem d_105_18 : decode prog_8_method_29_code 18 = .ok (.iconst 4, 1) := by decide +kernel
theorem d_105_19 : decode prog_8_method_29_code 19 = .ok (.iload_n 1, 1) := by decide +kernel
theorem d_105_20 : decode prog_8_method_29_code 20 = .ok (.imul, 1) := by decide +kernel
theorem d_105_21 : decode prog_8_method_29_code 21 = .ok (.iload_n 3, 1) := by decide +kernel
theorem d_105_22 : decode prog_8_method_29_code 22 = .ok (.iadd, 1) := by decide +kernel
theorem d_105_23 : decode prog_8_method_29_code 23 = .ok (.iaload, 1) := by decide +kernel
theorem d_105_24 : decode prog_8_method_29_code 24 = .ok (.ifCond .ne 9, 3) := by decide +kernel
theorem d_105_27 : decode prog_8_method_29_code 27 = .ok (.iload_n 2, 1) := by decide +kernel
theorem d_105_28 : decode prog_8_method_29_code 28 = .ok (.iconst 1, 1) := by decide +kernel
theorem d_105_29 : decode prog_8_method_29_code 29 = .ok (.iadd, 1) := by decide +kernel
theorem d_105_30 : decode prog_8_method_29_code 30 = .ok (.goto 4, 3) := by decide +kernel
theorem d_105_33 : decode prog_8_method_29_code 33 = .ok (.iload_n 2, 1) := by decide +kernel
theorem d_105_34 : decode prog_8_method_29_code 34 = .ok (.istore_n 2, 1) := by decide +kernel
theorem d_105_35 : decode prog_8_method_29_code 35 = .ok (.iinc 3 1, 3) := by decide +kernel
theorem d_105_38 : decode prog_8_method_29_code 38 = .ok (.goto (-34), 3) := by decide +kernel
theorem d_105_41 : decode prog_8_method_29_code 41 = .ok (.iload_n 2, 1) := by decide +kernel
theorem d_105_42 : decode prog_8_method_29_code 42 = .ok (.ireturn, 1) := by decide +kernel
theorem d_106_0 : decode prog_8_method_32_code 0 = .ok (.aload_n 0, 1) := by decide +kernel
theorem d_106_1 : decode prog_8_method_32_code 1 = .ok (.getfield 140, 3) := by decide +kernel
theorem d_106_4 : decode prog_8_method_32_code 4 = .ok (.ifCond .eq 5, 3) := by decide +kernel
theorem d_106_7 : decode prog_8_method_32_code 7 = .ok (.iconst (-1), 1) := by decide +kernel
theorem d_106_8 : decode prog_8_method_32_code 8 = .ok (.ireturn, 1) := by decide +kernel
theorem d_106_9 : decode prog_8_method_32_code 9 = .ok (.iload_n 1, 1) := by decide +kernel
theorem d_106_10 : decode prog_8_method_32_code 10 = .ok (.invokestatic 144, 3) := by decide +kernel
theorem d_106_13 : decode prog_8_method_32_code 13 = .ok (.ifCond .eq 13, 3) := by decide +kernel
theorem d_106_16 : decode prog_8_method_32_code 16 = .ok (.iload_n 2, 1) := by decide +kernel
theorem d_106_17 : decode prog_8_method_32_code 17 = .ok (.iconst 1, 1) := by decide +kernel
theorem d_106_18 : decode prog_8_method_32_code 18 = .ok (.if_icmp .lt 8, 3) := by decide +kernel
theorem d_106_21 : decode prog_8_method_32_code 21 = .ok (.iload_n 2, 1) := by decide +kernel
theorem d_106_22 : decode prog_8_method_32_code 22 = .ok (.iconst 4, 1) := by decide +kernel
theorem d_106_23 : decode prog_8_method_32_code 23 = .ok (.if_icmp .le 6, 3) := by decide +kernel
theorem d_106_26 : decode prog_8_method_32_code 26 = .ok (.bipush (-2), 2) := by decide +kernel
theorem d_106_28 : decode prog_8_method_32_code 28 = .ok (.ireturn, 1) := by decide +kernel
theorem d_106_29 : decode prog_8_method_32_code 29 = .ok (.iload_n 3, 1) := by decide +kernel
theorem d_106_30 : decode prog_8_method_32_code 30 = .ok (.iconst (-1), 1) := by decide +kernel
theorem d_106_31 : decode prog_8_method_32_code 31 = .ok (.if_icmp .eq 11, 3) := by decide +kernel
theorem d_106_34 : decode prog_8_method_32_code 34 = .ok (.aload_n 0, 1) := by decide +kernel
theorem d_106_35 : decode prog_8_method_32_code 35 = .ok (.iload_n 3, 1) := by decide +kernel
theorem d_106_36 : decode prog_8_method_32_code 36 = .ok (.invokevirtual 158, 3) := by decide +kernel
theorem d_106_39 : decode prog_8_method_32_code 39 = .ok (.ifCond .eq 29, 3) := by decide +kernel
theorem d_106_42 : decode prog_8_method_32_code 42 = .ok (.iload 4, 2) := by decide +kernel
theorem d_106_44 : decode prog_8_method_32_code 44 = .ok (.iconst (-1), 1) := by decide +kernel
theorem d_106_45 : decode prog_8_method_32_code 45 = .ok (.if_icmp .eq 12, 3) := by decide +kernel
theorem d_106_48 : decode prog_8_method_32_code 48 = .ok (.aload_n 0, 1) := by decide +kernel
theorem d_106_49 : decode prog_8_method_32_code 49 = .ok (.iload 4, 2) := by decide +kernel
theorem d_106_51 : decode prog_8_method_32_code 51 = .ok (.invokevirtual 158, 3) := by decide +kernel
theorem d_106_54 : decode prog_8_method_32_code 54 = .ok (.ifCond .eq 14, 3) := by decide +kernel
theorem d_106_57 : decode prog_8_method_32_code 57 = .ok (.iload_n 3, 1) := by decide +kernel
theorem d_106_58 : decode prog_8_method_32_code 58 = .ok (.iconst (-1), 1) := by decide +kernel
theorem d_106_59 : decode prog_8_method_32_code 59 = .ok (.if_icmp .ne 12, 3) := by decide +kernel
theorem d_106_62 : decode prog_8_method_32_code 62 = .ok (.iload 4, 2) := by decide +kernel
theorem d_106_64 : decode prog_8_method_32_code 64 = .ok (.iconst (-1), 1) := by decide +kernel
theorem d_106_65 : decode prog_8_method_32_code 65 = .ok (.if_icmp .eq 6, 3) := by decide +kernel
theorem d_106_68 : decode prog_8_method_32_code 68 = .ok (.bipush (-3), 2) := by decide +kernel
theorem d_106_70 : decode prog_8_method_32_code 70 = .ok (.ireturn, 1) := by decide +kernel
theorem d_106_71 : decode prog_8_method_32_code 71 = .ok (.iload 4, 2) := by decide +kernel
theorem d_106_73 : decode prog_8_method_32_code 73 = .ok (.iconst (-1), 1) := by decide +kernel
theorem d_106_74 : decode prog_8_method_32_code 74 = .ok (.if_icmp .eq 23, 3) := by decide +kernel
theorem d_106_77 : decode prog_8_method_32_code 77 = .ok (.aload_n 0, 1) := by decide +kernel
theorem d_106_78 : decode prog_8_method_32_code 78 = .ok (.getfield 16, 3) := by decide +kernel
theorem d_106_81 : decode prog_8_method_32_code 81 = .ok (.iconst 4, 1) := by decide +kernel
theorem d_106_82 : decode prog_8_method_32_code 82 = .ok (.aload_n 0, 1) := by decide +kernel
theorem d_106_83 : decode prog_8_method_32_code 83 = .ok (.getfield 137, 3) := by decide +kernel
theorem d_106_86 : decode prog_8_method_32_code 86 = .ok (.imul, 1) := by decide +kernel
theorem d_106_87 : decode prog_8_method_32_code 87 = .ok (.iload 4, 2) := by decide +kernel
theorem d_106_89 : decode prog_8_method_32_code 89 = .ok (.iadd, 1) := by decide +kernel
theorem d_106_90 : decode prog_8_method_32_code 90 = .ok (.iaload, 1) := by decide +kernel
theorem d_106_91 : decode prog_8_method_32_code 91 = .ok (.ifCond .ne 6, 3) := by decide +kernel
theorem d_106_94 : decode prog_8_method_32_code 94 = .ok (.bipush (-2), 2) := by decide +kernel
theorem d_106_96 : decode prog_8_method_32_code 96 = .ok (.ireturn, 1) := by decide +kernel
theorem d_106_97 : decode prog_8_method_32_code 97 = .ok (.aload_n 0, 1) := by decide +kernel
theorem d_106_98 : decode prog_8_method_32_code 98 = .ok (.aload_n 0, 1) := by decide +kernel
theorem d_106_99 : decode prog_8_method_32_code 99 = .ok (.getfield 137, 3) := by decide +kernel
theorem d_106_102 : decode prog_8_method_32_code 102 = .ok (.iload_n 1, 1) := by decide +kernel
theorem d_106_103 : decode prog_8_method_32_code 103 = .ok (.iconst (-1), 1) := by decide +kernel
theorem d_106_104 : decode prog_8_method_32_code 104 = .ok (.invokevirtual 161, 3) := by decide +kernel
theorem d_106_107 : decode prog_8_method_32_code 107 = .ok (.ifCond .eq 6, 3) := by decide +kernel
theorem d_106_110 : decode prog_8_method_32_code 110 = .ok (.bipush (-4), 2) := by decide +kernel
theorem d_106_112 : decode prog_8_method_32_code 112 = .ok (.ireturn, 1) := by decide +kernel
theorem d_106_113 : decode prog_8_method_32_code 113 = .ok (.aload_n 0, 1) := by decide +kernel
theorem d_106_114 : decode prog_8_method_32_code 114 = .ok (.getfield 19, 3) := by decide +kernel
theorem d_106_117 : decode prog_8_method_32_code 117 = .ok (.aload_n 0, 1) := by decide +kernel
theorem d_106_118 : decode prog_8_method_32_code 118 = .ok (.getfield 137, 3) := by decide +kernel
theorem d_106_121 : decode prog_8_method_32_code 121 = .ok (.iaload, 1) := by decide +kernel
theorem d_106_122 : decode prog_8_method_32_code 122 = .ok (.iconst 5, 1) := by decide +kernel
theorem d_106_123 : decode prog_8_method_32_code 123 = .ok (.if_icmp .ne 6, 3) := by decide +kernel
theorem d_106_126 : decode prog_8_method_32_code 126 = .ok (.bipush (-5), 2) := by decide +kernel
theorem d_106_128 : decode prog_8_method_32_code 128 = .ok (.ireturn, 1) := by decide +kernel
theorem d_106_129 : decode prog_8_method_32_code 129 = .ok (.aload_n 0, 1) := by decide +kernel
theorem d_106_130 : decode prog_8_method_32_code 130 = .ok (.getfield 19, 3) := by decide +kernel
theorem d_106_133 : decode prog_8_method_32_code 133 = .ok (.aload_n 0, 1) := by decide +kernel
theorem d_106_134 : decode prog_8_method_32_code 134 = .ok (.getfield 137, 3) := by decide +kernel
theorem d_106_137 : decode prog_8_method_32_code 137 = .ok (.iaload, 1) := by decide +kernel
theorem d_106_138 : decode prog_8_method_32_code 138 = .ok (.istore 5, 2) := by decide +kernel
theorem d_106_140 : decode prog_8_method_32_code 140 = .ok (.iconst 5, 1) := by decide +kernel
theorem d_106_141 : decode prog_8_method_32_code 141 = .ok (.aload_n 0, 1) := by decide +kernel
theorem d_106_142 : decode prog_8_method_32_code 142 = .ok (.getfield 137, 3) := by decide +kernel
theorem d_106_145 : decode prog_8_method_32_code 145 = .ok (.imul, 1) := by decide +kernel
theorem d_106_146 : decode prog_8_method_32_code 146 = .ok (.iload 5, 2) := by decide +kernel
theorem d_106_148 : decode prog_8_method_32_code 148 = .ok (.iadd, 1) := by decide +kernel
theorem d_106_149 : decode prog_8_method_32_code 149 = .ok (.istore 6, 2) := by decide +kernel
theorem d_106_151 : decode prog_8_method_32_code 151 = .ok (.aload_n 0, 1) := by decide +kernel
theorem d_106_152 : decode prog_8_method_32_code 152 = .ok (.getfield 22, 3) := by decide +kernel
theorem d_106_155 : decode prog_8_method_32_code 155 = .ok (.iload 6, 2) := by decide +kernel
theorem d_106_157 : decode prog_8_method_32_code 157 = .ok (.iload_n 1, 1) := by decide +kernel
theorem d_106_158 : decode prog_8_method_32_code 158 = .ok (.iastore, 1) := by decide +kernel
theorem d_106_159 : decode prog_8_method_32_code 159 = .ok (.aload_n 0, 1) := by decide +kernel
theorem d_106_160 : decode prog_8_method_32_code 160 = .ok (.getfield 25, 3) := by decide +kernel
theorem d_106_163 : decode prog_8_method_32_code 163 = .ok (.iload 6, 2) := by decide +kernel
theorem d_106_165 : decode prog_8_method_32_code 165 = .ok (.iload_n 2, 1) := by decide +kernel
theorem d_106_166 : decode prog_8_method_32_code 166 = .ok (.iastore, 1) := by decide +kernel
theorem d_106_167 : decode prog_8_method_32_code 167 = .ok (.aload_n 0, 1) := by decide +kernel
theorem d_106_168 : decode prog_8_method_32_code 168 = .ok (.getfield 28, 3) := by decide +kernel
theorem d_106_171 : decode prog_8_method_32_code 171 = .ok (.iload 6, 2) := by decide +kernel
theorem d_106_173 : decode prog_8_method_32_code 173 = .ok (.iload_n 3, 1) := by decide +kernel
theorem d_106_174 : decode prog_8_method_32_code 174 = .ok (.iconst (-1), 1) := by decide +kernel
theorem d_106_175 : decode prog_8_method_32_code 175 = .ok (.if_icmp .ne 7, 3) := by decide +kernel
theorem d_106_178 : decode prog_8_method_32_code 178 = .ok (.iconst 0, 1) := by decide +kernel
theorem d_106_179 : decode prog_8_method_32_code 179 = .ok (.goto 14, 3) := by decide +kernel
theorem d_106_182 : decode prog_8_method_32_code 182 = .ok (.iload 4, 2) := by decide +kernel
theorem d_106_184 : decode prog_8_method_32_code 184 = .ok (.iconst (-1), 1) := by decide +kernel
theorem d_106_185 : decode prog_8_method_32_code 185 = .ok (.if_icmp .ne 7, 3) := by decide +kernel
theorem d_106_188 : decode prog_8_method_32_code 188 = .ok (.iconst 1, 1) := by decide +kernel
theorem d_106_189 : decode prog_8_method_32_code 189 = .ok (.goto 4, 3) := by decide +kernel
theorem d_106_192 : decode prog_8_method_32_code 192 = .ok (.iconst 2, 1) := by decide +kernel
theorem d_106_193 : decode prog_8_method_32_code 193 = .ok (.iastore, 1) := by decide +kernel
theorem d_106_194 : decode prog_8_method_32_code 194 = .ok (.aload_n 0, 1) := by decide +kernel
theorem d_106_195 : decode prog_8_method_32_code 195 = .ok (.getfield 31, 3) := by decide +kernel
theorem d_106_198 : decode prog_8_method_32_code 198 = .ok (.iconst 2, 1) := by decide +kernel
theorem d_106_199 : decode prog_8_method_32_code 199 = .ok (.iload 6, 2) := by decide +kernel
theorem d_106_201 : decode prog_8_method_32_code 201 = .ok (.imul, 1) := by decide +kernel
theorem d_106_202 : decode prog_8_method_32_code 202 = .ok (.iload_n 3, 1) := by decide +kernel
theorem d_106_203 : decode prog_8_method_32_code 203 = .ok (.iastore, 1) := by decide +kernel
theorem d_106_204 : decode prog_8_method_32_code 204 = .ok (.aload_n 0, 1) := by decide +kernel
theorem d_106_205 : decode prog_8_method_32_code 205 = .ok (.getfield 31, 3) := by decide +kernel
theorem d_106_208 : decode prog_8_method_32_code 208 = .ok (.iconst 2, 1) := by decide +kernel
theorem d_106_209 : decode prog_8_method_32_code 209 = .ok (.iload 6, 2) := by decide +kernel
theorem d_106_211 : decode prog_8_method_32_code 211 = .ok (.imul, 1) := by decide +kernel
theorem d_106_212 : decode prog_8_method_32_code 212 = .ok (.iconst 1, 1) := by decide +kernel
theorem d_106_213 : decode prog_8_method_32_code 213 = .ok (.iadd, 1) := by decide +kernel
theorem d_106_214 : decode prog_8_method_32_code 214 = .ok (.iload 4, 2) := by decide +kernel
theorem d_106_216 : decode prog_8_method_32_code 216 = .ok (.iastore, 1) := by decide +kernel
theorem d_106_217 : decode prog_8_method_32_code 217 = .ok (.aload_n 0, 1) := by decide +kernel
theorem d_106_218 : decode prog_8_method_32_code 218 = .ok (.getfield 34, 3) := by decide +kernel
theorem d_106_221 : decode prog_8_method_32_code 221 = .ok (.bipush 6, 2) := by decide +kernel
theorem d_106_223 : decode prog_8_method_32_code 223 = .ok (.aload_n 0, 1) := by decide +kernel
theorem d_106_224 : decode prog_8_method_32_code 224 = .ok (.getfield 137, 3) := by decide +kernel
theorem d_106_227 : decode prog_8_method_32_code 227 = .ok (.imul, 1) := by decide +kernel
theorem d_106_228 : decode prog_8_method_32_code 228 = .ok (.iload 5, 2) := by decide +kernel
theorem d_106_230 : decode prog_8_method_32_code 230 = .ok (.iadd, 1) := by decide +kernel
theorem d_106_231 : decode prog_8_method_32_code 231 = .ok (.iconst 1, 1) := by decide +kernel
theorem d_106_232 : decode prog_8_method_32_code 232 = .ok (.iadd, 1) := by decide +kernel
theorem d_106_233 : decode prog_8_method_32_code 233 = .ok (.iconst 0, 1) := by decide +kernel
theorem d_106_234 : decode prog_8_method_32_code 234 = .ok (.iastore, 1) := by decide +kernel
theorem d_106_235 : decode prog_8_method_32_code 235 = .ok (.aload_n 0, 1) := by decide +kernel
theorem d_106_236 : decode prog_8_method_32_code 236 = .ok (.aload_n 0, 1) := by decide +kernel
theorem d_106_237 : decode prog_8_method_32_code 237 = .ok (.getfield 137, 3) := by decide +kernel
theorem d_106_240 : decode prog_8_method_32_code 240 = .ok (.iload 5, 2) := by decide +kernel
theorem d_106_242 : decode prog_8_method_32_code 242 = .ok (.invokevirtual 164, 3) := by decide +kernel
theorem d_106_245 : decode prog_8_method_32_code 245 = .ok (.aload_n 0, 1) := by decide +kernel
theorem d_106_246 : decode prog_8_method_32_code 246 = .ok (.getfield 19, 3) := by decide +kernel
theorem d_106_249 : decode prog_8_method_32_code 249 = .ok (.aload_n 0, 1) := by decide +kernel
theorem d_106_250 : decode prog_8_method_32_code 250 = .ok (.getfield 137, 3) := by decide +kernel
theorem d_106_253 : decode prog_8_method_32_code 253 = .ok (.iload 5, 2) := by decide +kernel
theorem d_106_255 : decode prog_8_method_32_code 255 = .ok (.iconst 1, 1) := by decide +kernel
theorem d_106_256 : decode prog_8_method_32_code 256 = .ok (.iadd, 1) := by decide +kernel
theorem d_106_257 : decode prog_8_method_32_code 257 = .ok (.iastore, 1) := by decide +kernel
theorem d_106_258 : decode prog_8_method_32_code 258 = .ok (.iload 5, 2) := by decide +kernel
theorem d_106_260 : decode prog_8_method_32_code 260 = .ok (.ireturn, 1) := by decide +kernel
theorem d_107_0 : decode prog_8_method_25_code 0 = .ok (.iload_n 1, 1) := by decide +kernel
theorem d_107_1 : decode prog_8_method_25_code 1 = .ok (.ifCond .lt 20, 3) := by decide +kernel
theorem d_107_4 : decode prog_8_method_25_code 4 = .ok (.iload_n 1, 1) := by decide +kernel
theorem d_107_5 : decode prog_8_method_25_code 5 = .ok (.aload_n 0, 1) := by decide +kernel
theorem d_107_6 : decode prog_8_method_25_code 6 = .ok (.getfield 7, 3) := by decide +kernel
theorem d_107_9 : decode prog_8_method_25_code 9 = .ok (.aload_n 0, 1) := by decide +kernel
theorem d_107_10 : decode prog_8_method_25_code 10 = .ok (.getfield 137, 3) := by decide +kernel
theorem d_107_13 : decode prog_8_method_25_code 13 = .ok (.iaload, 1) := by decide +kernel
theorem d_107_14 : decode prog_8_method_25_code 14 = .ok (.if_icmp .ge 7, 3) := by decide +kernel
theorem d_107_17 : decode prog_8_method_25_code 17 = .ok (.iconst 1, 1) := by decide +kernel
theorem d_107_18 : decode prog_8_method_25_code 18 = .ok (.goto 4, 3) := by decide +kernel
theorem d_107_21 : decode prog_8_method_25_code 21 = .ok (.iconst 0, 1) := by decide +kernel
theorem d_107_22 : decode prog_8_method_25_code 22 = .ok (.ireturn, 1) := by decide +kernel
theorem d_108_0 : decode prog_8_method_28_code 0 = .ok (.iconst 0, 1) := by decide +kernel
theorem d_108_1 : decode prog_8_method_28_code 1 = .ok (.istore 4, 2) := by decide +kernel
theorem d_108_3 : decode prog_8_method_28_code 3 = .ok (.iconst 0, 1) := by decide +kernel
theorem d_108_4 : decode prog_8_method_28_code 4 = .ok (.istore 5, 2) := by decide +kernel
theorem d_108_6 : decode prog_8_method_28_code 6 = .ok (.iload 5, 2) := by decide +kernel
theorem d_108_8 : decode prog_8_method_28_code 8 = .ok (.aload_n 0, 1) := by decide +kernel
theorem d_108_9 : decode prog_8_method_28_code 9 = .ok (.getfield 19, 3) := by decide +kernel
theorem d_108_12 : decode prog_8_method_28_code 12 = .ok (.iload_n 1, 1) := by decide +kernel
theorem d_108_13 : decode prog_8_method_28_code 13 = .ok (.iaload, 1) := by decide +kernel
theorem d_108_14 : decode prog_8_method_28_code 14 = .ok (.if_icmp .ge 42, 3) := by decide +kernel
theorem d_108_17 : decode prog_8_method_28_code 17 = .ok (.iload 4, 2) := by decide +kernel
theorem d_108_19 : decode prog_8_method_28_code 19 = .ok (.ifCond .ne 24, 3) := by decide +kernel
theorem d_108_22 : decode prog_8_method_28_code 22 = .ok (.iload 5, 2) := by decide +kernel
theorem d_108_24 : decode prog_8_method_28_code 24 = .ok (.iload_n 3, 1) := by decide +kernel
theorem d_108_25 : decode prog_8_method_28_code 25 = .ok (.if_icmp .eq 22, 3) := by decide +kernel
theorem d_108_28 : decode prog_8_method_28_code 28 = .ok (.aload_n 0, 1) := by decide +kernel
theorem d_108_29 : decode prog_8_method_28_code 29 = .ok (.getfield 22, 3) := by decide +kernel
theorem d_108_32 : decode prog_8_method_28_code 32 = .ok (.iconst 5, 1) := by decide +kernel
theorem d_108_33 : decode prog_8_method_28_code 33 = .ok (.iload_n 1, 1) := by decide +kernel
theorem d_108_34 : decode prog_8_method_28_code 34 = .ok (.imul, 1) := by decide +kernel
theorem d_108_35 : decode prog_8_method_28_code 35 = .ok (.iload 5, 2) := by decide +kernel
theorem d_108_37 : decode prog_8_method_28_code 37 = .ok (.iadd, 1) := by decide +kernel
theorem d_108_38 : decode prog_8_method_28_code 38 = .ok (.iaload, 1) := by decide +kernel
theorem d_108_39 : decode prog_8_method_28_code 39 = .ok (.iload_n 2, 1) := by decide +kernel
theorem d_108_40 : decode prog_8_method_28_code 40 = .ok (.if_icmp .ne 7, 3) := by decide +kernel
theorem d_108_43 : decode prog_8_method_28_code 43 = .ok (.iconst 1, 1) := by decide +kernel
theorem d_108_44 : decode prog_8_method_28_code 44 = .ok (.goto 4, 3) := by decide +kernel
theorem d_108_47 : decode prog_8_method_28_code 47 = .ok (.iconst 0, 1) := by decide +kernel
theorem d_108_48 : decode prog_8_method_28_code 48 = .ok (.istore 4, 2) := by decide +kernel
theorem d_108_50 : decode prog_8_method_28_code 50 = .ok (.iinc 5 1, 3) := by decide +kernel
theorem d_108_53 : decode prog_8_method_28_code 53 = .ok (.goto (-47), 3) := by decide +kernel
theorem d_108_56 : decode prog_8_method_28_code 56 = .ok (.iload 4, 2) := by decide +kernel
theorem d_108_58 : decode prog_8_method_28_code 58 = .ok (.ireturn, 1) := by decide +kernel
theorem d_109_0 : decode prog_8_method_31_code 0 = .ok (.iconst 0, 1) := by decide +kernel
theorem d_109_1 : decode prog_8_method_31_code 1 = .ok (.istore_n 3, 1) := by decide +kernel
theorem d_109_2 : decode prog_8_method_31_code 2 = .ok (.iload_n 3, 1) := by decide +kernel
theorem d_109_3 : decode prog_8_method_31_code 3 = .ok (.sipush 800, 3) := by decide +kernel
theorem d_109_6 : decode prog_8_method_31_code 6 = .ok (.if_icmp .ge 38, 3) := by decide +kernel
theorem d_109_9 : decode prog_8_method_31_code 9 = .ok (.aload_n 0, 1) := by decide +kernel
theorem d_109_10 : decode prog_8_method_31_code 10 = .ok (.getfield 52, 3) := by decide +kernel
theorem d_109_13 : decode prog_8_method_31_code 13 = .ok (.sipush 800, 3) := by decide +kernel
theorem d_109_16 : decode prog_8_method_31_code 16 = .ok (.iconst 5, 1) := by decide +kernel
theorem d_109_17 : decode prog_8_method_31_code 17 = .ok (.iload_n 1, 1) := by decide +kernel
theorem d_109_18 : decode prog_8_method_31_code 18 = .ok (.imul, 1) := by decide +kernel
theorem d_109_19 : decode prog_8_method_31_code 19 = .ok (.iload_n 2, 1) := by decide +kernel
theorem d_109_20 : decode prog_8_method_31_code 20 = .ok (.iadd, 1) := by decide +kernel
theorem d_109_21 : decode prog_8_method_31_code 21 = .ok (.imul, 1) := by decide +kernel
theorem d_109_22 : decode prog_8_method_31_code 22 = .ok (.iload_n 3, 1) := by decide +kernel
theorem d_109_23 : decode prog_8_method_31_code 23 = .ok (.iadd, 1) := by decide +kernel
theorem d_109_24 : decode prog_8_method_31_code 24 = .ok (.aload_n 0, 1) := by decide +kernel
theorem d_109_25 : decode prog_8_method_31_code 25 = .ok (.getfield 25, 3) := by decide +kernel
theorem d_109_28 : decode prog_8_method_31_code 28 = .ok (.iconst 5, 1) := by decide +kernel
theorem d_109_29 : decode prog_8_method_31_code 29 = .ok (.iload_n 1, 1) := by decide +kernel
theorem d_109_30 : decode prog_8_method_31_code 30 = .ok (.imul, 1) := by decide +kernel
theorem d_109_31 : decode prog_8_method_31_code 31 = .ok (.iload_n 2, 1) := by decide +kernel
theorem d_109_32 : decode prog_8_method_31_code 32 = .ok (.iadd, 1) := by decide +kernel
theorem d_109_33 : decode prog_8_method_31_code 33 = .ok (.iaload, 1) := by decide +kernel
theorem d_109_34 : decode prog_8_method_31_code 34 = .ok (.invokestatic 155, 3) := by decide +kernel
theorem d_109_37 : decode prog_8_method_31_code 37 = .ok (.iastore, 1) := by decide +kernel
theorem d_109_38 : decode prog_8_method_31_code 38 = .ok (.iinc 3 1, 3) := by decide +kernel
theorem d_109_41 : decode prog_8_method_31_code 41 = .ok (.goto (-39), 3) := by decide +kernel
theorem d_109_44 : decode prog_8_method_31_code 44 = .ok (.return_, 1) := by decide +kernel
theorem d_110_0 : decode prog_8_method_4_code 0 = .ok (.iload_n 0, 1) := by decide +kernel
theorem d_110_1 : decode prog_8_method_4_code 1 = .ok (.iconst 1, 1) := by decide +kernel
theorem d_110_2 : decode prog_8_method_4_code 2 = .ok (.if_icmp .ne 8, 3) := by decide +kernel
theorem d_110_5 : decode prog_8_method_4_code 5 = .ok (.bipush (-127), 2) := by decide +kernel
theorem d_110_7 : decode prog_8_method_4_code 7 = .ok (.goto 25, 3) := by decide +kernel
theorem d_110_10 : decode prog_8_method_4_code 10 = .ok (.iload_n 0, 1) := by decide +kernel
theorem d_110_11 : decode prog_8_method_4_code 11 = .ok (.iconst 2, 1) := by decide +kernel
theorem d_110_12 : decode prog_8_method_4_code 12 = .ok (.if_icmp .ne 7, 3) := by decide +kernel
theorem d_110_15 : decode prog_8_method_4_code 15 = .ok (.iconst 0, 1) := by decide +kernel
theorem d_110_16 : decode prog_8_method_4_code 16 = .ok (.goto 16, 3) := by decide +kernel
theorem d_110_19 : decode prog_8_method_4_code 19 = .ok (.iload_n 0, 1) := by decide +kernel
theorem d_110_20 : decode prog_8_method_4_code 20 = .ok (.iconst 3, 1) := by decide +kernel
theorem d_110_21 : decode prog_8_method_4_code 21 = .ok (.if_icmp .ne 9, 3) := by decide +kernel
theorem d_110_24 : decode prog_8_method_4_code 24 = .ok (.sipush (-32767), 3) := by decide +kernel
theorem d_110_27 : decode prog_8_method_4_code 27 = .ok (.goto 5, 3) := by decide +kernel
theorem d_110_30 : decode prog_8_method_4_code 30 = .ok (.ldc 70, 2) := by decide +kernel
theorem d_110_32 : decode prog_8_method_4_code 32 = .ok (.ireturn, 1) := by decide +kernel
theorem d_111_0 : decode prog_8_method_34_code 0 = .ok (.aload_n 0, 1) := by decide +kernel
theorem d_111_1 : decode prog_8_method_34_code 1 = .ok (.getfield 140, 3) := by decide +kernel
theorem d_111_4 : decode prog_8_method_34_code 4 = .ok (.ifCond .eq 5, 3) := by decide +kernel
theorem d_111_7 : decode prog_8_method_34_code 7 = .ok (.iconst (-1), 1) := by decide +kernel
theorem d_111_8 : decode prog_8_method_34_code 8 = .ok (.ireturn, 1) := by decide +kernel
theorem d_111_9 : decode prog_8_method_34_code 9 = .ok (.iload_n 1, 1) := by decide +kernel
theorem d_111_10 : decode prog_8_method_34_code 10 = .ok (.iconst (-1), 1) := by decide +kernel
theorem d_111_11 : decode prog_8_method_34_code 11 = .ok (.if_icmp .eq 14, 3) := by decide +kernel
theorem d_111_14 : decode prog_8_method_34_code 14 = .ok (.aload_n 0, 1) := by decide +kernel
theorem d_111_15 : decode prog_8_method_34_code 15 = .ok (.iload_n 1, 1) := by decide +kernel
theorem d_111_16 : decode prog_8_method_34_code 16 = .ok (.invokevirtual 167, 3) := by decide +kernel
theorem d_111_19 : decode prog_8_method_34_code 19 = .ok (.ifCond .ne 6, 3) := by decide +kernel
theorem d_111_22 : decode prog_8_method_34_code 22 = .ok (.bipush (-3), 2) := by decide +kernel
theorem d_111_24 : decode prog_8_method_34_code 24 = .ok (.ireturn, 1) := by decide +kernel
theorem d_111_25 : decode prog_8_method_34_code 25 = .ok (.iload_n 2, 1) := by decide +kernel
theorem d_111_26 : decode prog_8_method_34_code 26 = .ok (.invokestatic 144, 3) := by decide +kernel
theorem d_111_29 : decode prog_8_method_34_code 29 = .ok (.ifCond .eq 13, 3) := by decide +kernel
theorem d_111_32 : decode prog_8_method_34_code 32 = .ok (.iload_n 3, 1) := by decide +kernel
theorem d_111_33 : decode prog_8_method_34_code 33 = .ok (.iconst 1, 1) := by decide +kernel
theorem d_111_34 : decode prog_8_method_34_code 34 = .ok (.if_icmp .lt 8, 3) := by decide +kernel
theorem d_111_37 : decode prog_8_method_34_code 37 = .ok (.iload_n 3, 1) := by decide +kernel
theorem d_111_38 : decode prog_8_method_34_code 38 = .ok (.iconst 4, 1) := by decide +kernel
theorem d_111_39 : decode prog_8_method_34_code 39 = .ok (.if_icmp .le 6, 3) := by decide +kernel
theorem d_111_42 : decode prog_8_method_34_code 42 = .ok (.bipush (-2), 2) := by decide +kernel
theorem d_111_44 : decode prog_8_method_34_code 44 = .ok (.ireturn, 1) := by decide +kernel
theorem d_111_45 : decode prog_8_method_34_code 45 = .ok (.iload_n 3, 1) := by decide +kernel
theorem d_111_46 : decode prog_8_method_34_code 46 = .ok (.iload 4, 2) := by decide +kernel
theorem d_111_48 : decode prog_8_method_34_code 48 = .ok (.invokestatic 170, 3) := by decide +kernel
theorem d_111_51 : decode prog_8_method_34_code 51 = .ok (.ifCond .eq 12, 3) := by decide +kernel
theorem d_111_54 : decode prog_8_method_34_code 54 = .ok (.iload_n 3, 1) := by decide +kernel
theorem d_111_55 : decode prog_8_method_34_code 55 = .ok (.iload 5, 2) := by decide +kernel
theorem d_111_57 : decode prog_8_method_34_code 57 = .ok (.invokestatic 170, 3) := by decide +kernel
theorem d_111_60 : decode prog_8_method_34_code 60 = .ok (.ifCond .ne 6, 3) := by decide +kernel
theorem d_111_63 : decode prog_8_method_34_code 63 = .ok (.bipush (-6), 2) := by decide +kernel
theorem d_111_65 : decode prog_8_method_34_code 65 = .ok (.ireturn, 1) := by decide +kernel
theorem d_111_66 : decode prog_8_method_34_code 66 = .ok (.aload_n 0, 1) := by decide +kernel
theorem d_111_67 : decode prog_8_method_34_code 67 = .ok (.iload_n 1, 1) := by decide +kernel
theorem d_111_68 : decode prog_8_method_34_code 68 = .ok (.iconst 1, 1) := by decide +kernel
theorem d_111_69 : decode prog_8_method_34_code 69 = .ok (.iadd, 1) := by decide +kernel
theorem d_111_70 : decode prog_8_method_34_code 70 = .ok (.iload_n 2, 1) := by decide +kernel
theorem d_111_71 : decode prog_8_method_34_code 71 = .ok (.invokevirtual 173, 3) := by decide +kernel
theorem d_111_74 : decode prog_8_method_34_code 74 = .ok (.istore 6, 2) := by decide +kernel
theorem d_111_76 : decode prog_8_method_34_code 76 = .ok (.bipush 6, 2) := by decide +kernel
theorem d_111_78 : decode prog_8_method_34_code 78 = .ok (.aload_n 0, 1) := by decide +kernel
theorem d_111_79 : decode prog_8_method_34_code 79 = .ok (.getfield 137, 3) := by decide +kernel
theorem d_111_82 : decode prog_8_method_34_code 82 = .ok (.imul, 1) := by decide +kernel
theorem d_111_83 : decode prog_8_method_34_code 83 = .ok (.iload_n 1, 1) := by decide +kernel
theorem d_111_84 : decode prog_8_method_34_code 84 = .ok (.iadd, 1) := by decide +kernel
end
section
theorem d_111_85 : decode prog_8_method_34_code 85 = .ok (.iconst 1, 1) := by decide +kernel
theorem d_111_86 : decode prog_8_method_34_code 86 = .ok (.iadd, 1) := by decide +kernel
theorem d_111_87 : decode prog_8_method_34_code 87 = .ok (.istore 7, 2) := by decide +kernel
theorem d_111_89 : decode prog_8_method_34_code 89 = .ok (.iload 6, 2) := by decide +kernel
theorem d_111_91 : decode prog_8_method_34_code 91 = .ok (.iconst 3, 1) := by decide +kernel
theorem d_111_92 : decode prog_8_method_34_code 92 = .ok (.iload 7, 2) := by decide +kernel
theorem d_111_94 : decode prog_8_method_34_code 94 = .ok (.imul, 1) := by decide +kernel
theorem d_111_95 : decode prog_8_method_34_code 95 = .ok (.aload_n 0, 1) := by decide +kernel
theorem d_111_96 : decode prog_8_method_34_code 96 = .ok (.getfield 34, 3) := by decide +kernel
theorem d_111_99 : decode prog_8_method_34_code 99 = .ok (.iload 7, 2) := by decide +kernel
theorem d_111_101 : decode prog_8_method_34_code 101 = .ok (.iaload, 1) := by decide +kernel
theorem d_111_102 : decode prog_8_method_34_code 102 = .ok (.iadd, 1) := by decide +kernel
theorem d_111_103 : decode prog_8_method_34_code 103 = .ok (.if_icmp .ne 28, 3) := by decide +kernel
theorem d_111_106 : decode prog_8_method_34_code 106 = .ok (.aload_n 0, 1) := by decide +kernel
theorem d_111_107 : decode prog_8_method_34_code 107 = .ok (.getfield 34, 3) := by decide +kernel
theorem d_111_110 : decode prog_8_method_34_code 110 = .ok (.iload 7, 2) := by decide +kernel
theorem d_111_112 : decode prog_8_method_34_code 112 = .ok (.iaload, 1) := by decide +kernel
theorem d_111_113 : decode prog_8_method_34_code 113 = .ok (.iconst 3, 1) := by decide +kernel
theorem d_111_114 : decode prog_8_method_34_code 114 = .ok (.if_icmp .ne 6, 3) := by decide +kernel
theorem d_111_117 : decode prog_8_method_34_code 117 = .ok (.bipush (-5), 2) := by decide +kernel
theorem d_111_119 : decode prog_8_method_34_code 119 = .ok (.ireturn, 1) := by decide +kernel
theorem d_111_120 : decode prog_8_method_34_code 120 = .ok (.aload_n 0, 1) := by decide +kernel
theorem d_111_121 : decode prog_8_method_34_code 121 = .ok (.getfield 34, 3) := by decide +kernel
theorem d_111_124 : decode prog_8_method_34_code 124 = .ok (.iload 7, 2) := by decide +kernel
theorem d_111_126 : decode prog_8_method_34_code 126 = .ok (.dup2, 1) := by decide +kernel
theorem d_111_127 : decode prog_8_method_34_code 127 = .ok (.iaload, 1) := by decide +kernel
theorem d_111_128 : decode prog_8_method_34_code 128 = .ok (.iconst 1, 1) := by decide +kernel
theorem d_111_129 : decode prog_8_method_34_code 129 = .ok (.iadd, 1) := by decide +kernel
theorem d_111_130 : decode prog_8_method_34_code 130 = .ok (.iastore, 1) := by decide +kernel
theorem d_111_131 : decode prog_8_method_34_code 131 = .ok (.aload_n 0, 1) := by decide +kernel
theorem d_111_132 : decode prog_8_method_34_code 132 = .ok (.getfield 37, 3) := by decide +kernel
theorem d_111_135 : decode prog_8_method_34_code 135 = .ok (.iload 6, 2) := by decide +kernel
theorem d_111_137 : decode prog_8_method_34_code 137 = .ok (.iload_n 2, 1) := by decide +kernel
theorem d_111_138 : decode prog_8_method_34_code 138 = .ok (.iastore, 1) := by decide +kernel
theorem d_111_139 : decode prog_8_method_34_code 139 = .ok (.aload_n 0, 1) := by decide +kernel
theorem d_111_140 : decode prog_8_method_34_code 140 = .ok (.getfield 40, 3) := by decide +kernel
theorem d_111_143 : decode prog_8_method_34_code 143 = .ok (.iload 6, 2) := by decide +kernel
theorem d_111_145 : decode prog_8_method_34_code 145 = .ok (.iload_n 3, 1) := by decide +kernel
theorem d_111_146 : decode prog_8_method_34_code 146 = .ok (.iastore, 1) := by decide +kernel
theorem d_111_147 : decode prog_8_method_34_code 147 = .ok (.aload_n 0, 1) := by decide +kernel
theorem d_111_148 : decode prog_8_method_34_code 148 = .ok (.getfield 43, 3) := by decide +kernel
theorem d_111_151 : decode prog_8_method_34_code 151 = .ok (.iload 6, 2) := by decide +kernel
theorem d_111_153 : decode prog_8_method_34_code 153 = .ok (.iload 4, 2) := by decide +kernel
theorem d_111_155 : decode prog_8_method_34_code 155 = .ok (.iastore, 1) := by decide +kernel
theorem d_111_156 : decode prog_8_method_34_code 156 = .ok (.aload_n 0, 1) := by decide +kernel
theorem d_111_157 : decode prog_8_method_34_code 157 = .ok (.getfield 46, 3) := by decide +kernel
theorem d_111_160 : decode prog_8_method_34_code 160 = .ok (.iload 6, 2) := by decide +kernel
theorem d_111_162 : decode prog_8_method_34_code 162 = .ok (.iload 5, 2) := by decide +kernel
theorem d_111_164 : decode prog_8_method_34_code 164 = .ok (.iastore, 1) := by decide +kernel
theorem d_111_165 : decode prog_8_method_34_code 165 = .ok (.iconst 0, 1) := by decide +kernel
theorem d_111_166 : decode prog_8_method_34_code 166 = .ok (.ireturn, 1) := by decide +kernel
theorem d_112_0 : decode prog_8_method_26_code 0 = .ok (.iload_n 1, 1) := by decide +kernel
theorem d_112_1 : decode prog_8_method_26_code 1 = .ok (.ifCond .lt 20, 3) := by decide +kernel
theorem d_112_4 : decode prog_8_method_26_code 4 = .ok (.iload_n 1, 1) := by decide +kernel
theorem d_112_5 : decode prog_8_method_26_code 5 = .ok (.aload_n 0, 1) := by decide +kernel
theorem d_112_6 : decode prog_8_method_26_code 6 = .ok (.getfield 19, 3) := by decide +kernel
theorem d_112_9 : decode prog_8_method_26_code 9 = .ok (.aload_n 0, 1) := by decide +kernel
theorem d_112_10 : decode prog_8_method_26_code 10 = .ok (.getfield 137, 3) := by decide +kernel
theorem d_112_13 : decode prog_8_method_26_code 13 = .ok (.iaload, 1) := by decide +kernel
theorem d_112_14 : decode prog_8_method_26_code 14 = .ok (.if_icmp .ge 7, 3) := by decide +kernel
theorem d_112_17 : decode prog_8_method_26_code 17 = .ok (.iconst 1, 1) := by decide +kernel
theorem d_112_18 : decode prog_8_method_26_code 18 = .ok (.goto 4, 3) := by decide +kernel
theorem d_112_21 : decode prog_8_method_26_code 21 = .ok (.iconst 0, 1) := by decide +kernel
theorem d_112_22 : decode prog_8_method_26_code 22 = .ok (.ireturn, 1) := by decide +kernel
theorem d_113_0 : decode prog_8_method_5_code 0 = .ok (.iload_n 0, 1) := by decide +kernel
theorem d_113_1 : decode prog_8_method_5_code 1 = .ok (.iconst 4, 1) := by decide +kernel
theorem d_113_2 : decode prog_8_method_5_code 2 = .ok (.if_icmp .eq 55, 3) := by decide +kernel
theorem d_113_5 : decode prog_8_method_5_code 5 = .ok (.iload_n 0, 1) := by decide +kernel
theorem d_113_6 : decode prog_8_method_5_code 6 = .ok (.iconst 3, 1) := by decide +kernel
theorem d_113_7 : decode prog_8_method_5_code 7 = .ok (.if_icmp .ne 17, 3) := by decide +kernel
theorem d_113_10 : decode prog_8_method_5_code 10 = .ok (.iload_n 1, 1) := by decide +kernel
theorem d_113_11 : decode prog_8_method_5_code 11 = .ok (.sipush (-32768), 3) := by decide +kernel
theorem d_113_14 : decode prog_8_method_5_code 14 = .ok (.if_icmp .lt 10, 3) := by decide +kernel
theorem d_113_17 : decode prog_8_method_5_code 17 = .ok (.iload_n 1, 1) := by decide +kernel
theorem d_113_18 : decode prog_8_method_5_code 18 = .ok (.sipush 32767, 3) := by decide +kernel
theorem d_113_21 : decode prog_8_method_5_code 21 = .ok (.if_icmp .le 36, 3) := by decide +kernel
theorem d_113_24 : decode prog_8_method_5_code 24 = .ok (.iload_n 0, 1) := by decide +kernel
theorem d_113_25 : decode prog_8_method_5_code 25 = .ok (.iconst 2, 1) := by decide +kernel
theorem d_113_26 : decode prog_8_method_5_code 26 = .ok (.if_icmp .ne 14, 3) := by decide +kernel
theorem d_113_29 : decode prog_8_method_5_code 29 = .ok (.iload_n 1, 1) := by decide +kernel
theorem d_113_30 : decode prog_8_method_5_code 30 = .ok (.ifCond .lt 10, 3) := by decide +kernel
theorem d_113_33 : decode prog_8_method_5_code 33 = .ok (.iload_n 1, 1) := by decide +kernel
theorem d_113_34 : decode prog_8_method_5_code 34 = .ok (.sipush 255, 3) := by decide +kernel
theorem d_113_37 : decode prog_8_method_5_code 37 = .ok (.if_icmp .le 20, 3) := by decide +kernel
theorem d_113_40 : decode prog_8_method_5_code 40 = .ok (.iload_n 0, 1) := by decide +kernel
theorem d_113_41 : decode prog_8_method_5_code 41 = .ok (.iconst 1, 1) := by decide +kernel
theorem d_113_42 : decode prog_8_method_5_code 42 = .ok (.if_icmp .ne 19, 3) := by decide +kernel
theorem d_113_45 : decode prog_8_method_5_code 45 = .ok (.iload_n 1, 1) := by decide +kernel
theorem d_113_46 : decode prog_8_method_5_code 46 = .ok (.bipush (-128), 2) := by decide +kernel
theorem d_113_48 : decode prog_8_method_5_code 48 = .ok (.if_icmp .lt 13, 3) := by decide +kernel
theorem d_113_51 : decode prog_8_method_5_code 51 = .ok (.iload_n 1, 1) := by decide +kernel
theorem d_113_52 : decode prog_8_method_5_code 52 = .ok (.bipush 127, 2) := by decide +kernel
theorem d_113_54 : decode prog_8_method_5_code 54 = .ok (.if_icmp .gt 7, 3) := by decide +kernel
theorem d_113_57 : decode prog_8_method_5_code 57 = .ok (.iconst 1, 1) := by decide +kernel
theorem d_113_58 : decode prog_8_method_5_code 58 = .ok (.goto 4, 3) := by decide +kernel
theorem d_113_61 : decode prog_8_method_5_code 61 = .ok (.iconst 0, 1) := by decide +kernel
theorem d_113_62 : decode prog_8_method_5_code 62 = .ok (.ireturn, 1) := by decide +kernel
theorem d_114_0 : decode prog_8_method_33_code 0 = .ok (.bipush 18, 2) := by decide +kernel
theorem d_114_2 : decode prog_8_method_33_code 2 = .ok (.aload_n 0, 1) := by decide +kernel
theorem d_114_3 : decode prog_8_method_33_code 3 = .ok (.getfield 137, 3) := by decide +kernel
theorem d_114_6 : decode prog_8_method_33_code 6 = .ok (.imul, 1) := by decide +kernel
theorem d_114_7 : decode prog_8_method_33_code 7 = .ok (.iconst 3, 1) := by decide +kernel
theorem d_114_8 : decode prog_8_method_33_code 8 = .ok (.iload_n 1, 1) := by decide +kernel
theorem d_114_9 : decode prog_8_method_33_code 9 = .ok (.imul, 1) := by decide +kernel
theorem d_114_10 : decode prog_8_method_33_code 10 = .ok (.iadd, 1) := by decide +kernel
theorem d_114_11 : decode prog_8_method_33_code 11 = .ok (.istore_n 3, 1) := by decide +kernel
theorem d_114_12 : decode prog_8_method_33_code 12 = .ok (.iload_n 3, 1) := by decide +kernel
theorem d_114_13 : decode prog_8_method_33_code 13 = .ok (.aload_n 0, 1) := by decide +kernel
theorem d_114_14 : decode prog_8_method_33_code 14 = .ok (.getfield 34, 3) := by decide +kernel
theorem d_114_17 : decode prog_8_method_33_code 17 = .ok (.bipush 6, 2) := by decide +kernel
theorem d_114_19 : decode prog_8_method_33_code 19 = .ok (.aload_n 0, 1) := by decide +kernel
theorem d_114_20 : decode prog_8_method_33_code 20 = .ok (.getfield 137, 3) := by decide +kernel
theorem d_114_23 : decode prog_8_method_33_code 23 = .ok (.imul, 1) := by decide +kernel
theorem d_114_24 : decode prog_8_method_33_code 24 = .ok (.iload_n 1, 1) := by decide +kernel
theorem d_114_25 : decode prog_8_method_33_code 25 = .ok (.iadd, 1) := by decide +kernel
theorem d_114_26 : decode prog_8_method_33_code 26 = .ok (.iaload, 1) := by decide +kernel
theorem d_114_27 : decode prog_8_method_33_code 27 = .ok (.iadd, 1) := by decide +kernel
theorem d_114_28 : decode prog_8_method_33_code 28 = .ok (.istore 4, 2) := by decide +kernel
theorem d_114_30 : decode prog_8_method_33_code 30 = .ok (.iload_n 3, 1) := by decide +kernel
theorem d_114_31 : decode prog_8_method_33_code 31 = .ok (.iload 4, 2) := by decide +kernel
theorem d_114_33 : decode prog_8_method_33_code 33 = .ok (.if_icmp .ge 19, 3) := by decide +kernel
theorem d_114_36 : decode prog_8_method_33_code 36 = .ok (.aload_n 0, 1) := by decide +kernel
theorem d_114_37 : decode prog_8_method_33_code 37 = .ok (.getfield 37, 3) := by decide +kernel
theorem d_114_40 : decode prog_8_method_33_code 40 = .ok (.iload_n 3, 1) := by decide +kernel
theorem d_114_41 : decode prog_8_method_33_code 41 = .ok (.iaload, 1) := by decide +kernel
theorem d_114_42 : decode prog_8_method_33_code 42 = .ok (.iload_n 2, 1) := by decide +kernel
theorem d_114_43 : decode prog_8_method_33_code 43 = .ok (.if_icmp .eq 9, 3) := by decide +kernel
theorem d_114_46 : decode prog_8_method_33_code 46 = .ok (.iinc 3 1, 3) := by decide +kernel
theorem d_114_49 : decode prog_8_method_33_code 49 = .ok (.goto (-19), 3) := by decide +kernel
theorem d_114_52 : decode prog_8_method_33_code 52 = .ok (.iload_n 3, 1) := by decide +kernel
theorem d_114_53 : decode prog_8_method_33_code 53 = .ok (.ireturn, 1) := by decide +kernel
theorem d_115_0 : decode prog_8_method_35_code 0 = .ok (.aload_n 0, 1) := by decide +kernel
theorem d_115_1 : decode prog_8_method_35_code 1 = .ok (.getfield 140, 3) := by decide +kernel
theorem d_115_4 : decode prog_8_method_35_code 4 = .ok (.ifCond .eq 5, 3) := by decide +kernel
theorem d_115_7 : decode prog_8_method_35_code 7 = .ok (.iconst (-1), 1) := by decide +kernel
theorem d_115_8 : decode prog_8_method_35_code 8 = .ok (.ireturn, 1) := by decide +kernel
theorem d_115_9 : decode prog_8_method_35_code 9 = .ok (.iload_n 1, 1) := by decide +kernel
theorem d_115_10 : decode prog_8_method_35_code 10 = .ok (.iconst (-1), 1) := by decide +kernel
theorem d_115_11 : decode prog_8_method_35_code 11 = .ok (.if_icmp .eq 14, 3) := by decide +kernel
theorem d_115_14 : decode prog_8_method_35_code 14 = .ok (.aload_n 0, 1) := by decide +kernel
theorem d_115_15 : decode prog_8_method_35_code 15 = .ok (.iload_n 1, 1) := by decide +kernel
theorem d_115_16 : decode prog_8_method_35_code 16 = .ok (.invokevirtual 167, 3) := by decide +kernel
theorem d_115_19 : decode prog_8_method_35_code 19 = .ok (.ifCond .ne 6, 3) := by decide +kernel
theorem d_115_22 : decode prog_8_method_35_code 22 = .ok (.bipush (-3), 2) := by decide +kernel
theorem d_115_24 : decode prog_8_method_35_code 24 = .ok (.ireturn, 1) := by decide +kernel
theorem d_115_25 : decode prog_8_method_35_code 25 = .ok (.aload_n 0, 1) := by decide +kernel
theorem d_115_26 : decode prog_8_method_35_code 26 = .ok (.iload_n 1, 1) := by decide +kernel
theorem d_115_27 : decode prog_8_method_35_code 27 = .ok (.iconst 1, 1) := by decide +kernel
theorem d_115_28 : decode prog_8_method_35_code 28 = .ok (.iadd, 1) := by decide +kernel
theorem d_115_29 : decode prog_8_method_35_code 29 = .ok (.iload_n 2, 1) := by decide +kernel
theorem d_115_30 : decode prog_8_method_35_code 30 = .ok (.invokevirtual 173, 3) := by decide +kernel
theorem d_115_33 : decode prog_8_method_35_code 33 = .ok (.istore_n 3, 1) := by decide +kernel
theorem d_115_34 : decode prog_8_method_35_code 34 = .ok (.bipush 6, 2) := by decide +kernel
theorem d_115_36 : decode prog_8_method_35_code 36 = .ok (.aload_n 0, 1) := by decide +kernel
theorem d_115_37 : decode prog_8_method_35_code 37 = .ok (.getfield 137, 3) := by decide +kernel
theorem d_115_40 : decode prog_8_method_35_code 40 = .ok (.imul, 1) := by decide +kernel
theorem d_115_41 : decode prog_8_method_35_code 41 = .ok (.iload_n 1, 1) := by decide +kernel
theorem d_115_42 : decode prog_8_method_35_code 42 = .ok (.iadd, 1) := by decide +kernel
theorem d_115_43 : decode prog_8_method_35_code 43 = .ok (.iconst 1, 1) := by decide +kernel
theorem d_115_44 : decode prog_8_method_35_code 44 = .ok (.iadd, 1) := by decide +kernel
theorem d_115_45 : decode prog_8_method_35_code 45 = .ok (.istore 4, 2) := by decide +kernel
theorem d_115_47 : decode prog_8_method_35_code 47 = .ok (.iconst 3, 1) := by decide +kernel
theorem d_115_48 : decode prog_8_method_35_code 48 = .ok (.iload 4, 2) := by decide +kernel
theorem d_115_50 : decode prog_8_method_35_code 50 = .ok (.imul, 1) := by decide +kernel
theorem d_115_51 : decode prog_8_method_35_code 51 = .ok (.aload_n 0, 1) := by decide +kernel
theorem d_115_52 : decode prog_8_method_35_code 52 = .ok (.getfield 34, 3) := by decide +kernel
theorem d_115_55 : decode prog_8_method_35_code 55 = .ok (.iload 4, 2) := by decide +kernel
theorem d_115_57 : decode prog_8_method_35_code 57 = .ok (.iaload, 1) := by decide +kernel
theorem d_115_58 : decode prog_8_method_35_code 58 = .ok (.iadd, 1) := by decide +kernel
theorem d_115_59 : decode prog_8_method_35_code 59 = .ok (.iconst 1, 1) := by decide +kernel
theorem d_115_60 : decode prog_8_method_35_code 60 = .ok (.isub, 1) := by decide +kernel
theorem d_115_61 : decode prog_8_method_35_code 61 = .ok (.istore 5, 2) := by decide +kernel
theorem d_115_63 : decode prog_8_method_35_code 63 = .ok (.iload_n 3, 1) := by decide +kernel
theorem d_115_64 : decode prog_8_method_35_code 64 = .ok (.iload 5, 2) := by decide +kernel
theorem d_115_66 : decode prog_8_method_35_code 66 = .ok (.if_icmp .le 6, 3) := by decide +kernel
theorem d_115_69 : decode prog_8_method_35_code 69 = .ok (.bipush (-3), 2) := by decide +kernel
theorem d_115_71 : decode prog_8_method_35_code 71 = .ok (.ireturn, 1) := by decide +kernel
theorem d_115_72 : decode prog_8_method_35_code 72 = .ok (.iload_n 3, 1) := by decide +kernel
theorem d_115_73 : decode prog_8_method_35_code 73 = .ok (.istore 6, 2) := by decide +kernel
theorem d_115_75 : decode prog_8_method_35_code 75 = .ok (.iload 6, 2) := by decide +kernel
theorem d_115_77 : decode prog_8_method_35_code 77 = .ok (.iload 5, 2) := by decide +kernel
theorem d_115_79 : decode prog_8_method_35_code 79 = .ok (.if_icmp .ge 73, 3) := by decide +kernel
theorem d_115_82 : decode prog_8_method_35_code 82 = .ok (.aload_n 0, 1) := by decide +kernel
theorem d_115_83 : decode prog_8_method_35_code 83 = .ok (.getfield 37, 3) := by decide +kernel
theorem d_115_86 : decode prog_8_method_35_code 86 = .ok (.iload 6, 2) := by decide +kernel
theorem d_115_88 : decode prog_8_method_35_code 88 = .ok (.aload_n 0, 1) := by decide +kernel
theorem d_115_89 : decode prog_8_method_35_code 89 = .ok (.getfield 37, 3) := by decide +kernel
theorem d_115_92 : decode prog_8_method_35_code 92 = .ok (.iload 6, 2) := by decide +kernel
theorem d_115_94 : decode prog_8_method_35_code 94 = .ok (.iconst 1, 1) := by decide +kernel
theorem d_115_95 : decode prog_8_method_35_code 95 = .ok (.iadd, 1) := by decide +kernel
theorem d_115_96 : decode prog_8_method_35_code 96 = .ok (.iaload, 1) := by decide +kernel
theorem d_115_97 : decode prog_8_method_35_code 97 = .ok (.iastore, 1) := by decide +kernel
theorem d_115_98 : decode prog_8_method_35_code 98 = .ok (.aload_n 0, 1) := by decide +kernel
theorem d_115_99 : decode prog_8_method_35_code 99 = .ok (.getfield 40, 3) := by decide +kernel
theorem d_115_102 : decode prog_8_method_35_code 102 = .ok (.iload 6, 2) := by decide +kernel
theorem d_115_104 : decode prog_8_method_35_code 104 = .ok (.aload_n 0, 1) := by decide +kernel
theorem d_115_105 : decode prog_8_method_35_code 105 = .ok (.getfield 40, 3) := by decide +kernel
theorem d_115_108 : decode prog_8_method_35_code 108 = .ok (.iload 6, 2) := by decide +kernel
theorem d_115_110 : decode prog_8_method_35_code 110 = .ok (.iconst 1, 1) := by decide +kernel
theorem d_115_111 : decode prog_8_method_35_code 111 = .ok (.iadd, 1) := by decide +kernel
theorem d_115_112 : decode prog_8_method_35_code 112 = .ok (.iaload, 1) := by decide +kernel
theorem d_115_113 : decode prog_8_method_35_code 113 = .ok (.iastore, 1) := by decide +kernel
theorem d_115_114 : decode prog_8_method_35_code 114 = .ok (.aload_n 0, 1) := by decide +kernel
theorem d_115_115 : decode prog_8_method_35_code 115 = .ok (.getfield 43, 3) := by decide +kernel
theorem d_115_118 : decode prog_8_method_35_code 118 = .ok (.iload 6, 2) := by decide +kernel
theorem d_115_120 : decode prog_8_method_35_code 120 = .ok (.aload_n 0, 1) := by decide +kernel
theorem d_115_121 : decode prog_8_method_35_code 121 = .ok (.getfield 43, 3) := by decide +kernel
theorem d_115_124 : decode prog_8_method_35_code 124 = .ok (.iload 6, 2) := by decide +kernel
theorem d_115_126 : decode prog_8_method_35_code 126 = .ok (.iconst 1, 1) := by decide +kernel
theorem d_115_127 : decode prog_8_method_35_code 127 = .ok (.iadd, 1) := by decide +kernel
theorem d_115_128 : decode prog_8_method_35_code 128 = .ok (.iaload, 1) := by decide +kernel
theorem d_115_129 : decode prog_8_method_35_code 129 = .ok (.iastore, 1) := by decide +kernel
theorem d_115_130 : decode prog_8_method_35_code 130 = .ok (.aload_n 0, 1) := by decide +kernel
theorem d_115_131 : decode prog_8_method_35_code 131 = .ok (.getfield 46, 3) := by decide +kernel
theorem d_115_134 : decode prog_8_method_35_code 134 = .ok (.iload 6, 2) := by decide +kernel
theorem d_115_136 : decode prog_8_method_35_code 136 = .ok (.aload_n 0, 1) := by decide +kernel
theorem d_115_137 : decode prog_8_method_35_code 137 = .ok (.getfield 46, 3) := by decide +kernel
theorem d_115_140 : decode prog_8_method_35_code 140 = .ok (.iload 6, 2) := by decide +kernel
theorem d_115_142 : decode prog_8_method_35_code 142 = .ok (.iconst 1, 1) := by decide +kernel
theorem d_115_143 : decode prog_8_method_35_code 143 = .ok (.iadd, 1) := by decide +kernel
theorem d_115_144 : decode prog_8_method_35_code 144 = .ok (.iaload, 1) := by decide +kernel
theorem d_115_145 : decode prog_8_method_35_code 145 = .ok (.iastore, 1) := by decide +kernel
theorem d_115_146 : decode prog_8_method_35_code 146 = .ok (.iinc 6 1, 3) := by decide +kernel
theorem d_115_149 : decode prog_8_method_35_code 149 = .ok (.goto (-74), 3) := by decide +kernel
theorem d_115_152 : decode prog_8_method_35_code 152 = .ok (.aload_n 0, 1) := by decide +kernel
theorem d_115_153 : decode prog_8_method_35_code 153 = .ok (.getfield 34, 3) := by decide +kernel
theorem d_115_156 : decode prog_8_method_35_code 156 = .ok (.iload 4, 2) := by decide +kernel
theorem d_115_158 : decode prog_8_method_35_code 158 = .ok (.dup2, 1) := by decide +kernel
theorem d_115_159 : decode prog_8_method_35_code 159 = .ok (.iaload, 1) := by decide +kernel
theorem d_115_160 : decode prog_8_method_35_code 160 = .ok (.iconst 1, 1) := by decide +kernel
theorem d_115_161 : decode prog_8_method_35_code 161 = .ok (.isub, 1) := by decide +kernel
theorem d_115_162 : decode prog_8_method_35_code 162 = .ok (.iastore, 1) := by decide +kernel
theorem d_115_163 : decode prog_8_method_35_code 163 = .ok (.iconst 0, 1) := by decide +kernel
theorem d_115_164 : decode prog_8_method_35_code 164 = .ok (.ireturn, 1) := by decide +kernel
theorem d_116_0 : decode prog_8_method_36_code 0 = .ok (.aload_n 0, 1) := by decide +kernel
theorem d_116_1 : decode prog_8_method_36_code 1 = .ok (.getfield 140, 3) := by decide +kernel
theorem d_116_4 : decode prog_8_method_36_code 4 = .ok (.ifCond .eq 5, 3) := by decide +kernel
theorem d_116_7 : decode prog_8_method_36_code 7 = .ok (.iconst (-1), 1) := by decide +kernel
theorem d_116_8 : decode prog_8_method_36_code 8 = .ok (.ireturn, 1) := by decide +kernel
theorem d_116_9 : decode prog_8_method_36_code 9 = .ok (.iload_n 1, 1) := by decide +kernel
theorem d_116_10 : decode prog_8_method_36_code 10 = .ok (.ifCond .eq 14, 3) := by decide +kernel
theorem d_116_13 : decode prog_8_method_36_code 13 = .ok (.aload_n 0, 1) := by decide +kernel
theorem d_116_14 : decode prog_8_method_36_code 14 = .ok (.iload_n 2, 1) := by decide +kernel
theorem d_116_15 : decode prog_8_method_36_code 15 = .ok (.invokevirtual 167, 3) := by decide +kernel
theorem d_116_18 : decode prog_8_method_36_code 18 = .ok (.ifCond .eq 14, 3) := by decide +kernel
theorem d_116_21 : decode prog_8_method_36_code 21 = .ok (.goto 14, 3) := by decide +kernel
theorem d_116_24 : decode prog_8_method_36_code 24 = .ok (.aload_n 0, 1) := by decide +kernel
theorem d_116_25 : decode prog_8_method_36_code 25 = .ok (.iload_n 2, 1) := by decide +kernel
theorem d_116_26 : decode prog_8_method_36_code 26 = .ok (.invokevirtual 158, 3) := by decide +kernel
theorem d_116_29 : decode prog_8_method_36_code 29 = .ok (.ifCond .ne 6, 3) := by decide +kernel
theorem d_116_32 : decode prog_8_method_36_code 32 = .ok (.bipush (-3), 2) := by decide +kernel
theorem d_116_34 : decode prog_8_method_36_code 34 = .ok (.ireturn, 1) := by decide +kernel
theorem d_116_35 : decode prog_8_method_36_code 35 = .ok (.iload_n 3, 1) := by decide +kernel
theorem d_116_36 : decode prog_8_method_36_code 36 = .ok (.invokestatic 144, 3) := by decide +kernel
theorem d_116_39 : decode prog_8_method_36_code 39 = .ok (.ifCond .ne 6, 3) := by decide +kernel
theorem d_116_42 : decode prog_8_method_36_code 42 = .ok (.bipush (-2), 2) := by decide +kernel
theorem d_116_44 : decode prog_8_method_36_code 44 = .ok (.ireturn, 1) := by decide +kernel
theorem d_116_45 : decode prog_8_method_36_code 45 = .ok (.iload_n 1, 1) := by decide +kernel
theorem d_116_46 : decode prog_8_method_36_code 46 = .ok (.ifCond .eq 19, 3) := by decide +kernel
theorem d_116_49 : decode prog_8_method_36_code 49 = .ok (.aload_n 0, 1) := by decide +kernel
theorem d_116_50 : decode prog_8_method_36_code 50 = .ok (.aload_n 0, 1) := by decide +kernel
theorem d_116_51 : decode prog_8_method_36_code 51 = .ok (.getfield 137, 3) := by decide +kernel
theorem d_116_54 : decode prog_8_method_36_code 54 = .ok (.iload_n 3, 1) := by decide +kernel
theorem d_116_55 : decode prog_8_method_36_code 55 = .ok (.iload_n 2, 1) := by decide +kernel
theorem d_116_56 : decode prog_8_method_36_code 56 = .ok (.invokevirtual 161, 3) := by decide +kernel
theorem d_116_59 : decode prog_8_method_36_code 59 = .ok (.ifCond .eq 22, 3) := by decide +kernel
theorem d_116_62 : decode prog_8_method_36_code 62 = .ok (.goto 16, 3) := by decide +kernel
theorem d_116_65 : decode prog_8_method_36_code 65 = .ok (.aload_n 0, 1) := by decide +kernel
theorem d_116_66 : decode prog_8_method_36_code 66 = .ok (.aload_n 0, 1) := by decide +kernel
theorem d_116_67 : decode prog_8_method_36_code 67 = .ok (.getfield 137, 3) := by decide +kernel
theorem d_116_70 : decode prog_8_method_36_code 70 = .ok (.iload_n 3, 1) := by decide +kernel
theorem d_116_71 : decode prog_8_method_36_code 71 = .ok (.iload_n 2, 1) := by decide +kernel
theorem d_116_72 : decode prog_8_method_36_code 72 = .ok (.invokevirtual 148, 3) := by decide +kernel
theorem d_116_75 : decode prog_8_method_36_code 75 = .ok (.ifCond .eq 6, 3) := by decide +kernel
theorem d_116_78 : decode prog_8_method_36_code 78 = .ok (.bipush (-4), 2) := by decide +kernel
theorem d_116_80 : decode prog_8_method_36_code 80 = .ok (.ireturn, 1) := by decide +kernel
theorem d_116_81 : decode prog_8_method_36_code 81 = .ok (.iload_n 1, 1) := by decide +kernel
theorem d_116_82 : decode prog_8_method_36_code 82 = .ok (.ifCond .eq 20, 3) := by decide +kernel
theorem d_116_85 : decode prog_8_method_36_code 85 = .ok (.aload_n 0, 1) := by decide +kernel
theorem d_116_86 : decode prog_8_method_36_code 86 = .ok (.getfield 22, 3) := by decide +kernel
theorem d_116_89 : decode prog_8_method_36_code 89 = .ok (.iconst 5, 1) := by decide +kernel
theorem d_116_90 : decode prog_8_method_36_code 90 = .ok (.aload_n 0, 1) := by decide +kernel
theorem d_116_91 : decode prog_8_method_36_code 91 = .ok (.getfield 137, 3) := by decide +kernel
theorem d_116_94 : decode prog_8_method_36_code 94 = .ok (.imul, 1) := by decide +kernel
theorem d_116_95 : decode prog_8_method_36_code 95 = .ok (.iload_n 2, 1) := by decide +kernel
theorem d_116_96 : decode prog_8_method_36_code 96 = .ok (.iadd, 1) := by decide +kernel
theorem d_116_97 : decode prog_8_method_36_code 97 = .ok (.iload_n 3, 1) := by decide +kernel
theorem d_116_98 : decode prog_8_method_36_code 98 = .ok (.iastore, 1) := by decide +kernel
theorem d_116_99 : decode prog_8_method_36_code 99 = .ok (.goto 17, 3) := by decide +kernel
theorem d_116_102 : decode prog_8_method_36_code 102 = .ok (.aload_n 0, 1) := by decide +kernel
theorem d_116_103 : decode prog_8_method_36_code 103 = .ok (.getfield 13, 3) := by decide +kernel
theorem d_116_106 : decode prog_8_method_36_code 106 = .ok (.iconst 4, 1) := by decide +kernel
theorem d_116_107 : decode prog_8_method_36_code 107 = .ok (.aload_n 0, 1) := by decide +kernel
theorem d_116_108 : decode prog_8_method_36_code 108 = .ok (.getfield 137, 3) := by decide +kernel
theorem d_116_111 : decode prog_8_method_36_code 111 = .ok (.imul, 1) := by decide +kernel
theorem d_116_112 : decode prog_8_method_36_code 112 = .ok (.iload_n 2, 1) := by decide +kernel
theorem d_116_113 : decode prog_8_method_36_code 113 = .ok (.iadd, 1) := by decide +kernel
theorem d_116_114 : decode prog_8_method_36_code 114 = .ok (.iload_n 3, 1) := by decide +kernel
theorem d_116_115 : decode prog_8_method_36_code 115 = .ok (.iastore, 1) := by decide +kernel
theorem d_116_116 : decode prog_8_method_36_code 116 = .ok (.iconst 0, 1) := by decide +kernel
theorem d_116_117 : decode prog_8_method_36_code 117 = .ok (.ireturn, 1) := by decide +kernel
theorem d_117_0 : decode prog_8_method_37_code 0 = .ok (.aload_n 0, 1) := by decide +kernel
theorem d_117_1 : decode prog_8_method_37_code 1 = .ok (.getfield 140, 3) := by decide +kernel
theorem d_117_4 : decode prog_8_method_37_code 4 = .ok (.ifCond .eq 5, 3) := by decide +kernel
theorem d_117_7 : decode prog_8_method_37_code 7 = .ok (.iconst (-1), 1) := by decide +kernel
theorem d_117_8 : decode prog_8_method_37_code 8 = .ok (.ireturn, 1) := by decide +kernel
theorem d_117_9 : decode prog_8_method_37_code 9 = .ok (.aload_n 0, 1) := by decide +kernel
theorem d_117_10 : decode prog_8_method_37_code 10 = .ok (.aload_n 0, 1) := by decide +kernel
theorem d_117_11 : decode prog_8_method_37_code 11 = .ok (.getfield 137, 3) := by decide +kernel
theorem d_117_14 : decode prog_8_method_37_code 14 = .ok (.aload_n 0, 1) := by decide +kernel
theorem d_117_15 : decode prog_8_method_37_code 15 = .ok (.getfield 49, 3) := by decide +kernel
theorem d_117_18 : decode prog_8_method_37_code 18 = .ok (.aload_n 0, 1) := by decide +kernel
theorem d_117_19 : decode prog_8_method_37_code 19 = .ok (.getfield 137, 3) := by decide +kernel
theorem d_117_22 : decode prog_8_method_37_code 22 = .ok (.iaload, 1) := by decide +kernel
theorem d_117_23 : decode prog_8_method_37_code 23 = .ok (.i2l, 1) := by decide +kernel
theorem d_117_24 : decode prog_8_method_37_code 24 = .ok (.invokevirtual 176, 3) := by decide +kernel
theorem d_117_27 : decode prog_8_method_37_code 27 = .ok (.lstore_n 1, 1) := by decide +kernel
theorem d_117_28 : decode prog_8_method_37_code 28 = .ok (.lload_n 1, 1) := by decide +kernel
theorem d_117_29 : decode prog_8_method_37_code 29 = .ok (.ldc2_w 180, 3) := by decide +kernel
theorem d_117_32 : decode prog_8_method_37_code 32 = .ok (.lcmp, 1) := by decide +kernel
theorem d_117_33 : decode prog_8_method_37_code 33 = .ok (.ifCond .le 6, 3) := by decide +kernel
theorem d_117_36 : decode prog_8_method_37_code 36 = .ok (.bipush (-8), 2) := by decide +kernel
theorem d_117_38 : decode prog_8_method_37_code 38 = .ok (.ireturn, 1) := by decide +kernel
theorem d_117_39 : decode prog_8_method_37_code 39 = .ok (.aload_n 0, 1) := by decide +kernel
theorem d_117_40 : decode prog_8_method_37_code 40 = .ok (.iconst 1, 1) := by decide +kernel
theorem d_117_41 : decode prog_8_method_37_code 41 = .ok (.putfield 140, 3) := by decide +kernel
theorem d_117_44 : decode prog_8_method_37_code 44 = .ok (.lload_n 1, 1) := by decide +kernel
theorem d_117_45 : decode prog_8_method_37_code 45 = .ok (.l2i, 1) := by decide +kernel
theorem d_117_46 : decode prog_8_method_37_code 46 = .ok (.ireturn, 1) := by decide +kernel
theorem d_118_0 : decode prog_8_method_15_code 0 = .ok (.aload_n 0, 1) := by decide +kernel
theorem d_118_1 : decode prog_8_method_15_code 1 = .ok (.iload_n 1, 1) := by decide +kernel
theorem d_118_2 : decode prog_8_method_15_code 2 = .ok (.aload_n 0, 1) := by decide +kernel
theorem d_118_3 : decode prog_8_method_15_code 3 = .ok (.getfield 19, 3) := by decide +kernel
theorem d_118_6 : decode prog_8_method_15_code 6 = .ok (.iload_n 1, 1) := by decide +kernel
theorem d_118_7 : decode prog_8_method_15_code 7 = .ok (.iaload, 1) := by decide +kernel
theorem d_118_8 : decode prog_8_method_15_code 8 = .ok (.invokevirtual 99, 3) := by decide +kernel
theorem d_118_11 : decode prog_8_method_15_code 11 = .ok (.i2l, 1) := by decide +kernel
theorem d_118_12 : decode prog_8_method_15_code 12 = .ok (.lload_n 2, 1) := by decide +kernel
theorem d_118_13 : decode prog_8_method_15_code 13 = .ok (.aload_n 0, 1) := by decide +kernel
theorem d_118_14 : decode prog_8_method_15_code 14 = .ok (.iload_n 1, 1) := by decide +kernel
theorem d_118_15 : decode prog_8_method_15_code 15 = .ok (.invokevirtual 102, 3) := by decide +kernel
theorem d_118_18 : decode prog_8_method_15_code 18 = .ok (.i2l, 1) := by decide +kernel
theorem d_118_19 : decode prog_8_method_15_code 19 = .ok (.lmul, 1) := by decide +kernel
theorem d_118_20 : decode prog_8_method_15_code 20 = .ok (.ladd, 1) := by decide +kernel
theorem d_118_21 : decode prog_8_method_15_code 21 = .ok (.lreturn, 1) := by decide +kernel
theorem d_119_0 : decode prog_8_method_13_code 0 = .ok (.iload_n 2, 1) := by decide +kernel
theorem d_119_1 : decode prog_8_method_13_code 1 = .ok (.aload_n 0, 1) := by decide +kernel
theorem d_119_2 : decode prog_8_method_13_code 2 = .ok (.getfield 19, 3) := by decide +kernel
theorem d_119_5 : decode prog_8_method_13_code 5 = .ok (.iload_n 1, 1) := by decide +kernel
theorem d_119_6 : decode prog_8_method_13_code 6 = .ok (.iaload, 1) := by decide +kernel
theorem d_119_7 : decode prog_8_method_13_code 7 = .ok (.if_icmp .eq 12, 3) := by decide +kernel
theorem d_119_10 : decode prog_8_method_13_code 10 = .ok (.aload_n 0, 1) := by decide +kernel
theorem d_119_11 : decode prog_8_method_13_code 11 = .ok (.iload_n 1, 1) := by decide +kernel
theorem d_119_12 : decode prog_8_method_13_code 12 = .ok (.iload_n 2, 1) := by decide +kernel
theorem d_119_13 : decode prog_8_method_13_code 13 = .ok (.invokevirtual 83, 3) := by decide +kernel
theorem d_119_16 : decode prog_8_method_13_code 16 = .ok (.ifCond .eq 7, 3) := by decide +kernel
theorem d_119_19 : decode prog_8_method_13_code 19 = .ok (.iconst 1, 1) := by decide +kernel
theorem d_119_20 : decode prog_8_method_13_code 20 = .ok (.goto 4, 3) := by decide +kernel
theorem d_119_23 : decode prog_8_method_13_code 23 = .ok (.iconst 0, 1) := by decide +kernel
theorem d_119_24 : decode prog_8_method_13_code 24 = .ok (.istore_n 3, 1) := by decide +kernel
theorem d_119_25 : decode prog_8_method_13_code 25 = .ok (.aload_n 0, 1) := by decide +kernel
theorem d_119_26 : decode prog_8_method_13_code 26 = .ok (.iload_n 1, 1) := by decide +kernel
theorem d_119_27 : decode prog_8_method_13_code 27 = .ok (.invokevirtual 90, 3) := by decide +kernel
theorem d_119_30 : decode prog_8_method_13_code 30 = .ok (.istore 4, 2) := by decide +kernel
theorem d_119_32 : decode prog_8_method_13_code 32 = .ok (.iconst 0, 1) := by decide +kernel
theorem d_119_33 : decode prog_8_method_13_code 33 = .ok (.istore 5, 2) := by decide +kernel
theorem d_119_35 : decode prog_8_method_13_code 35 = .ok (.iload 5, 2) := by decide +kernel
theorem d_119_37 : decode prog_8_method_13_code 37 = .ok (.aload_n 0, 1) := by decide +kernel
theorem d_119_38 : decode prog_8_method_13_code 38 = .ok (.getfield 19, 3) := by decide +kernel
theorem d_119_41 : decode prog_8_method_13_code 41 = .ok (.iload_n 1, 1) := by decide +kernel
theorem d_119_42 : decode prog_8_method_13_code 42 = .ok (.iaload, 1) := by decide +kernel
theorem d_119_43 : decode prog_8_method_13_code 43 = .ok (.if_icmp .ge 86, 3) := by decide +kernel
theorem d_119_46 : decode prog_8_method_13_code 46 = .ok (.aload_n 0, 1) := by decide +kernel
theorem d_119_47 : decode prog_8_method_13_code 47 = .ok (.iload_n 1, 1) := by decide +kernel
theorem d_119_48 : decode prog_8_method_13_code 48 = .ok (.iload 5, 2) := by decide +kernel
theorem d_119_50 : decode prog_8_method_13_code 50 = .ok (.invokevirtual 83, 3) := by decide +kernel
theorem d_119_53 : decode prog_8_method_13_code 53 = .ok (.ifCond .eq 31, 3) := by decide +kernel
theorem d_119_56 : decode prog_8_method_13_code 56 = .ok (.iload_n 3, 1) := by decide +kernel
theorem d_119_57 : decode prog_8_method_13_code 57 = .ok (.ifCond .eq 23, 3) := by decide +kernel
theorem d_119_60 : decode prog_8_method_13_code 60 = .ok (.iload_n 2, 1) := by decide +kernel
theorem d_119_61 : decode prog_8_method_13_code 61 = .ok (.aload_n 0, 1) := by decide +kernel
theorem d_119_62 : decode prog_8_method_13_code 62 = .ok (.getfield 19, 3) := by decide +kernel
theorem d_119_65 : decode prog_8_method_13_code 65 = .ok (.iload_n 1, 1) := by decide +kernel
theorem d_119_66 : decode prog_8_method_13_code 66 = .ok (.iaload, 1) := by decide +kernel
theorem d_119_67 : decode prog_8_method_13_code 67 = .ok (.if_icmp .ge 13, 3) := by decide +kernel
theorem d_119_70 : decode prog_8_method_13_code 70 = .ok (.iload 5, 2) := by decide +kernel
theorem d_119_72 : decode prog_8_method_13_code 72 = .ok (.iload_n 2, 1) := by decide +kernel
theorem d_119_73 : decode prog_8_method_13_code 73 = .ok (.if_icmp .ge 7, 3) := by decide +kernel
theorem d_119_76 : decode prog_8_method_13_code 76 = .ok (.iconst 1, 1) := by decide +kernel
theorem d_119_77 : decode prog_8_method_13_code 77 = .ok (.goto 22, 3) := by decide +kernel
theorem d_119_80 : decode prog_8_method_13_code 80 = .ok (.iconst 0, 1) := by decide +kernel
theorem d_119_81 : decode prog_8_method_13_code 81 = .ok (.goto 18, 3) := by decide +kernel
theorem d_119_84 : decode prog_8_method_13_code 84 = .ok (.iload_n 3, 1) := by decide +kernel
theorem d_119_85 : decode prog_8_method_13_code 85 = .ok (.ifCond .ne 9, 3) := by decide +kernel
theorem d_119_88 : decode prog_8_method_13_code 88 = .ok (.iload 5, 2) := by decide +kernel
theorem d_119_90 : decode prog_8_method_13_code 90 = .ok (.iload_n 2, 1) := by decide +kernel
theorem d_119_91 : decode prog_8_method_13_code 91 = .ok (.if_icmp .ge 7, 3) := by decide +kernel
theorem d_119_94 : decode prog_8_method_13_code 94 = .ok (.iconst 1, 1) := by decide +kernel
theorem d_119_95 : decode prog_8_method_13_code 95 = .ok (.goto 4, 3) := by decide +kernel
theorem d_119_98 : decode prog_8_method_13_code 98 = .ok (.iconst 0, 1) := by decide +kernel
theorem d_119_99 : decode prog_8_method_13_code 99 = .ok (.istore 6, 2) := by decide +kernel
theorem d_119_101 : decode prog_8_method_13_code 101 = .ok (.iload 6, 2) := by decide +kernel
theorem d_119_103 : decode prog_8_method_13_code 103 = .ok (.ifCond .eq 16, 3) := by decide +kernel
theorem d_119_106 : decode prog_8_method_13_code 106 = .ok (.iload 4, 2) := by decide +kernel
theorem d_119_108 : decode prog_8_method_13_code 108 = .ok (.aload_n 0, 1) := by decide +kernel
theorem d_119_109 : decode prog_8_method_13_code 109 = .ok (.iload_n 1, 1) := by decide +kernel
theorem d_119_110 : decode prog_8_method_13_code 110 = .ok (.iload 5, 2) := by decide +kernel
theorem d_119_112 : decode prog_8_method_13_code 112 = .ok (.invokevirtual 93, 3) := by decide +kernel
theorem d_119_115 : decode prog_8_method_13_code 115 = .ok (.iadd, 1) := by decide +kernel
theorem d_119_116 : decode prog_8_method_13_code 116 = .ok (.goto 5, 3) := by decide +kernel
theorem d_119_119 : decode prog_8_method_13_code 119 = .ok (.iload 4, 2) := by decide +kernel
theorem d_119_121 : decode prog_8_method_13_code 121 = .ok (.istore 4, 2) := by decide +kernel
theorem d_119_123 : decode prog_8_method_13_code 123 = .ok (.iinc 5 1, 3) := by decide +kernel
theorem d_119_126 : decode prog_8_method_13_code 126 = .ok (.goto (-91), 3) := by decide +kernel
theorem d_119_129 : decode prog_8_method_13_code 129 = .ok (.iload 4, 2) := by decide +kernel
theorem d_119_131 : decode prog_8_method_13_code 131 = .ok (.ireturn, 1) := by decide +kernel
theorem d_120_0 : decode prog_8_method_7_code 0 = .ok (.aload_n 0, 1) := by decide +kernel
theorem d_120_1 : decode prog_8_method_7_code 1 = .ok (.iload_n 1, 1) := by decide +kernel
theorem d_120_2 : decode prog_8_method_7_code 2 = .ok (.iload_n 2, 1) := by decide +kernel
theorem d_120_3 : decode prog_8_method_7_code 3 = .ok (.iconst 0, 1) := by decide +kernel
theorem d_120_4 : decode prog_8_method_7_code 4 = .ok (.invokevirtual 71, 3) := by decide +kernel
theorem d_120_7 : decode prog_8_method_7_code 7 = .ok (.ifCond .ne 7, 3) := by decide +kernel
theorem d_120_10 : decode prog_8_method_7_code 10 = .ok (.iconst 1, 1) := by decide +kernel
theorem d_120_11 : decode prog_8_method_7_code 11 = .ok (.goto 4, 3) := by decide +kernel
theorem d_120_14 : decode prog_8_method_7_code 14 = .ok (.iconst 0, 1) := by decide +kernel
theorem d_120_15 : decode prog_8_method_7_code 15 = .ok (.ireturn, 1) := by decide +kernel
theorem d_121_0 : decode prog_8_method_6_code 0 = .ok (.iload_n 3, 1) := by decide +kernel
theorem d_121_1 : decode prog_8_method_6_code 1 = .ok (.aload_n 0, 1) := by decide +kernel
theorem d_121_2 : decode prog_8_method_6_code 2 = .ok (.getfield 28, 3) := by decide +kernel
theorem d_121_5 : decode prog_8_method_6_code 5 = .ok (.iconst 5, 1) := by decide +kernel
theorem d_121_6 : decode prog_8_method_6_code 6 = .ok (.iload_n 1, 1) := by decide +kernel
theorem d_121_7 : decode prog_8_method_6_code 7 = .ok (.imul, 1) := by decide +kernel
theorem d_121_8 : decode prog_8_method_6_code 8 = .ok (.iload_n 2, 1) := by decide +kernel
theorem d_121_9 : decode prog_8_method_6_code 9 = .ok (.iadd, 1) := by decide +kernel
theorem d_121_10 : decode prog_8_method_6_code 10 = .ok (.iaload, 1) := by decide +kernel
theorem d_121_11 : decode prog_8_method_6_code 11 = .ok (.if_icmp .ge 30, 3) := by decide +kernel
theorem d_121_14 : decode prog_8_method_6_code 14 = .ok (.aload_n 0, 1) := by decide +kernel
theorem d_121_15 : decode prog_8_method_6_code 15 = .ok (.getfield 16, 3) := by decide +kernel
theorem d_121_18 : decode prog_8_method_6_code 18 = .ok (.iconst 4, 1) := by decide +kernel
theorem d_121_19 : decode prog_8_method_6_code 19 = .ok (.iload_n 1, 1) := by decide +kernel
theorem d_121_20 : decode prog_8_method_6_code 20 = .ok (.imul, 1) := by decide +kernel
theorem d_121_21 : decode prog_8_method_6_code 21 = .ok (.aload_n 0, 1) := by decide +kernel
theorem d_121_22 : decode prog_8_method_6_code 22 = .ok (.getfield 31, 3) := by decide +kernel
theorem d_121_25 : decode prog_8_method_6_code 25 = .ok (.bipush 10, 2) := by decide +kernel
theorem d_121_27 : decode prog_8_method_6_code 27 = .ok (.iload_n 1, 1) := by decide +kernel
theorem d_121_28 : decode prog_8_method_6_code 28 = .ok (.imul, 1) := by decide +kernel
theorem d_121_29 : decode prog_8_method_6_code 29 = .ok (.iconst 2, 1) := by decide +kernel
theorem d_121_30 : decode prog_8_method_6_code 30 = .ok (.iload_n 2, 1) := by decide +kernel
theorem d_121_31 : decode prog_8_method_6_code 31 = .ok (.imul, 1) := by decide +kernel
theorem d_121_32 : decode prog_8_method_6_code 32 = .ok (.iadd, 1) := by decide +kernel
theorem d_121_33 : decode prog_8_method_6_code 33 = .ok (.iload_n 3, 1) := by decide +kernel
theorem d_121_34 : decode prog_8_method_6_code 34 = .ok (.iadd, 1) := by decide +kernel
theorem d_121_35 : decode prog_8_method_6_code 35 = .ok (.iaload, 1) := by decide +kernel
theorem d_121_36 : decode prog_8_method_6_code 36 = .ok (.iadd, 1) := by decide +kernel
theorem d_121_37 : decode prog_8_method_6_code 37 = .ok (.iaload, 1) := by decide +kernel
theorem d_121_38 : decode prog_8_method_6_code 38 = .ok (.goto 4, 3) := by decide +kernel
theorem d_121_41 : decode prog_8_method_6_code 41 = .ok (.iconst 1, 1) := by decide +kernel
theorem d_121_42 : decode prog_8_method_6_code 42 = .ok (.ireturn, 1) := by decide +kernel
theorem d_122_0 : decode prog_8_method_12_code 0 = .ok (.bipush 16, 2) := by decide +kernel
theorem d_122_2 : decode prog_8_method_12_code 2 = .ok (.bipush 12, 2) := by decide +kernel
theorem d_122_4 : decode prog_8_method_12_code 4 = .ok (.aload_n 0, 1) := by decide +kernel
theorem d_122_5 : decode prog_8_method_12_code 5 = .ok (.getfield 7, 3) := by decide +kernel
theorem d_122_8 : decode prog_8_method_12_code 8 = .ok (.iload_n 1, 1) := by decide +kernel
theorem d_122_9 : decode prog_8_method_12_code 9 = .ok (.iaload, 1) := by decide +kernel
theorem d_122_10 : decode prog_8_method_12_code 10 = .ok (.imul, 1) := by decide +kernel
theorem d_122_11 : decode prog_8_method_12_code 11 = .ok (.iadd, 1) := by decide +kernel
theorem d_122_12 : decode prog_8_method_12_code 12 = .ok (.aload_n 0, 1) := by decide +kernel
theorem d_122_13 : decode prog_8_method_12_code 13 = .ok (.iload_n 1, 1) := by decide +kernel
theorem d_122_14 : decode prog_8_method_12_code 14 = .ok (.iconst 0, 1) := by decide +kernel
theorem d_122_15 : decode prog_8_method_12_code 15 = .ok (.invokevirtual 87, 3) := by decide +kernel
theorem d_122_18 : decode prog_8_method_12_code 18 = .ok (.iadd, 1) := by decide +kernel
theorem d_122_19 : decode prog_8_method_12_code 19 = .ok (.bipush 8, 2) := by decide +kernel
theorem d_122_21 : decode prog_8_method_12_code 21 = .ok (.iadd, 1) := by decide +kernel
theorem d_122_22 : decode prog_8_method_12_code 22 = .ok (.istore_n 2, 1) := by decide +kernel
theorem d_122_23 : decode prog_8_method_12_code 23 = .ok (.iconst 0, 1) := by decide +kernel
theorem d_122_24 : decode prog_8_method_12_code 24 = .ok (.istore_n 3, 1) := by decide +kernel
theorem d_122_25 : decode prog_8_method_12_code 25 = .ok (.iload_n 3, 1) := by decide +kernel
theorem d_122_26 : decode prog_8_method_12_code 26 = .ok (.aload_n 0, 1) := by decide +kernel
theorem d_122_27 : decode prog_8_method_12_code 27 = .ok (.getfield 19, 3) := by decide +kernel
theorem d_122_30 : decode prog_8_method_12_code 30 = .ok (.iload_n 1, 1) := by decide +kernel
theorem d_122_31 : decode prog_8_method_12_code 31 = .ok (.iaload, 1) := by decide +kernel
theorem d_122_32 : decode prog_8_method_12_code 32 = .ok (.if_icmp .ge 36, 3) := by decide +kernel
theorem d_122_35 : decode prog_8_method_12_code 35 = .ok (.iload_n 2, 1) := by decide +kernel
theorem d_122_36 : decode prog_8_method_12_code 36 = .ok (.bipush 24, 2) := by decide +kernel
theorem d_122_38 : decode prog_8_method_12_code 38 = .ok (.iadd, 1) := by decide +kernel
theorem d_122_39 : decode prog_8_method_12_code 39 = .ok (.iconst 4, 1) := by decide +kernel
theorem d_122_40 : decode prog_8_method_12_code 40 = .ok (.aload_n 0, 1) := by decide +kernel
theorem d_122_41 : decode prog_8_method_12_code 41 = .ok (.getfield 28, 3) := by decide +kernel
theorem d_122_44 : decode prog_8_method_12_code 44 = .ok (.iconst 5, 1) := by decide +kernel
theorem d_122_45 : decode prog_8_method_12_code 45 = .ok (.iload_n 1, 1) := by decide +kernel
theorem d_122_46 : decode prog_8_method_12_code 46 = .ok (.imul, 1) := by decide +kernel
theorem d_122_47 : decode prog_8_method_12_code 47 = .ok (.iload_n 3, 1) := by decide +kernel
theorem d_122_48 : decode prog_8_method_12_code 48 = .ok (.iadd, 1) := by decide +kernel
theorem d_122_49 : decode prog_8_method_12_code 49 = .ok (.iaload, 1) := by decide +kernel
theorem d_122_50 : decode prog_8_method_12_code 50 = .ok (.imul, 1) := by decide +kernel
theorem d_122_51 : decode prog_8_method_12_code 51 = .ok (.iadd, 1) := by decide +kernel
theorem d_122_52 : decode prog_8_method_12_code 52 = .ok (.aload_n 0, 1) := by decide +kernel
theorem d_122_53 : decode prog_8_method_12_code 53 = .ok (.iload_n 1, 1) := by decide +kernel
theorem d_122_54 : decode prog_8_method_12_code 54 = .ok (.iload_n 3, 1) := by decide +kernel
theorem d_122_55 : decode prog_8_method_12_code 55 = .ok (.iconst 1, 1) := by decide +kernel
theorem d_122_56 : decode prog_8_method_12_code 56 = .ok (.iadd, 1) := by decide +kernel
theorem d_122_57 : decode prog_8_method_12_code 57 = .ok (.invokevirtual 87, 3) := by decide +kernel
theorem d_122_60 : decode prog_8_method_12_code 60 = .ok (.iadd, 1) := by decide +kernel
theorem d_122_61 : decode prog_8_method_12_code 61 = .ok (.istore_n 2, 1) := by decide +kernel
theorem d_122_62 : decode prog_8_method_12_code 62 = .ok (.iinc 3 1, 3) := by decide +kernel
theorem d_122_65 : decode prog_8_method_12_code 65 = .ok (.goto (-40), 3) := by decide +kernel
theorem d_122_68 : decode prog_8_method_12_code 68 = .ok (.iload_n 2, 1) := by decide +kernel
theorem d_122_69 : decode prog_8_method_12_code 69 = .ok (.ireturn, 1) := by decide +kernel
theorem d_123_0 : decode prog_8_method_11_code 0 = .ok (.bipush 8, 2) := by decide +kernel
theorem d_123_2 : decode prog_8_method_11_code 2 = .ok (.istore_n 3, 1) := by decide +kernel
theorem d_123_3 : decode prog_8_method_11_code 3 = .ok (.iconst 0, 1) := by decide +kernel
theorem d_123_4 : decode prog_8_method_11_code 4 = .ok (.istore 4, 2) := by decide +kernel
theorem d_123_6 : decode prog_8_method_11_code 6 = .ok (.iload 4, 2) := by decide +kernel
theorem d_123_8 : decode prog_8_method_11_code 8 = .ok (.aload_n 0, 1) := by decide +kernel
theorem d_123_9 : decode prog_8_method_11_code 9 = .ok (.getfield 34, 3) := by decide +kernel
theorem d_123_12 : decode prog_8_method_11_code 12 = .ok (.bipush 6, 2) := by decide +kernel
theorem d_123_14 : decode prog_8_method_11_code 14 = .ok (.iload_n 1, 1) := by decide +kernel
theorem d_123_15 : decode prog_8_method_11_code 15 = .ok (.imul, 1) := by decide +kernel
theorem d_123_16 : decode prog_8_method_11_code 16 = .ok (.iload_n 2, 1) := by decide +kernel
theorem d_123_17 : decode prog_8_method_11_code 17 = .ok (.iadd, 1) := by decide +kernel
theorem d_123_18 : decode prog_8_method_11_code 18 = .ok (.iaload, 1) := by decide +kernel
theorem d_123_19 : decode prog_8_method_11_code 19 = .ok (.if_icmp .ge 41, 3) := by decide +kernel
theorem d_123_22 : decode prog_8_method_11_code 22 = .ok (.iload_n 3, 1) := by decide +kernel
theorem d_123_23 : decode prog_8_method_11_code 23 = .ok (.bipush 16, 2) := by decide +kernel
theorem d_123_25 : decode prog_8_method_11_code 25 = .ok (.iadd, 1) := by decide +kernel
theorem d_123_26 : decode prog_8_method_11_code 26 = .ok (.aload_n 0, 1) := by decide +kernel
theorem d_123_27 : decode prog_8_method_11_code 27 = .ok (.getfield 40, 3) := by decide +kernel
theorem d_123_30 : decode prog_8_method_11_code 30 = .ok (.bipush 18, 2) := by decide +kernel
theorem d_123_32 : decode prog_8_method_11_code 32 = .ok (.iload_n 1, 1) := by decide +kernel
theorem d_123_33 : decode prog_8_method_11_code 33 = .ok (.imul, 1) := by decide +kernel
theorem d_123_34 : decode prog_8_method_11_code 34 = .ok (.iconst 3, 1) := by decide +kernel
theorem d_123_35 : decode prog_8_method_11_code 35 = .ok (.iload_n 2, 1) := by decide +kernel
theorem d_123_36 : decode prog_8_method_11_code 36 = .ok (.imul, 1) := by decide +kernel
theorem d_123_37 : decode prog_8_method_11_code 37 = .ok (.iadd, 1) := by decide +kernel
theorem d_123_38 : decode prog_8_method_11_code 38 = .ok (.iload 4, 2) := by decide +kernel
theorem d_123_40 : decode prog_8_method_11_code 40 = .ok (.iadd, 1) := by decide +kernel
theorem d_123_41 : decode prog_8_method_11_code 41 = .ok (.iaload, 1) := by decide +kernel
theorem d_123_42 : decode prog_8_method_11_code 42 = .ok (.iconst 4, 1) := by decide +kernel
theorem d_123_43 : decode prog_8_method_11_code 43 = .ok (.if_icmp .ne 8, 3) := by decide +kernel
theorem d_123_46 : decode prog_8_method_11_code 46 = .ok (.bipush 8, 2) := by decide +kernel
theorem d_123_48 : decode prog_8_method_11_code 48 = .ok (.goto 4, 3) := by decide +kernel
theorem d_123_51 : decode prog_8_method_11_code 51 = .ok (.iconst 4, 1) := by decide +kernel
theorem d_123_52 : decode prog_8_method_11_code 52 = .ok (.iadd, 1) := by decide +kernel
theorem d_123_53 : decode prog_8_method_11_code 53 = .ok (.istore_n 3, 1) := by decide +kernel
theorem d_123_54 : decode prog_8_method_11_code 54 = .ok (.iinc 4 1, 3) := by decide +kernel
theorem d_123_57 : decode prog_8_method_11_code 57 = .ok (.goto (-51), 3) := by decide +kernel
theorem d_123_60 : decode prog_8_method_11_code 60 = .ok (.iload_n 3, 1) := by decide +kernel
theorem d_123_61 : decode prog_8_method_11_code 61 = .ok (.ireturn, 1) := by decide +kernel
theorem d_124_0 : decode prog_8_method_9_code 0 = .ok (.aload_n 0, 1) := by decide +kernel
theorem d_124_1 : decode prog_8_method_9_code 1 = .ok (.iload_n 1, 1) := by decide +kernel
theorem d_124_2 : decode prog_8_method_9_code 2 = .ok (.iload_n 2, 1) := by decide +kernel
theorem d_124_3 : decode prog_8_method_9_code 3 = .ok (.invokevirtual 75, 3) := by decide +kernel
theorem d_124_6 : decode prog_8_method_9_code 6 = .ok (.aload_n 0, 1) := by decide +kernel
theorem d_124_7 : decode prog_8_method_9_code 7 = .ok (.getfield 25, 3) := by decide +kernel
theorem d_124_10 : decode prog_8_method_9_code 10 = .ok (.iconst 5, 1) := by decide +kernel
theorem d_124_11 : decode prog_8_method_9_code 11 = .ok (.iload_n 1, 1) := by decide +kernel
theorem d_124_12 : decode prog_8_method_9_code 12 = .ok (.imul, 1) := by decide +kernel
theorem d_124_13 : decode prog_8_method_9_code 13 = .ok (.iload_n 2, 1) := by decide +kernel
theorem d_124_14 : decode prog_8_method_9_code 14 = .ok (.iadd, 1) := by decide +kernel
theorem d_124_15 : decode prog_8_method_9_code 15 = .ok (.iaload, 1) := by decide +kernel
theorem d_124_16 : decode prog_8_method_9_code 16 = .ok (.invokestatic 79, 3) := by decide +kernel
theorem d_124_19 : decode prog_8_method_9_code 19 = .ok (.imul, 1) := by decide +kernel
theorem d_124_20 : decode prog_8_method_9_code 20 = .ok (.iconst 3, 1) := by decide +kernel
theorem d_124_21 : decode prog_8_method_9_code 21 = .ok (.iadd, 1) := by decide +kernel
theorem d_124_22 : decode prog_8_method_9_code 22 = .ok (.iconst 4, 1) := by decide +kernel
theorem d_124_23 : decode prog_8_method_9_code 23 = .ok (.idiv, 1) := by decide +kernel
theorem d_124_24 : decode prog_8_method_9_code 24 = .ok (.iconst 4, 1) := by decide +kernel
theorem d_124_25 : decode prog_8_method_9_code 25 = .ok (.imul, 1) := by decide +kernel
theorem d_124_26 : decode prog_8_method_9_code 26 = .ok (.ireturn, 1) := by decide +kernel
theorem d_125_0 : decode prog_8_method_8_code 0 = .ok (.aload_n 0, 1) := by decide +kernel
theorem d_125_1 : decode prog_8_method_8_code 1 = .ok (.iload_n 1, 1) := by decide +kernel
theorem d_125_2 : decode prog_8_method_8_code 2 = .ok (.iload_n 2, 1) := by decide +kernel
theorem d_125_3 : decode prog_8_method_8_code 3 = .ok (.iconst 0, 1) := by decide +kernel
theorem d_125_4 : decode prog_8_method_8_code 4 = .ok (.invokevirtual 71, 3) := by decide +kernel
theorem d_125_7 : decode prog_8_method_8_code 7 = .ok (.istore_n 3, 1) := by decide +kernel
theorem d_125_8 : decode prog_8_method_8_code 8 = .ok (.iload_n 3, 1) := by decide +kernel
theorem d_125_9 : decode prog_8_method_8_code 9 = .ok (.ifCond .ne 7, 3) := by decide +kernel
theorem d_125_12 : decode prog_8_method_8_code 12 = .ok (.iconst 1, 1) := by decide +kernel
theorem d_125_13 : decode prog_8_method_8_code 13 = .ok (.goto 4, 3) := by decide +kernel
theorem d_125_16 : decode prog_8_method_8_code 16 = .ok (.iload_n 3, 1) := by decide +kernel
theorem d_125_17 : decode prog_8_method_8_code 17 = .ok (.aload_n 0, 1) := by decide +kernel
theorem d_125_18 : decode prog_8_method_8_code 18 = .ok (.iload_n 1, 1) := by decide +kernel
theorem d_125_19 : decode prog_8_method_8_code 19 = .ok (.iload_n 2, 1) := by decide +kernel
theorem d_125_20 : decode prog_8_method_8_code 20 = .ok (.iconst 1, 1) := by decide +kernel
theorem d_125_21 : decode prog_8_method_8_code 21 = .ok (.invokevirtual 71, 3) := by decide +kernel
theorem d_125_24 : decode prog_8_method_8_code 24 = .ok (.imul, 1) := by decide +kernel
theorem d_125_25 : decode prog_8_method_8_code 25 = .ok (.ireturn, 1) := by decide +kernel
theorem d_126_0 : decode prog_8_method_3_code 0 = .ok (.iload_n 0, 1) := by decide +kernel
theorem d_126_1 : decode prog_8_method_3_code 1 = .ok (.iconst 2, 1) := by decide +kernel
theorem d_126_2 : decode prog_8_method_3_code 2 = .ok (.if_icmp .gt 7, 3) := by decide +kernel
theorem d_126_5 : decode prog_8_method_3_code 5 = .ok (.iconst 1, 1) := by decide +kernel
theorem d_126_6 : decode prog_8_method_3_code 6 = .ok (.goto 13, 3) := by decide +kernel
theorem d_126_9 : decode prog_8_method_3_code 9 = .ok (.iload_n 0, 1) := by decide +kernel
theorem d_126_10 : decode prog_8_method_3_code 10 = .ok (.iconst 3, 1) := by decide +kernel
theorem d_126_11 : decode prog_8_method_3_code 11 = .ok (.if_icmp .ne 7, 3) := by decide +kernel
theorem d_126_14 : decode prog_8_method_3_code 14 = .ok (.iconst 2, 1) := by decide +kernel
theorem d_126_15 : decode prog_8_method_3_code 15 = .ok (.goto 4, 3) := by decide +kernel
theorem d_126_18 : decode prog_8_method_3_code 18 = .ok (.iconst 4, 1) := by decide +kernel
theorem d_126_19 : decode prog_8_method_3_code 19 = .ok (.ireturn, 1) := by decide +kernel
theorem d_127_0 : decode prog_8_method_14_code 0 = .ok (.iconst 0, 1) := by decide +kernel
theorem d_127_1 : decode prog_8_method_14_code 1 = .ok (.istore_n 2, 1) := by decide +kernel
theorem d_127_2 : decode prog_8_method_14_code 2 = .ok (.aload_n 0, 1) := by decide +kernel
theorem d_127_3 : decode prog_8_method_14_code 3 = .ok (.iload_n 1, 1) := by decide +kernel
theorem d_127_4 : decode prog_8_method_14_code 4 = .ok (.invokevirtual 96, 3) := by decide +kernel
theorem d_127_7 : decode prog_8_method_14_code 7 = .ok (.iconst 1, 1) := by decide +kernel
theorem d_127_8 : decode prog_8_method_14_code 8 = .ok (.if_icmp .ne 7, 3) := by decide +kernel
theorem d_127_11 : decode prog_8_method_14_code 11 = .ok (.iconst 1, 1) := by decide +kernel
theorem d_127_12 : decode prog_8_method_14_code 12 = .ok (.goto 4, 3) := by decide +kernel
theorem d_127_15 : decode prog_8_method_14_code 15 = .ok (.iconst 0, 1) := by decide +kernel
theorem d_127_16 : decode prog_8_method_14_code 16 = .ok (.istore_n 3, 1) := by decide +kernel
theorem d_127_17 : decode prog_8_method_14_code 17 = .ok (.iconst 0, 1) := by decide +kernel
theorem d_127_18 : decode prog_8_method_14_code 18 = .ok (.istore 4, 2) := by decide +kernel
theorem d_127_20 : decode prog_8_method_14_code 20 = .ok (.iload 4, 2) := by decide +kernel
theorem d_127_22 : decode prog_8_method_14_code 22 = .ok (.aload_n 0, 1) := by decide +kernel
theorem d_127_23 : decode prog_8_method_14_code 23 = .ok (.getfield 19, 3) := by decide +kernel
theorem d_127_26 : decode prog_8_method_14_code 26 = .ok (.iload_n 1, 1) := by decide +kernel
theorem d_127_27 : decode prog_8_method_14_code 27 = .ok (.iaload, 1) := by decide +kernel
theorem d_127_28 : decode prog_8_method_14_code 28 = .ok (.if_icmp .ge 66, 3) := by decide +kernel
theorem d_127_31 : decode prog_8_method_14_code 31 = .ok (.iload_n 3, 1) := by decide +kernel
theorem d_127_32 : decode prog_8_method_14_code 32 = .ok (.ifCond .eq 28, 3) := by decide +kernel
theorem d_127_35 : decode prog_8_method_14_code 35 = .ok (.aload_n 0, 1) := by decide +kernel
theorem d_127_36 : decode prog_8_method_14_code 36 = .ok (.iload_n 1, 1) := by decide +kernel
theorem d_127_37 : decode prog_8_method_14_code 37 = .ok (.iload 4, 2) := by decide +kernel
theorem d_127_39 : decode prog_8_method_14_code 39 = .ok (.invokevirtual 75, 3) := by decide +kernel
theorem d_127_42 : decode prog_8_method_14_code 42 = .ok (.aload_n 0, 1) := by decide +kernel
theorem d_127_43 : decode prog_8_method_14_code 43 = .ok (.getfield 25, 3) := by decide +kernel
theorem d_127_46 : decode prog_8_method_14_code 46 = .ok (.iconst 5, 1) := by decide +kernel
theorem d_127_47 : decode prog_8_method_14_code 47 = .ok (.iload_n 1, 1) := by decide +kernel
theorem d_127_48 : decode prog_8_method_14_code 48 = .ok (.imul, 1) := by decide +kernel
theorem d_127_49 : decode prog_8_method_14_code 49 = .ok (.iload 4, 2) := by decide +kernel
theorem d_127_51 : decode prog_8_method_14_code 51 = .ok (.iadd, 1) := by decide +kernel
theorem d_127_52 : decode prog_8_method_14_code 52 = .ok (.iaload, 1) := by decide +kernel
theorem d_127_53 : decode prog_8_method_14_code 53 = .ok (.invokestatic 79, 3) := by decide +kernel
theorem d_127_56 : decode prog_8_method_14_code 56 = .ok (.imul, 1) := by decide +kernel
theorem d_127_57 : decode prog_8_method_14_code 57 = .ok (.goto 10, 3) := by decide +kernel
theorem d_127_60 : decode prog_8_method_14_code 60 = .ok (.aload_n 0, 1) := by decide +kernel
theorem d_127_61 : decode prog_8_method_14_code 61 = .ok (.iload_n 1, 1) := by decide +kernel
theorem d_127_62 : decode prog_8_method_14_code 62 = .ok (.iload 4, 2) := by decide +kernel
theorem d_127_64 : decode prog_8_method_14_code 64 = .ok (.invokevirtual 93, 3) := by decide +kernel
theorem d_127_67 : decode prog_8_method_14_code 67 = .ok (.istore 5, 2) := by decide +kernel
theorem d_127_69 : decode prog_8_method_14_code 69 = .ok (.aload_n 0, 1) := by decide +kernel
theorem d_127_70 : decode prog_8_method_14_code 70 = .ok (.iload_n 1, 1) := by decide +kernel
theorem d_127_71 : decode prog_8_method_14_code 71 = .ok (.iload 4, 2) := by decide +kernel
theorem d_127_73 : decode prog_8_method_14_code 73 = .ok (.invokevirtual 83, 3) := by decide +kernel
theorem d_127_76 : decode prog_8_method_14_code 76 = .ok (.ifCond .eq 10, 3) := by decide +kernel
theorem d_127_79 : decode prog_8_method_14_code 79 = .ok (.iload_n 2, 1) := by decide +kernel
theorem d_127_80 : decode prog_8_method_14_code 80 = .ok (.iload 5, 2) := by decide +kernel
theorem d_127_82 : decode prog_8_method_14_code 82 = .ok (.iadd, 1) := by decide +kernel
theorem d_127_83 : decode prog_8_method_14_code 83 = .ok (.goto 4, 3) := by decide +kernel
theorem d_127_86 : decode prog_8_method_14_code 86 = .ok (.iload_n 2, 1) := by decide +kernel
theorem d_127_87 : decode prog_8_method_14_code 87 = .ok (.istore_n 2, 1) := by decide +kernel
theorem d_127_88 : decode prog_8_method_14_code 88 = .ok (.iinc 4 1, 3) := by decide +kernel
theorem d_127_91 : decode prog_8_method_14_code 91 = .ok (.goto (-71), 3) := by decide +kernel
theorem d_127_94 : decode prog_8_method_14_code 94 = .ok (.iload_n 2, 1) := by decide +kernel
theorem d_127_95 : decode prog_8_method_14_code 95 = .ok (.ireturn, 1) := by decide +kernel
theorem d_128_0 : decode prog_8_method_10_code 0 = .ok (.iconst 0, 1) := by decide +kernel
theorem d_128_1 : decode prog_8_method_10_code 1 = .ok (.istore_n 2, 1) := by decide +kernel
theorem d_128_2 : decode prog_8_method_10_code 2 = .ok (.iconst 0, 1) := by decide +kernel
theorem d_128_3 : decode prog_8_method_10_code 3 = .ok (.istore_n 3, 1) := by decide +kernel
theorem d_128_4 : decode prog_8_method_10_code 4 = .ok (.iload_n 3, 1) := by decide +kernel
theorem d_128_5 : decode prog_8_method_10_code 5 = .ok (.aload_n 0, 1) := by decide +kernel
theorem d_128_6 : decode prog_8_method_10_code 6 = .ok (.getfield 19, 3) := by decide +kernel
theorem d_128_9 : decode prog_8_method_10_code 9 = .ok (.iload_n 1, 1) := by decide +kernel
theorem d_128_10 : decode prog_8_method_10_code 10 = .ok (.iaload, 1) := by decide +kernel
theorem d_128_11 : decode prog_8_method_10_code 11 = .ok (.if_icmp .ge 26, 3) := by decide +kernel
theorem d_128_14 : decode prog_8_method_10_code 14 = .ok (.aload_n 0, 1) := by decide +kernel
theorem d_128_15 : decode prog_8_method_10_code 15 = .ok (.iload_n 1, 1) := by decide +kernel
theorem d_128_16 : decode prog_8_method_10_code 16 = .ok (.iload_n 3, 1) := by decide +kernel
theorem d_128_17 : decode prog_8_method_10_code 17 = .ok (.invokevirtual 83, 3) := by decide +kernel
theorem d_128_20 : decode prog_8_method_10_code 20 = .ok (.ifCond .eq 9, 3) := by decide +kernel
theorem d_128_23 : decode prog_8_method_10_code 23 = .ok (.iload_n 2, 1) := by decide +kernel
theorem d_128_24 : decode prog_8_method_10_code 24 = .ok (.iconst 1, 1) := by decide +kernel
theorem d_128_25 : decode prog_8_method_10_code 25 = .ok (.iadd, 1) := by decide +kernel
theorem d_128_26 : decode prog_8_method_10_code 26 = .ok (.goto 4, 3) := by decide +kernel
theorem d_128_29 : decode prog_8_method_10_code 29 = .ok (.iload_n 2, 1) := by decide +kernel
theorem d_128_30 : decode prog_8_method_10_code 30 = .ok (.istore_n 2, 1) := by decide +kernel
theorem d_128_31 : decode prog_8_method_10_code 31 = .ok (.iinc 3 1, 3) := by decide +kernel
theorem d_128_34 : decode prog_8_method_10_code 34 = .ok (.goto (-30), 3) := by decide +kernel
theorem d_128_37 : decode prog_8_method_10_code 37 = .ok (.iload_n 2, 1) := by decide +kernel
theorem d_128_38 : decode prog_8_method_10_code 38 = .ok (.ireturn, 1) := by decide +kernel
theorem d_129_0 : decode prog_8_method_38_code 0 = .ok (.aload_n 0, 1) := by decide +kernel
theorem d_129_1 : decode prog_8_method_38_code 1 = .ok (.getfield 140, 3) := by decide +kernel
theorem d_129_4 : decode prog_8_method_38_code 4 = .ok (.ifCond .ne 5, 3) := by decide +kernel
theorem d_129_7 : decode prog_8_method_38_code 7 = .ok (.iconst (-1), 1) := by decide +kernel
theorem d_129_8 : decode prog_8_method_38_code 8 = .ok (.ireturn, 1) := by decide +kernel
theorem d_129_9 : decode prog_8_method_38_code 9 = .ok (.aload_n 0, 1) := by decide +kernel
theorem d_129_10 : decode prog_8_method_38_code 10 = .ok (.iconst 0, 1) := by decide +kernel
theorem d_129_11 : decode prog_8_method_38_code 11 = .ok (.putfield 140, 3) := by decide +kernel
theorem d_129_14 : decode prog_8_method_38_code 14 = .ok (.iconst 0, 1) := by decide +kernel
theorem d_129_15 : decode prog_8_method_38_code 15 = .ok (.ireturn, 1) := by decide +kernel
theorem d_130_0 : decode prog_8_method_41_code 0 = .ok (.aload_n 0, 1) := by decide +kernel
theorem d_130_1 : decode prog_8_method_41_code 1 = .ok (.getfield 140, 3) := by decide +kernel
theorem d_130_4 : decode prog_8_method_41_code 4 = .ok (.ifCond .ne 5, 3) := by decide +kernel
theorem d_130_7 : decode prog_8_method_41_code 7 = .ok (.iconst (-1), 1) := by decide +kernel
theorem d_130_8 : decode prog_8_method_41_code 8 = .ok (.ireturn, 1) := by decide +kernel
theorem d_130_9 : decode prog_8_method_41_code 9 = .ok (.aload_n 0, 1) := by decide +kernel
theorem d_130_10 : decode prog_8_method_41_code 10 = .ok (.iload_n 1, 1) := by decide +kernel
theorem d_130_11 : decode prog_8_method_41_code 11 = .ok (.invokevirtual 167, 3) := by decide +kernel
theorem d_130_14 : decode prog_8_method_41_code 14 = .ok (.ifCond .ne 6, 3) := by decide +kernel
theorem d_130_17 : decode prog_8_method_41_code 17 = .ok (.bipush (-3), 2) := by decide +kernel
theorem d_130_19 : decode prog_8_method_41_code 19 = .ok (.ireturn, 1) := by decide +kernel
theorem d_130_20 : decode prog_8_method_41_code 20 = .ok (.aload_n 0, 1) := by decide +kernel
theorem d_130_21 : decode prog_8_method_41_code 21 = .ok (.iload_n 1, 1) := by decide +kernel
theorem d_130_22 : decode prog_8_method_41_code 22 = .ok (.iload_n 2, 1) := by decide +kernel
theorem d_130_23 : decode prog_8_method_41_code 23 = .ok (.i2l, 1) := by decide +kernel
theorem d_130_24 : decode prog_8_method_41_code 24 = .ok (.iload_n 3, 1) := by decide +kernel
theorem d_130_25 : decode prog_8_method_41_code 25 = .ok (.i2l, 1) := by decide +kernel
theorem d_130_26 : decode prog_8_method_41_code 26 = .ok (.iconst 1, 1) := by decide +kernel
theorem d_130_27 : decode prog_8_method_41_code 27 = .ok (.invokevirtual 182, 3) := by decide +kernel
theorem d_130_30 : decode prog_8_method_41_code 30 = .ok (.ifCond .ne 6, 3) := by decide +kernel
theorem d_130_33 : decode prog_8_method_41_code 33 = .ok (.bipush (-7), 2) := by decide +kernel
theorem d_130_35 : decode prog_8_method_41_code 35 = .ok (.ireturn, 1) := by decide +kernel
theorem d_130_36 : decode prog_8_method_41_code 36 = .ok (.aload_n 0, 1) := by decide +kernel
theorem d_130_37 : decode prog_8_method_41_code 37 = .ok (.getfield 25, 3) := by decide +kernel
theorem d_130_40 : decode prog_8_method_41_code 40 = .ok (.iconst 5, 1) := by decide +kernel
theorem d_130_41 : decode prog_8_method_41_code 41 = .ok (.aload_n 0, 1) := by decide +kernel
theorem d_130_42 : decode prog_8_method_41_code 42 = .ok (.getfield 137, 3) := by decide +kernel
theorem d_130_45 : decode prog_8_method_41_code 45 = .ok (.imul, 1) := by decide +kernel
theorem d_130_46 : decode prog_8_method_41_code 46 = .ok (.iload_n 1, 1) := by decide +kernel
theorem d_130_47 : decode prog_8_method_41_code 47 = .ok (.iadd, 1) := by decide +kernel
theorem d_130_48 : decode prog_8_method_41_code 48 = .ok (.iaload, 1) := by decide +kernel
theorem d_130_49 : decode prog_8_method_41_code 49 = .ok (.iload 4, 2) := by decide +kernel
theorem d_130_51 : decode prog_8_method_41_code 51 = .ok (.invokestatic 170, 3) := by decide +kernel
theorem d_130_54 : decode prog_8_method_41_code 54 = .ok (.ifCond .ne 6, 3) := by decide +kernel
theorem d_130_57 : decode prog_8_method_41_code 57 = .ok (.bipush (-6), 2) := by decide +kernel
theorem d_130_59 : decode prog_8_method_41_code 59 = .ok (.ireturn, 1) := by decide +kernel
theorem d_130_60 : decode prog_8_method_41_code 60 = .ok (.aload_n 0, 1) := by decide +kernel
theorem d_130_61 : decode prog_8_method_41_code 61 = .ok (.iload_n 1, 1) := by decide +kernel
theorem d_130_62 : decode prog_8_method_41_code 62 = .ok (.iload_n 2, 1) := by decide +kernel
theorem d_130_63 : decode prog_8_method_41_code 63 = .ok (.i2l, 1) := by decide +kernel
theorem d_130_64 : decode prog_8_method_41_code 64 = .ok (.invokevirtual 186, 3) := by decide +kernel
theorem d_130_67 : decode prog_8_method_41_code 67 = .ok (.ifCond .ne 6, 3) := by decide +kernel
theorem d_130_70 : decode prog_8_method_41_code 70 = .ok (.bipush (-8), 2) := by decide +kernel
theorem d_130_72 : decode prog_8_method_41_code 72 = .ok (.ireturn, 1) := by decide +kernel
theorem d_130_73 : decode prog_8_method_41_code 73 = .ok (.aload_n 0, 1) := by decide +kernel
theorem d_130_74 : decode prog_8_method_41_code 74 = .ok (.getfield 52, 3) := by decide +kernel
theorem d_130_77 : decode prog_8_method_41_code 77 = .ok (.aload_n 0, 1) := by decide +kernel
theorem d_130_78 : decode prog_8_method_41_code 78 = .ok (.iload_n 1, 1) := by decide +kernel
theorem d_130_79 : decode prog_8_method_41_code 79 = .ok (.iload_n 2, 1) := by decide +kernel
theorem d_130_80 : decode prog_8_method_41_code 80 = .ok (.i2l, 1) := by decide +kernel
theorem d_130_81 : decode prog_8_method_41_code 81 = .ok (.iload_n 3, 1) := by decide +kernel
theorem d_130_82 : decode prog_8_method_41_code 82 = .ok (.i2l, 1) := by decide +kernel
theorem d_130_83 : decode prog_8_method_41_code 83 = .ok (.invokevirtual 190, 3) := by decide +kernel
theorem d_130_86 : decode prog_8_method_41_code 86 = .ok (.iload 4, 2) := by decide +kernel
theorem d_130_88 : decode prog_8_method_41_code 88 = .ok (.iastore, 1) := by decide +kernel
theorem d_130_89 : decode prog_8_method_41_code 89 = .ok (.iconst 0, 1) := by decide +kernel
theorem d_130_90 : decode prog_8_method_41_code 90 = .ok (.ireturn, 1) := by decide +kernel
theorem d_131_0 : decode prog_8_method_39_code 0 = .ok (.lload_n 2, 1) := by decide +kernel
theorem d_131_1 : decode prog_8_method_39_code 1 = .ok (.lconst 0, 1) := by decide +kernel
theorem d_131_2 : decode prog_8_method_39_code 2 = .ok (.lcmp, 1) := by decide +kernel
theorem d_131_3 : decode prog_8_method_39_code 3 = .ok (.ifCond .lt 27, 3) := by decide +kernel
theorem d_131_6 : decode prog_8_method_39_code 6 = .ok (.lload 4, 2) := by decide +kernel
theorem d_131_8 : decode prog_8_method_39_code 8 = .ok (.lconst 0, 1) := by decide +kernel
theorem d_131_9 : decode prog_8_method_39_code 9 = .ok (.lcmp, 1) := by decide +kernel
theorem d_131_10 : decode prog_8_method_39_code 10 = .ok (.ifCond .lt 20, 3) := by decide +kernel
theorem d_131_13 : decode prog_8_method_39_code 13 = .ok (.lload 4, 2) := by decide +kernel
theorem d_131_15 : decode prog_8_method_39_code 15 = .ok (.aload_n 0, 1) := by decide +kernel
theorem d_131_16 : decode prog_8_method_39_code 16 = .ok (.aload_n 0, 1) := by decide +kernel
theorem d_131_17 : decode prog_8_method_39_code 17 = .ok (.getfield 137, 3) := by decide +kernel
theorem d_131_20 : decode prog_8_method_39_code 20 = .ok (.iload_n 1, 1) := by decide +kernel
theorem d_131_21 : decode prog_8_method_39_code 21 = .ok (.iconst 1, 1) := by decide +kernel
theorem d_131_22 : decode prog_8_method_39_code 22 = .ok (.invokevirtual 71, 3) := by decide +kernel
theorem d_131_25 : decode prog_8_method_39_code 25 = .ok (.i2l, 1) := by decide +kernel
theorem d_131_26 : decode prog_8_method_39_code 26 = .ok (.lcmp, 1) := by decide +kernel
theorem d_131_27 : decode prog_8_method_39_code 27 = .ok (.ifCond .lt 5, 3) := by decide +kernel
theorem d_131_30 : decode prog_8_method_39_code 30 = .ok (.iconst 0, 1) := by decide +kernel
theorem d_131_31 : decode prog_8_method_39_code 31 = .ok (.ireturn, 1) := by decide +kernel
theorem d_131_32 : decode prog_8_method_39_code 32 = .ok (.aload_n 0, 1) := by decide +kernel
theorem d_131_33 : decode prog_8_method_39_code 33 = .ok (.aload_n 0, 1) := by decide +kernel
theorem d_131_34 : decode prog_8_method_39_code 34 = .ok (.getfield 137, 3) := by decide +kernel
theorem d_131_37 : decode prog_8_method_39_code 37 = .ok (.iload_n 1, 1) := by decide +kernel
theorem d_131_38 : decode prog_8_method_39_code 38 = .ok (.invokevirtual 83, 3) := by decide +kernel
theorem d_131_41 : decode prog_8_method_39_code 41 = .ok (.ifCond .eq 31, 3) := by decide +kernel
theorem d_131_44 : decode prog_8_method_39_code 44 = .ok (.iload 6, 2) := by decide +kernel
theorem d_131_46 : decode prog_8_method_39_code 46 = .ok (.ifCond .ne 18, 3) := by decide +kernel
theorem d_131_49 : decode prog_8_method_39_code 49 = .ok (.lload_n 2, 1) := by decide +kernel
theorem d_131_50 : decode prog_8_method_39_code 50 = .ok (.aload_n 0, 1) := by decide +kernel
theorem d_131_51 : decode prog_8_method_39_code 51 = .ok (.getfield 49, 3) := by decide +kernel
theorem d_131_54 : decode prog_8_method_39_code 54 = .ok (.aload_n 0, 1) := by decide +kernel
theorem d_131_55 : decode prog_8_method_39_code 55 = .ok (.getfield 137, 3) := by decide +kernel
theorem d_131_58 : decode prog_8_method_39_code 58 = .ok (.iaload, 1) := by decide +kernel
theorem d_131_59 : decode prog_8_method_39_code 59 = .ok (.i2l, 1) := by decide +kernel
theorem d_131_60 : decode prog_8_method_39_code 60 = .ok (.lcmp, 1) := by decide +kernel
theorem d_131_61 : decode prog_8_method_39_code 61 = .ok (.ifCond .ge 7, 3) := by decide +kernel
theorem d_131_64 : decode prog_8_method_39_code 64 = .ok (.iconst 1, 1) := by decide +kernel
theorem d_131_65 : decode prog_8_method_39_code 65 = .ok (.goto 28, 3) := by decide +kernel
theorem d_131_68 : decode prog_8_method_39_code 68 = .ok (.iconst 0, 1) := by decide +kernel
theorem d_131_69 : decode prog_8_method_39_code 69 = .ok (.goto 24, 3) := by decide +kernel
theorem d_131_72 : decode prog_8_method_39_code 72 = .ok (.lload_n 2, 1) := by decide +kernel
theorem d_131_73 : decode prog_8_method_39_code 73 = .ok (.aload_n 0, 1) := by decide +kernel
theorem d_131_74 : decode prog_8_method_39_code 74 = .ok (.aload_n 0, 1) := by decide +kernel
theorem d_131_75 : decode prog_8_method_39_code 75 = .ok (.getfield 137, 3) := by decide +kernel
theorem d_131_78 : decode prog_8_method_39_code 78 = .ok (.iload_n 1, 1) := by decide +kernel
theorem d_131_79 : decode prog_8_method_39_code 79 = .ok (.iconst 0, 1) := by decide +kernel
theorem d_131_80 : decode prog_8_method_39_code 80 = .ok (.invokevirtual 71, 3) := by decide +kernel
theorem d_131_83 : decode prog_8_method_39_code 83 = .ok (.i2l, 1) := by decide +kernel
theorem d_131_84 : decode prog_8_method_39_code 84 = .ok (.lcmp, 1) := by decide +kernel
theorem d_131_85 : decode prog_8_method_39_code 85 = .ok (.ifCond .ge 7, 3) := by decide +kernel
theorem d_131_88 : decode prog_8_method_39_code 88 = .ok (.iconst 1, 1) := by decide +kernel
theorem d_131_89 : decode prog_8_method_39_code 89 = .ok (.goto 4, 3) := by decide +kernel
theorem d_131_92 : decode prog_8_method_39_code 92 = .ok (.iconst 0, 1) := by decide +kernel
theorem d_131_93 : decode prog_8_method_39_code 93 = .ok (.ireturn, 1) := by decide +kernel
theorem d_132_0 : decode prog_8_method_42_code 0 = .ok (.aload_n 0, 1) := by decide +kernel
theorem d_132_1 : decode prog_8_method_42_code 1 = .ok (.aload_n 0, 1) := by decide +kernel
theorem d_132_2 : decode prog_8_method_42_code 2 = .ok (.getfield 137, 3) := by decide +kernel
theorem d_132_5 : decode prog_8_method_42_code 5 = .ok (.iload_n 1, 1) := by decide +kernel
theorem d_132_6 : decode prog_8_method_42_code 6 = .ok (.invokevirtual 83, 3) := by decide +kernel
theorem d_132_9 : decode prog_8_method_42_code 9 = .ok (.ifCond .eq 18, 3) := by decide +kernel
theorem d_132_12 : decode prog_8_method_42_code 12 = .ok (.lload_n 2, 1) := by decide +kernel
theorem d_132_13 : decode prog_8_method_42_code 13 = .ok (.aload_n 0, 1) := by decide +kernel
theorem d_132_14 : decode prog_8_method_42_code 14 = .ok (.getfield 49, 3) := by decide +kernel
theorem d_132_17 : decode prog_8_method_42_code 17 = .ok (.aload_n 0, 1) := by decide +kernel
theorem d_132_18 : decode prog_8_method_42_code 18 = .ok (.getfield 137, 3) := by decide +kernel
theorem d_132_21 : decode prog_8_method_42_code 21 = .ok (.iaload, 1) := by decide +kernel
theorem d_132_22 : decode prog_8_method_42_code 22 = .ok (.i2l, 1) := by decide +kernel
theorem d_132_23 : decode prog_8_method_42_code 23 = .ok (.lcmp, 1) := by decide +kernel
theorem d_132_24 : decode prog_8_method_42_code 24 = .ok (.ifCond .ge 5, 3) := by decide +kernel
theorem d_132_27 : decode prog_8_method_42_code 27 = .ok (.iconst 1, 1) := by decide +kernel
theorem d_132_28 : decode prog_8_method_42_code 28 = .ok (.ireturn, 1) := by decide +kernel
theorem d_132_29 : decode prog_8_method_42_code 29 = .ok (.aload_n 0, 1) := by decide +kernel
theorem d_132_30 : decode prog_8_method_42_code 30 = .ok (.aload_n 0, 1) := by decide +kernel
theorem d_132_31 : decode prog_8_method_42_code 31 = .ok (.getfield 137, 3) := by decide +kernel
theorem d_132_34 : decode prog_8_method_42_code 34 = .ok (.lload_n 2, 1) := by decide +kernel
theorem d_132_35 : decode prog_8_method_42_code 35 = .ok (.lconst 1, 1) := by decide +kernel
theorem d_132_36 : decode prog_8_method_42_code 36 = .ok (.ladd, 1) := by decide +kernel
theorem d_132_37 : decode prog_8_method_42_code 37 = .ok (.invokevirtual 176, 3) := by decide +kernel
theorem d_132_40 : decode prog_8_method_42_code 40 = .ok (.ldc2_w 180, 3) := by decide +kernel
theorem d_132_43 : decode prog_8_method_42_code 43 = .ok (.lcmp, 1) := by decide +kernel
theorem d_132_44 : decode prog_8_method_42_code 44 = .ok (.ifCond .le 5, 3) := by decide +kernel
theorem d_132_47 : decode prog_8_method_42_code 47 = .ok (.iconst 0, 1) := by decide +kernel
theorem d_132_48 : decode prog_8_method_42_code 48 = .ok (.ireturn, 1) := by decide +kernel
theorem d_132_49 : decode prog_8_method_42_code 49 = .ok (.aload_n 0, 1) := by decide +kernel
theorem d_132_50 : decode prog_8_method_42_code 50 = .ok (.getfield 49, 3) := by decide +kernel
theorem d_132_53 : decode prog_8_method_42_code 53 = .ok (.aload_n 0, 1) := by decide +kernel
theorem d_132_54 : decode prog_8_method_42_code 54 = .ok (.getfield 137, 3) := by decide +kernel
theorem d_132_57 : decode prog_8_method_42_code 57 = .ok (.lload_n 2, 1) := by decide +kernel
theorem d_132_58 : decode prog_8_method_42_code 58 = .ok (.l2i, 1) := by decide +kernel
theorem d_132_59 : decode prog_8_method_42_code 59 = .ok (.iconst 1, 1) := by decide +kernel
theorem d_132_60 : decode prog_8_method_42_code 60 = .ok (.iadd, 1) := by decide +kernel
theorem d_132_61 : decode prog_8_method_42_code 61 = .ok (.iastore, 1) := by decide +kernel
theorem d_132_62 : decode prog_8_method_42_code 62 = .ok (.iconst 1, 1) := by decide +kernel
theorem d_132_63 : decode prog_8_method_42_code 63 = .ok (.ireturn, 1) := by decide +kernel
theorem d_133_0 : decode prog_8_method_40_code 0 = .ok (.sipush 800, 3) := by decide +kernel
theorem d_133_3 : decode prog_8_method_40_code 3 = .ok (.iconst 5, 1) := by decide +kernel
theorem d_133_4 : decode prog_8_method_40_code 4 = .ok (.aload_n 0, 1) := by decide +kernel
theorem d_133_5 : decode prog_8_method_40_code 5 = .ok (.getfield 137, 3) := by decide +kernel
theorem d_133_8 : decode prog_8_method_40_code 8 = .ok (.imul, 1) := by decide +kernel
theorem d_133_9 : decode prog_8_method_40_code 9 = .ok (.iload_n 1, 1) := by decide +kernel
theorem d_133_10 : decode prog_8_method_40_code 10 = .ok (.iadd, 1) := by decide +kernel
theorem d_133_11 : decode prog_8_method_40_code 11 = .ok (.imul, 1) := by decide +kernel
theorem d_133_12 : decode prog_8_method_40_code 12 = .ok (.lload_n 2, 1) := by decide +kernel
theorem d_133_13 : decode prog_8_method_40_code 13 = .ok (.l2i, 1) := by decide +kernel
theorem d_133_14 : decode prog_8_method_40_code 14 = .ok (.aload_n 0, 1) := by decide +kernel
theorem d_133_15 : decode prog_8_method_40_code 15 = .ok (.aload_n 0, 1) := by decide +kernel
theorem d_133_16 : decode prog_8_method_40_code 16 = .ok (.getfield 137, 3) := by decide +kernel
theorem d_133_19 : decode prog_8_method_40_code 19 = .ok (.iload_n 1, 1) := by decide +kernel
theorem d_133_20 : decode prog_8_method_40_code 20 = .ok (.iconst 1, 1) := by decide +kernel
theorem d_133_21 : decode prog_8_method_40_code 21 = .ok (.invokevirtual 71, 3) := by decide +kernel
theorem d_133_24 : decode prog_8_method_40_code 24 = .ok (.imul, 1) := by decide +kernel
theorem d_133_25 : decode prog_8_method_40_code 25 = .ok (.iadd, 1) := by decide +kernel
theorem d_133_26 : decode prog_8_method_40_code 26 = .ok (.lload 4, 2) := by decide +kernel
theorem d_133_28 : decode prog_8_method_40_code 28 = .ok (.l2i, 1) := by decide +kernel
theorem d_133_29 : decode prog_8_method_40_code 29 = .ok (.iadd, 1) := by decide +kernel
theorem d_133_30 : decode prog_8_method_40_code 30 = .ok (.ireturn, 1) := by decide +kernel
theorem d_134_0 : decode prog_8_method_43_code 0 = .ok (.aload_n 0, 1) := by decide +kernel
theorem d_134_1 : decode prog_8_method_43_code 1 = .ok (.getfield 140, 3) := by decide +kernel
theorem d_134_4 : decode prog_8_method_43_code 4 = .ok (.ifCond .eq 24, 3) := by decide +kernel
theorem d_134_7 : decode prog_8_method_43_code 7 = .ok (.aload_n 0, 1) := by decide +kernel
theorem d_134_8 : decode prog_8_method_43_code 8 = .ok (.iload_n 1, 1) := by decide +kernel
theorem d_134_9 : decode prog_8_method_43_code 9 = .ok (.invokevirtual 167, 3) := by decide +kernel
theorem d_134_12 : decode prog_8_method_43_code 12 = .ok (.ifCond .eq 16, 3) := by decide +kernel
theorem d_134_15 : decode prog_8_method_43_code 15 = .ok (.aload_n 0, 1) := by decide +kernel
theorem d_134_16 : decode prog_8_method_43_code 16 = .ok (.iload_n 1, 1) := by decide +kernel
theorem d_134_17 : decode prog_8_method_43_code 17 = .ok (.iload_n 2, 1) := by decide +kernel
theorem d_134_18 : decode prog_8_method_43_code 18 = .ok (.i2l, 1) := by decide +kernel
theorem d_134_19 : decode prog_8_method_43_code 19 = .ok (.iload_n 3, 1) := by decide +kernel
theorem d_134_20 : decode prog_8_method_43_code 20 = .ok (.i2l, 1) := by decide +kernel
theorem d_134_21 : decode prog_8_method_43_code 21 = .ok (.iconst 0, 1) := by decide +kernel
theorem d_134_22 : decode prog_8_method_43_code 22 = .ok (.invokevirtual 182, 3) := by decide +kernel
theorem d_134_25 : decode prog_8_method_43_code 25 = .ok (.ifCond .ne 7, 3) := by decide +kernel
theorem d_134_28 : decode prog_8_method_43_code 28 = .ok (.ldc2_w 194, 3) := by decide +kernel
theorem d_134_31 : decode prog_8_method_43_code 31 = .ok (.lreturn, 1) := by decide +kernel
theorem d_134_32 : decode prog_8_method_43_code 32 = .ok (.aload_n 0, 1) := by decide +kernel
theorem d_134_33 : decode prog_8_method_43_code 33 = .ok (.getfield 52, 3) := by decide +kernel
theorem d_134_36 : decode prog_8_method_43_code 36 = .ok (.aload_n 0, 1) := by decide +kernel
theorem d_134_37 : decode prog_8_method_43_code 37 = .ok (.iload_n 1, 1) := by decide +kernel
theorem d_134_38 : decode prog_8_method_43_code 38 = .ok (.iload_n 2, 1) := by decide +kernel
theorem d_134_39 : decode prog_8_method_43_code 39 = .ok (.i2l, 1) := by decide +kernel
theorem d_134_40 : decode prog_8_method_43_code 40 = .ok (.iload_n 3, 1) := by decide +kernel
theorem d_134_41 : decode prog_8_method_43_code 41 = .ok (.i2l, 1) := by decide +kernel
theorem d_134_42 : decode prog_8_method_43_code 42 = .ok (.invokevirtual 190, 3) := by decide +kernel
theorem d_134_45 : decode prog_8_method_43_code 45 = .ok (.iaload, 1) := by decide +kernel
theorem d_134_46 : decode prog_8_method_43_code 46 = .ok (.i2l, 1) := by decide +kernel
theorem d_134_47 : decode prog_8_method_43_code 47 = .ok (.lreturn, 1) := by decide +kernel
theorem d_135_0 : decode prog_8_method_44_code 0 = .ok (.iload_n 1, 1) := by decide +kernel
theorem d_135_1 : decode prog_8_method_44_code 1 = .ok (.ifCond .eq 11, 3) := by decide +kernel
theorem d_135_4 : decode prog_8_method_44_code 4 = .ok (.iload_n 1, 1) := by decide +kernel
theorem d_135_5 : decode prog_8_method_44_code 5 = .ok (.iconst 1, 1) := by decide +kernel
theorem d_135_6 : decode prog_8_method_44_code 6 = .ok (.if_icmp .eq 6, 3) := by decide +kernel
theorem d_135_9 : decode prog_8_method_44_code 9 = .ok (.bipush (-3), 2) := by decide +kernel
theorem d_135_11 : decode prog_8_method_44_code 11 = .ok (.ireturn, 1) := by decide +kernel
theorem d_135_12 : decode prog_8_method_44_code 12 = .ok (.iload_n 2, 1) := by decide +kernel
theorem d_135_13 : decode prog_8_method_44_code 13 = .ok (.ifCond .lt 27, 3) := by decide +kernel
theorem d_135_16 : decode prog_8_method_44_code 16 = .ok (.iload_n 3, 1) := by decide +kernel
theorem d_135_17 : decode prog_8_method_44_code 17 = .ok (.iconst 1, 1) := by decide +kernel
theorem d_135_18 : decode prog_8_method_44_code 18 = .ok (.if_icmp .lt 22, 3) := by decide +kernel
theorem d_135_21 : decode prog_8_method_44_code 21 = .ok (.iload_n 3, 1) := by decide +kernel
theorem d_135_22 : decode prog_8_method_44_code 22 = .ok (.bipush 8, 2) := by decide +kernel
theorem d_135_24 : decode prog_8_method_44_code 24 = .ok (.if_icmp .gt 16, 3) := by decide +kernel
theorem d_135_27 : decode prog_8_method_44_code 27 = .ok (.iload 4, 2) := by decide +kernel
theorem d_135_29 : decode prog_8_method_44_code 29 = .ok (.iconst 1, 1) := by decide +kernel
theorem d_135_30 : decode prog_8_method_44_code 30 = .ok (.if_icmp .lt 10, 3) := by decide +kernel
theorem d_135_33 : decode prog_8_method_44_code 33 = .ok (.iload 4, 2) := by decide +kernel
theorem d_135_35 : decode prog_8_method_44_code 35 = .ok (.bipush 8, 2) := by decide +kernel
theorem d_135_37 : decode prog_8_method_44_code 37 = .ok (.if_icmp .le 6, 3) := by decide +kernel
theorem d_135_40 : decode prog_8_method_44_code 40 = .ok (.bipush (-2), 2) := by decide +kernel
theorem d_135_42 : decode prog_8_method_44_code 42 = .ok (.ireturn, 1) := by decide +kernel
theorem d_135_43 : decode prog_8_method_44_code 43 = .ok (.aload_n 0, 1) := by decide +kernel
theorem d_135_44 : decode prog_8_method_44_code 44 = .ok (.getfield 55, 3) := by decide +kernel
theorem d_135_47 : decode prog_8_method_44_code 47 = .ok (.iload_n 1, 1) := by decide +kernel
theorem d_135_48 : decode prog_8_method_44_code 48 = .ok (.iload_n 2, 1) := by decide +kernel
theorem d_135_49 : decode prog_8_method_44_code 49 = .ok (.iastore, 1) := by decide +kernel
theorem d_135_50 : decode prog_8_method_44_code 50 = .ok (.aload_n 0, 1) := by decide +kernel
theorem d_135_51 : decode prog_8_method_44_code 51 = .ok (.getfield 58, 3) := by decide +kernel
theorem d_135_54 : decode prog_8_method_44_code 54 = .ok (.iload_n 1, 1) := by decide +kernel
theorem d_135_55 : decode prog_8_method_44_code 55 = .ok (.iload_n 3, 1) := by decide +kernel
theorem d_135_56 : decode prog_8_method_44_code 56 = .ok (.iastore, 1) := by decide +kernel
theorem d_135_57 : decode prog_8_method_44_code 57 = .ok (.aload_n 0, 1) := by decide +kernel
theorem d_135_58 : decode prog_8_method_44_code 58 = .ok (.getfield 61, 3) := by decide +kernel
theorem d_135_61 : decode prog_8_method_44_code 61 = .ok (.iload_n 1, 1) := by decide +kernel
theorem d_135_62 : decode prog_8_method_44_code 62 = .ok (.iload 4, 2) := by decide +kernel
theorem d_135_64 : decode prog_8_method_44_code 64 = .ok (.iastore, 1) := by decide +kernel
theorem d_135_65 : decode prog_8_method_44_code 65 = .ok (.iconst 0, 1) := by decide +kernel
theorem d_135_66 : decode prog_8_method_44_code 66 = .ok (.ireturn, 1) := by decide +kernel
theorem d_136_0 : decode prog_8_method_48_code 0 = .ok (.aload_n 0, 1) := by decide +kernel
theorem d_136_1 : decode prog_8_method_48_code 1 = .ok (.getfield 140, 3) := by decide +kernel
theorem d_136_4 : decode prog_8_method_48_code 4 = .ok (.ifCond .ne 5, 3) := by decide +kernel
theorem d_136_7 : decode prog_8_method_48_code 7 = .ok (.iconst (-1), 1) := by decide +kernel
theorem d_136_8 : decode prog_8_method_48_code 8 = .ok (.ireturn, 1) := by decide +kernel
theorem d_136_9 : decode prog_8_method_48_code 9 = .ok (.aload_n 0, 1) := by decide +kernel
theorem d_136_10 : decode prog_8_method_48_code 10 = .ok (.iload_n 1, 1) := by decide +kernel
theorem d_136_11 : decode prog_8_method_48_code 11 = .ok (.invokevirtual 167, 3) := by decide +kernel
theorem d_136_14 : decode prog_8_method_48_code 14 = .ok (.ifCond .ne 6, 3) := by decide +kernel
theorem d_136_17 : decode prog_8_method_48_code 17 = .ok (.bipush (-3), 2) := by decide +kernel
theorem d_136_19 : decode prog_8_method_48_code 19 = .ok (.ireturn, 1) := by decide +kernel
theorem d_136_20 : decode prog_8_method_48_code 20 = .ok (.aload_n 0, 1) := by decide +kernel
theorem d_136_21 : decode prog_8_method_48_code 21 = .ok (.iload_n 1, 1) := by decide +kernel
theorem d_136_22 : decode prog_8_method_48_code 22 = .ok (.iconst 1, 1) := by decide +kernel
theorem d_136_23 : decode prog_8_method_48_code 23 = .ok (.invokevirtual 203, 3) := by decide +kernel
theorem d_136_26 : decode prog_8_method_48_code 26 = .ok (.ifCond .ne 6, 3) := by decide +kernel
theorem d_136_29 : decode prog_8_method_48_code 29 = .ok (.bipush (-7), 2) := by decide +kernel
theorem d_136_31 : decode prog_8_method_48_code 31 = .ok (.ireturn, 1) := by decide +kernel
theorem d_136_32 : decode prog_8_method_48_code 32 = .ok (.aload_n 0, 1) := by decide +kernel
theorem d_136_33 : decode prog_8_method_48_code 33 = .ok (.iload_n 1, 1) := by decide +kernel
theorem d_136_34 : decode prog_8_method_48_code 34 = .ok (.iconst 0, 1) := by decide +kernel
theorem d_136_35 : decode prog_8_method_48_code 35 = .ok (.invokevirtual 196, 3) := by decide +kernel
theorem d_136_38 : decode prog_8_method_48_code 38 = .ok (.aload_n 0, 1) := by decide +kernel
theorem d_136_39 : decode prog_8_method_48_code 39 = .ok (.iload_n 1, 1) := by decide +kernel
theorem d_136_40 : decode prog_8_method_48_code 40 = .ok (.iconst 1, 1) := by decide +kernel
theorem d_136_41 : decode prog_8_method_48_code 41 = .ok (.invokevirtual 196, 3) := by decide +kernel
theorem d_136_44 : decode prog_8_method_48_code 44 = .ok (.imul, 1) := by decide +kernel
theorem d_136_45 : decode prog_8_method_48_code 45 = .ok (.istore 4, 2) := by decide +kernel
theorem d_136_47 : decode prog_8_method_48_code 47 = .ok (.iconst 0, 1) := by decide +kernel
theorem d_136_48 : decode prog_8_method_48_code 48 = .ok (.istore 5, 2) := by decide +kernel
theorem d_136_50 : decode prog_8_method_48_code 50 = .ok (.iload 5, 2) := by decide +kernel
theorem d_136_52 : decode prog_8_method_48_code 52 = .ok (.iload 4, 2) := by decide +kernel
theorem d_136_54 : decode prog_8_method_48_code 54 = .ok (.if_icmp .ge 37, 3) := by decide +kernel
theorem d_136_57 : decode prog_8_method_48_code 57 = .ok (.aload_n 0, 1) := by decide +kernel
theorem d_136_58 : decode prog_8_method_48_code 58 = .ok (.getfield 25, 3) := by decide +kernel
theorem d_136_61 : decode prog_8_method_48_code 61 = .ok (.iconst 5, 1) := by decide +kernel
theorem d_136_62 : decode prog_8_method_48_code 62 = .ok (.aload_n 0, 1) := by decide +kernel
theorem d_136_63 : decode prog_8_method_48_code 63 = .ok (.getfield 137, 3) := by decide +kernel
theorem d_136_66 : decode prog_8_method_48_code 66 = .ok (.imul, 1) := by decide +kernel
theorem d_136_67 : decode prog_8_method_48_code 67 = .ok (.iload_n 1, 1) := by decide +kernel
theorem d_136_68 : decode prog_8_method_48_code 68 = .ok (.iadd, 1) := by decide +kernel
theorem d_136_69 : decode prog_8_method_48_code 69 = .ok (.iaload, 1) := by decide +kernel
theorem d_136_70 : decode prog_8_method_48_code 70 = .ok (.iload_n 2, 1) := by decide +kernel
theorem d_136_71 : decode prog_8_method_48_code 71 = .ok (.iload 5, 2) := by decide +kernel
theorem d_136_73 : decode prog_8_method_48_code 73 = .ok (.iload_n 3, 1) := by decide +kernel
theorem d_136_74 : decode prog_8_method_48_code 74 = .ok (.imul, 1) := by decide +kernel
theorem d_136_75 : decode prog_8_method_48_code 75 = .ok (.iadd, 1) := by decide +kernel
theorem d_136_76 : decode prog_8_method_48_code 76 = .ok (.invokestatic 170, 3) := by decide +kernel
theorem d_136_79 : decode prog_8_method_48_code 79 = .ok (.ifCond .ne 6, 3) := by decide +kernel
theorem d_136_82 : decode prog_8_method_48_code 82 = .ok (.bipush (-6), 2) := by decide +kernel
theorem d_136_84 : decode prog_8_method_48_code 84 = .ok (.ireturn, 1) := by decide +kernel
theorem d_136_85 : decode prog_8_method_48_code 85 = .ok (.iinc 5 1, 3) := by decide +kernel
theorem d_136_88 : decode prog_8_method_48_code 88 = .ok (.goto (-38), 3) := by decide +kernel
theorem d_136_91 : decode prog_8_method_48_code 91 = .ok (.aload_n 0, 1) := by decide +kernel
theorem d_136_92 : decode prog_8_method_48_code 92 = .ok (.iload_n 1, 1) := by decide +kernel
theorem d_136_93 : decode prog_8_method_48_code 93 = .ok (.aload_n 0, 1) := by decide +kernel
theorem d_136_94 : decode prog_8_method_48_code 94 = .ok (.iload_n 1, 1) := by decide +kernel
theorem d_136_95 : decode prog_8_method_48_code 95 = .ok (.iconst 0, 1) := by decide +kernel
theorem d_136_96 : decode prog_8_method_48_code 96 = .ok (.aload_n 0, 1) := by decide +kernel
theorem d_136_97 : decode prog_8_method_48_code 97 = .ok (.iload_n 1, 1) := by decide +kernel
theorem d_136_98 : decode prog_8_method_48_code 98 = .ok (.iconst 0, 1) := by decide +kernel
theorem d_136_99 : decode prog_8_method_48_code 99 = .ok (.invokevirtual 196, 3) := by decide +kernel
theorem d_136_102 : decode prog_8_method_48_code 102 = .ok (.iconst 1, 1) := by decide +kernel
theorem d_136_103 : decode prog_8_method_48_code 103 = .ok (.isub, 1) := by decide +kernel
theorem d_136_104 : decode prog_8_method_48_code 104 = .ok (.invokevirtual 199, 3) := by decide +kernel
theorem d_136_107 : decode prog_8_method_48_code 107 = .ok (.invokevirtual 186, 3) := by decide +kernel
end
section
theorem d_136_110 : decode prog_8_method_48_code 110 = .ok (.ifCond .ne 6, 3) := by decide +kernel
theorem d_136_113 : decode prog_8_method_48_code 113 = .ok (.bipush (-8), 2) := by decide +kernel
theorem d_136_115 : decode prog_8_method_48_code 115 = .ok (.ireturn, 1) := by decide +kernel
theorem d_136_116 : decode prog_8_method_48_code 116 = .ok (.iconst 0, 1) := by decide +kernel
theorem d_136_117 : decode prog_8_method_48_code 117 = .ok (.istore 5, 2) := by decide +kernel
theorem d_136_119 : decode prog_8_method_48_code 119 = .ok (.iload 5, 2) := by decide +kernel
theorem d_136_121 : decode prog_8_method_48_code 121 = .ok (.iload 4, 2) := by decide +kernel
theorem d_136_123 : decode prog_8_method_48_code 123 = .ok (.if_icmp .ge 55, 3) := by decide +kernel
theorem d_136_126 : decode prog_8_method_48_code 126 = .ok (.aload_n 0, 1) := by decide +kernel
theorem d_136_127 : decode prog_8_method_48_code 127 = .ok (.getfield 52, 3) := by decide +kernel
theorem d_136_130 : decode prog_8_method_48_code 130 = .ok (.aload_n 0, 1) := by decide +kernel
theorem d_136_131 : decode prog_8_method_48_code 131 = .ok (.iload_n 1, 1) := by decide +kernel
theorem d_136_132 : decode prog_8_method_48_code 132 = .ok (.aload_n 0, 1) := by decide +kernel
theorem d_136_133 : decode prog_8_method_48_code 133 = .ok (.iload_n 1, 1) := by decide +kernel
theorem d_136_134 : decode prog_8_method_48_code 134 = .ok (.iconst 0, 1) := by decide +kernel
theorem d_136_135 : decode prog_8_method_48_code 135 = .ok (.iload 5, 2) := by decide +kernel
theorem d_136_137 : decode prog_8_method_48_code 137 = .ok (.aload_n 0, 1) := by decide +kernel
theorem d_136_138 : decode prog_8_method_48_code 138 = .ok (.iload_n 1, 1) := by decide +kernel
theorem d_136_139 : decode prog_8_method_48_code 139 = .ok (.iconst 1, 1) := by decide +kernel
theorem d_136_140 : decode prog_8_method_48_code 140 = .ok (.invokevirtual 196, 3) := by decide +kernel
theorem d_136_143 : decode prog_8_method_48_code 143 = .ok (.idiv, 1) := by decide +kernel
theorem d_136_144 : decode prog_8_method_48_code 144 = .ok (.invokevirtual 199, 3) := by decide +kernel
theorem d_136_147 : decode prog_8_method_48_code 147 = .ok (.aload_n 0, 1) := by decide +kernel
theorem d_136_148 : decode prog_8_method_48_code 148 = .ok (.iload_n 1, 1) := by decide +kernel
theorem d_136_149 : decode prog_8_method_48_code 149 = .ok (.iconst 1, 1) := by decide +kernel
theorem d_136_150 : decode prog_8_method_48_code 150 = .ok (.iload 5, 2) := by decide +kernel
theorem d_136_152 : decode prog_8_method_48_code 152 = .ok (.aload_n 0, 1) := by decide +kernel
theorem d_136_153 : decode prog_8_method_48_code 153 = .ok (.iload_n 1, 1) := by decide +kernel
theorem d_136_154 : decode prog_8_method_48_code 154 = .ok (.iconst 1, 1) := by decide +kernel
theorem d_136_155 : decode prog_8_method_48_code 155 = .ok (.invokevirtual 196, 3) := by decide +kernel
theorem d_136_158 : decode prog_8_method_48_code 158 = .ok (.irem, 1) := by decide +kernel
theorem d_136_159 : decode prog_8_method_48_code 159 = .ok (.invokevirtual 199, 3) := by decide +kernel
theorem d_136_162 : decode prog_8_method_48_code 162 = .ok (.invokevirtual 190, 3) := by decide +kernel
theorem d_136_165 : decode prog_8_method_48_code 165 = .ok (.iload_n 2, 1) := by decide +kernel
theorem d_136_166 : decode prog_8_method_48_code 166 = .ok (.iload 5, 2) := by decide +kernel
theorem d_136_168 : decode prog_8_method_48_code 168 = .ok (.iload_n 3, 1) := by decide +kernel
theorem d_136_169 : decode prog_8_method_48_code 169 = .ok (.imul, 1) := by decide +kernel
theorem d_136_170 : decode prog_8_method_48_code 170 = .ok (.iadd, 1) := by decide +kernel
theorem d_136_171 : decode prog_8_method_48_code 171 = .ok (.iastore, 1) := by decide +kernel
theorem d_136_172 : decode prog_8_method_48_code 172 = .ok (.iinc 5 1, 3) := by decide +kernel
theorem d_136_175 : decode prog_8_method_48_code 175 = .ok (.goto (-56), 3) := by decide +kernel
theorem d_136_178 : decode prog_8_method_48_code 178 = .ok (.iload 4, 2) := by decide +kernel
theorem d_136_180 : decode prog_8_method_48_code 180 = .ok (.ireturn, 1) := by decide +kernel
theorem d_137_0 : decode prog_8_method_47_code 0 = .ok (.iconst 0, 1) := by decide +kernel
theorem d_137_1 : decode prog_8_method_47_code 1 = .ok (.istore_n 3, 1) := by decide +kernel
theorem d_137_2 : decode prog_8_method_47_code 2 = .ok (.iload_n 3, 1) := by decide +kernel
theorem d_137_3 : decode prog_8_method_47_code 3 = .ok (.aload_n 0, 1) := by decide +kernel
theorem d_137_4 : decode prog_8_method_47_code 4 = .ok (.iload_n 1, 1) := by decide +kernel
theorem d_137_5 : decode prog_8_method_47_code 5 = .ok (.iconst 0, 1) := by decide +kernel
theorem d_137_6 : decode prog_8_method_47_code 6 = .ok (.invokevirtual 196, 3) := by decide +kernel
theorem d_137_9 : decode prog_8_method_47_code 9 = .ok (.if_icmp .ge 55, 3) := by decide +kernel
theorem d_137_12 : decode prog_8_method_47_code 12 = .ok (.iconst 0, 1) := by decide +kernel
theorem d_137_13 : decode prog_8_method_47_code 13 = .ok (.istore 4, 2) := by decide +kernel
theorem d_137_15 : decode prog_8_method_47_code 15 = .ok (.iload 4, 2) := by decide +kernel
theorem d_137_17 : decode prog_8_method_47_code 17 = .ok (.aload_n 0, 1) := by decide +kernel
theorem d_137_18 : decode prog_8_method_47_code 18 = .ok (.iload_n 1, 1) := by decide +kernel
theorem d_137_19 : decode prog_8_method_47_code 19 = .ok (.iconst 1, 1) := by decide +kernel
theorem d_137_20 : decode prog_8_method_47_code 20 = .ok (.invokevirtual 196, 3) := by decide +kernel
theorem d_137_23 : decode prog_8_method_47_code 23 = .ok (.if_icmp .ge 35, 3) := by decide +kernel
theorem d_137_26 : decode prog_8_method_47_code 26 = .ok (.aload_n 0, 1) := by decide +kernel
theorem d_137_27 : decode prog_8_method_47_code 27 = .ok (.iload_n 1, 1) := by decide +kernel
theorem d_137_28 : decode prog_8_method_47_code 28 = .ok (.aload_n 0, 1) := by decide +kernel
theorem d_137_29 : decode prog_8_method_47_code 29 = .ok (.iload_n 1, 1) := by decide +kernel
theorem d_137_30 : decode prog_8_method_47_code 30 = .ok (.iconst 0, 1) := by decide +kernel
theorem d_137_31 : decode prog_8_method_47_code 31 = .ok (.iload_n 3, 1) := by decide +kernel
theorem d_137_32 : decode prog_8_method_47_code 32 = .ok (.invokevirtual 199, 3) := by decide +kernel
theorem d_137_35 : decode prog_8_method_47_code 35 = .ok (.aload_n 0, 1) := by decide +kernel
theorem d_137_36 : decode prog_8_method_47_code 36 = .ok (.iload_n 1, 1) := by decide +kernel
theorem d_137_37 : decode prog_8_method_47_code 37 = .ok (.iconst 1, 1) := by decide +kernel
theorem d_137_38 : decode prog_8_method_47_code 38 = .ok (.iload 4, 2) := by decide +kernel
theorem d_137_40 : decode prog_8_method_47_code 40 = .ok (.invokevirtual 199, 3) := by decide +kernel
theorem d_137_43 : decode prog_8_method_47_code 43 = .ok (.iload_n 2, 1) := by decide +kernel
theorem d_137_44 : decode prog_8_method_47_code 44 = .ok (.invokevirtual 182, 3) := by decide +kernel
theorem d_137_47 : decode prog_8_method_47_code 47 = .ok (.ifCond .ne 5, 3) := by decide +kernel
theorem d_137_50 : decode prog_8_method_47_code 50 = .ok (.iconst 0, 1) := by decide +kernel
theorem d_137_51 : decode prog_8_method_47_code 51 = .ok (.ireturn, 1) := by decide +kernel
theorem d_137_52 : decode prog_8_method_47_code 52 = .ok (.iinc 4 1, 3) := by decide +kernel
theorem d_137_55 : decode prog_8_method_47_code 55 = .ok (.goto (-40), 3) := by decide +kernel
theorem d_137_58 : decode prog_8_method_47_code 58 = .ok (.iinc 3 1, 3) := by decide +kernel
theorem d_137_61 : decode prog_8_method_47_code 61 = .ok (.goto (-59), 3) := by decide +kernel
theorem d_137_64 : decode prog_8_method_47_code 64 = .ok (.iconst 1, 1) := by decide +kernel
theorem d_137_65 : decode prog_8_method_47_code 65 = .ok (.ireturn, 1) := by decide +kernel
theorem d_138_0 : decode prog_8_method_45_code 0 = .ok (.iload_n 2, 1) := by decide +kernel
theorem d_138_1 : decode prog_8_method_45_code 1 = .ok (.aload_n 0, 1) := by decide +kernel
theorem d_138_2 : decode prog_8_method_45_code 2 = .ok (.getfield 28, 3) := by decide +kernel
theorem d_138_5 : decode prog_8_method_45_code 5 = .ok (.iconst 5, 1) := by decide +kernel
theorem d_138_6 : decode prog_8_method_45_code 6 = .ok (.aload_n 0, 1) := by decide +kernel
theorem d_138_7 : decode prog_8_method_45_code 7 = .ok (.getfield 137, 3) := by decide +kernel
theorem d_138_10 : decode prog_8_method_45_code 10 = .ok (.imul, 1) := by decide +kernel
theorem d_138_11 : decode prog_8_method_45_code 11 = .ok (.iload_n 1, 1) := by decide +kernel
theorem d_138_12 : decode prog_8_method_45_code 12 = .ok (.iadd, 1) := by decide +kernel
theorem d_138_13 : decode prog_8_method_45_code 13 = .ok (.iaload, 1) := by decide +kernel
theorem d_138_14 : decode prog_8_method_45_code 14 = .ok (.if_icmp .ge 12, 3) := by decide +kernel
theorem d_138_17 : decode prog_8_method_45_code 17 = .ok (.aload_n 0, 1) := by decide +kernel
theorem d_138_18 : decode prog_8_method_45_code 18 = .ok (.getfield 58, 3) := by decide +kernel
theorem d_138_21 : decode prog_8_method_45_code 21 = .ok (.iload_n 2, 1) := by decide +kernel
theorem d_138_22 : decode prog_8_method_45_code 22 = .ok (.iaload, 1) := by decide +kernel
theorem d_138_23 : decode prog_8_method_45_code 23 = .ok (.goto 4, 3) := by decide +kernel
theorem d_138_26 : decode prog_8_method_45_code 26 = .ok (.iconst 1, 1) := by decide +kernel
theorem d_138_27 : decode prog_8_method_45_code 27 = .ok (.ireturn, 1) := by decide +kernel
theorem d_139_0 : decode prog_8_method_46_code 0 = .ok (.iload_n 2, 1) := by decide +kernel
theorem d_139_1 : decode prog_8_method_46_code 1 = .ok (.aload_n 0, 1) := by decide +kernel
theorem d_139_2 : decode prog_8_method_46_code 2 = .ok (.getfield 28, 3) := by decide +kernel
theorem d_139_5 : decode prog_8_method_46_code 5 = .ok (.iconst 5, 1) := by decide +kernel
theorem d_139_6 : decode prog_8_method_46_code 6 = .ok (.aload_n 0, 1) := by decide +kernel
theorem d_139_7 : decode prog_8_method_46_code 7 = .ok (.getfield 137, 3) := by decide +kernel
theorem d_139_10 : decode prog_8_method_46_code 10 = .ok (.imul, 1) := by decide +kernel
theorem d_139_11 : decode prog_8_method_46_code 11 = .ok (.iload_n 1, 1) := by decide +kernel
theorem d_139_12 : decode prog_8_method_46_code 12 = .ok (.iadd, 1) := by decide +kernel
theorem d_139_13 : decode prog_8_method_46_code 13 = .ok (.iaload, 1) := by decide +kernel
theorem d_139_14 : decode prog_8_method_46_code 14 = .ok (.if_icmp .ge 24, 3) := by decide +kernel
theorem d_139_17 : decode prog_8_method_46_code 17 = .ok (.aload_n 0, 1) := by decide +kernel
theorem d_139_18 : decode prog_8_method_46_code 18 = .ok (.getfield 55, 3) := by decide +kernel
theorem d_139_21 : decode prog_8_method_46_code 21 = .ok (.iload_n 2, 1) := by decide +kernel
theorem d_139_22 : decode prog_8_method_46_code 22 = .ok (.iaload, 1) := by decide +kernel
theorem d_139_23 : decode prog_8_method_46_code 23 = .ok (.i2l, 1) := by decide +kernel
theorem d_139_24 : decode prog_8_method_46_code 24 = .ok (.iload_n 3, 1) := by decide +kernel
theorem d_139_25 : decode prog_8_method_46_code 25 = .ok (.i2l, 1) := by decide +kernel
theorem d_139_26 : decode prog_8_method_46_code 26 = .ok (.aload_n 0, 1) := by decide +kernel
theorem d_139_27 : decode prog_8_method_46_code 27 = .ok (.getfield 61, 3) := by decide +kernel
theorem d_139_30 : decode prog_8_method_46_code 30 = .ok (.iload_n 2, 1) := by decide +kernel
theorem d_139_31 : decode prog_8_method_46_code 31 = .ok (.iaload, 1) := by decide +kernel
theorem d_139_32 : decode prog_8_method_46_code 32 = .ok (.i2l, 1) := by decide +kernel
theorem d_139_33 : decode prog_8_method_46_code 33 = .ok (.lmul, 1) := by decide +kernel
theorem d_139_34 : decode prog_8_method_46_code 34 = .ok (.ladd, 1) := by decide +kernel
theorem d_139_35 : decode prog_8_method_46_code 35 = .ok (.goto 4, 3) := by decide +kernel
theorem d_139_38 : decode prog_8_method_46_code 38 = .ok (.lconst 0, 1) := by decide +kernel
theorem d_139_39 : decode prog_8_method_46_code 39 = .ok (.lreturn, 1) := by decide +kernel
theorem d_140_0 : decode prog_8_method_49_code 0 = .ok (.aload_n 0, 1) := by decide +kernel
theorem d_140_1 : decode prog_8_method_49_code 1 = .ok (.getfield 140, 3) := by decide +kernel
theorem d_140_4 : decode prog_8_method_49_code 4 = .ok (.ifCond .eq 41, 3) := by decide +kernel
theorem d_140_7 : decode prog_8_method_49_code 7 = .ok (.aload_n 0, 1) := by decide +kernel
theorem d_140_8 : decode prog_8_method_49_code 8 = .ok (.iload_n 1, 1) := by decide +kernel
theorem d_140_9 : decode prog_8_method_49_code 9 = .ok (.invokevirtual 167, 3) := by decide +kernel
theorem d_140_12 : decode prog_8_method_49_code 12 = .ok (.ifCond .eq 33, 3) := by decide +kernel
theorem d_140_15 : decode prog_8_method_49_code 15 = .ok (.aload_n 0, 1) := by decide +kernel
theorem d_140_16 : decode prog_8_method_49_code 16 = .ok (.iload_n 1, 1) := by decide +kernel
theorem d_140_17 : decode prog_8_method_49_code 17 = .ok (.iconst 0, 1) := by decide +kernel
theorem d_140_18 : decode prog_8_method_49_code 18 = .ok (.invokevirtual 203, 3) := by decide +kernel
theorem d_140_21 : decode prog_8_method_49_code 21 = .ok (.ifCond .eq 24, 3) := by decide +kernel
theorem d_140_24 : decode prog_8_method_49_code 24 = .ok (.iload_n 2, 1) := by decide +kernel
theorem d_140_25 : decode prog_8_method_49_code 25 = .ok (.ifCond .lt 20, 3) := by decide +kernel
theorem d_140_28 : decode prog_8_method_49_code 28 = .ok (.iload_n 2, 1) := by decide +kernel
theorem d_140_29 : decode prog_8_method_49_code 29 = .ok (.aload_n 0, 1) := by decide +kernel
theorem d_140_30 : decode prog_8_method_49_code 30 = .ok (.iload_n 1, 1) := by decide +kernel
theorem d_140_31 : decode prog_8_method_49_code 31 = .ok (.iconst 0, 1) := by decide +kernel
theorem d_140_32 : decode prog_8_method_49_code 32 = .ok (.invokevirtual 196, 3) := by decide +kernel
theorem d_140_35 : decode prog_8_method_49_code 35 = .ok (.aload_n 0, 1) := by decide +kernel
theorem d_140_36 : decode prog_8_method_49_code 36 = .ok (.iload_n 1, 1) := by decide +kernel
theorem d_140_37 : decode prog_8_method_49_code 37 = .ok (.iconst 1, 1) := by decide +kernel
theorem d_140_38 : decode prog_8_method_49_code 38 = .ok (.invokevirtual 196, 3) := by decide +kernel
theorem d_140_41 : decode prog_8_method_49_code 41 = .ok (.imul, 1) := by decide +kernel
theorem d_140_42 : decode prog_8_method_49_code 42 = .ok (.if_icmp .lt 7, 3) := by decide +kernel
theorem d_140_45 : decode prog_8_method_49_code 45 = .ok (.ldc2_w 194, 3) := by decide +kernel
theorem d_140_48 : decode prog_8_method_49_code 48 = .ok (.lreturn, 1) := by decide +kernel
theorem d_140_49 : decode prog_8_method_49_code 49 = .ok (.aload_n 0, 1) := by decide +kernel
theorem d_140_50 : decode prog_8_method_49_code 50 = .ok (.getfield 52, 3) := by decide +kernel
theorem d_140_53 : decode prog_8_method_49_code 53 = .ok (.aload_n 0, 1) := by decide +kernel
theorem d_140_54 : decode prog_8_method_49_code 54 = .ok (.iload_n 1, 1) := by decide +kernel
theorem d_140_55 : decode prog_8_method_49_code 55 = .ok (.aload_n 0, 1) := by decide +kernel
theorem d_140_56 : decode prog_8_method_49_code 56 = .ok (.iload_n 1, 1) := by decide +kernel
theorem d_140_57 : decode prog_8_method_49_code 57 = .ok (.iconst 0, 1) := by decide +kernel
theorem d_140_58 : decode prog_8_method_49_code 58 = .ok (.iload_n 2, 1) := by decide +kernel
theorem d_140_59 : decode prog_8_method_49_code 59 = .ok (.aload_n 0, 1) := by decide +kernel
theorem d_140_60 : decode prog_8_method_49_code 60 = .ok (.iload_n 1, 1) := by decide +kernel
theorem d_140_61 : decode prog_8_method_49_code 61 = .ok (.iconst 1, 1) := by decide +kernel
theorem d_140_62 : decode prog_8_method_49_code 62 = .ok (.invokevirtual 196, 3) := by decide +kernel
theorem d_140_65 : decode prog_8_method_49_code 65 = .ok (.idiv, 1) := by decide +kernel
theorem d_140_66 : decode prog_8_method_49_code 66 = .ok (.invokevirtual 199, 3) := by decide +kernel
theorem d_140_69 : decode prog_8_method_49_code 69 = .ok (.aload_n 0, 1) := by decide +kernel
theorem d_140_70 : decode prog_8_method_49_code 70 = .ok (.iload_n 1, 1) := by decide +kernel
theorem d_140_71 : decode prog_8_method_49_code 71 = .ok (.iconst 1, 1) := by decide +kernel
theorem d_140_72 : decode prog_8_method_49_code 72 = .ok (.iload_n 2, 1) := by decide +kernel
theorem d_140_73 : decode prog_8_method_49_code 73 = .ok (.aload_n 0, 1) := by decide +kernel
theorem d_140_74 : decode prog_8_method_49_code 74 = .ok (.iload_n 1, 1) := by decide +kernel
theorem d_140_75 : decode prog_8_method_49_code 75 = .ok (.iconst 1, 1) := by decide +kernel
theorem d_140_76 : decode prog_8_method_49_code 76 = .ok (.invokevirtual 196, 3) := by decide +kernel
theorem d_140_79 : decode prog_8_method_49_code 79 = .ok (.irem, 1) := by decide +kernel
theorem d_140_80 : decode prog_8_method_49_code 80 = .ok (.invokevirtual 199, 3) := by decide +kernel
theorem d_140_83 : decode prog_8_method_49_code 83 = .ok (.invokevirtual 190, 3) := by decide +kernel
theorem d_140_86 : decode prog_8_method_49_code 86 = .ok (.iaload, 1) := by decide +kernel
theorem d_140_87 : decode prog_8_method_49_code 87 = .ok (.i2l, 1) := by decide +kernel
theorem d_140_88 : decode prog_8_method_49_code 88 = .ok (.lreturn, 1) := by decide +kernel
theorem d_141_0 : decode prog_8_method_50_code 0 = .ok (.aload_n 0, 1) := by decide +kernel
theorem d_141_1 : decode prog_8_method_50_code 1 = .ok (.getfield 49, 3) := by decide +kernel
theorem d_141_4 : decode prog_8_method_50_code 4 = .ok (.aload_n 0, 1) := by decide +kernel
theorem d_141_5 : decode prog_8_method_50_code 5 = .ok (.getfield 137, 3) := by decide +kernel
theorem d_141_8 : decode prog_8_method_50_code 8 = .ok (.iaload, 1) := by decide +kernel
theorem d_141_9 : decode prog_8_method_50_code 9 = .ok (.ireturn, 1) := by decide +kernel
theorem d_142_0 : decode prog_8_method_51_code 0 = .ok (.aload_n 0, 1) := by decide +kernel
theorem d_142_1 : decode prog_8_method_51_code 1 = .ok (.getfield 140, 3) := by decide +kernel
theorem d_142_4 : decode prog_8_method_51_code 4 = .ok (.ifCond .eq 25, 3) := by decide +kernel
theorem d_142_7 : decode prog_8_method_51_code 7 = .ok (.aload_n 0, 1) := by decide +kernel
theorem d_142_8 : decode prog_8_method_51_code 8 = .ok (.aload_n 0, 1) := by decide +kernel
theorem d_142_9 : decode prog_8_method_51_code 9 = .ok (.getfield 137, 3) := by decide +kernel
theorem d_142_12 : decode prog_8_method_51_code 12 = .ok (.aload_n 0, 1) := by decide +kernel
theorem d_142_13 : decode prog_8_method_51_code 13 = .ok (.getfield 49, 3) := by decide +kernel
theorem d_142_16 : decode prog_8_method_51_code 16 = .ok (.aload_n 0, 1) := by decide +kernel
theorem d_142_17 : decode prog_8_method_51_code 17 = .ok (.getfield 137, 3) := by decide +kernel
theorem d_142_20 : decode prog_8_method_51_code 20 = .ok (.iaload, 1) := by decide +kernel
theorem d_142_21 : decode prog_8_method_51_code 21 = .ok (.i2l, 1) := by decide +kernel
theorem d_142_22 : decode prog_8_method_51_code 22 = .ok (.invokevirtual 176, 3) := by decide +kernel
theorem d_142_25 : decode prog_8_method_51_code 25 = .ok (.l2i, 1) := by decide +kernel
theorem d_142_26 : decode prog_8_method_51_code 26 = .ok (.goto 4, 3) := by decide +kernel
theorem d_142_29 : decode prog_8_method_51_code 29 = .ok (.iconst (-1), 1) := by decide +kernel
theorem d_142_30 : decode prog_8_method_51_code 30 = .ok (.ireturn, 1) := by decide +kernel
theorem d_143_0 : decode prog_8_method_52_code 0 = .ok (.aload_n 0, 1) := by decide +kernel
theorem d_143_1 : decode prog_8_method_52_code 1 = .ok (.getfield 140, 3) := by decide +kernel
theorem d_143_4 : decode prog_8_method_52_code 4 = .ok (.ifCond .ne 7, 3) := by decide +kernel
theorem d_143_7 : decode prog_8_method_52_code 7 = .ok (.iconst (-1), 1) := by decide +kernel
theorem d_143_8 : decode prog_8_method_52_code 8 = .ok (.goto 25, 3) := by decide +kernel
theorem d_143_11 : decode prog_8_method_52_code 11 = .ok (.aload_n 0, 1) := by decide +kernel
theorem d_143_12 : decode prog_8_method_52_code 12 = .ok (.iload_n 1, 1) := by decide +kernel
theorem d_143_13 : decode prog_8_method_52_code 13 = .ok (.invokevirtual 167, 3) := by decide +kernel
theorem d_143_16 : decode prog_8_method_52_code 16 = .ok (.ifCond .eq 15, 3) := by decide +kernel
theorem d_143_19 : decode prog_8_method_52_code 19 = .ok (.aload_n 0, 1) := by decide +kernel
theorem d_143_20 : decode prog_8_method_52_code 20 = .ok (.aload_n 0, 1) := by decide +kernel
theorem d_143_21 : decode prog_8_method_52_code 21 = .ok (.getfield 137, 3) := by decide +kernel
theorem d_143_24 : decode prog_8_method_52_code 24 = .ok (.iload_n 1, 1) := by decide +kernel
theorem d_143_25 : decode prog_8_method_52_code 25 = .ok (.invokevirtual 99, 3) := by decide +kernel
theorem d_143_28 : decode prog_8_method_52_code 28 = .ok (.goto 5, 3) := by decide +kernel
theorem d_143_31 : decode prog_8_method_52_code 31 = .ok (.bipush (-3), 2) := by decide +kernel
theorem d_143_33 : decode prog_8_method_52_code 33 = .ok (.ireturn, 1) := by decide +kernel
theorem d_144_0 : decode prog_8_method_53_code 0 = .ok (.aload_n 0, 1) := by decide +kernel
theorem d_144_1 : decode prog_8_method_53_code 1 = .ok (.getfield 140, 3) := by decide +kernel
theorem d_144_4 : decode prog_8_method_53_code 4 = .ok (.ifCond .eq 7, 3) := by decide +kernel
theorem d_144_7 : decode prog_8_method_53_code 7 = .ok (.iload_n 1, 1) := by decide +kernel
theorem d_144_8 : decode prog_8_method_53_code 8 = .ok (.ifCond .ge 5, 3) := by decide +kernel
theorem d_144_11 : decode prog_8_method_53_code 11 = .ok (.lconst 0, 1) := by decide +kernel
theorem d_144_12 : decode prog_8_method_53_code 12 = .ok (.lreturn, 1) := by decide +kernel
theorem d_144_13 : decode prog_8_method_53_code 13 = .ok (.aload_n 0, 1) := by decide +kernel
theorem d_144_14 : decode prog_8_method_53_code 14 = .ok (.aload_n 0, 1) := by decide +kernel
theorem d_144_15 : decode prog_8_method_53_code 15 = .ok (.getfield 137, 3) := by decide +kernel
theorem d_144_18 : decode prog_8_method_53_code 18 = .ok (.invokevirtual 207, 3) := by decide +kernel
theorem d_144_21 : decode prog_8_method_53_code 21 = .ok (.lconst 0, 1) := by decide +kernel
theorem d_144_22 : decode prog_8_method_53_code 22 = .ok (.lstore_n 2, 1) := by decide +kernel
theorem d_144_23 : decode prog_8_method_53_code 23 = .ok (.iconst 0, 1) := by decide +kernel
theorem d_144_24 : decode prog_8_method_53_code 24 = .ok (.istore 4, 2) := by decide +kernel
theorem d_144_26 : decode prog_8_method_53_code 26 = .ok (.iload 4, 2) := by decide +kernel
theorem d_144_28 : decode prog_8_method_53_code 28 = .ok (.bipush 8, 2) := by decide +kernel
theorem d_144_30 : decode prog_8_method_53_code 30 = .ok (.if_icmp .ge 52, 3) := by decide +kernel
theorem d_144_33 : decode prog_8_method_53_code 33 = .ok (.ldc2_w 210, 3) := by decide +kernel
theorem d_144_36 : decode prog_8_method_53_code 36 = .ok (.iload_n 1, 1) := by decide +kernel
theorem d_144_37 : decode prog_8_method_53_code 37 = .ok (.i2l, 1) := by decide +kernel
theorem d_144_38 : decode prog_8_method_53_code 38 = .ok (.lmul, 1) := by decide +kernel
theorem d_144_39 : decode prog_8_method_53_code 39 = .ok (.iload 4, 2) := by decide +kernel
theorem d_144_41 : decode prog_8_method_53_code 41 = .ok (.i2l, 1) := by decide +kernel
theorem d_144_42 : decode prog_8_method_53_code 42 = .ok (.ladd, 1) := by decide +kernel
theorem d_144_43 : decode prog_8_method_53_code 43 = .ok (.lstore 5, 2) := by decide +kernel
theorem d_144_45 : decode prog_8_method_53_code 45 = .ok (.lload_n 2, 1) := by decide +kernel
theorem d_144_46 : decode prog_8_method_53_code 46 = .ok (.ldc2_w 212, 3) := by decide +kernel
theorem d_144_49 : decode prog_8_method_53_code 49 = .ok (.lmul, 1) := by decide +kernel
theorem d_144_50 : decode prog_8_method_53_code 50 = .ok (.lload 5, 2) := by decide +kernel
theorem d_144_52 : decode prog_8_method_53_code 52 = .ok (.aload_n 0, 1) := by decide +kernel
theorem d_144_53 : decode prog_8_method_53_code 53 = .ok (.getfield 105, 3) := by decide +kernel
theorem d_144_56 : decode prog_8_method_53_code 56 = .ok (.i2l, 1) := by decide +kernel
theorem d_144_57 : decode prog_8_method_53_code 57 = .ok (.lcmp, 1) := by decide +kernel
theorem d_144_58 : decode prog_8_method_53_code 58 = .ok (.ifCond .ge 14, 3) := by decide +kernel
theorem d_144_61 : decode prog_8_method_53_code 61 = .ok (.aload_n 0, 1) := by decide +kernel
theorem d_144_62 : decode prog_8_method_53_code 62 = .ok (.getfield 64, 3) := by decide +kernel
theorem d_144_65 : decode prog_8_method_53_code 65 = .ok (.lload 5, 2) := by decide +kernel
theorem d_144_67 : decode prog_8_method_53_code 67 = .ok (.l2i, 1) := by decide +kernel
theorem d_144_68 : decode prog_8_method_53_code 68 = .ok (.iaload, 1) := by decide +kernel
theorem d_144_69 : decode prog_8_method_53_code 69 = .ok (.goto 4, 3) := by decide +kernel
theorem d_144_72 : decode prog_8_method_53_code 72 = .ok (.iconst 0, 1) := by decide +kernel
theorem d_144_73 : decode prog_8_method_53_code 73 = .ok (.i2l, 1) := by decide +kernel
theorem d_144_74 : decode prog_8_method_53_code 74 = .ok (.ladd, 1) := by decide +kernel
theorem d_144_75 : decode prog_8_method_53_code 75 = .ok (.lstore_n 2, 1) := by decide +kernel
theorem d_144_76 : decode prog_8_method_53_code 76 = .ok (.iinc 4 1, 3) := by decide +kernel
theorem d_144_79 : decode prog_8_method_53_code 79 = .ok (.goto (-53), 3) := by decide +kernel
theorem d_144_82 : decode prog_8_method_53_code 82 = .ok (.lload_n 2, 1) := by decide +kernel
theorem d_144_83 : decode prog_8_method_53_code 83 = .ok (.lreturn, 1) := by decide +kernel
theorem d_145_0 : decode prog_8_method_24_code 0 = .ok (.aload_n 0, 1) := by decide +kernel
theorem d_145_1 : decode prog_8_method_24_code 1 = .ok (.iconst 0, 1) := by decide +kernel
theorem d_145_2 : decode prog_8_method_24_code 2 = .ok (.putfield 105, 3) := by decide +kernel
theorem d_145_5 : decode prog_8_method_24_code 5 = .ok (.aload_n 0, 1) := by decide +kernel
theorem d_145_6 : decode prog_8_method_24_code 6 = .ok (.ldc 129, 2) := by decide +kernel
theorem d_145_8 : decode prog_8_method_24_code 8 = .ok (.iconst 4, 1) := by decide +kernel
theorem d_145_9 : decode prog_8_method_24_code 9 = .ok (.invokevirtual 113, 3) := by decide +kernel
theorem d_145_12 : decode prog_8_method_24_code 12 = .ok (.aload_n 0, 1) := by decide +kernel
theorem d_145_13 : decode prog_8_method_24_code 13 = .ok (.aload_n 0, 1) := by decide +kernel
theorem d_145_14 : decode prog_8_method_24_code 14 = .ok (.getfield 49, 3) := by decide +kernel
theorem d_145_17 : decode prog_8_method_24_code 17 = .ok (.iload_n 1, 1) := by decide +kernel
theorem d_145_18 : decode prog_8_method_24_code 18 = .ok (.iaload, 1) := by decide +kernel
theorem d_145_19 : decode prog_8_method_24_code 19 = .ok (.iconst 4, 1) := by decide +kernel
theorem d_145_20 : decode prog_8_method_24_code 20 = .ok (.invokevirtual 113, 3) := by decide +kernel
theorem d_145_23 : decode prog_8_method_24_code 23 = .ok (.aload_n 0, 1) := by decide +kernel
theorem d_145_24 : decode prog_8_method_24_code 24 = .ok (.bipush 10, 2) := by decide +kernel
theorem d_145_26 : decode prog_8_method_24_code 26 = .ok (.aload_n 0, 1) := by decide +kernel
theorem d_145_27 : decode prog_8_method_24_code 27 = .ok (.getfield 7, 3) := by decide +kernel
theorem d_145_30 : decode prog_8_method_24_code 30 = .ok (.iload_n 1, 1) := by decide +kernel
theorem d_145_31 : decode prog_8_method_24_code 31 = .ok (.iaload, 1) := by decide +kernel
theorem d_145_32 : decode prog_8_method_24_code 32 = .ok (.invokevirtual 117, 3) := by decide +kernel
theorem d_145_35 : decode prog_8_method_24_code 35 = .ok (.iconst 4, 1) := by decide +kernel
theorem d_145_36 : decode prog_8_method_24_code 36 = .ok (.iload_n 1, 1) := by decide +kernel
theorem d_145_37 : decode prog_8_method_24_code 37 = .ok (.imul, 1) := by decide +kernel
theorem d_145_38 : decode prog_8_method_24_code 38 = .ok (.istore_n 2, 1) := by decide +kernel
theorem d_145_39 : decode prog_8_method_24_code 39 = .ok (.iload_n 2, 1) := by decide +kernel
theorem d_145_40 : decode prog_8_method_24_code 40 = .ok (.iconst 4, 1) := by decide +kernel
theorem d_145_41 : decode prog_8_method_24_code 41 = .ok (.iload_n 1, 1) := by decide +kernel
theorem d_145_42 : decode prog_8_method_24_code 42 = .ok (.imul, 1) := by decide +kernel
theorem d_145_43 : decode prog_8_method_24_code 43 = .ok (.aload_n 0, 1) := by decide +kernel
theorem d_145_44 : decode prog_8_method_24_code 44 = .ok (.getfield 7, 3) := by decide +kernel
theorem d_145_47 : decode prog_8_method_24_code 47 = .ok (.iload_n 1, 1) := by decide +kernel
theorem d_145_48 : decode prog_8_method_24_code 48 = .ok (.iaload, 1) := by decide +kernel
theorem d_145_49 : decode prog_8_method_24_code 49 = .ok (.iadd, 1) := by decide +kernel
theorem d_145_50 : decode prog_8_method_24_code 50 = .ok (.if_icmp .ge 30, 3) := by decide +kernel
theorem d_145_53 : decode prog_8_method_24_code 53 = .ok (.aload_n 0, 1) := by decide +kernel
theorem d_145_54 : decode prog_8_method_24_code 54 = .ok (.aload_n 0, 1) := by decide +kernel
theorem d_145_55 : decode prog_8_method_24_code 55 = .ok (.getfield 13, 3) := by decide +kernel
theorem d_145_58 : decode prog_8_method_24_code 58 = .ok (.iload_n 2, 1) := by decide +kernel
theorem d_145_59 : decode prog_8_method_24_code 59 = .ok (.iaload, 1) := by decide +kernel
theorem d_145_60 : decode prog_8_method_24_code 60 = .ok (.invokevirtual 120, 3) := by decide +kernel
theorem d_145_63 : decode prog_8_method_24_code 63 = .ok (.aload_n 0, 1) := by decide +kernel
theorem d_145_64 : decode prog_8_method_24_code 64 = .ok (.aload_n 0, 1) := by decide +kernel
theorem d_145_65 : decode prog_8_method_24_code 65 = .ok (.getfield 16, 3) := by decide +kernel
theorem d_145_68 : decode prog_8_method_24_code 68 = .ok (.iload_n 2, 1) := by decide +kernel
theorem d_145_69 : decode prog_8_method_24_code 69 = .ok (.iaload, 1) := by decide +kernel
theorem d_145_70 : decode prog_8_method_24_code 70 = .ok (.iconst 4, 1) := by decide +kernel
theorem d_145_71 : decode prog_8_method_24_code 71 = .ok (.invokevirtual 113, 3) := by decide +kernel
theorem d_145_74 : decode prog_8_method_24_code 74 = .ok (.iinc 2 1, 3) := by decide +kernel
theorem d_145_77 : decode prog_8_method_24_code 77 = .ok (.goto (-38), 3) := by decide +kernel
theorem d_145_80 : decode prog_8_method_24_code 80 = .ok (.aload_n 0, 1) := by decide +kernel
theorem d_145_81 : decode prog_8_method_24_code 81 = .ok (.iload_n 1, 1) := by decide +kernel
theorem d_145_82 : decode prog_8_method_24_code 82 = .ok (.iconst 0, 1) := by decide +kernel
theorem d_145_83 : decode prog_8_method_24_code 83 = .ok (.invokevirtual 126, 3) := by decide +kernel
theorem d_145_86 : decode prog_8_method_24_code 86 = .ok (.aload_n 0, 1) := by decide +kernel
theorem d_145_87 : decode prog_8_method_24_code 87 = .ok (.bipush 11, 2) := by decide +kernel
theorem d_145_89 : decode prog_8_method_24_code 89 = .ok (.aload_n 0, 1) := by decide +kernel
theorem d_145_90 : decode prog_8_method_24_code 90 = .ok (.getfield 19, 3) := by decide +kernel
theorem d_145_93 : decode prog_8_method_24_code 93 = .ok (.iload_n 1, 1) := by decide +kernel
theorem d_145_94 : decode prog_8_method_24_code 94 = .ok (.iaload, 1) := by decide +kernel
theorem d_145_95 : decode prog_8_method_24_code 95 = .ok (.invokevirtual 117, 3) := by decide +kernel
theorem d_145_98 : decode prog_8_method_24_code 98 = .ok (.iconst 0, 1) := by decide +kernel
theorem d_145_99 : decode prog_8_method_24_code 99 = .ok (.istore_n 2, 1) := by decide +kernel
theorem d_145_100 : decode prog_8_method_24_code 100 = .ok (.iload_n 2, 1) := by decide +kernel
theorem d_145_101 : decode prog_8_method_24_code 101 = .ok (.aload_n 0, 1) := by decide +kernel
theorem d_145_102 : decode prog_8_method_24_code 102 = .ok (.getfield 19, 3) := by decide +kernel
theorem d_145_105 : decode prog_8_method_24_code 105 = .ok (.iload_n 1, 1) := by decide +kernel
theorem d_145_106 : decode prog_8_method_24_code 106 = .ok (.iaload, 1) := by decide +kernel
theorem d_145_107 : decode prog_8_method_24_code 107 = .ok (.if_icmp .ge 15, 3) := by decide +kernel
theorem d_145_110 : decode prog_8_method_24_code 110 = .ok (.aload_n 0, 1) := by decide +kernel
theorem d_145_111 : decode prog_8_method_24_code 111 = .ok (.iload_n 1, 1) := by decide +kernel
theorem d_145_112 : decode prog_8_method_24_code 112 = .ok (.iload_n 2, 1) := by decide +kernel
theorem d_145_113 : decode prog_8_method_24_code 113 = .ok (.invokevirtual 130, 3) := by decide +kernel
theorem d_145_116 : decode prog_8_method_24_code 116 = .ok (.iinc 2 1, 3) := by decide +kernel
theorem d_145_119 : decode prog_8_method_24_code 119 = .ok (.goto (-19), 3) := by decide +kernel
theorem d_145_122 : decode prog_8_method_24_code 122 = .ok (.iconst 0, 1) := by decide +kernel
theorem d_145_123 : decode prog_8_method_24_code 123 = .ok (.istore_n 2, 1) := by decide +kernel
theorem d_145_124 : decode prog_8_method_24_code 124 = .ok (.iload_n 2, 1) := by decide +kernel
theorem d_145_125 : decode prog_8_method_24_code 125 = .ok (.aload_n 0, 1) := by decide +kernel
theorem d_145_126 : decode prog_8_method_24_code 126 = .ok (.getfield 19, 3) := by decide +kernel
theorem d_145_129 : decode prog_8_method_24_code 129 = .ok (.iload_n 1, 1) := by decide +kernel
theorem d_145_130 : decode prog_8_method_24_code 130 = .ok (.iaload, 1) := by decide +kernel
theorem d_145_131 : decode prog_8_method_24_code 131 = .ok (.if_icmp .ge 26, 3) := by decide +kernel
theorem d_145_134 : decode prog_8_method_24_code 134 = .ok (.aload_n 0, 1) := by decide +kernel
theorem d_145_135 : decode prog_8_method_24_code 135 = .ok (.iload_n 1, 1) := by decide +kernel
theorem d_145_136 : decode prog_8_method_24_code 136 = .ok (.iload_n 2, 1) := by decide +kernel
theorem d_145_137 : decode prog_8_method_24_code 137 = .ok (.invokevirtual 83, 3) := by decide +kernel
theorem d_145_140 : decode prog_8_method_24_code 140 = .ok (.ifCond .ne 11, 3) := by decide +kernel
theorem d_145_143 : decode prog_8_method_24_code 143 = .ok (.aload_n 0, 1) := by decide +kernel
theorem d_145_144 : decode prog_8_method_24_code 144 = .ok (.iload_n 1, 1) := by decide +kernel
theorem d_145_145 : decode prog_8_method_24_code 145 = .ok (.iload_n 2, 1) := by decide +kernel
theorem d_145_146 : decode prog_8_method_24_code 146 = .ok (.iconst 0, 1) := by decide +kernel
theorem d_145_147 : decode prog_8_method_24_code 147 = .ok (.iconst 1, 1) := by decide +kernel
theorem d_145_148 : decode prog_8_method_24_code 148 = .ok (.invokevirtual 133, 3) := by decide +kernel
theorem d_145_151 : decode prog_8_method_24_code 151 = .ok (.iinc 2 1, 3) := by decide +kernel
theorem d_145_154 : decode prog_8_method_24_code 154 = .ok (.goto (-30), 3) := by decide +kernel
theorem d_145_157 : decode prog_8_method_24_code 157 = .ok (.aload_n 0, 1) := by decide +kernel
theorem d_145_158 : decode prog_8_method_24_code 158 = .ok (.iload_n 1, 1) := by decide +kernel
theorem d_145_159 : decode prog_8_method_24_code 159 = .ok (.invokevirtual 96, 3) := by decide +kernel
theorem d_145_162 : decode prog_8_method_24_code 162 = .ok (.iconst 1, 1) := by decide +kernel
theorem d_145_163 : decode prog_8_method_24_code 163 = .ok (.if_icmp .le 7, 3) := by decide +kernel
theorem d_145_166 : decode prog_8_method_24_code 166 = .ok (.iconst 1, 1) := by decide +kernel
theorem d_145_167 : decode prog_8_method_24_code 167 = .ok (.goto 4, 3) := by decide +kernel
theorem d_145_170 : decode prog_8_method_24_code 170 = .ok (.iconst 0, 1) := by decide +kernel
theorem d_145_171 : decode prog_8_method_24_code 171 = .ok (.istore_n 2, 1) := by decide +kernel
theorem d_145_172 : decode prog_8_method_24_code 172 = .ok (.iconst 0, 1) := by decide +kernel
theorem d_145_173 : decode prog_8_method_24_code 173 = .ok (.istore_n 3, 1) := by decide +kernel
theorem d_145_174 : decode prog_8_method_24_code 174 = .ok (.iload_n 3, 1) := by decide +kernel
theorem d_145_175 : decode prog_8_method_24_code 175 = .ok (.aload_n 0, 1) := by decide +kernel
theorem d_145_176 : decode prog_8_method_24_code 176 = .ok (.getfield 49, 3) := by decide +kernel
theorem d_145_179 : decode prog_8_method_24_code 179 = .ok (.iload_n 1, 1) := by decide +kernel
theorem d_145_180 : decode prog_8_method_24_code 180 = .ok (.iaload, 1) := by decide +kernel
theorem d_145_181 : decode prog_8_method_24_code 181 = .ok (.if_icmp .ge 48, 3) := by decide +kernel
theorem d_145_184 : decode prog_8_method_24_code 184 = .ok (.iconst 0, 1) := by decide +kernel
theorem d_145_185 : decode prog_8_method_24_code 185 = .ok (.istore 4, 2) := by decide +kernel
theorem d_145_187 : decode prog_8_method_24_code 187 = .ok (.iload 4, 2) := by decide +kernel
theorem d_145_189 : decode prog_8_method_24_code 189 = .ok (.aload_n 0, 1) := by decide +kernel
theorem d_145_190 : decode prog_8_method_24_code 190 = .ok (.getfield 19, 3) := by decide +kernel
theorem d_145_193 : decode prog_8_method_24_code 193 = .ok (.iload_n 1, 1) := by decide +kernel
theorem d_145_194 : decode prog_8_method_24_code 194 = .ok (.iaload, 1) := by decide +kernel
theorem d_145_195 : decode prog_8_method_24_code 195 = .ok (.if_icmp .ge 28, 3) := by decide +kernel
theorem d_145_198 : decode prog_8_method_24_code 198 = .ok (.aload_n 0, 1) := by decide +kernel
theorem d_145_199 : decode prog_8_method_24_code 199 = .ok (.iload_n 1, 1) := by decide +kernel
theorem d_145_200 : decode prog_8_method_24_code 200 = .ok (.iload 4, 2) := by decide +kernel
theorem d_145_202 : decode prog_8_method_24_code 202 = .ok (.invokevirtual 83, 3) := by decide +kernel
theorem d_145_205 : decode prog_8_method_24_code 205 = .ok (.ifCond .eq 12, 3) := by decide +kernel
theorem d_145_208 : decode prog_8_method_24_code 208 = .ok (.aload_n 0, 1) := by decide +kernel
theorem d_145_209 : decode prog_8_method_24_code 209 = .ok (.iload_n 1, 1) := by decide +kernel
theorem d_145_210 : decode prog_8_method_24_code 210 = .ok (.iload 4, 2) := by decide +kernel
theorem d_145_212 : decode prog_8_method_24_code 212 = .ok (.iload_n 3, 1) := by decide +kernel
theorem d_145_213 : decode prog_8_method_24_code 213 = .ok (.iload_n 2, 1) := by decide +kernel
theorem d_145_214 : decode prog_8_method_24_code 214 = .ok (.invokevirtual 133, 3) := by decide +kernel
theorem d_145_217 : decode prog_8_method_24_code 217 = .ok (.iinc 4 1, 3) := by decide +kernel
theorem d_145_220 : decode prog_8_method_24_code 220 = .ok (.goto (-33), 3) := by decide +kernel
theorem d_145_223 : decode prog_8_method_24_code 223 = .ok (.iinc 3 1, 3) := by decide +kernel
theorem d_145_226 : decode prog_8_method_24_code 226 = .ok (.goto (-52), 3) := by decide +kernel
theorem d_145_229 : decode prog_8_method_24_code 229 = .ok (.return_, 1) := by decide +kernel
theorem d_146_0 : decode prog_8_method_17_code 0 = .ok (.iload_n 2, 1) := by decide +kernel
theorem d_146_1 : decode prog_8_method_17_code 1 = .ok (.iconst 1, 1) := by decide +kernel
theorem d_146_2 : decode prog_8_method_17_code 2 = .ok (.isub, 1) := by decide +kernel
theorem d_146_3 : decode prog_8_method_17_code 3 = .ok (.istore_n 3, 1) := by decide +kernel
theorem d_146_4 : decode prog_8_method_17_code 4 = .ok (.iload_n 3, 1) := by decide +kernel
theorem d_146_5 : decode prog_8_method_17_code 5 = .ok (.ifCond .lt 23, 3) := by decide +kernel
theorem d_146_8 : decode prog_8_method_17_code 8 = .ok (.aload_n 0, 1) := by decide +kernel
theorem d_146_9 : decode prog_8_method_17_code 9 = .ok (.iload_n 1, 1) := by decide +kernel
theorem d_146_10 : decode prog_8_method_17_code 10 = .ok (.bipush 8, 2) := by decide +kernel
theorem d_146_12 : decode prog_8_method_17_code 12 = .ok (.iload_n 3, 1) := by decide +kernel
theorem d_146_13 : decode prog_8_method_17_code 13 = .ok (.imul, 1) := by decide +kernel
theorem d_146_14 : decode prog_8_method_17_code 14 = .ok (.ishr, 1) := by decide +kernel
theorem d_146_15 : decode prog_8_method_17_code 15 = .ok (.sipush 255, 3) := by decide +kernel
theorem d_146_18 : decode prog_8_method_17_code 18 = .ok (.iand, 1) := by decide +kernel
theorem d_146_19 : decode prog_8_method_17_code 19 = .ok (.invokevirtual 109, 3) := by decide +kernel
theorem d_146_22 : decode prog_8_method_17_code 22 = .ok (.iinc 3 (-1), 3) := by decide +kernel
theorem d_146_25 : decode prog_8_method_17_code 25 = .ok (.goto (-21), 3) := by decide +kernel
theorem d_146_28 : decode prog_8_method_17_code 28 = .ok (.return_, 1) := by decide +kernel
theorem d_147_0 : decode prog_8_method_16_code 0 = .ok (.aload_n 0, 1) := by decide +kernel
theorem d_147_1 : decode prog_8_method_16_code 1 = .ok (.getfield 64, 3) := by decide +kernel
theorem d_147_4 : decode prog_8_method_16_code 4 = .ok (.aload_n 0, 1) := by decide +kernel
theorem d_147_5 : decode prog_8_method_16_code 5 = .ok (.getfield 105, 3) := by decide +kernel
theorem d_147_8 : decode prog_8_method_16_code 8 = .ok (.iload_n 1, 1) := by decide +kernel
theorem d_147_9 : decode prog_8_method_16_code 9 = .ok (.iastore, 1) := by decide +kernel
theorem d_147_10 : decode prog_8_method_16_code 10 = .ok (.aload_n 0, 1) := by decide +kernel
theorem d_147_11 : decode prog_8_method_16_code 11 = .ok (.dup, 1) := by decide +kernel
theorem d_147_12 : decode prog_8_method_16_code 12 = .ok (.getfield 105, 3) := by decide +kernel
theorem d_147_15 : decode prog_8_method_16_code 15 = .ok (.iconst 1, 1) := by decide +kernel
theorem d_147_16 : decode prog_8_method_16_code 16 = .ok (.iadd, 1) := by decide +kernel
theorem d_147_17 : decode prog_8_method_16_code 17 = .ok (.putfield 105, 3) := by decide +kernel
theorem d_147_20 : decode prog_8_method_16_code 20 = .ok (.return_, 1) := by decide +kernel
theorem d_148_0 : decode prog_8_method_20_code 0 = .ok (.aload_n 0, 1) := by decide +kernel
theorem d_148_1 : decode prog_8_method_20_code 1 = .ok (.iload_n 2, 1) := by decide +kernel
theorem d_148_2 : decode prog_8_method_20_code 2 = .ok (.ifCond .ne 7, 3) := by decide +kernel
theorem d_148_5 : decode prog_8_method_20_code 5 = .ok (.iconst 0, 1) := by decide +kernel
theorem d_148_6 : decode prog_8_method_20_code 6 = .ok (.goto 4, 3) := by decide +kernel
theorem d_148_9 : decode prog_8_method_20_code 9 = .ok (.iload_n 1, 1) := by decide +kernel
theorem d_148_10 : decode prog_8_method_20_code 10 = .ok (.iconst 4, 1) := by decide +kernel
theorem d_148_11 : decode prog_8_method_20_code 11 = .ok (.invokevirtual 113, 3) := by decide +kernel
theorem d_148_14 : decode prog_8_method_20_code 14 = .ok (.aload_n 0, 1) := by decide +kernel
theorem d_148_15 : decode prog_8_method_20_code 15 = .ok (.iload_n 2, 1) := by decide +kernel
theorem d_148_16 : decode prog_8_method_20_code 16 = .ok (.iconst 4, 1) := by decide +kernel
theorem d_148_17 : decode prog_8_method_20_code 17 = .ok (.invokevirtual 113, 3) := by decide +kernel
theorem d_148_20 : decode prog_8_method_20_code 20 = .ok (.return_, 1) := by decide +kernel
theorem d_149_0 : decode prog_8_method_18_code 0 = .ok (.aload_n 0, 1) := by decide +kernel
theorem d_149_1 : decode prog_8_method_18_code 1 = .ok (.iconst 1, 1) := by decide +kernel
theorem d_149_2 : decode prog_8_method_18_code 2 = .ok (.iconst 4, 1) := by decide +kernel
theorem d_149_3 : decode prog_8_method_18_code 3 = .ok (.invokevirtual 113, 3) := by decide +kernel
theorem d_149_6 : decode prog_8_method_18_code 6 = .ok (.aload_n 0, 1) := by decide +kernel
theorem d_149_7 : decode prog_8_method_18_code 7 = .ok (.iload_n 1, 1) := by decide +kernel
theorem d_149_8 : decode prog_8_method_18_code 8 = .ok (.invokevirtual 109, 3) := by decide +kernel
theorem d_149_11 : decode prog_8_method_18_code 11 = .ok (.aload_n 0, 1) := by decide +kernel
theorem d_149_12 : decode prog_8_method_18_code 12 = .ok (.iconst 0, 1) := by decide +kernel
theorem d_149_13 : decode prog_8_method_18_code 13 = .ok (.iconst 3, 1) := by decide +kernel
theorem d_149_14 : decode prog_8_method_18_code 14 = .ok (.invokevirtual 113, 3) := by decide +kernel
theorem d_149_17 : decode prog_8_method_18_code 17 = .ok (.return_, 1) := by decide +kernel
theorem d_150_0 : decode prog_8_method_21_code 0 = .ok (.aload_n 0, 1) := by decide +kernel
theorem d_150_1 : decode prog_8_method_21_code 1 = .ok (.bipush 12, 2) := by decide +kernel
theorem d_150_3 : decode prog_8_method_21_code 3 = .ok (.aload_n 0, 1) := by decide +kernel
theorem d_150_4 : decode prog_8_method_21_code 4 = .ok (.getfield 34, 3) := by decide +kernel
theorem d_150_7 : decode prog_8_method_21_code 7 = .ok (.bipush 6, 2) := by decide +kernel
theorem d_150_9 : decode prog_8_method_21_code 9 = .ok (.iload_n 1, 1) := by decide +kernel
theorem d_150_10 : decode prog_8_method_21_code 10 = .ok (.imul, 1) := by decide +kernel
theorem d_150_11 : decode prog_8_method_21_code 11 = .ok (.iload_n 2, 1) := by decide +kernel
theorem d_150_12 : decode prog_8_method_21_code 12 = .ok (.iadd, 1) := by decide +kernel
theorem d_150_13 : decode prog_8_method_21_code 13 = .ok (.iaload, 1) := by decide +kernel
theorem d_150_14 : decode prog_8_method_21_code 14 = .ok (.invokevirtual 117, 3) := by decide +kernel
theorem d_150_17 : decode prog_8_method_21_code 17 = .ok (.bipush 18, 2) := by decide +kernel
theorem d_150_19 : decode prog_8_method_21_code 19 = .ok (.iload_n 1, 1) := by decide +kernel
theorem d_150_20 : decode prog_8_method_21_code 20 = .ok (.imul, 1) := by decide +kernel
theorem d_150_21 : decode prog_8_method_21_code 21 = .ok (.iconst 3, 1) := by decide +kernel
theorem d_150_22 : decode prog_8_method_21_code 22 = .ok (.iload_n 2, 1) := by decide +kernel
theorem d_150_23 : decode prog_8_method_21_code 23 = .ok (.imul, 1) := by decide +kernel
theorem d_150_24 : decode prog_8_method_21_code 24 = .ok (.iadd, 1) := by decide +kernel
theorem d_150_25 : decode prog_8_method_21_code 25 = .ok (.istore_n 3, 1) := by decide +kernel
theorem d_150_26 : decode prog_8_method_21_code 26 = .ok (.iload_n 3, 1) := by decide +kernel
theorem d_150_27 : decode prog_8_method_21_code 27 = .ok (.bipush 18, 2) := by decide +kernel
theorem d_150_29 : decode prog_8_method_21_code 29 = .ok (.iload_n 1, 1) := by decide +kernel
theorem d_150_30 : decode prog_8_method_21_code 30 = .ok (.imul, 1) := by decide +kernel
theorem d_150_31 : decode prog_8_method_21_code 31 = .ok (.iconst 3, 1) := by decide +kernel
theorem d_150_32 : decode prog_8_method_21_code 32 = .ok (.iload_n 2, 1) := by decide +kernel
theorem d_150_33 : decode prog_8_method_21_code 33 = .ok (.imul, 1) := by decide +kernel
theorem d_150_34 : decode prog_8_method_21_code 34 = .ok (.iadd, 1) := by decide +kernel
theorem d_150_35 : decode prog_8_method_21_code 35 = .ok (.aload_n 0, 1) := by decide +kernel
theorem d_150_36 : decode prog_8_method_21_code 36 = .ok (.getfield 34, 3) := by decide +kernel
theorem d_150_39 : decode prog_8_method_21_code 39 = .ok (.bipush 6, 2) := by decide +kernel
theorem d_150_41 : decode prog_8_method_21_code 41 = .ok (.iload_n 1, 1) := by decide +kernel
theorem d_150_42 : decode prog_8_method_21_code 42 = .ok (.imul, 1) := by decide +kernel
theorem d_150_43 : decode prog_8_method_21_code 43 = .ok (.iload_n 2, 1) := by decide +kernel
theorem d_150_44 : decode prog_8_method_21_code 44 = .ok (.iadd, 1) := by decide +kernel
theorem d_150_45 : decode prog_8_method_21_code 45 = .ok (.iaload, 1) := by decide +kernel
theorem d_150_46 : decode prog_8_method_21_code 46 = .ok (.iadd, 1) := by decide +kernel
theorem d_150_47 : decode prog_8_method_21_code 47 = .ok (.if_icmp .ge 86, 3) := by decide +kernel
theorem d_150_50 : decode prog_8_method_21_code 50 = .ok (.aload_n 0, 1) := by decide +kernel
theorem d_150_51 : decode prog_8_method_21_code 51 = .ok (.aload_n 0, 1) := by decide +kernel
theorem d_150_52 : decode prog_8_method_21_code 52 = .ok (.getfield 37, 3) := by decide +kernel
theorem d_150_55 : decode prog_8_method_21_code 55 = .ok (.iload_n 3, 1) := by decide +kernel
theorem d_150_56 : decode prog_8_method_21_code 56 = .ok (.iaload, 1) := by decide +kernel
theorem d_150_57 : decode prog_8_method_21_code 57 = .ok (.invokevirtual 120, 3) := by decide +kernel
theorem d_150_60 : decode prog_8_method_21_code 60 = .ok (.aload_n 0, 1) := by decide +kernel
theorem d_150_61 : decode prog_8_method_21_code 61 = .ok (.aload_n 0, 1) := by decide +kernel
theorem d_150_62 : decode prog_8_method_21_code 62 = .ok (.getfield 40, 3) := by decide +kernel
theorem d_150_65 : decode prog_8_method_21_code 65 = .ok (.iload_n 3, 1) := by decide +kernel
theorem d_150_66 : decode prog_8_method_21_code 66 = .ok (.iaload, 1) := by decide +kernel
theorem d_150_67 : decode prog_8_method_21_code 67 = .ok (.iconst 4, 1) := by decide +kernel
theorem d_150_68 : decode prog_8_method_21_code 68 = .ok (.invokevirtual 113, 3) := by decide +kernel
theorem d_150_71 : decode prog_8_method_21_code 71 = .ok (.aload_n 0, 1) := by decide +kernel
theorem d_150_72 : decode prog_8_method_21_code 72 = .ok (.iconst 2, 1) := by decide +kernel
theorem d_150_73 : decode prog_8_method_21_code 73 = .ok (.iconst 4, 1) := by decide +kernel
theorem d_150_74 : decode prog_8_method_21_code 74 = .ok (.invokevirtual 113, 3) := by decide +kernel
theorem d_150_77 : decode prog_8_method_21_code 77 = .ok (.aload_n 0, 1) := by decide +kernel
theorem d_150_78 : decode prog_8_method_21_code 78 = .ok (.getfield 105, 3) := by decide +kernel
theorem d_150_81 : decode prog_8_method_21_code 81 = .ok (.istore 4, 2) := by decide +kernel
theorem d_150_83 : decode prog_8_method_21_code 83 = .ok (.aload_n 0, 1) := by decide +kernel
theorem d_150_84 : decode prog_8_method_21_code 84 = .ok (.aload_n 0, 1) := by decide +kernel
theorem d_150_85 : decode prog_8_method_21_code 85 = .ok (.getfield 43, 3) := by decide +kernel
theorem d_150_88 : decode prog_8_method_21_code 88 = .ok (.iload_n 3, 1) := by decide +kernel
theorem d_150_89 : decode prog_8_method_21_code 89 = .ok (.iaload, 1) := by decide +kernel
theorem d_150_90 : decode prog_8_method_21_code 90 = .ok (.aload_n 0, 1) := by decide +kernel
theorem d_150_91 : decode prog_8_method_21_code 91 = .ok (.getfield 40, 3) := by decide +kernel
theorem d_150_94 : decode prog_8_method_21_code 94 = .ok (.iload_n 3, 1) := by decide +kernel
theorem d_150_95 : decode prog_8_method_21_code 95 = .ok (.iaload, 1) := by decide +kernel
theorem d_150_96 : decode prog_8_method_21_code 96 = .ok (.invokestatic 79, 3) := by decide +kernel
theorem d_150_99 : decode prog_8_method_21_code 99 = .ok (.invokevirtual 113, 3) := by decide +kernel
theorem d_150_102 : decode prog_8_method_21_code 102 = .ok (.aload_n 0, 1) := by decide +kernel
theorem d_150_103 : decode prog_8_method_21_code 103 = .ok (.aload_n 0, 1) := by decide +kernel
theorem d_150_104 : decode prog_8_method_21_code 104 = .ok (.getfield 46, 3) := by decide +kernel
theorem d_150_107 : decode prog_8_method_21_code 107 = .ok (.iload_n 3, 1) := by decide +kernel
theorem d_150_108 : decode prog_8_method_21_code 108 = .ok (.iaload, 1) := by decide +kernel
theorem d_150_109 : decode prog_8_method_21_code 109 = .ok (.aload_n 0, 1) := by decide +kernel
theorem d_150_110 : decode prog_8_method_21_code 110 = .ok (.getfield 40, 3) := by decide +kernel
theorem d_150_113 : decode prog_8_method_21_code 113 = .ok (.iload_n 3, 1) := by decide +kernel
theorem d_150_114 : decode prog_8_method_21_code 114 = .ok (.iaload, 1) := by decide +kernel
theorem d_150_115 : decode prog_8_method_21_code 115 = .ok (.invokestatic 79, 3) := by decide +kernel
theorem d_150_118 : decode prog_8_method_21_code 118 = .ok (.invokevirtual 113, 3) := by decide +kernel
theorem d_150_121 : decode prog_8_method_21_code 121 = .ok (.aload_n 0, 1) := by decide +kernel
theorem d_150_122 : decode prog_8_method_21_code 122 = .ok (.iload 4, 2) := by decide +kernel
theorem d_150_124 : decode prog_8_method_21_code 124 = .ok (.invokevirtual 123, 3) := by decide +kernel
theorem d_150_127 : decode prog_8_method_21_code 127 = .ok (.iinc 3 1, 3) := by decide +kernel
theorem d_150_130 : decode prog_8_method_21_code 130 = .ok (.goto (-104), 3) := by decide +kernel
theorem d_150_133 : decode prog_8_method_21_code 133 = .ok (.return_, 1) := by decide +kernel
theorem d_151_0 : decode prog_8_method_19_code 0 = .ok (.aload_n 0, 1) := by decide +kernel
theorem d_151_1 : decode prog_8_method_19_code 1 = .ok (.getfield 105, 3) := by decide +kernel
theorem d_151_4 : decode prog_8_method_19_code 4 = .ok (.iload_n 1, 1) := by decide +kernel
theorem d_151_5 : decode prog_8_method_19_code 5 = .ok (.isub, 1) := by decide +kernel
theorem d_151_6 : decode prog_8_method_19_code 6 = .ok (.iconst 4, 1) := by decide +kernel
theorem d_151_7 : decode prog_8_method_19_code 7 = .ok (.irem, 1) := by decide +kernel
theorem d_151_8 : decode prog_8_method_19_code 8 = .ok (.ifCond .eq 11, 3) := by decide +kernel
theorem d_151_11 : decode prog_8_method_19_code 11 = .ok (.aload_n 0, 1) := by decide +kernel
theorem d_151_12 : decode prog_8_method_19_code 12 = .ok (.iconst 0, 1) := by decide +kernel
theorem d_151_13 : decode prog_8_method_19_code 13 = .ok (.invokevirtual 109, 3) := by decide +kernel
theorem d_151_16 : decode prog_8_method_19_code 16 = .ok (.goto (-16), 3) := by decide +kernel
theorem d_151_19 : decode prog_8_method_19_code 19 = .ok (.return_, 1) := by decide +kernel
theorem d_152_0 : decode prog_8_method_22_code 0 = .ok (.iconst 5, 1) := by decide +kernel
theorem d_152_1 : decode prog_8_method_22_code 1 = .ok (.iload_n 1, 1) := by decide +kernel
theorem d_152_2 : decode prog_8_method_22_code 2 = .ok (.imul, 1) := by decide +kernel
theorem d_152_3 : decode prog_8_method_22_code 3 = .ok (.iload_n 2, 1) := by decide +kernel
theorem d_152_4 : decode prog_8_method_22_code 4 = .ok (.iadd, 1) := by decide +kernel
theorem d_152_5 : decode prog_8_method_22_code 5 = .ok (.istore_n 3, 1) := by decide +kernel
theorem d_152_6 : decode prog_8_method_22_code 6 = .ok (.aload_n 0, 1) := by decide +kernel
theorem d_152_7 : decode prog_8_method_22_code 7 = .ok (.aload_n 0, 1) := by decide +kernel
theorem d_152_8 : decode prog_8_method_22_code 8 = .ok (.getfield 22, 3) := by decide +kernel
theorem d_152_11 : decode prog_8_method_22_code 11 = .ok (.iload_n 3, 1) := by decide +kernel
theorem d_152_12 : decode prog_8_method_22_code 12 = .ok (.iaload, 1) := by decide +kernel
theorem d_152_13 : decode prog_8_method_22_code 13 = .ok (.invokevirtual 120, 3) := by decide +kernel
theorem d_152_16 : decode prog_8_method_22_code 16 = .ok (.aload_n 0, 1) := by decide +kernel
theorem d_152_17 : decode prog_8_method_22_code 17 = .ok (.aload_n 0, 1) := by decide +kernel
theorem d_152_18 : decode prog_8_method_22_code 18 = .ok (.getfield 28, 3) := by decide +kernel
theorem d_152_21 : decode prog_8_method_22_code 21 = .ok (.iload_n 3, 1) := by decide +kernel
theorem d_152_22 : decode prog_8_method_22_code 22 = .ok (.iaload, 1) := by decide +kernel
theorem d_152_23 : decode prog_8_method_22_code 23 = .ok (.iconst 4, 1) := by decide +kernel
theorem d_152_24 : decode prog_8_method_22_code 24 = .ok (.invokevirtual 113, 3) := by decide +kernel
theorem d_152_27 : decode prog_8_method_22_code 27 = .ok (.iconst 0, 1) := by decide +kernel
theorem d_152_28 : decode prog_8_method_22_code 28 = .ok (.istore 4, 2) := by decide +kernel
theorem d_152_30 : decode prog_8_method_22_code 30 = .ok (.iload 4, 2) := by decide +kernel
theorem d_152_32 : decode prog_8_method_22_code 32 = .ok (.aload_n 0, 1) := by decide +kernel
theorem d_152_33 : decode prog_8_method_22_code 33 = .ok (.getfield 28, 3) := by decide +kernel
theorem d_152_36 : decode prog_8_method_22_code 36 = .ok (.iload_n 3, 1) := by decide +kernel
theorem d_152_37 : decode prog_8_method_22_code 37 = .ok (.iaload, 1) := by decide +kernel
theorem d_152_38 : decode prog_8_method_22_code 38 = .ok (.if_icmp .ge 25, 3) := by decide +kernel
theorem d_152_41 : decode prog_8_method_22_code 41 = .ok (.aload_n 0, 1) := by decide +kernel
theorem d_152_42 : decode prog_8_method_22_code 42 = .ok (.aload_n 0, 1) := by decide +kernel
theorem d_152_43 : decode prog_8_method_22_code 43 = .ok (.getfield 31, 3) := by decide +kernel
theorem d_152_46 : decode prog_8_method_22_code 46 = .ok (.iconst 2, 1) := by decide +kernel
theorem d_152_47 : decode prog_8_method_22_code 47 = .ok (.iload_n 3, 1) := by decide +kernel
theorem d_152_48 : decode prog_8_method_22_code 48 = .ok (.imul, 1) := by decide +kernel
theorem d_152_49 : decode prog_8_method_22_code 49 = .ok (.iload 4, 2) := by decide +kernel
theorem d_152_51 : decode prog_8_method_22_code 51 = .ok (.iadd, 1) := by decide +kernel
theorem d_152_52 : decode prog_8_method_22_code 52 = .ok (.iaload, 1) := by decide +kernel
theorem d_152_53 : decode prog_8_method_22_code 53 = .ok (.iconst 4, 1) := by decide +kernel
theorem d_152_54 : decode prog_8_method_22_code 54 = .ok (.invokevirtual 113, 3) := by decide +kernel
theorem d_152_57 : decode prog_8_method_22_code 57 = .ok (.iinc 4 1, 3) := by decide +kernel
theorem d_152_60 : decode prog_8_method_22_code 60 = .ok (.goto (-30), 3) := by decide +kernel
theorem d_152_63 : decode prog_8_method_22_code 63 = .ok (.aload_n 0, 1) := by decide +kernel
theorem d_152_64 : decode prog_8_method_22_code 64 = .ok (.iload_n 1, 1) := by decide +kernel
theorem d_152_65 : decode prog_8_method_22_code 65 = .ok (.iload_n 2, 1) := by decide +kernel
theorem d_152_66 : decode prog_8_method_22_code 66 = .ok (.iconst 1, 1) := by decide +kernel
theorem d_152_67 : decode prog_8_method_22_code 67 = .ok (.iadd, 1) := by decide +kernel
theorem d_152_68 : decode prog_8_method_22_code 68 = .ok (.invokevirtual 126, 3) := by decide +kernel
theorem d_152_71 : decode prog_8_method_22_code 71 = .ok (.aload_n 0, 1) := by decide +kernel
theorem d_152_72 : decode prog_8_method_22_code 72 = .ok (.aload_n 0, 1) := by decide +kernel
theorem d_152_73 : decode prog_8_method_22_code 73 = .ok (.getfield 25, 3) := by decide +kernel
theorem d_152_76 : decode prog_8_method_22_code 76 = .ok (.iload_n 3, 1) := by decide +kernel
theorem d_152_77 : decode prog_8_method_22_code 77 = .ok (.iaload, 1) := by decide +kernel
theorem d_152_78 : decode prog_8_method_22_code 78 = .ok (.iconst 4, 1) := by decide +kernel
theorem d_152_79 : decode prog_8_method_22_code 79 = .ok (.invokevirtual 113, 3) := by decide +kernel
theorem d_152_82 : decode prog_8_method_22_code 82 = .ok (.aload_n 0, 1) := by decide +kernel
theorem d_152_83 : decode prog_8_method_22_code 83 = .ok (.iload_n 1, 1) := by decide +kernel
theorem d_152_84 : decode prog_8_method_22_code 84 = .ok (.iload_n 2, 1) := by decide +kernel
theorem d_152_85 : decode prog_8_method_22_code 85 = .ok (.invokevirtual 93, 3) := by decide +kernel
theorem d_152_88 : decode prog_8_method_22_code 88 = .ok (.istore 4, 2) := by decide +kernel
theorem d_152_90 : decode prog_8_method_22_code 90 = .ok (.aload_n 0, 1) := by decide +kernel
theorem d_152_91 : decode prog_8_method_22_code 91 = .ok (.iload_n 1, 1) := by decide +kernel
theorem d_152_92 : decode prog_8_method_22_code 92 = .ok (.iload_n 2, 1) := by decide +kernel
theorem d_152_93 : decode prog_8_method_22_code 93 = .ok (.invokevirtual 99, 3) := by decide +kernel
theorem d_152_96 : decode prog_8_method_22_code 96 = .ok (.istore 5, 2) := by decide +kernel
theorem d_152_98 : decode prog_8_method_22_code 98 = .ok (.aload_n 0, 1) := by decide +kernel
theorem d_152_99 : decode prog_8_method_22_code 99 = .ok (.iload 4, 2) := by decide +kernel
theorem d_152_101 : decode prog_8_method_22_code 101 = .ok (.iconst 4, 1) := by decide +kernel
theorem d_152_102 : decode prog_8_method_22_code 102 = .ok (.invokevirtual 113, 3) := by decide +kernel
theorem d_152_105 : decode prog_8_method_22_code 105 = .ok (.aload_n 0, 1) := by decide +kernel
theorem d_152_106 : decode prog_8_method_22_code 106 = .ok (.iload 5, 2) := by decide +kernel
theorem d_152_108 : decode prog_8_method_22_code 108 = .ok (.iconst 4, 1) := by decide +kernel
theorem d_152_109 : decode prog_8_method_22_code 109 = .ok (.invokevirtual 113, 3) := by decide +kernel
theorem d_152_112 : decode prog_8_method_22_code 112 = .ok (.return_, 1) := by decide +kernel
theorem d_153_0 : decode prog_8_method_23_code 0 = .ok (.iconst 5, 1) := by decide +kernel
theorem d_153_1 : decode prog_8_method_23_code 1 = .ok (.iload_n 1, 1) := by decide +kernel
theorem d_153_2 : decode prog_8_method_23_code 2 = .ok (.imul, 1) := by decide +kernel
theorem d_153_3 : decode prog_8_method_23_code 3 = .ok (.iload_n 2, 1) := by decide +kernel
theorem d_153_4 : decode prog_8_method_23_code 4 = .ok (.iadd, 1) := by decide +kernel
theorem d_153_5 : decode prog_8_method_23_code 5 = .ok (.istore 5, 2) := by decide +kernel
theorem d_153_7 : decode prog_8_method_23_code 7 = .ok (.aload_n 0, 1) := by decide +kernel
theorem d_153_8 : decode prog_8_method_23_code 8 = .ok (.iload_n 1, 1) := by decide +kernel
theorem d_153_9 : decode prog_8_method_23_code 9 = .ok (.iload_n 2, 1) := by decide +kernel
theorem d_153_10 : decode prog_8_method_23_code 10 = .ok (.invokevirtual 75, 3) := by decide +kernel
theorem d_153_13 : decode prog_8_method_23_code 13 = .ok (.istore 6, 2) := by decide +kernel
theorem d_153_15 : decode prog_8_method_23_code 15 = .ok (.aload_n 0, 1) := by decide +kernel
theorem d_153_16 : decode prog_8_method_23_code 16 = .ok (.getfield 105, 3) := by decide +kernel
theorem d_153_19 : decode prog_8_method_23_code 19 = .ok (.istore 7, 2) := by decide +kernel
theorem d_153_21 : decode prog_8_method_23_code 21 = .ok (.iconst 0, 1) := by decide +kernel
theorem d_153_22 : decode prog_8_method_23_code 22 = .ok (.istore 8, 2) := by decide +kernel
theorem d_153_24 : decode prog_8_method_23_code 24 = .ok (.iload 8, 2) := by decide +kernel
theorem d_153_26 : decode prog_8_method_23_code 26 = .ok (.iload 6, 2) := by decide +kernel
theorem d_153_28 : decode prog_8_method_23_code 28 = .ok (.if_icmp .ge 42, 3) := by decide +kernel
theorem d_153_31 : decode prog_8_method_23_code 31 = .ok (.aload_n 0, 1) := by decide +kernel
theorem d_153_32 : decode prog_8_method_23_code 32 = .ok (.aload_n 0, 1) := by decide +kernel
theorem d_153_33 : decode prog_8_method_23_code 33 = .ok (.getfield 52, 3) := by decide +kernel
theorem d_153_36 : decode prog_8_method_23_code 36 = .ok (.sipush 800, 3) := by decide +kernel
theorem d_153_39 : decode prog_8_method_23_code 39 = .ok (.iload 5, 2) := by decide +kernel
theorem d_153_41 : decode prog_8_method_23_code 41 = .ok (.imul, 1) := by decide +kernel
theorem d_153_42 : decode prog_8_method_23_code 42 = .ok (.iload_n 3, 1) := by decide +kernel
theorem d_153_43 : decode prog_8_method_23_code 43 = .ok (.iload 6, 2) := by decide +kernel
theorem d_153_45 : decode prog_8_method_23_code 45 = .ok (.imul, 1) := by decide +kernel
theorem d_153_46 : decode prog_8_method_23_code 46 = .ok (.iadd, 1) := by decide +kernel
theorem d_153_47 : decode prog_8_method_23_code 47 = .ok (.iload 8, 2) := by decide +kernel
theorem d_153_49 : decode prog_8_method_23_code 49 = .ok (.iadd, 1) := by decide +kernel
theorem d_153_50 : decode prog_8_method_23_code 50 = .ok (.iaload, 1) := by decide +kernel
theorem d_153_51 : decode prog_8_method_23_code 51 = .ok (.aload_n 0, 1) := by decide +kernel
theorem d_153_52 : decode prog_8_method_23_code 52 = .ok (.getfield 25, 3) := by decide +kernel
theorem d_153_55 : decode prog_8_method_23_code 55 = .ok (.iload 5, 2) := by decide +kernel
theorem d_153_57 : decode prog_8_method_23_code 57 = .ok (.iaload, 1) := by decide +kernel
theorem d_153_58 : decode prog_8_method_23_code 58 = .ok (.invokestatic 79, 3) := by decide +kernel
theorem d_153_61 : decode prog_8_method_23_code 61 = .ok (.invokevirtual 113, 3) := by decide +kernel
theorem d_153_64 : decode prog_8_method_23_code 64 = .ok (.iinc 8 1, 3) := by decide +kernel
theorem d_153_67 : decode prog_8_method_23_code 67 = .ok (.goto (-43), 3) := by decide +kernel
theorem d_153_70 : decode prog_8_method_23_code 70 = .ok (.iload 4, 2) := by decide +kernel
theorem d_153_72 : decode prog_8_method_23_code 72 = .ok (.ifCond .eq 9, 3) := by decide +kernel
theorem d_153_75 : decode prog_8_method_23_code 75 = .ok (.aload_n 0, 1) := by decide +kernel
theorem d_153_76 : decode prog_8_method_23_code 76 = .ok (.iload 7, 2) := by decide +kernel
theorem d_153_78 : decode prog_8_method_23_code 78 = .ok (.invokevirtual 123, 3) := by decide +kernel
theorem d_153_81 : decode prog_8_method_23_code 81 = .ok (.return_, 1) := by decide +kernel
theorem d_154_0 : decode prog_8_method_54_code 0 = .ok (.iload_n 3, 1) := by decide +kernel
theorem d_154_1 : decode prog_8_method_54_code 1 = .ok (.iconst 1, 1) := by decide +kernel
theorem d_154_2 : decode prog_8_method_54_code 2 = .ok (.if_icmp .lt 21, 3) := by decide +kernel
theorem d_154_5 : decode prog_8_method_54_code 5 = .ok (.iload_n 3, 1) := by decide +kernel
theorem d_154_6 : decode prog_8_method_54_code 6 = .ok (.bipush 8, 2) := by decide +kernel
theorem d_154_8 : decode prog_8_method_54_code 8 = .ok (.if_icmp .gt 15, 3) := by decide +kernel
theorem d_154_11 : decode prog_8_method_54_code 11 = .ok (.aload_n 0, 1) := by decide +kernel
theorem d_154_12 : decode prog_8_method_54_code 12 = .ok (.getfield 214, 3) := by decide +kernel
theorem d_154_15 : decode prog_8_method_54_code 15 = .ok (.iload_n 3, 1) := by decide +kernel
theorem d_154_16 : decode prog_8_method_54_code 16 = .ok (.iadd, 1) := by decide +kernel
theorem d_154_17 : decode prog_8_method_54_code 17 = .ok (.sipush 800, 3) := by decide +kernel
theorem d_154_20 : decode prog_8_method_54_code 20 = .ok (.if_icmp .le 5, 3) := by decide +kernel
theorem d_154_23 : decode prog_8_method_54_code 23 = .ok (.iconst 0, 1) := by decide +kernel
theorem d_154_24 : decode prog_8_method_54_code 24 = .ok (.ireturn, 1) := by decide +kernel
theorem d_154_25 : decode prog_8_method_54_code 25 = .ok (.iconst 0, 1) := by decide +kernel
theorem d_154_26 : decode prog_8_method_54_code 26 = .ok (.istore 4, 2) := by decide +kernel
theorem d_154_28 : decode prog_8_method_54_code 28 = .ok (.iload 4, 2) := by decide +kernel
theorem d_154_30 : decode prog_8_method_54_code 30 = .ok (.iload_n 3, 1) := by decide +kernel
theorem d_154_31 : decode prog_8_method_54_code 31 = .ok (.if_icmp .ge 43, 3) := by decide +kernel
theorem d_154_34 : decode prog_8_method_54_code 34 = .ok (.aload_n 0, 1) := by decide +kernel
theorem d_154_35 : decode prog_8_method_54_code 35 = .ok (.getfield 67, 3) := by decide +kernel
theorem d_154_38 : decode prog_8_method_54_code 38 = .ok (.aload_n 0, 1) := by decide +kernel
theorem d_154_39 : decode prog_8_method_54_code 39 = .ok (.getfield 214, 3) := by decide +kernel
theorem d_154_42 : decode prog_8_method_54_code 42 = .ok (.lload_n 1, 1) := by decide +kernel
theorem d_154_43 : decode prog_8_method_54_code 43 = .ok (.bipush 56, 2) := by decide +kernel
theorem d_154_45 : decode prog_8_method_54_code 45 = .ok (.bipush 8, 2) := by decide +kernel
theorem d_154_47 : decode prog_8_method_54_code 47 = .ok (.iload 4, 2) := by decide +kernel
theorem d_154_49 : decode prog_8_method_54_code 49 = .ok (.imul, 1) := by decide +kernel
theorem d_154_50 : decode prog_8_method_54_code 50 = .ok (.isub, 1) := by decide +kernel
theorem d_154_51 : decode prog_8_method_54_code 51 = .ok (.lshr, 1) := by decide +kernel
theorem d_154_52 : decode prog_8_method_54_code 52 = .ok (.ldc2_w 217, 3) := by decide +kernel
theorem d_154_55 : decode prog_8_method_54_code 55 = .ok (.land, 1) := by decide +kernel
theorem d_154_56 : decode prog_8_method_54_code 56 = .ok (.l2i, 1) := by decide +kernel
theorem d_154_57 : decode prog_8_method_54_code 57 = .ok (.iastore, 1) := by decide +kernel
theorem d_154_58 : decode prog_8_method_54_code 58 = .ok (.aload_n 0, 1) := by decide +kernel
theorem d_154_59 : decode prog_8_method_54_code 59 = .ok (.dup, 1) := by decide +kernel
theorem d_154_60 : decode prog_8_method_54_code 60 = .ok (.getfield 214, 3) := by decide +kernel
theorem d_154_63 : decode prog_8_method_54_code 63 = .ok (.iconst 1, 1) := by decide +kernel
theorem d_154_64 : decode prog_8_method_54_code 64 = .ok (.iadd, 1) := by decide +kernel
theorem d_154_65 : decode prog_8_method_54_code 65 = .ok (.putfield 214, 3) := by decide +kernel
theorem d_154_68 : decode prog_8_method_54_code 68 = .ok (.iinc 4 1, 3) := by decide +kernel
theorem d_154_71 : decode prog_8_method_54_code 71 = .ok (.goto (-43), 3) := by decide +kernel
theorem d_154_74 : decode prog_8_method_54_code 74 = .ok (.iconst 1, 1) := by decide +kernel
theorem d_154_75 : decode prog_8_method_54_code 75 = .ok (.ireturn, 1) := by decide +kernel
theorem d_155_0 : decode prog_8_method_55_code 0 = .ok (.aload_n 0, 1) := by decide +kernel
theorem d_155_1 : decode prog_8_method_55_code 1 = .ok (.iconst 0, 1) := by decide +kernel
theorem d_155_2 : decode prog_8_method_55_code 2 = .ok (.putfield 214, 3) := by decide +kernel
theorem d_155_5 : decode prog_8_method_55_code 5 = .ok (.return_, 1) := by decide +kernel
theorem d_156_0 : decode prog_8_method_66_code 0 = .ok (.iconst 1, 1) := by decide +kernel
theorem d_156_1 : decode prog_8_method_66_code 1 = .ok (.aload_n 0, 1) := by decide +kernel
theorem d_156_2 : decode prog_8_method_66_code 2 = .ok (.getfield 137, 3) := by decide +kernel
theorem d_156_5 : decode prog_8_method_66_code 5 = .ok (.isub, 1) := by decide +kernel
theorem d_156_6 : decode prog_8_method_66_code 6 = .ok (.istore_n 1, 1) := by decide +kernel
theorem d_156_7 : decode prog_8_method_66_code 7 = .ok (.aload_n 0, 1) := by decide +kernel
theorem d_156_8 : decode prog_8_method_66_code 8 = .ok (.iload_n 1, 1) := by decide +kernel
theorem d_156_9 : decode prog_8_method_66_code 9 = .ok (.invokevirtual 250, 3) := by decide +kernel
theorem d_156_12 : decode prog_8_method_66_code 12 = .ok (.ifCond .eq 24, 3) := by decide +kernel
theorem d_156_15 : decode prog_8_method_66_code 15 = .ok (.aload_n 0, 1) := by decide +kernel
theorem d_156_16 : decode prog_8_method_66_code 16 = .ok (.iload_n 1, 1) := by decide +kernel
theorem d_156_17 : decode prog_8_method_66_code 17 = .ok (.aload_n 0, 1) := by decide +kernel
theorem d_156_18 : decode prog_8_method_66_code 18 = .ok (.getfield 49, 3) := by decide +kernel
theorem d_156_21 : decode prog_8_method_66_code 21 = .ok (.iload_n 1, 1) := by decide +kernel
theorem d_156_22 : decode prog_8_method_66_code 22 = .ok (.iaload, 1) := by decide +kernel
theorem d_156_23 : decode prog_8_method_66_code 23 = .ok (.i2l, 1) := by decide +kernel
theorem d_156_24 : decode prog_8_method_66_code 24 = .ok (.invokevirtual 176, 3) := by decide +kernel
theorem d_156_27 : decode prog_8_method_66_code 27 = .ok (.aload_n 0, 1) := by decide +kernel
theorem d_156_28 : decode prog_8_method_66_code 28 = .ok (.getfield 214, 3) := by decide +kernel
theorem d_156_31 : decode prog_8_method_66_code 31 = .ok (.i2l, 1) := by decide +kernel
theorem d_156_32 : decode prog_8_method_66_code 32 = .ok (.lcmp, 1) := by decide +kernel
theorem d_156_33 : decode prog_8_method_66_code 33 = .ok (.ifCond .eq 6, 3) := by decide +kernel
theorem d_156_36 : decode prog_8_method_66_code 36 = .ok (.bipush (-9), 2) := by decide +kernel
theorem d_156_38 : decode prog_8_method_66_code 38 = .ok (.ireturn, 1) := by decide +kernel
theorem d_156_39 : decode prog_8_method_66_code 39 = .ok (.aload_n 0, 1) := by decide +kernel
theorem d_156_40 : decode prog_8_method_66_code 40 = .ok (.iload_n 1, 1) := by decide +kernel
theorem d_156_41 : decode prog_8_method_66_code 41 = .ok (.invokevirtual 253, 3) := by decide +kernel
theorem d_156_44 : decode prog_8_method_66_code 44 = .ok (.aload_n 0, 1) := by decide +kernel
theorem d_156_45 : decode prog_8_method_66_code 45 = .ok (.iload_n 1, 1) := by decide +kernel
theorem d_156_46 : decode prog_8_method_66_code 46 = .ok (.invokevirtual 207, 3) := by decide +kernel
theorem d_156_49 : decode prog_8_method_66_code 49 = .ok (.iconst 0, 1) := by decide +kernel
theorem d_156_50 : decode prog_8_method_66_code 50 = .ok (.istore_n 2, 1) := by decide +kernel
theorem d_156_51 : decode prog_8_method_66_code 51 = .ok (.iload_n 2, 1) := by decide +kernel
theorem d_156_52 : decode prog_8_method_66_code 52 = .ok (.aload_n 0, 1) := by decide +kernel
theorem d_156_53 : decode prog_8_method_66_code 53 = .ok (.getfield 214, 3) := by decide +kernel
theorem d_156_56 : decode prog_8_method_66_code 56 = .ok (.if_icmp .ge 27, 3) := by decide +kernel
theorem d_156_59 : decode prog_8_method_66_code 59 = .ok (.aload_n 0, 1) := by decide +kernel
theorem d_156_60 : decode prog_8_method_66_code 60 = .ok (.getfield 64, 3) := by decide +kernel
theorem d_156_63 : decode prog_8_method_66_code 63 = .ok (.iload_n 2, 1) := by decide +kernel
theorem d_156_64 : decode prog_8_method_66_code 64 = .ok (.iaload, 1) := by decide +kernel
theorem d_156_65 : decode prog_8_method_66_code 65 = .ok (.aload_n 0, 1) := by decide +kernel
theorem d_156_66 : decode prog_8_method_66_code 66 = .ok (.getfield 67, 3) := by decide +kernel
theorem d_156_69 : decode prog_8_method_66_code 69 = .ok (.iload_n 2, 1) := by decide +kernel
theorem d_156_70 : decode prog_8_method_66_code 70 = .ok (.iaload, 1) := by decide +kernel
theorem d_156_71 : decode prog_8_method_66_code 71 = .ok (.if_icmp .eq 6, 3) := by decide +kernel
theorem d_156_74 : decode prog_8_method_66_code 74 = .ok (.bipush (-9), 2) := by decide +kernel
theorem d_156_76 : decode prog_8_method_66_code 76 = .ok (.ireturn, 1) := by decide +kernel
theorem d_156_77 : decode prog_8_method_66_code 77 = .ok (.iinc 2 1, 3) := by decide +kernel
theorem d_156_80 : decode prog_8_method_66_code 80 = .ok (.goto (-29), 3) := by decide +kernel
theorem d_156_83 : decode prog_8_method_66_code 83 = .ok (.aload_n 0, 1) := by decide +kernel
theorem d_156_84 : decode prog_8_method_66_code 84 = .ok (.iload_n 1, 1) := by decide +kernel
theorem d_156_85 : decode prog_8_method_66_code 85 = .ok (.putfield 137, 3) := by decide +kernel
theorem d_156_88 : decode prog_8_method_66_code 88 = .ok (.aload_n 0, 1) := by decide +kernel
theorem d_156_89 : decode prog_8_method_66_code 89 = .ok (.iconst 1, 1) := by decide +kernel
theorem d_156_90 : decode prog_8_method_66_code 90 = .ok (.putfield 140, 3) := by decide +kernel
theorem d_156_93 : decode prog_8_method_66_code 93 = .ok (.aload_n 0, 1) := by decide +kernel
theorem d_156_94 : decode prog_8_method_66_code 94 = .ok (.getfield 214, 3) := by decide +kernel
theorem d_156_97 : decode prog_8_method_66_code 97 = .ok (.ireturn, 1) := by decide +kernel
theorem d_157_0 : decode prog_8_method_63_code 0 = .ok (.aload_n 0, 1) := by decide +kernel
theorem d_157_1 : decode prog_8_method_63_code 1 = .ok (.iconst 4, 1) := by decide +kernel
theorem d_157_2 : decode prog_8_method_63_code 2 = .ok (.putfield 222, 3) := by decide +kernel
theorem d_157_5 : decode prog_8_method_63_code 5 = .ok (.aload_n 0, 1) := by decide +kernel
theorem d_157_6 : decode prog_8_method_63_code 6 = .ok (.iconst 0, 1) := by decide +kernel
theorem d_157_7 : decode prog_8_method_63_code 7 = .ok (.putfield 219, 3) := by decide +kernel
theorem d_157_10 : decode prog_8_method_63_code 10 = .ok (.aload_n 0, 1) := by decide +kernel
theorem d_157_11 : decode prog_8_method_63_code 11 = .ok (.getfield 49, 3) := by decide +kernel
theorem d_157_14 : decode prog_8_method_63_code 14 = .ok (.iload_n 1, 1) := by decide +kernel
theorem d_157_15 : decode prog_8_method_63_code 15 = .ok (.aload_n 0, 1) := by decide +kernel
theorem d_157_16 : decode prog_8_method_63_code 16 = .ok (.iconst 4, 1) := by decide +kernel
theorem d_157_17 : decode prog_8_method_63_code 17 = .ok (.invokevirtual 225, 3) := by decide +kernel
theorem d_157_20 : decode prog_8_method_63_code 20 = .ok (.iastore, 1) := by decide +kernel
theorem d_157_21 : decode prog_8_method_63_code 21 = .ok (.aload_n 0, 1) := by decide +kernel
theorem d_157_22 : decode prog_8_method_63_code 22 = .ok (.getfield 19, 3) := by decide +kernel
theorem d_157_25 : decode prog_8_method_63_code 25 = .ok (.iload_n 1, 1) := by decide +kernel
theorem d_157_26 : decode prog_8_method_63_code 26 = .ok (.iconst 0, 1) := by decide +kernel
theorem d_157_27 : decode prog_8_method_63_code 27 = .ok (.iastore, 1) := by decide +kernel
theorem d_157_28 : decode prog_8_method_63_code 28 = .ok (.aload_n 0, 1) := by decide +kernel
theorem d_157_29 : decode prog_8_method_63_code 29 = .ok (.iload_n 1, 1) := by decide +kernel
theorem d_157_30 : decode prog_8_method_63_code 30 = .ok (.invokevirtual 241, 3) := by decide +kernel
theorem d_157_33 : decode prog_8_method_63_code 33 = .ok (.ifCond .eq 12, 3) := by decide +kernel
theorem d_157_36 : decode prog_8_method_63_code 36 = .ok (.aload_n 0, 1) := by decide +kernel
theorem d_157_37 : decode prog_8_method_63_code 37 = .ok (.iload_n 1, 1) := by decide +kernel
theorem d_157_38 : decode prog_8_method_63_code 38 = .ok (.iconst 0, 1) := by decide +kernel
theorem d_157_39 : decode prog_8_method_63_code 39 = .ok (.invokevirtual 238, 3) := by decide +kernel
theorem d_157_42 : decode prog_8_method_63_code 42 = .ok (.ifCond .ne 5, 3) := by decide +kernel
theorem d_157_45 : decode prog_8_method_63_code 45 = .ok (.iconst 0, 1) := by decide +kernel
theorem d_157_46 : decode prog_8_method_63_code 46 = .ok (.ireturn, 1) := by decide +kernel
theorem d_157_47 : decode prog_8_method_63_code 47 = .ok (.aload_n 0, 1) := by decide +kernel
theorem d_157_48 : decode prog_8_method_63_code 48 = .ok (.iconst 5, 1) := by decide +kernel
theorem d_157_49 : decode prog_8_method_63_code 49 = .ok (.invokevirtual 228, 3) := by decide +kernel
theorem d_157_52 : decode prog_8_method_63_code 52 = .ok (.istore_n 2, 1) := by decide +kernel
theorem d_157_53 : decode prog_8_method_63_code 53 = .ok (.iconst 0, 1) := by decide +kernel
theorem d_157_54 : decode prog_8_method_63_code 54 = .ok (.istore_n 3, 1) := by decide +kernel
theorem d_157_55 : decode prog_8_method_63_code 55 = .ok (.iload_n 3, 1) := by decide +kernel
theorem d_157_56 : decode prog_8_method_63_code 56 = .ok (.iload_n 2, 1) := by decide +kernel
theorem d_157_57 : decode prog_8_method_63_code 57 = .ok (.if_icmp .ge 29, 3) := by decide +kernel
theorem d_157_60 : decode prog_8_method_63_code 60 = .ok (.aload_n 0, 1) := by decide +kernel
theorem d_157_61 : decode prog_8_method_63_code 61 = .ok (.iload_n 1, 1) := by decide +kernel
theorem d_157_62 : decode prog_8_method_63_code 62 = .ok (.iload_n 3, 1) := by decide +kernel
theorem d_157_63 : decode prog_8_method_63_code 63 = .ok (.invokevirtual 244, 3) := by decide +kernel
theorem d_157_66 : decode prog_8_method_63_code 66 = .ok (.ifCond .ne 5, 3) := by decide +kernel
theorem d_157_69 : decode prog_8_method_63_code 69 = .ok (.iconst 0, 1) := by decide +kernel
theorem d_157_70 : decode prog_8_method_63_code 70 = .ok (.ireturn, 1) := by decide +kernel
theorem d_157_71 : decode prog_8_method_63_code 71 = .ok (.aload_n 0, 1) := by decide +kernel
theorem d_157_72 : decode prog_8_method_63_code 72 = .ok (.getfield 19, 3) := by decide +kernel
theorem d_157_75 : decode prog_8_method_63_code 75 = .ok (.iload_n 1, 1) := by decide +kernel
theorem d_157_76 : decode prog_8_method_63_code 76 = .ok (.iload_n 3, 1) := by decide +kernel
theorem d_157_77 : decode prog_8_method_63_code 77 = .ok (.iconst 1, 1) := by decide +kernel
theorem d_157_78 : decode prog_8_method_63_code 78 = .ok (.iadd, 1) := by decide +kernel
theorem d_157_79 : decode prog_8_method_63_code 79 = .ok (.iastore, 1) := by decide +kernel
theorem d_157_80 : decode prog_8_method_63_code 80 = .ok (.iinc 3 1, 3) := by decide +kernel
theorem d_157_83 : decode prog_8_method_63_code 83 = .ok (.goto (-28), 3) := by decide +kernel
theorem d_157_86 : decode prog_8_method_63_code 86 = .ok (.iload_n 2, 1) := by decide +kernel
theorem d_157_87 : decode prog_8_method_63_code 87 = .ok (.ifCond .lt 40, 3) := by decide +kernel
theorem d_157_90 : decode prog_8_method_63_code 90 = .ok (.aload_n 0, 1) := by decide +kernel
theorem d_157_91 : decode prog_8_method_63_code 91 = .ok (.getfield 219, 3) := by decide +kernel
theorem d_157_94 : decode prog_8_method_63_code 94 = .ok (.ifCond .ne 33, 3) := by decide +kernel
theorem d_157_97 : decode prog_8_method_63_code 97 = .ok (.aload_n 0, 1) := by decide +kernel
theorem d_157_98 : decode prog_8_method_63_code 98 = .ok (.getfield 49, 3) := by decide +kernel
theorem d_157_101 : decode prog_8_method_63_code 101 = .ok (.iload_n 1, 1) := by decide +kernel
theorem d_157_102 : decode prog_8_method_63_code 102 = .ok (.iaload, 1) := by decide +kernel
theorem d_157_103 : decode prog_8_method_63_code 103 = .ok (.ifCond .lt 24, 3) := by decide +kernel
theorem d_157_106 : decode prog_8_method_63_code 106 = .ok (.aload_n 0, 1) := by decide +kernel
theorem d_157_107 : decode prog_8_method_63_code 107 = .ok (.getfield 49, 3) := by decide +kernel
theorem d_157_110 : decode prog_8_method_63_code 110 = .ok (.iload_n 1, 1) := by decide +kernel
theorem d_157_111 : decode prog_8_method_63_code 111 = .ok (.iaload, 1) := by decide +kernel
theorem d_157_112 : decode prog_8_method_63_code 112 = .ok (.ifCond .eq 11, 3) := by decide +kernel
theorem d_157_115 : decode prog_8_method_63_code 115 = .ok (.aload_n 0, 1) := by decide +kernel
theorem d_157_116 : decode prog_8_method_63_code 116 = .ok (.iload_n 1, 1) := by decide +kernel
theorem d_157_117 : decode prog_8_method_63_code 117 = .ok (.invokevirtual 96, 3) := by decide +kernel
theorem d_157_120 : decode prog_8_method_63_code 120 = .ok (.ifCond .le 7, 3) := by decide +kernel
theorem d_157_123 : decode prog_8_method_63_code 123 = .ok (.iconst 1, 1) := by decide +kernel
theorem d_157_124 : decode prog_8_method_63_code 124 = .ok (.goto 4, 3) := by decide +kernel
theorem d_157_127 : decode prog_8_method_63_code 127 = .ok (.iconst 0, 1) := by decide +kernel
theorem d_157_128 : decode prog_8_method_63_code 128 = .ok (.ireturn, 1) := by decide +kernel
theorem d_158_0 : decode prog_8_method_56_code 0 = .ok (.iconst 0, 1) := by decide +kernel
theorem d_158_1 : decode prog_8_method_56_code 1 = .ok (.istore_n 2, 1) := by decide +kernel
theorem d_158_2 : decode prog_8_method_56_code 2 = .ok (.aload_n 0, 1) := by decide +kernel
theorem d_158_3 : decode prog_8_method_56_code 3 = .ok (.aload_n 0, 1) := by decide +kernel
theorem d_158_4 : decode prog_8_method_56_code 4 = .ok (.getfield 219, 3) := by decide +kernel
theorem d_158_7 : decode prog_8_method_56_code 7 = .ok (.ifCond .ne 16, 3) := by decide +kernel
theorem d_158_10 : decode prog_8_method_56_code 10 = .ok (.aload_n 0, 1) := by decide +kernel
theorem d_158_11 : decode prog_8_method_56_code 11 = .ok (.getfield 222, 3) := by decide +kernel
theorem d_158_14 : decode prog_8_method_56_code 14 = .ok (.iload_n 1, 1) := by decide +kernel
theorem d_158_15 : decode prog_8_method_56_code 15 = .ok (.iadd, 1) := by decide +kernel
theorem d_158_16 : decode prog_8_method_56_code 16 = .ok (.aload_n 0, 1) := by decide +kernel
theorem d_158_17 : decode prog_8_method_56_code 17 = .ok (.getfield 214, 3) := by decide +kernel
theorem d_158_20 : decode prog_8_method_56_code 20 = .ok (.if_icmp .le 7, 3) := by decide +kernel
theorem d_158_23 : decode prog_8_method_56_code 23 = .ok (.iconst 1, 1) := by decide +kernel
theorem d_158_24 : decode prog_8_method_56_code 24 = .ok (.goto 4, 3) := by decide +kernel
theorem d_158_27 : decode prog_8_method_56_code 27 = .ok (.iconst 0, 1) := by decide +kernel
theorem d_158_28 : decode prog_8_method_56_code 28 = .ok (.putfield 219, 3) := by decide +kernel
theorem d_158_31 : decode prog_8_method_56_code 31 = .ok (.iconst 0, 1) := by decide +kernel
theorem d_158_32 : decode prog_8_method_56_code 32 = .ok (.istore_n 3, 1) := by decide +kernel
theorem d_158_33 : decode prog_8_method_56_code 33 = .ok (.iload_n 3, 1) := by decide +kernel
theorem d_158_34 : decode prog_8_method_56_code 34 = .ok (.iload_n 1, 1) := by decide +kernel
theorem d_158_35 : decode prog_8_method_56_code 35 = .ok (.if_icmp .ge 37, 3) := by decide +kernel
theorem d_158_38 : decode prog_8_method_56_code 38 = .ok (.iload_n 2, 1) := by decide +kernel
theorem d_158_39 : decode prog_8_method_56_code 39 = .ok (.bipush 8, 2) := by decide +kernel
theorem d_158_41 : decode prog_8_method_56_code 41 = .ok (.ishl, 1) := by decide +kernel
theorem d_158_42 : decode prog_8_method_56_code 42 = .ok (.aload_n 0, 1) := by decide +kernel
theorem d_158_43 : decode prog_8_method_56_code 43 = .ok (.getfield 219, 3) := by decide +kernel
theorem d_158_46 : decode prog_8_method_56_code 46 = .ok (.ifCond .eq 7, 3) := by decide +kernel
theorem d_158_49 : decode prog_8_method_56_code 49 = .ok (.iconst 0, 1) := by decide +kernel
theorem d_158_50 : decode prog_8_method_56_code 50 = .ok (.goto 14, 3) := by decide +kernel
theorem d_158_53 : decode prog_8_method_56_code 53 = .ok (.aload_n 0, 1) := by decide +kernel
theorem d_158_54 : decode prog_8_method_56_code 54 = .ok (.getfield 67, 3) := by decide +kernel
theorem d_158_57 : decode prog_8_method_56_code 57 = .ok (.aload_n 0, 1) := by decide +kernel
theorem d_158_58 : decode prog_8_method_56_code 58 = .ok (.getfield 222, 3) := by decide +kernel
theorem d_158_61 : decode prog_8_method_56_code 61 = .ok (.iload_n 3, 1) := by decide +kernel
theorem d_158_62 : decode prog_8_method_56_code 62 = .ok (.iadd, 1) := by decide +kernel
theorem d_158_63 : decode prog_8_method_56_code 63 = .ok (.iaload, 1) := by decide +kernel
theorem d_158_64 : decode prog_8_method_56_code 64 = .ok (.ior, 1) := by decide +kernel
theorem d_158_65 : decode prog_8_method_56_code 65 = .ok (.istore_n 2, 1) := by decide +kernel
theorem d_158_66 : decode prog_8_method_56_code 66 = .ok (.iinc 3 1, 3) := by decide +kernel
theorem d_158_69 : decode prog_8_method_56_code 69 = .ok (.goto (-36), 3) := by decide +kernel
theorem d_158_72 : decode prog_8_method_56_code 72 = .ok (.aload_n 0, 1) := by decide +kernel
theorem d_158_73 : decode prog_8_method_56_code 73 = .ok (.aload_n 0, 1) := by decide +kernel
theorem d_158_74 : decode prog_8_method_56_code 74 = .ok (.getfield 222, 3) := by decide +kernel
theorem d_158_77 : decode prog_8_method_56_code 77 = .ok (.iload_n 1, 1) := by decide +kernel
theorem d_158_78 : decode prog_8_method_56_code 78 = .ok (.iadd, 1) := by decide +kernel
theorem d_158_79 : decode prog_8_method_56_code 79 = .ok (.putfield 222, 3) := by decide +kernel
theorem d_158_82 : decode prog_8_method_56_code 82 = .ok (.iload_n 2, 1) := by decide +kernel
theorem d_158_83 : decode prog_8_method_56_code 83 = .ok (.ireturn, 1) := by decide +kernel
theorem d_159_0 : decode prog_8_method_61_code 0 = .ok (.aload_n 0, 1) := by decide +kernel
theorem d_159_1 : decode prog_8_method_61_code 1 = .ok (.iconst 4, 1) := by decide +kernel
theorem d_159_2 : decode prog_8_method_61_code 2 = .ok (.invokevirtual 228, 3) := by decide +kernel
theorem d_159_5 : decode prog_8_method_61_code 5 = .ok (.istore_n 2, 1) := by decide +kernel
theorem d_159_6 : decode prog_8_method_61_code 6 = .ok (.aload_n 0, 1) := by decide +kernel
theorem d_159_7 : decode prog_8_method_61_code 7 = .ok (.getfield 7, 3) := by decide +kernel
theorem d_159_10 : decode prog_8_method_61_code 10 = .ok (.iload_n 1, 1) := by decide +kernel
theorem d_159_11 : decode prog_8_method_61_code 11 = .ok (.iconst 0, 1) := by decide +kernel
theorem d_159_12 : decode prog_8_method_61_code 12 = .ok (.iastore, 1) := by decide +kernel
theorem d_159_13 : decode prog_8_method_61_code 13 = .ok (.iconst 0, 1) := by decide +kernel
theorem d_159_14 : decode prog_8_method_61_code 14 = .ok (.istore_n 3, 1) := by decide +kernel
theorem d_159_15 : decode prog_8_method_61_code 15 = .ok (.iload_n 3, 1) := by decide +kernel
theorem d_159_16 : decode prog_8_method_61_code 16 = .ok (.iload_n 2, 1) := by decide +kernel
theorem d_159_17 : decode prog_8_method_61_code 17 = .ok (.if_icmp .ge 88, 3) := by decide +kernel
theorem d_159_20 : decode prog_8_method_61_code 20 = .ok (.aload_n 0, 1) := by decide +kernel
theorem d_159_21 : decode prog_8_method_61_code 21 = .ok (.invokevirtual 231, 3) := by decide +kernel
theorem d_159_24 : decode prog_8_method_61_code 24 = .ok (.istore 4, 2) := by decide +kernel
theorem d_159_26 : decode prog_8_method_61_code 26 = .ok (.aload_n 0, 1) := by decide +kernel
theorem d_159_27 : decode prog_8_method_61_code 27 = .ok (.iconst 4, 1) := by decide +kernel
theorem d_159_28 : decode prog_8_method_61_code 28 = .ok (.invokevirtual 225, 3) := by decide +kernel
theorem d_159_31 : decode prog_8_method_61_code 31 = .ok (.istore 5, 2) := by decide +kernel
theorem d_159_33 : decode prog_8_method_61_code 33 = .ok (.iload 4, 2) := by decide +kernel
theorem d_159_35 : decode prog_8_method_61_code 35 = .ok (.invokestatic 144, 3) := by decide +kernel
theorem d_159_38 : decode prog_8_method_61_code 38 = .ok (.ifCond .eq 26, 3) := by decide +kernel
theorem d_159_41 : decode prog_8_method_61_code 41 = .ok (.iload 5, 2) := by decide +kernel
theorem d_159_43 : decode prog_8_method_61_code 43 = .ok (.ifCond .lt 21, 3) := by decide +kernel
theorem d_159_46 : decode prog_8_method_61_code 46 = .ok (.iload 5, 2) := by decide +kernel
theorem d_159_48 : decode prog_8_method_61_code 48 = .ok (.bipush 8, 2) := by decide +kernel
theorem d_159_50 : decode prog_8_method_61_code 50 = .ok (.if_icmp .gt 14, 3) := by decide +kernel
theorem d_159_53 : decode prog_8_method_61_code 53 = .ok (.aload_n 0, 1) := by decide +kernel
theorem d_159_54 : decode prog_8_method_61_code 54 = .ok (.iload_n 1, 1) := by decide +kernel
theorem d_159_55 : decode prog_8_method_61_code 55 = .ok (.iload 4, 2) := by decide +kernel
theorem d_159_57 : decode prog_8_method_61_code 57 = .ok (.iconst (-1), 1) := by decide +kernel
theorem d_159_58 : decode prog_8_method_61_code 58 = .ok (.invokevirtual 148, 3) := by decide +kernel
theorem d_159_61 : decode prog_8_method_61_code 61 = .ok (.ifCond .eq 5, 3) := by decide +kernel
theorem d_159_64 : decode prog_8_method_61_code 64 = .ok (.iconst 0, 1) := by decide +kernel
theorem d_159_65 : decode prog_8_method_61_code 65 = .ok (.ireturn, 1) := by decide +kernel
theorem d_159_66 : decode prog_8_method_61_code 66 = .ok (.aload_n 0, 1) := by decide +kernel
theorem d_159_67 : decode prog_8_method_61_code 67 = .ok (.getfield 13, 3) := by decide +kernel
theorem d_159_70 : decode prog_8_method_61_code 70 = .ok (.iconst 4, 1) := by decide +kernel
theorem d_159_71 : decode prog_8_method_61_code 71 = .ok (.iload_n 1, 1) := by decide +kernel
theorem d_159_72 : decode prog_8_method_61_code 72 = .ok (.imul, 1) := by decide +kernel
theorem d_159_73 : decode prog_8_method_61_code 73 = .ok (.iload_n 3, 1) := by decide +kernel
theorem d_159_74 : decode prog_8_method_61_code 74 = .ok (.iadd, 1) := by decide +kernel
theorem d_159_75 : decode prog_8_method_61_code 75 = .ok (.iload 4, 2) := by decide +kernel
theorem d_159_77 : decode prog_8_method_61_code 77 = .ok (.iastore, 1) := by decide +kernel
theorem d_159_78 : decode prog_8_method_61_code 78 = .ok (.aload_n 0, 1) := by decide +kernel
theorem d_159_79 : decode prog_8_method_61_code 79 = .ok (.getfield 16, 3) := by decide +kernel
theorem d_159_82 : decode prog_8_method_61_code 82 = .ok (.iconst 4, 1) := by decide +kernel
theorem d_159_83 : decode prog_8_method_61_code 83 = .ok (.iload_n 1, 1) := by decide +kernel
theorem d_159_84 : decode prog_8_method_61_code 84 = .ok (.imul, 1) := by decide +kernel
theorem d_159_85 : decode prog_8_method_61_code 85 = .ok (.iload_n 3, 1) := by decide +kernel
theorem d_159_86 : decode prog_8_method_61_code 86 = .ok (.iadd, 1) := by decide +kernel
theorem d_159_87 : decode prog_8_method_61_code 87 = .ok (.iload 5, 2) := by decide +kernel
theorem d_159_89 : decode prog_8_method_61_code 89 = .ok (.iastore, 1) := by decide +kernel
theorem d_159_90 : decode prog_8_method_61_code 90 = .ok (.aload_n 0, 1) := by decide +kernel
theorem d_159_91 : decode prog_8_method_61_code 91 = .ok (.getfield 7, 3) := by decide +kernel
theorem d_159_94 : decode prog_8_method_61_code 94 = .ok (.iload_n 1, 1) := by decide +kernel
theorem d_159_95 : decode prog_8_method_61_code 95 = .ok (.iload_n 3, 1) := by decide +kernel
theorem d_159_96 : decode prog_8_method_61_code 96 = .ok (.iconst 1, 1) := by decide +kernel
theorem d_159_97 : decode prog_8_method_61_code 97 = .ok (.iadd, 1) := by decide +kernel
theorem d_159_98 : decode prog_8_method_61_code 98 = .ok (.iastore, 1) := by decide +kernel
theorem d_159_99 : decode prog_8_method_61_code 99 = .ok (.iinc 3 1, 3) := by decide +kernel
theorem d_159_102 : decode prog_8_method_61_code 102 = .ok (.goto (-87), 3) := by decide +kernel
theorem d_159_105 : decode prog_8_method_61_code 105 = .ok (.iload_n 2, 1) := by decide +kernel
theorem d_159_106 : decode prog_8_method_61_code 106 = .ok (.ifCond .lt 16, 3) := by decide +kernel
theorem d_159_109 : decode prog_8_method_61_code 109 = .ok (.aload_n 0, 1) := by decide +kernel
theorem d_159_110 : decode prog_8_method_61_code 110 = .ok (.iload_n 1, 1) := by decide +kernel
theorem d_159_111 : decode prog_8_method_61_code 111 = .ok (.invokevirtual 152, 3) := by decide +kernel
theorem d_159_114 : decode prog_8_method_61_code 114 = .ok (.iconst 1, 1) := by decide +kernel
theorem d_159_115 : decode prog_8_method_61_code 115 = .ok (.if_icmp .gt 7, 3) := by decide +kernel
theorem d_159_118 : decode prog_8_method_61_code 118 = .ok (.iconst 1, 1) := by decide +kernel
theorem d_159_119 : decode prog_8_method_61_code 119 = .ok (.goto 4, 3) := by decide +kernel
theorem d_159_122 : decode prog_8_method_61_code 122 = .ok (.iconst 0, 1) := by decide +kernel
theorem d_159_123 : decode prog_8_method_61_code 123 = .ok (.ireturn, 1) := by decide +kernel
theorem d_160_0 : decode prog_8_method_59_code 0 = .ok (.aload_n 0, 1) := by decide +kernel
theorem d_160_1 : decode prog_8_method_59_code 1 = .ok (.iconst 4, 1) := by decide +kernel
theorem d_160_2 : decode prog_8_method_59_code 2 = .ok (.invokevirtual 225, 3) := by decide +kernel
theorem d_160_5 : decode prog_8_method_59_code 5 = .ok (.pop, 1) := by decide +kernel
theorem d_160_6 : decode prog_8_method_59_code 6 = .ok (.aload_n 0, 1) := by decide +kernel
theorem d_160_7 : decode prog_8_method_59_code 7 = .ok (.iconst 4, 1) := by decide +kernel
theorem d_160_8 : decode prog_8_method_59_code 8 = .ok (.invokevirtual 225, 3) := by decide +kernel
theorem d_160_11 : decode prog_8_method_59_code 11 = .ok (.istore_n 2, 1) := by decide +kernel
theorem d_160_12 : decode prog_8_method_59_code 12 = .ok (.aload_n 0, 1) := by decide +kernel
theorem d_160_13 : decode prog_8_method_59_code 13 = .ok (.getfield 219, 3) := by decide +kernel
theorem d_160_16 : decode prog_8_method_59_code 16 = .ok (.ifCond .ne 12, 3) := by decide +kernel
theorem d_160_19 : decode prog_8_method_59_code 19 = .ok (.iload_n 2, 1) := by decide +kernel
theorem d_160_20 : decode prog_8_method_59_code 20 = .ok (.ifCond .lt 8, 3) := by decide +kernel
end
section
theorem d_160_23 : decode prog_8_method_59_code 23 = .ok (.iload_n 2, 1) := by decide +kernel
theorem d_160_24 : decode prog_8_method_59_code 24 = .ok (.iload_n 1, 1) := by decide +kernel
theorem d_160_25 : decode prog_8_method_59_code 25 = .ok (.if_icmp .le 7, 3) := by decide +kernel
theorem d_160_28 : decode prog_8_method_59_code 28 = .ok (.iconst (-1), 1) := by decide +kernel
theorem d_160_29 : decode prog_8_method_59_code 29 = .ok (.goto 4, 3) := by decide +kernel
theorem d_160_32 : decode prog_8_method_59_code 32 = .ok (.iload_n 2, 1) := by decide +kernel
theorem d_160_33 : decode prog_8_method_59_code 33 = .ok (.ireturn, 1) := by decide +kernel
theorem d_161_0 : decode prog_8_method_58_code 0 = .ok (.aload_n 0, 1) := by decide +kernel
theorem d_161_1 : decode prog_8_method_58_code 1 = .ok (.iconst 4, 1) := by decide +kernel
theorem d_161_2 : decode prog_8_method_58_code 2 = .ok (.invokevirtual 225, 3) := by decide +kernel
theorem d_161_5 : decode prog_8_method_58_code 5 = .ok (.pop, 1) := by decide +kernel
theorem d_161_6 : decode prog_8_method_58_code 6 = .ok (.aload_n 0, 1) := by decide +kernel
theorem d_161_7 : decode prog_8_method_58_code 7 = .ok (.iconst 4, 1) := by decide +kernel
theorem d_161_8 : decode prog_8_method_58_code 8 = .ok (.invokevirtual 225, 3) := by decide +kernel
theorem d_161_11 : decode prog_8_method_58_code 11 = .ok (.bipush 24, 2) := by decide +kernel
theorem d_161_13 : decode prog_8_method_58_code 13 = .ok (.ishr, 1) := by decide +kernel
theorem d_161_14 : decode prog_8_method_58_code 14 = .ok (.sipush 255, 3) := by decide +kernel
theorem d_161_17 : decode prog_8_method_58_code 17 = .ok (.iand, 1) := by decide +kernel
theorem d_161_18 : decode prog_8_method_58_code 18 = .ok (.ireturn, 1) := by decide +kernel
theorem d_162_0 : decode prog_8_method_60_code 0 = .ok (.aload_n 0, 1) := by decide +kernel
theorem d_162_1 : decode prog_8_method_60_code 1 = .ok (.iconst 3, 1) := by decide +kernel
theorem d_162_2 : decode prog_8_method_60_code 2 = .ok (.invokevirtual 228, 3) := by decide +kernel
theorem d_162_5 : decode prog_8_method_60_code 5 = .ok (.istore_n 3, 1) := by decide +kernel
theorem d_162_6 : decode prog_8_method_60_code 6 = .ok (.aload_n 0, 1) := by decide +kernel
theorem d_162_7 : decode prog_8_method_60_code 7 = .ok (.getfield 34, 3) := by decide +kernel
theorem d_162_10 : decode prog_8_method_60_code 10 = .ok (.bipush 6, 2) := by decide +kernel
theorem d_162_12 : decode prog_8_method_60_code 12 = .ok (.iload_n 1, 1) := by decide +kernel
theorem d_162_13 : decode prog_8_method_60_code 13 = .ok (.imul, 1) := by decide +kernel
theorem d_162_14 : decode prog_8_method_60_code 14 = .ok (.iload_n 2, 1) := by decide +kernel
theorem d_162_15 : decode prog_8_method_60_code 15 = .ok (.iadd, 1) := by decide +kernel
theorem d_162_16 : decode prog_8_method_60_code 16 = .ok (.iload_n 3, 1) := by decide +kernel
theorem d_162_17 : decode prog_8_method_60_code 17 = .ok (.ifCond .ge 7, 3) := by decide +kernel
theorem d_162_20 : decode prog_8_method_60_code 20 = .ok (.iconst 0, 1) := by decide +kernel
theorem d_162_21 : decode prog_8_method_60_code 21 = .ok (.goto 4, 3) := by decide +kernel
theorem d_162_24 : decode prog_8_method_60_code 24 = .ok (.iload_n 3, 1) := by decide +kernel
theorem d_162_25 : decode prog_8_method_60_code 25 = .ok (.iastore, 1) := by decide +kernel
theorem d_162_26 : decode prog_8_method_60_code 26 = .ok (.iconst 0, 1) := by decide +kernel
theorem d_162_27 : decode prog_8_method_60_code 27 = .ok (.istore 4, 2) := by decide +kernel
theorem d_162_29 : decode prog_8_method_60_code 29 = .ok (.iload 4, 2) := by decide +kernel
theorem d_162_31 : decode prog_8_method_60_code 31 = .ok (.iload_n 3, 1) := by decide +kernel
theorem d_162_32 : decode prog_8_method_60_code 32 = .ok (.if_icmp .ge 178, 3) := by decide +kernel
theorem d_162_35 : decode prog_8_method_60_code 35 = .ok (.bipush 18, 2) := by decide +kernel
theorem d_162_37 : decode prog_8_method_60_code 37 = .ok (.iload_n 1, 1) := by decide +kernel
theorem d_162_38 : decode prog_8_method_60_code 38 = .ok (.imul, 1) := by decide +kernel
theorem d_162_39 : decode prog_8_method_60_code 39 = .ok (.iconst 3, 1) := by decide +kernel
theorem d_162_40 : decode prog_8_method_60_code 40 = .ok (.iload_n 2, 1) := by decide +kernel
theorem d_162_41 : decode prog_8_method_60_code 41 = .ok (.imul, 1) := by decide +kernel
theorem d_162_42 : decode prog_8_method_60_code 42 = .ok (.iadd, 1) := by decide +kernel
theorem d_162_43 : decode prog_8_method_60_code 43 = .ok (.iload 4, 2) := by decide +kernel
theorem d_162_45 : decode prog_8_method_60_code 45 = .ok (.iadd, 1) := by decide +kernel
theorem d_162_46 : decode prog_8_method_60_code 46 = .ok (.istore 5, 2) := by decide +kernel
theorem d_162_48 : decode prog_8_method_60_code 48 = .ok (.aload_n 0, 1) := by decide +kernel
theorem d_162_49 : decode prog_8_method_60_code 49 = .ok (.getfield 37, 3) := by decide +kernel
theorem d_162_52 : decode prog_8_method_60_code 52 = .ok (.iload 5, 2) := by decide +kernel
theorem d_162_54 : decode prog_8_method_60_code 54 = .ok (.aload_n 0, 1) := by decide +kernel
theorem d_162_55 : decode prog_8_method_60_code 55 = .ok (.invokevirtual 231, 3) := by decide +kernel
theorem d_162_58 : decode prog_8_method_60_code 58 = .ok (.iastore, 1) := by decide +kernel
theorem d_162_59 : decode prog_8_method_60_code 59 = .ok (.aload_n 0, 1) := by decide +kernel
theorem d_162_60 : decode prog_8_method_60_code 60 = .ok (.getfield 40, 3) := by decide +kernel
theorem d_162_63 : decode prog_8_method_60_code 63 = .ok (.iload 5, 2) := by decide +kernel
theorem d_162_65 : decode prog_8_method_60_code 65 = .ok (.aload_n 0, 1) := by decide +kernel
theorem d_162_66 : decode prog_8_method_60_code 66 = .ok (.iconst 4, 1) := by decide +kernel
theorem d_162_67 : decode prog_8_method_60_code 67 = .ok (.invokevirtual 225, 3) := by decide +kernel
theorem d_162_70 : decode prog_8_method_60_code 70 = .ok (.iastore, 1) := by decide +kernel
theorem d_162_71 : decode prog_8_method_60_code 71 = .ok (.aload_n 0, 1) := by decide +kernel
theorem d_162_72 : decode prog_8_method_60_code 72 = .ok (.iconst 4, 1) := by decide +kernel
theorem d_162_73 : decode prog_8_method_60_code 73 = .ok (.invokevirtual 225, 3) := by decide +kernel
theorem d_162_76 : decode prog_8_method_60_code 76 = .ok (.pop, 1) := by decide +kernel
theorem d_162_77 : decode prog_8_method_60_code 77 = .ok (.aload_n 0, 1) := by decide +kernel
theorem d_162_78 : decode prog_8_method_60_code 78 = .ok (.getfield 37, 3) := by decide +kernel
theorem d_162_81 : decode prog_8_method_60_code 81 = .ok (.iload 5, 2) := by decide +kernel
theorem d_162_83 : decode prog_8_method_60_code 83 = .ok (.iaload, 1) := by decide +kernel
theorem d_162_84 : decode prog_8_method_60_code 84 = .ok (.invokestatic 144, 3) := by decide +kernel
theorem d_162_87 : decode prog_8_method_60_code 87 = .ok (.ifCond .eq 25, 3) := by decide +kernel
theorem d_162_90 : decode prog_8_method_60_code 90 = .ok (.aload_n 0, 1) := by decide +kernel
theorem d_162_91 : decode prog_8_method_60_code 91 = .ok (.getfield 40, 3) := by decide +kernel
theorem d_162_94 : decode prog_8_method_60_code 94 = .ok (.iload 5, 2) := by decide +kernel
theorem d_162_96 : decode prog_8_method_60_code 96 = .ok (.iaload, 1) := by decide +kernel
theorem d_162_97 : decode prog_8_method_60_code 97 = .ok (.iconst 1, 1) := by decide +kernel
theorem d_162_98 : decode prog_8_method_60_code 98 = .ok (.if_icmp .lt 14, 3) := by decide +kernel
theorem d_162_101 : decode prog_8_method_60_code 101 = .ok (.aload_n 0, 1) := by decide +kernel
theorem d_162_102 : decode prog_8_method_60_code 102 = .ok (.getfield 40, 3) := by decide +kernel
theorem d_162_105 : decode prog_8_method_60_code 105 = .ok (.iload 5, 2) := by decide +kernel
theorem d_162_107 : decode prog_8_method_60_code 107 = .ok (.iaload, 1) := by decide +kernel
theorem d_162_108 : decode prog_8_method_60_code 108 = .ok (.iconst 4, 1) := by decide +kernel
theorem d_162_109 : decode prog_8_method_60_code 109 = .ok (.if_icmp .le 5, 3) := by decide +kernel
theorem d_162_112 : decode prog_8_method_60_code 112 = .ok (.iconst 0, 1) := by decide +kernel
theorem d_162_113 : decode prog_8_method_60_code 113 = .ok (.ireturn, 1) := by decide +kernel
theorem d_162_114 : decode prog_8_method_60_code 114 = .ok (.iconst 0, 1) := by decide +kernel
theorem d_162_115 : decode prog_8_method_60_code 115 = .ok (.istore 6, 2) := by decide +kernel
theorem d_162_117 : decode prog_8_method_60_code 117 = .ok (.iload 6, 2) := by decide +kernel
theorem d_162_119 : decode prog_8_method_60_code 119 = .ok (.iload 4, 2) := by decide +kernel
theorem d_162_121 : decode prog_8_method_60_code 121 = .ok (.if_icmp .ge 33, 3) := by decide +kernel
theorem d_162_124 : decode prog_8_method_60_code 124 = .ok (.aload_n 0, 1) := by decide +kernel
theorem d_162_125 : decode prog_8_method_60_code 125 = .ok (.getfield 37, 3) := by decide +kernel
theorem d_162_128 : decode prog_8_method_60_code 128 = .ok (.iload 5, 2) := by decide +kernel
theorem d_162_130 : decode prog_8_method_60_code 130 = .ok (.iconst 1, 1) := by decide +kernel
theorem d_162_131 : decode prog_8_method_60_code 131 = .ok (.isub, 1) := by decide +kernel
theorem d_162_132 : decode prog_8_method_60_code 132 = .ok (.iload 6, 2) := by decide +kernel
theorem d_162_134 : decode prog_8_method_60_code 134 = .ok (.isub, 1) := by decide +kernel
theorem d_162_135 : decode prog_8_method_60_code 135 = .ok (.iaload, 1) := by decide +kernel
theorem d_162_136 : decode prog_8_method_60_code 136 = .ok (.aload_n 0, 1) := by decide +kernel
theorem d_162_137 : decode prog_8_method_60_code 137 = .ok (.getfield 37, 3) := by decide +kernel
theorem d_162_140 : decode prog_8_method_60_code 140 = .ok (.iload 5, 2) := by decide +kernel
theorem d_162_142 : decode prog_8_method_60_code 142 = .ok (.iaload, 1) := by decide +kernel
theorem d_162_143 : decode prog_8_method_60_code 143 = .ok (.if_icmp .ne 5, 3) := by decide +kernel
theorem d_162_146 : decode prog_8_method_60_code 146 = .ok (.iconst 0, 1) := by decide +kernel
theorem d_162_147 : decode prog_8_method_60_code 147 = .ok (.ireturn, 1) := by decide +kernel
theorem d_162_148 : decode prog_8_method_60_code 148 = .ok (.iinc 6 1, 3) := by decide +kernel
theorem d_162_151 : decode prog_8_method_60_code 151 = .ok (.goto (-34), 3) := by decide +kernel
theorem d_162_154 : decode prog_8_method_60_code 154 = .ok (.aload_n 0, 1) := by decide +kernel
theorem d_162_155 : decode prog_8_method_60_code 155 = .ok (.getfield 43, 3) := by decide +kernel
theorem d_162_158 : decode prog_8_method_60_code 158 = .ok (.iload 5, 2) := by decide +kernel
theorem d_162_160 : decode prog_8_method_60_code 160 = .ok (.aload_n 0, 1) := by decide +kernel
theorem d_162_161 : decode prog_8_method_60_code 161 = .ok (.aload_n 0, 1) := by decide +kernel
theorem d_162_162 : decode prog_8_method_60_code 162 = .ok (.getfield 40, 3) := by decide +kernel
theorem d_162_165 : decode prog_8_method_60_code 165 = .ok (.iload 5, 2) := by decide +kernel
theorem d_162_167 : decode prog_8_method_60_code 167 = .ok (.iaload, 1) := by decide +kernel
theorem d_162_168 : decode prog_8_method_60_code 168 = .ok (.invokevirtual 235, 3) := by decide +kernel
theorem d_162_171 : decode prog_8_method_60_code 171 = .ok (.iastore, 1) := by decide +kernel
theorem d_162_172 : decode prog_8_method_60_code 172 = .ok (.aload_n 0, 1) := by decide +kernel
theorem d_162_173 : decode prog_8_method_60_code 173 = .ok (.getfield 46, 3) := by decide +kernel
theorem d_162_176 : decode prog_8_method_60_code 176 = .ok (.iload 5, 2) := by decide +kernel
theorem d_162_178 : decode prog_8_method_60_code 178 = .ok (.aload_n 0, 1) := by decide +kernel
theorem d_162_179 : decode prog_8_method_60_code 179 = .ok (.aload_n 0, 1) := by decide +kernel
theorem d_162_180 : decode prog_8_method_60_code 180 = .ok (.getfield 40, 3) := by decide +kernel
theorem d_162_183 : decode prog_8_method_60_code 183 = .ok (.iload 5, 2) := by decide +kernel
theorem d_162_185 : decode prog_8_method_60_code 185 = .ok (.iaload, 1) := by decide +kernel
theorem d_162_186 : decode prog_8_method_60_code 186 = .ok (.invokevirtual 235, 3) := by decide +kernel
theorem d_162_189 : decode prog_8_method_60_code 189 = .ok (.iastore, 1) := by decide +kernel
theorem d_162_190 : decode prog_8_method_60_code 190 = .ok (.aload_n 0, 1) := by decide +kernel
theorem d_162_191 : decode prog_8_method_60_code 191 = .ok (.aload_n 0, 1) := by decide +kernel
theorem d_162_192 : decode prog_8_method_60_code 192 = .ok (.getfield 222, 3) := by decide +kernel
theorem d_162_195 : decode prog_8_method_60_code 195 = .ok (.iconst 3, 1) := by decide +kernel
theorem d_162_196 : decode prog_8_method_60_code 196 = .ok (.iadd, 1) := by decide +kernel
theorem d_162_197 : decode prog_8_method_60_code 197 = .ok (.iconst 4, 1) := by decide +kernel
theorem d_162_198 : decode prog_8_method_60_code 198 = .ok (.idiv, 1) := by decide +kernel
theorem d_162_199 : decode prog_8_method_60_code 199 = .ok (.iconst 4, 1) := by decide +kernel
theorem d_162_200 : decode prog_8_method_60_code 200 = .ok (.imul, 1) := by decide +kernel
theorem d_162_201 : decode prog_8_method_60_code 201 = .ok (.putfield 222, 3) := by decide +kernel
theorem d_162_204 : decode prog_8_method_60_code 204 = .ok (.iinc 4 1, 3) := by decide +kernel
theorem d_162_207 : decode prog_8_method_60_code 207 = .ok (.goto (-178), 3) := by decide +kernel
theorem d_162_210 : decode prog_8_method_60_code 210 = .ok (.iload_n 3, 1) := by decide +kernel
theorem d_162_211 : decode prog_8_method_60_code 211 = .ok (.ifCond .lt 7, 3) := by decide +kernel
theorem d_162_214 : decode prog_8_method_60_code 214 = .ok (.iconst 1, 1) := by decide +kernel
theorem d_162_215 : decode prog_8_method_60_code 215 = .ok (.goto 4, 3) := by decide +kernel
theorem d_162_218 : decode prog_8_method_60_code 218 = .ok (.iconst 0, 1) := by decide +kernel
theorem d_162_219 : decode prog_8_method_60_code 219 = .ok (.ireturn, 1) := by decide +kernel
theorem d_163_0 : decode prog_8_method_57_code 0 = .ok (.aload_n 0, 1) := by decide +kernel
theorem d_163_1 : decode prog_8_method_57_code 1 = .ok (.iload_n 1, 1) := by decide +kernel
theorem d_163_2 : decode prog_8_method_57_code 2 = .ok (.invokestatic 79, 3) := by decide +kernel
theorem d_163_5 : decode prog_8_method_57_code 5 = .ok (.invokevirtual 225, 3) := by decide +kernel
theorem d_163_8 : decode prog_8_method_57_code 8 = .ok (.istore_n 2, 1) := by decide +kernel
theorem d_163_9 : decode prog_8_method_57_code 9 = .ok (.iload_n 1, 1) := by decide +kernel
theorem d_163_10 : decode prog_8_method_57_code 10 = .ok (.iconst 1, 1) := by decide +kernel
theorem d_163_11 : decode prog_8_method_57_code 11 = .ok (.if_icmp .ne 8, 3) := by decide +kernel
theorem d_163_14 : decode prog_8_method_57_code 14 = .ok (.iload_n 2, 1) := by decide +kernel
theorem d_163_15 : decode prog_8_method_57_code 15 = .ok (.i2b, 1) := by decide +kernel
theorem d_163_16 : decode prog_8_method_57_code 16 = .ok (.goto 14, 3) := by decide +kernel
theorem d_163_19 : decode prog_8_method_57_code 19 = .ok (.iload_n 1, 1) := by decide +kernel
theorem d_163_20 : decode prog_8_method_57_code 20 = .ok (.iconst 3, 1) := by decide +kernel
theorem d_163_21 : decode prog_8_method_57_code 21 = .ok (.if_icmp .ne 8, 3) := by decide +kernel
theorem d_163_24 : decode prog_8_method_57_code 24 = .ok (.iload_n 2, 1) := by decide +kernel
theorem d_163_25 : decode prog_8_method_57_code 25 = .ok (.i2s, 1) := by decide +kernel
theorem d_163_26 : decode prog_8_method_57_code 26 = .ok (.goto 4, 3) := by decide +kernel
theorem d_163_29 : decode prog_8_method_57_code 29 = .ok (.iload_n 2, 1) := by decide +kernel
theorem d_163_30 : decode prog_8_method_57_code 30 = .ok (.ireturn, 1) := by decide +kernel
theorem d_164_0 : decode prog_8_method_62_code 0 = .ok (.iconst 5, 1) := by decide +kernel
theorem d_164_1 : decode prog_8_method_62_code 1 = .ok (.iload_n 1, 1) := by decide +kernel
theorem d_164_2 : decode prog_8_method_62_code 2 = .ok (.imul, 1) := by decide +kernel
theorem d_164_3 : decode prog_8_method_62_code 3 = .ok (.iload_n 2, 1) := by decide +kernel
theorem d_164_4 : decode prog_8_method_62_code 4 = .ok (.iadd, 1) := by decide +kernel
theorem d_164_5 : decode prog_8_method_62_code 5 = .ok (.istore_n 3, 1) := by decide +kernel
theorem d_164_6 : decode prog_8_method_62_code 6 = .ok (.aload_n 0, 1) := by decide +kernel
theorem d_164_7 : decode prog_8_method_62_code 7 = .ok (.getfield 22, 3) := by decide +kernel
theorem d_164_10 : decode prog_8_method_62_code 10 = .ok (.iload_n 3, 1) := by decide +kernel
theorem d_164_11 : decode prog_8_method_62_code 11 = .ok (.aload_n 0, 1) := by decide +kernel
theorem d_164_12 : decode prog_8_method_62_code 12 = .ok (.invokevirtual 231, 3) := by decide +kernel
theorem d_164_15 : decode prog_8_method_62_code 15 = .ok (.iastore, 1) := by decide +kernel
theorem d_164_16 : decode prog_8_method_62_code 16 = .ok (.aload_n 0, 1) := by decide +kernel
theorem d_164_17 : decode prog_8_method_62_code 17 = .ok (.getfield 28, 3) := by decide +kernel
theorem d_164_20 : decode prog_8_method_62_code 20 = .ok (.iload_n 3, 1) := by decide +kernel
theorem d_164_21 : decode prog_8_method_62_code 21 = .ok (.aload_n 0, 1) := by decide +kernel
theorem d_164_22 : decode prog_8_method_62_code 22 = .ok (.iconst 4, 1) := by decide +kernel
theorem d_164_23 : decode prog_8_method_62_code 23 = .ok (.invokevirtual 225, 3) := by decide +kernel
theorem d_164_26 : decode prog_8_method_62_code 26 = .ok (.iastore, 1) := by decide +kernel
theorem d_164_27 : decode prog_8_method_62_code 27 = .ok (.aload_n 0, 1) := by decide +kernel
theorem d_164_28 : decode prog_8_method_62_code 28 = .ok (.getfield 22, 3) := by decide +kernel
theorem d_164_31 : decode prog_8_method_62_code 31 = .ok (.iload_n 3, 1) := by decide +kernel
theorem d_164_32 : decode prog_8_method_62_code 32 = .ok (.iaload, 1) := by decide +kernel
theorem d_164_33 : decode prog_8_method_62_code 33 = .ok (.invokestatic 144, 3) := by decide +kernel
theorem d_164_36 : decode prog_8_method_62_code 36 = .ok (.ifCond .eq 37, 3) := by decide +kernel
theorem d_164_39 : decode prog_8_method_62_code 39 = .ok (.aload_n 0, 1) := by decide +kernel
theorem d_164_40 : decode prog_8_method_62_code 40 = .ok (.iload_n 1, 1) := by decide +kernel
theorem d_164_41 : decode prog_8_method_62_code 41 = .ok (.aload_n 0, 1) := by decide +kernel
theorem d_164_42 : decode prog_8_method_62_code 42 = .ok (.getfield 22, 3) := by decide +kernel
theorem d_164_45 : decode prog_8_method_62_code 45 = .ok (.iload_n 3, 1) := by decide +kernel
theorem d_164_46 : decode prog_8_method_62_code 46 = .ok (.iaload, 1) := by decide +kernel
theorem d_164_47 : decode prog_8_method_62_code 47 = .ok (.iconst (-1), 1) := by decide +kernel
theorem d_164_48 : decode prog_8_method_62_code 48 = .ok (.invokevirtual 161, 3) := by decide +kernel
theorem d_164_51 : decode prog_8_method_62_code 51 = .ok (.ifCond .ne 22, 3) := by decide +kernel
theorem d_164_54 : decode prog_8_method_62_code 54 = .ok (.aload_n 0, 1) := by decide +kernel
theorem d_164_55 : decode prog_8_method_62_code 55 = .ok (.getfield 28, 3) := by decide +kernel
theorem d_164_58 : decode prog_8_method_62_code 58 = .ok (.iload_n 3, 1) := by decide +kernel
theorem d_164_59 : decode prog_8_method_62_code 59 = .ok (.iaload, 1) := by decide +kernel
theorem d_164_60 : decode prog_8_method_62_code 60 = .ok (.ifCond .lt 13, 3) := by decide +kernel
theorem d_164_63 : decode prog_8_method_62_code 63 = .ok (.aload_n 0, 1) := by decide +kernel
theorem d_164_64 : decode prog_8_method_62_code 64 = .ok (.getfield 28, 3) := by decide +kernel
theorem d_164_67 : decode prog_8_method_62_code 67 = .ok (.iload_n 3, 1) := by decide +kernel
theorem d_164_68 : decode prog_8_method_62_code 68 = .ok (.iaload, 1) := by decide +kernel
theorem d_164_69 : decode prog_8_method_62_code 69 = .ok (.iconst 2, 1) := by decide +kernel
theorem d_164_70 : decode prog_8_method_62_code 70 = .ok (.if_icmp .le 5, 3) := by decide +kernel
theorem d_164_73 : decode prog_8_method_62_code 73 = .ok (.iconst 0, 1) := by decide +kernel
theorem d_164_74 : decode prog_8_method_62_code 74 = .ok (.ireturn, 1) := by decide +kernel
theorem d_164_75 : decode prog_8_method_62_code 75 = .ok (.iconst 0, 1) := by decide +kernel
theorem d_164_76 : decode prog_8_method_62_code 76 = .ok (.istore 4, 2) := by decide +kernel
theorem d_164_78 : decode prog_8_method_62_code 78 = .ok (.iload 4, 2) := by decide +kernel
theorem d_164_80 : decode prog_8_method_62_code 80 = .ok (.aload_n 0, 1) := by decide +kernel
theorem d_164_81 : decode prog_8_method_62_code 81 = .ok (.getfield 28, 3) := by decide +kernel
theorem d_164_84 : decode prog_8_method_62_code 84 = .ok (.iload_n 3, 1) := by decide +kernel
theorem d_164_85 : decode prog_8_method_62_code 85 = .ok (.iaload, 1) := by decide +kernel
theorem d_164_86 : decode prog_8_method_62_code 86 = .ok (.if_icmp .ge 67, 3) := by decide +kernel
theorem d_164_89 : decode prog_8_method_62_code 89 = .ok (.aload_n 0, 1) := by decide +kernel
theorem d_164_90 : decode prog_8_method_62_code 90 = .ok (.iconst 4, 1) := by decide +kernel
theorem d_164_91 : decode prog_8_method_62_code 91 = .ok (.invokevirtual 225, 3) := by decide +kernel
theorem d_164_94 : decode prog_8_method_62_code 94 = .ok (.istore 5, 2) := by decide +kernel
theorem d_164_96 : decode prog_8_method_62_code 96 = .ok (.iload 5, 2) := by decide +kernel
theorem d_164_98 : decode prog_8_method_62_code 98 = .ok (.ifCond .lt 34, 3) := by decide +kernel
theorem d_164_101 : decode prog_8_method_62_code 101 = .ok (.iload 5, 2) := by decide +kernel
theorem d_164_103 : decode prog_8_method_62_code 103 = .ok (.aload_n 0, 1) := by decide +kernel
theorem d_164_104 : decode prog_8_method_62_code 104 = .ok (.getfield 7, 3) := by decide +kernel
theorem d_164_107 : decode prog_8_method_62_code 107 = .ok (.iload_n 1, 1) := by decide +kernel
theorem d_164_108 : decode prog_8_method_62_code 108 = .ok (.iaload, 1) := by decide +kernel
theorem d_164_109 : decode prog_8_method_62_code 109 = .ok (.if_icmp .ge 23, 3) := by decide +kernel
theorem d_164_112 : decode prog_8_method_62_code 112 = .ok (.iload 4, 2) := by decide +kernel
theorem d_164_114 : decode prog_8_method_62_code 114 = .ok (.iconst 1, 1) := by decide +kernel
theorem d_164_115 : decode prog_8_method_62_code 115 = .ok (.if_icmp .ne 19, 3) := by decide +kernel
theorem d_164_118 : decode prog_8_method_62_code 118 = .ok (.aload_n 0, 1) := by decide +kernel
theorem d_164_119 : decode prog_8_method_62_code 119 = .ok (.getfield 16, 3) := by decide +kernel
theorem d_164_122 : decode prog_8_method_62_code 122 = .ok (.iconst 4, 1) := by decide +kernel
theorem d_164_123 : decode prog_8_method_62_code 123 = .ok (.iload_n 1, 1) := by decide +kernel
theorem d_164_124 : decode prog_8_method_62_code 124 = .ok (.imul, 1) := by decide +kernel
theorem d_164_125 : decode prog_8_method_62_code 125 = .ok (.iload 5, 2) := by decide +kernel
theorem d_164_127 : decode prog_8_method_62_code 127 = .ok (.iadd, 1) := by decide +kernel
theorem d_164_128 : decode prog_8_method_62_code 128 = .ok (.iaload, 1) := by decide +kernel
theorem d_164_129 : decode prog_8_method_62_code 129 = .ok (.ifCond .ne 5, 3) := by decide +kernel
theorem d_164_132 : decode prog_8_method_62_code 132 = .ok (.iconst 0, 1) := by decide +kernel
theorem d_164_133 : decode prog_8_method_62_code 133 = .ok (.ireturn, 1) := by decide +kernel
theorem d_164_134 : decode prog_8_method_62_code 134 = .ok (.aload_n 0, 1) := by decide +kernel
theorem d_164_135 : decode prog_8_method_62_code 135 = .ok (.getfield 31, 3) := by decide +kernel
theorem d_164_138 : decode prog_8_method_62_code 138 = .ok (.iconst 2, 1) := by decide +kernel
theorem d_164_139 : decode prog_8_method_62_code 139 = .ok (.iload_n 3, 1) := by decide +kernel
theorem d_164_140 : decode prog_8_method_62_code 140 = .ok (.imul, 1) := by decide +kernel
theorem d_164_141 : decode prog_8_method_62_code 141 = .ok (.iload 4, 2) := by decide +kernel
theorem d_164_143 : decode prog_8_method_62_code 143 = .ok (.iadd, 1) := by decide +kernel
theorem d_164_144 : decode prog_8_method_62_code 144 = .ok (.iload 5, 2) := by decide +kernel
theorem d_164_146 : decode prog_8_method_62_code 146 = .ok (.iastore, 1) := by decide +kernel
theorem d_164_147 : decode prog_8_method_62_code 147 = .ok (.iinc 4 1, 3) := by decide +kernel
theorem d_164_150 : decode prog_8_method_62_code 150 = .ok (.goto (-72), 3) := by decide +kernel
theorem d_164_153 : decode prog_8_method_62_code 153 = .ok (.aload_n 0, 1) := by decide +kernel
theorem d_164_154 : decode prog_8_method_62_code 154 = .ok (.iload_n 1, 1) := by decide +kernel
theorem d_164_155 : decode prog_8_method_62_code 155 = .ok (.iload_n 2, 1) := by decide +kernel
theorem d_164_156 : decode prog_8_method_62_code 156 = .ok (.iconst 1, 1) := by decide +kernel
theorem d_164_157 : decode prog_8_method_62_code 157 = .ok (.iadd, 1) := by decide +kernel
theorem d_164_158 : decode prog_8_method_62_code 158 = .ok (.invokevirtual 238, 3) := by decide +kernel
theorem d_164_161 : decode prog_8_method_62_code 161 = .ok (.ifCond .ne 5, 3) := by decide +kernel
theorem d_164_164 : decode prog_8_method_62_code 164 = .ok (.iconst 0, 1) := by decide +kernel
theorem d_164_165 : decode prog_8_method_62_code 165 = .ok (.ireturn, 1) := by decide +kernel
theorem d_164_166 : decode prog_8_method_62_code 166 = .ok (.aload_n 0, 1) := by decide +kernel
theorem d_164_167 : decode prog_8_method_62_code 167 = .ok (.getfield 25, 3) := by decide +kernel
theorem d_164_170 : decode prog_8_method_62_code 170 = .ok (.iload_n 3, 1) := by decide +kernel
theorem d_164_171 : decode prog_8_method_62_code 171 = .ok (.aload_n 0, 1) := by decide +kernel
theorem d_164_172 : decode prog_8_method_62_code 172 = .ok (.iconst 4, 1) := by decide +kernel
theorem d_164_173 : decode prog_8_method_62_code 173 = .ok (.invokevirtual 225, 3) := by decide +kernel
theorem d_164_176 : decode prog_8_method_62_code 176 = .ok (.iastore, 1) := by decide +kernel
theorem d_164_177 : decode prog_8_method_62_code 177 = .ok (.aload_n 0, 1) := by decide +kernel
theorem d_164_178 : decode prog_8_method_62_code 178 = .ok (.iconst 4, 1) := by decide +kernel
theorem d_164_179 : decode prog_8_method_62_code 179 = .ok (.invokevirtual 225, 3) := by decide +kernel
theorem d_164_182 : decode prog_8_method_62_code 182 = .ok (.pop, 1) := by decide +kernel
theorem d_164_183 : decode prog_8_method_62_code 183 = .ok (.aload_n 0, 1) := by decide +kernel
theorem d_164_184 : decode prog_8_method_62_code 184 = .ok (.iconst 4, 1) := by decide +kernel
theorem d_164_185 : decode prog_8_method_62_code 185 = .ok (.invokevirtual 225, 3) := by decide +kernel
theorem d_164_188 : decode prog_8_method_62_code 188 = .ok (.pop, 1) := by decide +kernel
theorem d_164_189 : decode prog_8_method_62_code 189 = .ok (.aload_n 0, 1) := by decide +kernel
theorem d_164_190 : decode prog_8_method_62_code 190 = .ok (.getfield 25, 3) := by decide +kernel
theorem d_164_193 : decode prog_8_method_62_code 193 = .ok (.iload_n 3, 1) := by decide +kernel
theorem d_164_194 : decode prog_8_method_62_code 194 = .ok (.iaload, 1) := by decide +kernel
theorem d_164_195 : decode prog_8_method_62_code 195 = .ok (.iconst 1, 1) := by decide +kernel
theorem d_164_196 : decode prog_8_method_62_code 196 = .ok (.if_icmp .lt 17, 3) := by decide +kernel
theorem d_164_199 : decode prog_8_method_62_code 199 = .ok (.aload_n 0, 1) := by decide +kernel
theorem d_164_200 : decode prog_8_method_62_code 200 = .ok (.getfield 25, 3) := by decide +kernel
theorem d_164_203 : decode prog_8_method_62_code 203 = .ok (.iload_n 3, 1) := by decide +kernel
theorem d_164_204 : decode prog_8_method_62_code 204 = .ok (.iaload, 1) := by decide +kernel
theorem d_164_205 : decode prog_8_method_62_code 205 = .ok (.iconst 4, 1) := by decide +kernel
theorem d_164_206 : decode prog_8_method_62_code 206 = .ok (.if_icmp .gt 7, 3) := by decide +kernel
theorem d_164_209 : decode prog_8_method_62_code 209 = .ok (.iconst 1, 1) := by decide +kernel
theorem d_164_210 : decode prog_8_method_62_code 210 = .ok (.goto 4, 3) := by decide +kernel
theorem d_164_213 : decode prog_8_method_62_code 213 = .ok (.iconst 0, 1) := by decide +kernel
theorem d_164_214 : decode prog_8_method_62_code 214 = .ok (.ireturn, 1) := by decide +kernel
theorem d_165_0 : decode prog_8_method_65_code 0 = .ok (.iconst 0, 1) := by decide +kernel
theorem d_165_1 : decode prog_8_method_65_code 1 = .ok (.istore_n 2, 1) := by decide +kernel
theorem d_165_2 : decode prog_8_method_65_code 2 = .ok (.iload_n 2, 1) := by decide +kernel
theorem d_165_3 : decode prog_8_method_65_code 3 = .ok (.aload_n 0, 1) := by decide +kernel
theorem d_165_4 : decode prog_8_method_65_code 4 = .ok (.getfield 19, 3) := by decide +kernel
theorem d_165_7 : decode prog_8_method_65_code 7 = .ok (.iload_n 1, 1) := by decide +kernel
theorem d_165_8 : decode prog_8_method_65_code 8 = .ok (.iaload, 1) := by decide +kernel
theorem d_165_9 : decode prog_8_method_65_code 9 = .ok (.if_icmp .ge 32, 3) := by decide +kernel
theorem d_165_12 : decode prog_8_method_65_code 12 = .ok (.aload_n 0, 1) := by decide +kernel
theorem d_165_13 : decode prog_8_method_65_code 13 = .ok (.iload_n 1, 1) := by decide +kernel
theorem d_165_14 : decode prog_8_method_65_code 14 = .ok (.iload_n 2, 1) := by decide +kernel
theorem d_165_15 : decode prog_8_method_65_code 15 = .ok (.invokevirtual 164, 3) := by decide +kernel
theorem d_165_18 : decode prog_8_method_65_code 18 = .ok (.aload_n 0, 1) := by decide +kernel
theorem d_165_19 : decode prog_8_method_65_code 19 = .ok (.iload_n 1, 1) := by decide +kernel
theorem d_165_20 : decode prog_8_method_65_code 20 = .ok (.iload_n 2, 1) := by decide +kernel
theorem d_165_21 : decode prog_8_method_65_code 21 = .ok (.invokevirtual 83, 3) := by decide +kernel
theorem d_165_24 : decode prog_8_method_65_code 24 = .ok (.ifCond .ne 11, 3) := by decide +kernel
theorem d_165_27 : decode prog_8_method_65_code 27 = .ok (.aload_n 0, 1) := by decide +kernel
theorem d_165_28 : decode prog_8_method_65_code 28 = .ok (.iload_n 1, 1) := by decide +kernel
theorem d_165_29 : decode prog_8_method_65_code 29 = .ok (.iload_n 2, 1) := by decide +kernel
theorem d_165_30 : decode prog_8_method_65_code 30 = .ok (.iconst 0, 1) := by decide +kernel
theorem d_165_31 : decode prog_8_method_65_code 31 = .ok (.iconst 1, 1) := by decide +kernel
theorem d_165_32 : decode prog_8_method_65_code 32 = .ok (.invokevirtual 247, 3) := by decide +kernel
theorem d_165_35 : decode prog_8_method_65_code 35 = .ok (.iinc 2 1, 3) := by decide +kernel
theorem d_165_38 : decode prog_8_method_65_code 38 = .ok (.goto (-36), 3) := by decide +kernel
theorem d_165_41 : decode prog_8_method_65_code 41 = .ok (.aload_n 0, 1) := by decide +kernel
theorem d_165_42 : decode prog_8_method_65_code 42 = .ok (.iload_n 1, 1) := by decide +kernel
theorem d_165_43 : decode prog_8_method_65_code 43 = .ok (.invokevirtual 96, 3) := by decide +kernel
theorem d_165_46 : decode prog_8_method_65_code 46 = .ok (.iconst 1, 1) := by decide +kernel
theorem d_165_47 : decode prog_8_method_65_code 47 = .ok (.if_icmp .le 7, 3) := by decide +kernel
theorem d_165_50 : decode prog_8_method_65_code 50 = .ok (.iconst 1, 1) := by decide +kernel
theorem d_165_51 : decode prog_8_method_65_code 51 = .ok (.goto 4, 3) := by decide +kernel
theorem d_165_54 : decode prog_8_method_65_code 54 = .ok (.iconst 0, 1) := by decide +kernel
theorem d_165_55 : decode prog_8_method_65_code 55 = .ok (.istore_n 2, 1) := by decide +kernel
theorem d_165_56 : decode prog_8_method_65_code 56 = .ok (.iconst 0, 1) := by decide +kernel
theorem d_165_57 : decode prog_8_method_65_code 57 = .ok (.istore_n 3, 1) := by decide +kernel
theorem d_165_58 : decode prog_8_method_65_code 58 = .ok (.iload_n 3, 1) := by decide +kernel
theorem d_165_59 : decode prog_8_method_65_code 59 = .ok (.aload_n 0, 1) := by decide +kernel
theorem d_165_60 : decode prog_8_method_65_code 60 = .ok (.getfield 49, 3) := by decide +kernel
theorem d_165_63 : decode prog_8_method_65_code 63 = .ok (.iload_n 1, 1) := by decide +kernel
theorem d_165_64 : decode prog_8_method_65_code 64 = .ok (.iaload, 1) := by decide +kernel
theorem d_165_65 : decode prog_8_method_65_code 65 = .ok (.if_icmp .ge 48, 3) := by decide +kernel
theorem d_165_68 : decode prog_8_method_65_code 68 = .ok (.iconst 0, 1) := by decide +kernel
theorem d_165_69 : decode prog_8_method_65_code 69 = .ok (.istore 4, 2) := by decide +kernel
theorem d_165_71 : decode prog_8_method_65_code 71 = .ok (.iload 4, 2) := by decide +kernel
theorem d_165_73 : decode prog_8_method_65_code 73 = .ok (.aload_n 0, 1) := by decide +kernel
theorem d_165_74 : decode prog_8_method_65_code 74 = .ok (.getfield 19, 3) := by decide +kernel
theorem d_165_77 : decode prog_8_method_65_code 77 = .ok (.iload_n 1, 1) := by decide +kernel
theorem d_165_78 : decode prog_8_method_65_code 78 = .ok (.iaload, 1) := by decide +kernel
theorem d_165_79 : decode prog_8_method_65_code 79 = .ok (.if_icmp .ge 28, 3) := by decide +kernel
theorem d_165_82 : decode prog_8_method_65_code 82 = .ok (.aload_n 0, 1) := by decide +kernel
theorem d_165_83 : decode prog_8_method_65_code 83 = .ok (.iload_n 1, 1) := by decide +kernel
theorem d_165_84 : decode prog_8_method_65_code 84 = .ok (.iload 4, 2) := by decide +kernel
theorem d_165_86 : decode prog_8_method_65_code 86 = .ok (.invokevirtual 83, 3) := by decide +kernel
theorem d_165_89 : decode prog_8_method_65_code 89 = .ok (.ifCond .eq 12, 3) := by decide +kernel
theorem d_165_92 : decode prog_8_method_65_code 92 = .ok (.aload_n 0, 1) := by decide +kernel
theorem d_165_93 : decode prog_8_method_65_code 93 = .ok (.iload_n 1, 1) := by decide +kernel
theorem d_165_94 : decode prog_8_method_65_code 94 = .ok (.iload 4, 2) := by decide +kernel
theorem d_165_96 : decode prog_8_method_65_code 96 = .ok (.iload_n 3, 1) := by decide +kernel
theorem d_165_97 : decode prog_8_method_65_code 97 = .ok (.iload_n 2, 1) := by decide +kernel
theorem d_165_98 : decode prog_8_method_65_code 98 = .ok (.invokevirtual 247, 3) := by decide +kernel
theorem d_165_101 : decode prog_8_method_65_code 101 = .ok (.iinc 4 1, 3) := by decide +kernel
theorem d_165_104 : decode prog_8_method_65_code 104 = .ok (.goto (-33), 3) := by decide +kernel
theorem d_165_107 : decode prog_8_method_65_code 107 = .ok (.iinc 3 1, 3) := by decide +kernel
theorem d_165_110 : decode prog_8_method_65_code 110 = .ok (.goto (-52), 3) := by decide +kernel
theorem d_165_113 : decode prog_8_method_65_code 113 = .ok (.return_, 1) := by decide +kernel
theorem d_166_0 : decode prog_8_method_64_code 0 = .ok (.iconst 5, 1) := by decide +kernel
theorem d_166_1 : decode prog_8_method_64_code 1 = .ok (.iload_n 1, 1) := by decide +kernel
theorem d_166_2 : decode prog_8_method_64_code 2 = .ok (.imul, 1) := by decide +kernel
theorem d_166_3 : decode prog_8_method_64_code 3 = .ok (.iload_n 2, 1) := by decide +kernel
theorem d_166_4 : decode prog_8_method_64_code 4 = .ok (.iadd, 1) := by decide +kernel
theorem d_166_5 : decode prog_8_method_64_code 5 = .ok (.istore 5, 2) := by decide +kernel
theorem d_166_7 : decode prog_8_method_64_code 7 = .ok (.aload_n 0, 1) := by decide +kernel
theorem d_166_8 : decode prog_8_method_64_code 8 = .ok (.iload_n 1, 1) := by decide +kernel
theorem d_166_9 : decode prog_8_method_64_code 9 = .ok (.iload_n 2, 1) := by decide +kernel
theorem d_166_10 : decode prog_8_method_64_code 10 = .ok (.invokevirtual 75, 3) := by decide +kernel
theorem d_166_13 : decode prog_8_method_64_code 13 = .ok (.istore 6, 2) := by decide +kernel
theorem d_166_15 : decode prog_8_method_64_code 15 = .ok (.iconst 0, 1) := by decide +kernel
theorem d_166_16 : decode prog_8_method_64_code 16 = .ok (.istore 7, 2) := by decide +kernel
theorem d_166_18 : decode prog_8_method_64_code 18 = .ok (.iload 7, 2) := by decide +kernel
theorem d_166_20 : decode prog_8_method_64_code 20 = .ok (.iload 6, 2) := by decide +kernel
theorem d_166_22 : decode prog_8_method_64_code 22 = .ok (.if_icmp .ge 39, 3) := by decide +kernel
theorem d_166_25 : decode prog_8_method_64_code 25 = .ok (.aload_n 0, 1) := by decide +kernel
theorem d_166_26 : decode prog_8_method_64_code 26 = .ok (.getfield 52, 3) := by decide +kernel
theorem d_166_29 : decode prog_8_method_64_code 29 = .ok (.sipush 800, 3) := by decide +kernel
theorem d_166_32 : decode prog_8_method_64_code 32 = .ok (.iload 5, 2) := by decide +kernel
theorem d_166_34 : decode prog_8_method_64_code 34 = .ok (.imul, 1) := by decide +kernel
theorem d_166_35 : decode prog_8_method_64_code 35 = .ok (.iload_n 3, 1) := by decide +kernel
theorem d_166_36 : decode prog_8_method_64_code 36 = .ok (.iload 6, 2) := by decide +kernel
theorem d_166_38 : decode prog_8_method_64_code 38 = .ok (.imul, 1) := by decide +kernel
theorem d_166_39 : decode prog_8_method_64_code 39 = .ok (.iadd, 1) := by decide +kernel
theorem d_166_40 : decode prog_8_method_64_code 40 = .ok (.iload 7, 2) := by decide +kernel
theorem d_166_42 : decode prog_8_method_64_code 42 = .ok (.iadd, 1) := by decide +kernel
theorem d_166_43 : decode prog_8_method_64_code 43 = .ok (.aload_n 0, 1) := by decide +kernel
theorem d_166_44 : decode prog_8_method_64_code 44 = .ok (.aload_n 0, 1) := by decide +kernel
theorem d_166_45 : decode prog_8_method_64_code 45 = .ok (.getfield 25, 3) := by decide +kernel
theorem d_166_48 : decode prog_8_method_64_code 48 = .ok (.iload 5, 2) := by decide +kernel
theorem d_166_50 : decode prog_8_method_64_code 50 = .ok (.iaload, 1) := by decide +kernel
theorem d_166_51 : decode prog_8_method_64_code 51 = .ok (.invokevirtual 235, 3) := by decide +kernel
theorem d_166_54 : decode prog_8_method_64_code 54 = .ok (.iastore, 1) := by decide +kernel
theorem d_166_55 : decode prog_8_method_64_code 55 = .ok (.iinc 7 1, 3) := by decide +kernel
theorem d_166_58 : decode prog_8_method_64_code 58 = .ok (.goto (-40), 3) := by decide +kernel
theorem d_166_61 : decode prog_8_method_64_code 61 = .ok (.aload_n 0, 1) := by decide +kernel
theorem d_166_62 : decode prog_8_method_64_code 62 = .ok (.iload 4, 2) := by decide +kernel
theorem d_166_64 : decode prog_8_method_64_code 64 = .ok (.ifCond .eq 16, 3) := by decide +kernel
theorem d_166_67 : decode prog_8_method_64_code 67 = .ok (.aload_n 0, 1) := by decide +kernel
theorem d_166_68 : decode prog_8_method_64_code 68 = .ok (.getfield 222, 3) := by decide +kernel
theorem d_166_71 : decode prog_8_method_64_code 71 = .ok (.iconst 3, 1) := by decide +kernel
theorem d_166_72 : decode prog_8_method_64_code 72 = .ok (.iadd, 1) := by decide +kernel
theorem d_166_73 : decode prog_8_method_64_code 73 = .ok (.iconst 4, 1) := by decide +kernel
theorem d_166_74 : decode prog_8_method_64_code 74 = .ok (.idiv, 1) := by decide +kernel
theorem d_166_75 : decode prog_8_method_64_code 75 = .ok (.iconst 4, 1) := by decide +kernel
theorem d_166_76 : decode prog_8_method_64_code 76 = .ok (.imul, 1) := by decide +kernel
theorem d_166_77 : decode prog_8_method_64_code 77 = .ok (.goto 7, 3) := by decide +kernel
theorem d_166_80 : decode prog_8_method_64_code 80 = .ok (.aload_n 0, 1) := by decide +kernel
theorem d_166_81 : decode prog_8_method_64_code 81 = .ok (.getfield 222, 3) := by decide +kernel
theorem d_166_84 : decode prog_8_method_64_code 84 = .ok (.putfield 222, 3) := by decide +kernel
theorem d_166_87 : decode prog_8_method_64_code 87 = .ok (.return_, 1) := by decide +kernel
theorem d_167_0 : decode code 0 = .ok (.new 7, 3) := by decide +kernel
theorem d_167_3 : decode code 3 = .ok (.dup, 1) := by decide +kernel
theorem d_167_4 : decode code 4 = .ok (.invokespecial 9, 3) := by decide +kernel
theorem d_167_7 : decode code 7 = .ok (.astore_n 1, 1) := by decide +kernel
theorem d_167_8 : decode code 8 = .ok (.new 10, 3) := by decide +kernel
theorem d_167_11 : decode code 11 = .ok (.dup, 1) := by decide +kernel
theorem d_167_12 : decode code 12 = .ok (.invokespecial 12, 3) := by decide +kernel
theorem d_167_15 : decode code 15 = .ok (.astore_n 2, 1) := by decide +kernel
theorem d_167_16 : decode code 16 = .ok (.iconst 0, 1) := by decide +kernel
theorem d_167_17 : decode code 17 = .ok (.istore_n 3, 1) := by decide +kernel
theorem d_167_18 : decode code 18 = .ok (.iload_n 3, 1) := by decide +kernel
theorem d_167_19 : decode code 19 = .ok (.aload_n 0, 1) := by decide +kernel
theorem d_167_20 : decode code 20 = .ok (.arraylength, 1) := by decide +kernel
theorem d_167_21 : decode code 21 = .ok (.bipush 6, 2) := by decide +kernel
theorem d_167_23 : decode code 23 = .ok (.isub, 1) := by decide +kernel
theorem d_167_24 : decode code 24 = .ok (.if_icmp .gt 760, 3) := by decide +kernel
theorem d_167_27 : decode code 27 = .ok (.aload_n 0, 1) := by decide +kernel
theorem d_167_28 : decode code 28 = .ok (.iload_n 3, 1) := by decide +kernel
theorem d_167_29 : decode code 29 = .ok (.iaload, 1) := by decide +kernel
theorem d_167_30 : decode code 30 = .ok (.bipush 31, 2) := by decide +kernel
theorem d_167_32 : decode code 32 = .ok (.iand, 1) := by decide +kernel
theorem d_167_33 : decode code 33 = .ok (.tableswitch 745 0 18 #[91, 124, 177, 240, 273, 332, 345, 358, 411, 455, 508, 551, 585, 598, 611, 634, 658, 721, 732], 91) := by decide +kernel
theorem d_167_124 : decode code 124 = .ok (.aload_n 1, 1) := by decide +kernel
theorem d_167_125 : decode code 125 = .ok (.aload_n 0, 1) := by decide +kernel
theorem d_167_126 : decode code 126 = .ok (.iload_n 3, 1) := by decide +kernel
theorem d_167_127 : decode code 127 = .ok (.iconst 1, 1) := by decide +kernel
theorem d_167_128 : decode code 128 = .ok (.iadd, 1) := by decide +kernel
theorem d_167_129 : decode code 129 = .ok (.iaload, 1) := by decide +kernel
theorem d_167_130 : decode code 130 = .ok (.aload_n 0, 1) := by decide +kernel
theorem d_167_131 : decode code 131 = .ok (.iload_n 3, 1) := by decide +kernel
theorem d_167_132 : decode code 132 = .ok (.iconst 2, 1) := by decide +kernel
theorem d_167_133 : decode code 133 = .ok (.iadd, 1) := by decide +kernel
theorem d_167_134 : decode code 134 = .ok (.iaload, 1) := by decide +kernel
theorem d_167_135 : decode code 135 = .ok (.invokevirtual 13, 3) := by decide +kernel
theorem d_167_138 : decode code 138 = .ok (.aload_n 2, 1) := by decide +kernel
theorem d_167_139 : decode code 139 = .ok (.aload_n 0, 1) := by decide +kernel
theorem d_167_140 : decode code 140 = .ok (.iload_n 3, 1) := by decide +kernel
theorem d_167_141 : decode code 141 = .ok (.iconst 1, 1) := by decide +kernel
theorem d_167_142 : decode code 142 = .ok (.iadd, 1) := by decide +kernel
theorem d_167_143 : decode code 143 = .ok (.iaload, 1) := by decide +kernel
theorem d_167_144 : decode code 144 = .ok (.aload_n 0, 1) := by decide +kernel
theorem d_167_145 : decode code 145 = .ok (.iload_n 3, 1) := by decide +kernel
theorem d_167_146 : decode code 146 = .ok (.iconst 2, 1) := by decide +kernel
theorem d_167_147 : decode code 147 = .ok (.iadd, 1) := by decide +kernel
theorem d_167_148 : decode code 148 = .ok (.iaload, 1) := by decide +kernel
theorem d_167_149 : decode code 149 = .ok (.invokevirtual 17, 3) := by decide +kernel
theorem d_167_152 : decode code 152 = .ok (.if_icmp .eq 626, 3) := by decide +kernel
theorem d_167_155 : decode code 155 = .ok (.iconst 0, 1) := by decide +kernel
theorem d_167_156 : decode code 156 = .ok (.ireturn, 1) := by decide +kernel
theorem d_167_157 : decode code 157 = .ok (.aload_n 1, 1) := by decide +kernel
theorem d_167_158 : decode code 158 = .ok (.aload_n 0, 1) := by decide +kernel
theorem d_167_159 : decode code 159 = .ok (.iload_n 3, 1) := by decide +kernel
theorem d_167_160 : decode code 160 = .ok (.iconst 1, 1) := by decide +kernel
theorem d_167_161 : decode code 161 = .ok (.iadd, 1) := by decide +kernel
theorem d_167_162 : decode code 162 = .ok (.iaload, 1) := by decide +kernel
theorem d_167_163 : decode code 163 = .ok (.aload_n 0, 1) := by decide +kernel
theorem d_167_164 : decode code 164 = .ok (.iload_n 3, 1) := by decide +kernel
theorem d_167_165 : decode code 165 = .ok (.iconst 2, 1) := by decide +kernel
theorem d_167_166 : decode code 166 = .ok (.iadd, 1) := by decide +kernel
theorem d_167_167 : decode code 167 = .ok (.iaload, 1) := by decide +kernel
theorem d_167_168 : decode code 168 = .ok (.aload_n 0, 1) := by decide +kernel
theorem d_167_169 : decode code 169 = .ok (.iload_n 3, 1) := by decide +kernel
theorem d_167_170 : decode code 170 = .ok (.iconst 3, 1) := by decide +kernel
theorem d_167_171 : decode code 171 = .ok (.iadd, 1) := by decide +kernel
theorem d_167_172 : decode code 172 = .ok (.iaload, 1) := by decide +kernel
theorem d_167_173 : decode code 173 = .ok (.aload_n 0, 1) := by decide +kernel
theorem d_167_174 : decode code 174 = .ok (.iload_n 3, 1) := by decide +kernel
theorem d_167_175 : decode code 175 = .ok (.iconst 4, 1) := by decide +kernel
theorem d_167_176 : decode code 176 = .ok (.iadd, 1) := by decide +kernel
theorem d_167_177 : decode code 177 = .ok (.iaload, 1) := by decide +kernel
theorem d_167_178 : decode code 178 = .ok (.invokevirtual 18, 3) := by decide +kernel
theorem d_167_181 : decode code 181 = .ok (.aload_n 2, 1) := by decide +kernel
theorem d_167_182 : decode code 182 = .ok (.aload_n 0, 1) := by decide +kernel
theorem d_167_183 : decode code 183 = .ok (.iload_n 3, 1) := by decide +kernel
theorem d_167_184 : decode code 184 = .ok (.iconst 1, 1) := by decide +kernel
theorem d_167_185 : decode code 185 = .ok (.iadd, 1) := by decide +kernel
theorem d_167_186 : decode code 186 = .ok (.iaload, 1) := by decide +kernel
theorem d_167_187 : decode code 187 = .ok (.aload_n 0, 1) := by decide +kernel
theorem d_167_188 : decode code 188 = .ok (.iload_n 3, 1) := by decide +kernel
theorem d_167_189 : decode code 189 = .ok (.iconst 2, 1) := by decide +kernel
theorem d_167_190 : decode code 190 = .ok (.iadd, 1) := by decide +kernel
theorem d_167_191 : decode code 191 = .ok (.iaload, 1) := by decide +kernel
theorem d_167_192 : decode code 192 = .ok (.aload_n 0, 1) := by decide +kernel
theorem d_167_193 : decode code 193 = .ok (.iload_n 3, 1) := by decide +kernel
theorem d_167_194 : decode code 194 = .ok (.iconst 3, 1) := by decide +kernel
theorem d_167_195 : decode code 195 = .ok (.iadd, 1) := by decide +kernel
theorem d_167_196 : decode code 196 = .ok (.iaload, 1) := by decide +kernel
theorem d_167_197 : decode code 197 = .ok (.aload_n 0, 1) := by decide +kernel
theorem d_167_198 : decode code 198 = .ok (.iload_n 3, 1) := by decide +kernel
theorem d_167_199 : decode code 199 = .ok (.iconst 4, 1) := by decide +kernel
theorem d_167_200 : decode code 200 = .ok (.iadd, 1) := by decide +kernel
theorem d_167_201 : decode code 201 = .ok (.iaload, 1) := by decide +kernel
theorem d_167_202 : decode code 202 = .ok (.invokevirtual 22, 3) := by decide +kernel
theorem d_167_205 : decode code 205 = .ok (.if_icmp .eq 573, 3) := by decide +kernel
theorem d_167_208 : decode code 208 = .ok (.iconst 0, 1) := by decide +kernel
theorem d_167_209 : decode code 209 = .ok (.ireturn, 1) := by decide +kernel
theorem d_167_210 : decode code 210 = .ok (.aload_n 1, 1) := by decide +kernel
theorem d_167_211 : decode code 211 = .ok (.aload_n 0, 1) := by decide +kernel
theorem d_167_212 : decode code 212 = .ok (.iload_n 3, 1) := by decide +kernel
theorem d_167_213 : decode code 213 = .ok (.iconst 1, 1) := by decide +kernel
theorem d_167_214 : decode code 214 = .ok (.iadd, 1) := by decide +kernel
theorem d_167_215 : decode code 215 = .ok (.iaload, 1) := by decide +kernel
theorem d_167_216 : decode code 216 = .ok (.aload_n 0, 1) := by decide +kernel
theorem d_167_217 : decode code 217 = .ok (.iload_n 3, 1) := by decide +kernel
theorem d_167_218 : decode code 218 = .ok (.iconst 2, 1) := by decide +kernel
theorem d_167_219 : decode code 219 = .ok (.iadd, 1) := by decide +kernel
theorem d_167_220 : decode code 220 = .ok (.iaload, 1) := by decide +kernel
theorem d_167_221 : decode code 221 = .ok (.aload_n 0, 1) := by decide +kernel
theorem d_167_222 : decode code 222 = .ok (.iload_n 3, 1) := by decide +kernel
theorem d_167_223 : decode code 223 = .ok (.iconst 3, 1) := by decide +kernel
theorem d_167_224 : decode code 224 = .ok (.iadd, 1) := by decide +kernel
theorem d_167_225 : decode code 225 = .ok (.iaload, 1) := by decide +kernel
theorem d_167_226 : decode code 226 = .ok (.aload_n 0, 1) := by decide +kernel
theorem d_167_227 : decode code 227 = .ok (.iload_n 3, 1) := by decide +kernel
theorem d_167_228 : decode code 228 = .ok (.iconst 4, 1) := by decide +kernel
theorem d_167_229 : decode code 229 = .ok (.iadd, 1) := by decide +kernel
theorem d_167_230 : decode code 230 = .ok (.iaload, 1) := by decide +kernel
theorem d_167_231 : decode code 231 = .ok (.aload_n 0, 1) := by decide +kernel
theorem d_167_232 : decode code 232 = .ok (.iload_n 3, 1) := by decide +kernel
theorem d_167_233 : decode code 233 = .ok (.iconst 5, 1) := by decide +kernel
theorem d_167_234 : decode code 234 = .ok (.iadd, 1) := by decide +kernel
theorem d_167_235 : decode code 235 = .ok (.iaload, 1) := by decide +kernel
theorem d_167_236 : decode code 236 = .ok (.invokevirtual 23, 3) := by decide +kernel
theorem d_167_239 : decode code 239 = .ok (.aload_n 2, 1) := by decide +kernel
theorem d_167_240 : decode code 240 = .ok (.aload_n 0, 1) := by decide +kernel
theorem d_167_241 : decode code 241 = .ok (.iload_n 3, 1) := by decide +kernel
theorem d_167_242 : decode code 242 = .ok (.iconst 1, 1) := by decide +kernel
theorem d_167_243 : decode code 243 = .ok (.iadd, 1) := by decide +kernel
theorem d_167_244 : decode code 244 = .ok (.iaload, 1) := by decide +kernel
theorem d_167_245 : decode code 245 = .ok (.aload_n 0, 1) := by decide +kernel
theorem d_167_246 : decode code 246 = .ok (.iload_n 3, 1) := by decide +kernel
theorem d_167_247 : decode code 247 = .ok (.iconst 2, 1) := by decide +kernel
theorem d_167_248 : decode code 248 = .ok (.iadd, 1) := by decide +kernel
theorem d_167_249 : decode code 249 = .ok (.iaload, 1) := by decide +kernel
theorem d_167_250 : decode code 250 = .ok (.aload_n 0, 1) := by decide +kernel
theorem d_167_251 : decode code 251 = .ok (.iload_n 3, 1) := by decide +kernel
theorem d_167_252 : decode code 252 = .ok (.iconst 3, 1) := by decide +kernel
theorem d_167_253 : decode code 253 = .ok (.iadd, 1) := by decide +kernel
theorem d_167_254 : decode code 254 = .ok (.iaload, 1) := by decide +kernel
theorem d_167_255 : decode code 255 = .ok (.aload_n 0, 1) := by decide +kernel
theorem d_167_256 : decode code 256 = .ok (.iload_n 3, 1) := by decide +kernel
theorem d_167_257 : decode code 257 = .ok (.iconst 4, 1) := by decide +kernel
theorem d_167_258 : decode code 258 = .ok (.iadd, 1) := by decide +kernel
theorem d_167_259 : decode code 259 = .ok (.iaload, 1) := by decide +kernel
theorem d_167_260 : decode code 260 = .ok (.aload_n 0, 1) := by decide +kernel
theorem d_167_261 : decode code 261 = .ok (.iload_n 3, 1) := by decide +kernel
theorem d_167_262 : decode code 262 = .ok (.iconst 5, 1) := by decide +kernel
theorem d_167_263 : decode code 263 = .ok (.iadd, 1) := by decide +kernel
theorem d_167_264 : decode code 264 = .ok (.iaload, 1) := by decide +kernel
theorem d_167_265 : decode code 265 = .ok (.invokevirtual 27, 3) := by decide +kernel
theorem d_167_268 : decode code 268 = .ok (.if_icmp .eq 510, 3) := by decide +kernel
theorem d_167_271 : decode code 271 = .ok (.iconst 0, 1) := by decide +kernel
theorem d_167_272 : decode code 272 = .ok (.ireturn, 1) := by decide +kernel
theorem d_167_273 : decode code 273 = .ok (.aload_n 1, 1) := by decide +kernel
theorem d_167_274 : decode code 274 = .ok (.aload_n 0, 1) := by decide +kernel
theorem d_167_275 : decode code 275 = .ok (.iload_n 3, 1) := by decide +kernel
theorem d_167_276 : decode code 276 = .ok (.iconst 1, 1) := by decide +kernel
theorem d_167_277 : decode code 277 = .ok (.iadd, 1) := by decide +kernel
theorem d_167_278 : decode code 278 = .ok (.iaload, 1) := by decide +kernel
theorem d_167_279 : decode code 279 = .ok (.aload_n 0, 1) := by decide +kernel
theorem d_167_280 : decode code 280 = .ok (.iload_n 3, 1) := by decide +kernel
theorem d_167_281 : decode code 281 = .ok (.iconst 2, 1) := by decide +kernel
theorem d_167_282 : decode code 282 = .ok (.iadd, 1) := by decide +kernel
theorem d_167_283 : decode code 283 = .ok (.iaload, 1) := by decide +kernel
theorem d_167_284 : decode code 284 = .ok (.invokevirtual 28, 3) := by decide +kernel
theorem d_167_287 : decode code 287 = .ok (.aload_n 2, 1) := by decide +kernel
theorem d_167_288 : decode code 288 = .ok (.aload_n 0, 1) := by decide +kernel
theorem d_167_289 : decode code 289 = .ok (.iload_n 3, 1) := by decide +kernel
theorem d_167_290 : decode code 290 = .ok (.iconst 1, 1) := by decide +kernel
theorem d_167_291 : decode code 291 = .ok (.iadd, 1) := by decide +kernel
theorem d_167_292 : decode code 292 = .ok (.iaload, 1) := by decide +kernel
theorem d_167_293 : decode code 293 = .ok (.aload_n 0, 1) := by decide +kernel
theorem d_167_294 : decode code 294 = .ok (.iload_n 3, 1) := by decide +kernel
theorem d_167_295 : decode code 295 = .ok (.iconst 2, 1) := by decide +kernel
theorem d_167_296 : decode code 296 = .ok (.iadd, 1) := by decide +kernel
theorem d_167_297 : decode code 297 = .ok (.iaload, 1) := by decide +kernel
theorem d_167_298 : decode code 298 = .ok (.invokevirtual 31, 3) := by decide +kernel
theorem d_167_301 : decode code 301 = .ok (.if_icmp .eq 477, 3) := by decide +kernel
theorem d_167_304 : decode code 304 = .ok (.iconst 0, 1) := by decide +kernel
theorem d_167_305 : decode code 305 = .ok (.ireturn, 1) := by decide +kernel
theorem d_167_306 : decode code 306 = .ok (.aload_n 1, 1) := by decide +kernel
theorem d_167_307 : decode code 307 = .ok (.aload_n 0, 1) := by decide +kernel
theorem d_167_308 : decode code 308 = .ok (.iload_n 3, 1) := by decide +kernel
theorem d_167_309 : decode code 309 = .ok (.iconst 1, 1) := by decide +kernel
theorem d_167_310 : decode code 310 = .ok (.iadd, 1) := by decide +kernel
theorem d_167_311 : decode code 311 = .ok (.iaload, 1) := by decide +kernel
theorem d_167_312 : decode code 312 = .ok (.ifCond .eq 7, 3) := by decide +kernel
theorem d_167_315 : decode code 315 = .ok (.iconst 1, 1) := by decide +kernel
theorem d_167_316 : decode code 316 = .ok (.goto 4, 3) := by decide +kernel
theorem d_167_319 : decode code 319 = .ok (.iconst 0, 1) := by decide +kernel
theorem d_167_320 : decode code 320 = .ok (.aload_n 0, 1) := by decide +kernel
theorem d_167_321 : decode code 321 = .ok (.iload_n 3, 1) := by decide +kernel
theorem d_167_322 : decode code 322 = .ok (.iconst 2, 1) := by decide +kernel
theorem d_167_323 : decode code 323 = .ok (.iadd, 1) := by decide +kernel
theorem d_167_324 : decode code 324 = .ok (.iaload, 1) := by decide +kernel
theorem d_167_325 : decode code 325 = .ok (.aload_n 0, 1) := by decide +kernel
theorem d_167_326 : decode code 326 = .ok (.iload_n 3, 1) := by decide +kernel
theorem d_167_327 : decode code 327 = .ok (.iconst 3, 1) := by decide +kernel
theorem d_167_328 : decode code 328 = .ok (.iadd, 1) := by decide +kernel
theorem d_167_329 : decode code 329 = .ok (.iaload, 1) := by decide +kernel
theorem d_167_330 : decode code 330 = .ok (.invokevirtual 32, 3) := by decide +kernel
theorem d_167_333 : decode code 333 = .ok (.aload_n 2, 1) := by decide +kernel
theorem d_167_334 : decode code 334 = .ok (.aload_n 0, 1) := by decide +kernel
theorem d_167_335 : decode code 335 = .ok (.iload_n 3, 1) := by decide +kernel
theorem d_167_336 : decode code 336 = .ok (.iconst 1, 1) := by decide +kernel
theorem d_167_337 : decode code 337 = .ok (.iadd, 1) := by decide +kernel
theorem d_167_338 : decode code 338 = .ok (.iaload, 1) := by decide +kernel
theorem d_167_339 : decode code 339 = .ok (.ifCond .eq 7, 3) := by decide +kernel
theorem d_167_342 : decode code 342 = .ok (.iconst 1, 1) := by decide +kernel
theorem d_167_343 : decode code 343 = .ok (.goto 4, 3) := by decide +kernel
theorem d_167_346 : decode code 346 = .ok (.iconst 0, 1) := by decide +kernel
theorem d_167_347 : decode code 347 = .ok (.aload_n 0, 1) := by decide +kernel
theorem d_167_348 : decode code 348 = .ok (.iload_n 3, 1) := by decide +kernel
theorem d_167_349 : decode code 349 = .ok (.iconst 2, 1) := by decide +kernel
theorem d_167_350 : decode code 350 = .ok (.iadd, 1) := by decide +kernel
theorem d_167_351 : decode code 351 = .ok (.iaload, 1) := by decide +kernel
theorem d_167_352 : decode code 352 = .ok (.aload_n 0, 1) := by decide +kernel
theorem d_167_353 : decode code 353 = .ok (.iload_n 3, 1) := by decide +kernel
theorem d_167_354 : decode code 354 = .ok (.iconst 3, 1) := by decide +kernel
theorem d_167_355 : decode code 355 = .ok (.iadd, 1) := by decide +kernel
theorem d_167_356 : decode code 356 = .ok (.iaload, 1) := by decide +kernel
theorem d_167_357 : decode code 357 = .ok (.invokevirtual 36, 3) := by decide +kernel
theorem d_167_360 : decode code 360 = .ok (.if_icmp .eq 418, 3) := by decide +kernel
theorem d_167_363 : decode code 363 = .ok (.iconst 0, 1) := by decide +kernel
theorem d_167_364 : decode code 364 = .ok (.ireturn, 1) := by decide +kernel
theorem d_167_365 : decode code 365 = .ok (.aload_n 1, 1) := by decide +kernel
theorem d_167_366 : decode code 366 = .ok (.invokevirtual 37, 3) := by decide +kernel
theorem d_167_369 : decode code 369 = .ok (.aload_n 2, 1) := by decide +kernel
theorem d_167_370 : decode code 370 = .ok (.invokevirtual 41, 3) := by decide +kernel
theorem d_167_373 : decode code 373 = .ok (.if_icmp .eq 405, 3) := by decide +kernel
theorem d_167_376 : decode code 376 = .ok (.iconst 0, 1) := by decide +kernel
theorem d_167_377 : decode code 377 = .ok (.ireturn, 1) := by decide +kernel
theorem d_167_378 : decode code 378 = .ok (.aload_n 1, 1) := by decide +kernel
theorem d_167_379 : decode code 379 = .ok (.invokevirtual 42, 3) := by decide +kernel
theorem d_167_382 : decode code 382 = .ok (.aload_n 2, 1) := by decide +kernel
theorem d_167_383 : decode code 383 = .ok (.invokevirtual 45, 3) := by decide +kernel
theorem d_167_386 : decode code 386 = .ok (.if_icmp .eq 392, 3) := by decide +kernel
theorem d_167_389 : decode code 389 = .ok (.iconst 0, 1) := by decide +kernel
theorem d_167_390 : decode code 390 = .ok (.ireturn, 1) := by decide +kernel
theorem d_167_391 : decode code 391 = .ok (.aload_n 1, 1) := by decide +kernel
theorem d_167_392 : decode code 392 = .ok (.aload_n 0, 1) := by decide +kernel
theorem d_167_393 : decode code 393 = .ok (.iload_n 3, 1) := by decide +kernel
theorem d_167_394 : decode code 394 = .ok (.iconst 1, 1) := by decide +kernel
theorem d_167_395 : decode code 395 = .ok (.iadd, 1) := by decide +kernel
theorem d_167_396 : decode code 396 = .ok (.iaload, 1) := by decide +kernel
theorem d_167_397 : decode code 397 = .ok (.aload_n 0, 1) := by decide +kernel
theorem d_167_398 : decode code 398 = .ok (.iload_n 3, 1) := by decide +kernel
theorem d_167_399 : decode code 399 = .ok (.iconst 2, 1) := by decide +kernel
theorem d_167_400 : decode code 400 = .ok (.iadd, 1) := by decide +kernel
theorem d_167_401 : decode code 401 = .ok (.iaload, 1) := by decide +kernel
theorem d_167_402 : decode code 402 = .ok (.aload_n 0, 1) := by decide +kernel
theorem d_167_403 : decode code 403 = .ok (.iload_n 3, 1) := by decide +kernel
theorem d_167_404 : decode code 404 = .ok (.iconst 3, 1) := by decide +kernel
theorem d_167_405 : decode code 405 = .ok (.iadd, 1) := by decide +kernel
theorem d_167_406 : decode code 406 = .ok (.iaload, 1) := by decide +kernel
theorem d_167_407 : decode code 407 = .ok (.aload_n 0, 1) := by decide +kernel
theorem d_167_408 : decode code 408 = .ok (.iload_n 3, 1) := by decide +kernel
theorem d_167_409 : decode code 409 = .ok (.iconst 4, 1) := by decide +kernel
theorem d_167_410 : decode code 410 = .ok (.iadd, 1) := by decide +kernel
theorem d_167_411 : decode code 411 = .ok (.iaload, 1) := by decide +kernel
theorem d_167_412 : decode code 412 = .ok (.invokevirtual 46, 3) := by decide +kernel
theorem d_167_415 : decode code 415 = .ok (.aload_n 2, 1) := by decide +kernel
theorem d_167_416 : decode code 416 = .ok (.aload_n 0, 1) := by decide +kernel
theorem d_167_417 : decode code 417 = .ok (.iload_n 3, 1) := by decide +kernel
theorem d_167_418 : decode code 418 = .ok (.iconst 1, 1) := by decide +kernel
theorem d_167_419 : decode code 419 = .ok (.iadd, 1) := by decide +kernel
theorem d_167_420 : decode code 420 = .ok (.iaload, 1) := by decide +kernel
theorem d_167_421 : decode code 421 = .ok (.aload_n 0, 1) := by decide +kernel
theorem d_167_422 : decode code 422 = .ok (.iload_n 3, 1) := by decide +kernel
theorem d_167_423 : decode code 423 = .ok (.iconst 2, 1) := by decide +kernel
theorem d_167_424 : decode code 424 = .ok (.iadd, 1) := by decide +kernel
theorem d_167_425 : decode code 425 = .ok (.iaload, 1) := by decide +kernel
theorem d_167_426 : decode code 426 = .ok (.aload_n 0, 1) := by decide +kernel
theorem d_167_427 : decode code 427 = .ok (.iload_n 3, 1) := by decide +kernel
theorem d_167_428 : decode code 428 = .ok (.iconst 3, 1) := by decide +kernel
theorem d_167_429 : decode code 429 = .ok (.iadd, 1) := by decide +kernel
theorem d_167_430 : decode code 430 = .ok (.iaload, 1) := by decide +kernel
theorem d_167_431 : decode code 431 = .ok (.aload_n 0, 1) := by decide +kernel
theorem d_167_432 : decode code 432 = .ok (.iload_n 3, 1) := by decide +kernel
theorem d_167_433 : decode code 433 = .ok (.iconst 4, 1) := by decide +kernel
theorem d_167_434 : decode code 434 = .ok (.iadd, 1) := by decide +kernel
theorem d_167_435 : decode code 435 = .ok (.iaload, 1) := by decide +kernel
theorem d_167_436 : decode code 436 = .ok (.invokevirtual 49, 3) := by decide +kernel
theorem d_167_439 : decode code 439 = .ok (.if_icmp .eq 339, 3) := by decide +kernel
theorem d_167_442 : decode code 442 = .ok (.iconst 0, 1) := by decide +kernel
theorem d_167_443 : decode code 443 = .ok (.ireturn, 1) := by decide +kernel
theorem d_167_444 : decode code 444 = .ok (.aload_n 1, 1) := by decide +kernel
theorem d_167_445 : decode code 445 = .ok (.aload_n 0, 1) := by decide +kernel
theorem d_167_446 : decode code 446 = .ok (.iload_n 3, 1) := by decide +kernel
theorem d_167_447 : decode code 447 = .ok (.iconst 1, 1) := by decide +kernel
theorem d_167_448 : decode code 448 = .ok (.iadd, 1) := by decide +kernel
theorem d_167_449 : decode code 449 = .ok (.iaload, 1) := by decide +kernel
theorem d_167_450 : decode code 450 = .ok (.aload_n 0, 1) := by decide +kernel
theorem d_167_451 : decode code 451 = .ok (.iload_n 3, 1) := by decide +kernel
theorem d_167_452 : decode code 452 = .ok (.iconst 2, 1) := by decide +kernel
theorem d_167_453 : decode code 453 = .ok (.iadd, 1) := by decide +kernel
theorem d_167_454 : decode code 454 = .ok (.iaload, 1) := by decide +kernel
theorem d_167_455 : decode code 455 = .ok (.aload_n 0, 1) := by decide +kernel
theorem d_167_456 : decode code 456 = .ok (.iload_n 3, 1) := by decide +kernel
theorem d_167_457 : decode code 457 = .ok (.iconst 3, 1) := by decide +kernel
theorem d_167_458 : decode code 458 = .ok (.iadd, 1) := by decide +kernel
theorem d_167_459 : decode code 459 = .ok (.iaload, 1) := by decide +kernel
theorem d_167_460 : decode code 460 = .ok (.invokevirtual 50, 3) := by decide +kernel
theorem d_167_463 : decode code 463 = .ok (.aload_n 2, 1) := by decide +kernel
theorem d_167_464 : decode code 464 = .ok (.aload_n 0, 1) := by decide +kernel
theorem d_167_465 : decode code 465 = .ok (.iload_n 3, 1) := by decide +kernel
theorem d_167_466 : decode code 466 = .ok (.iconst 1, 1) := by decide +kernel
theorem d_167_467 : decode code 467 = .ok (.iadd, 1) := by decide +kernel
theorem d_167_468 : decode code 468 = .ok (.iaload, 1) := by decide +kernel
theorem d_167_469 : decode code 469 = .ok (.aload_n 0, 1) := by decide +kernel
theorem d_167_470 : decode code 470 = .ok (.iload_n 3, 1) := by decide +kernel
theorem d_167_471 : decode code 471 = .ok (.iconst 2, 1) := by decide +kernel
theorem d_167_472 : decode code 472 = .ok (.iadd, 1) := by decide +kernel
theorem d_167_473 : decode code 473 = .ok (.iaload, 1) := by decide +kernel
theorem d_167_474 : decode code 474 = .ok (.aload_n 0, 1) := by decide +kernel
theorem d_167_475 : decode code 475 = .ok (.iload_n 3, 1) := by decide +kernel
theorem d_167_476 : decode code 476 = .ok (.iconst 3, 1) := by decide +kernel
theorem d_167_477 : decode code 477 = .ok (.iadd, 1) := by decide +kernel
theorem d_167_478 : decode code 478 = .ok (.iaload, 1) := by decide +kernel
theorem d_167_479 : decode code 479 = .ok (.invokevirtual 54, 3) := by decide +kernel
theorem d_167_482 : decode code 482 = .ok (.lcmp, 1) := by decide +kernel
theorem d_167_483 : decode code 483 = .ok (.ifCond .eq 295, 3) := by decide +kernel
theorem d_167_486 : decode code 486 = .ok (.iconst 0, 1) := by decide +kernel
theorem d_167_487 : decode code 487 = .ok (.ireturn, 1) := by decide +kernel
theorem d_167_488 : decode code 488 = .ok (.aload_n 1, 1) := by decide +kernel
theorem d_167_489 : decode code 489 = .ok (.aload_n 0, 1) := by decide +kernel
theorem d_167_490 : decode code 490 = .ok (.iload_n 3, 1) := by decide +kernel
theorem d_167_491 : decode code 491 = .ok (.iconst 1, 1) := by decide +kernel
theorem d_167_492 : decode code 492 = .ok (.iadd, 1) := by decide +kernel
theorem d_167_493 : decode code 493 = .ok (.iaload, 1) := by decide +kernel
theorem d_167_494 : decode code 494 = .ok (.aload_n 0, 1) := by decide +kernel
theorem d_167_495 : decode code 495 = .ok (.iload_n 3, 1) := by decide +kernel
theorem d_167_496 : decode code 496 = .ok (.iconst 2, 1) := by decide +kernel
theorem d_167_497 : decode code 497 = .ok (.iadd, 1) := by decide +kernel
theorem d_167_498 : decode code 498 = .ok (.iaload, 1) := by decide +kernel
theorem d_167_499 : decode code 499 = .ok (.aload_n 0, 1) := by decide +kernel
theorem d_167_500 : decode code 500 = .ok (.iload_n 3, 1) := by decide +kernel
theorem d_167_501 : decode code 501 = .ok (.iconst 3, 1) := by decide +kernel
theorem d_167_502 : decode code 502 = .ok (.iadd, 1) := by decide +kernel
theorem d_167_503 : decode code 503 = .ok (.iaload, 1) := by decide +kernel
theorem d_167_504 : decode code 504 = .ok (.aload_n 0, 1) := by decide +kernel
theorem d_167_505 : decode code 505 = .ok (.iload_n 3, 1) := by decide +kernel
theorem d_167_506 : decode code 506 = .ok (.iconst 4, 1) := by decide +kernel
theorem d_167_507 : decode code 507 = .ok (.iadd, 1) := by decide +kernel
theorem d_167_508 : decode code 508 = .ok (.iaload, 1) := by decide +kernel
theorem d_167_509 : decode code 509 = .ok (.invokevirtual 55, 3) := by decide +kernel
theorem d_167_512 : decode code 512 = .ok (.aload_n 2, 1) := by decide +kernel
theorem d_167_513 : decode code 513 = .ok (.aload_n 0, 1) := by decide +kernel
theorem d_167_514 : decode code 514 = .ok (.iload_n 3, 1) := by decide +kernel
theorem d_167_515 : decode code 515 = .ok (.iconst 1, 1) := by decide +kernel
theorem d_167_516 : decode code 516 = .ok (.iadd, 1) := by decide +kernel
theorem d_167_517 : decode code 517 = .ok (.iaload, 1) := by decide +kernel
theorem d_167_518 : decode code 518 = .ok (.aload_n 0, 1) := by decide +kernel
theorem d_167_519 : decode code 519 = .ok (.iload_n 3, 1) := by decide +kernel
theorem d_167_520 : decode code 520 = .ok (.iconst 2, 1) := by decide +kernel
theorem d_167_521 : decode code 521 = .ok (.iadd, 1) := by decide +kernel
theorem d_167_522 : decode code 522 = .ok (.iaload, 1) := by decide +kernel
theorem d_167_523 : decode code 523 = .ok (.aload_n 0, 1) := by decide +kernel
theorem d_167_524 : decode code 524 = .ok (.iload_n 3, 1) := by decide +kernel
theorem d_167_525 : decode code 525 = .ok (.iconst 3, 1) := by decide +kernel
theorem d_167_526 : decode code 526 = .ok (.iadd, 1) := by decide +kernel
theorem d_167_527 : decode code 527 = .ok (.iaload, 1) := by decide +kernel
theorem d_167_528 : decode code 528 = .ok (.aload_n 0, 1) := by decide +kernel
theorem d_167_529 : decode code 529 = .ok (.iload_n 3, 1) := by decide +kernel
theorem d_167_530 : decode code 530 = .ok (.iconst 4, 1) := by decide +kernel
theorem d_167_531 : decode code 531 = .ok (.iadd, 1) := by decide +kernel
theorem d_167_532 : decode code 532 = .ok (.iaload, 1) := by decide +kernel
theorem d_167_533 : decode code 533 = .ok (.invokevirtual 58, 3) := by decide +kernel
theorem d_167_536 : decode code 536 = .ok (.if_icmp .eq 242, 3) := by decide +kernel
theorem d_167_539 : decode code 539 = .ok (.iconst 0, 1) := by decide +kernel
theorem d_167_540 : decode code 540 = .ok (.ireturn, 1) := by decide +kernel
theorem d_167_541 : decode code 541 = .ok (.aload_n 1, 1) := by decide +kernel
theorem d_167_542 : decode code 542 = .ok (.aload_n 0, 1) := by decide +kernel
theorem d_167_543 : decode code 543 = .ok (.iload_n 3, 1) := by decide +kernel
theorem d_167_544 : decode code 544 = .ok (.iconst 1, 1) := by decide +kernel
theorem d_167_545 : decode code 545 = .ok (.iadd, 1) := by decide +kernel
theorem d_167_546 : decode code 546 = .ok (.iaload, 1) := by decide +kernel
theorem d_167_547 : decode code 547 = .ok (.aload_n 0, 1) := by decide +kernel
theorem d_167_548 : decode code 548 = .ok (.iload_n 3, 1) := by decide +kernel
theorem d_167_549 : decode code 549 = .ok (.iconst 2, 1) := by decide +kernel
theorem d_167_550 : decode code 550 = .ok (.iadd, 1) := by decide +kernel
theorem d_167_551 : decode code 551 = .ok (.iaload, 1) := by decide +kernel
theorem d_167_552 : decode code 552 = .ok (.aload_n 0, 1) := by decide +kernel
theorem d_167_553 : decode code 553 = .ok (.iload_n 3, 1) := by decide +kernel
theorem d_167_554 : decode code 554 = .ok (.iconst 3, 1) := by decide +kernel
theorem d_167_555 : decode code 555 = .ok (.iadd, 1) := by decide +kernel
theorem d_167_556 : decode code 556 = .ok (.iaload, 1) := by decide +kernel
theorem d_167_557 : decode code 557 = .ok (.invokevirtual 59, 3) := by decide +kernel
theorem d_167_560 : decode code 560 = .ok (.aload_n 2, 1) := by decide +kernel
theorem d_167_561 : decode code 561 = .ok (.aload_n 0, 1) := by decide +kernel
theorem d_167_562 : decode code 562 = .ok (.iload_n 3, 1) := by decide +kernel
theorem d_167_563 : decode code 563 = .ok (.iconst 1, 1) := by decide +kernel
theorem d_167_564 : decode code 564 = .ok (.iadd, 1) := by decide +kernel
theorem d_167_565 : decode code 565 = .ok (.iaload, 1) := by decide +kernel
theorem d_167_566 : decode code 566 = .ok (.aload_n 0, 1) := by decide +kernel
theorem d_167_567 : decode code 567 = .ok (.iload_n 3, 1) := by decide +kernel
theorem d_167_568 : decode code 568 = .ok (.iconst 2, 1) := by decide +kernel
theorem d_167_569 : decode code 569 = .ok (.iadd, 1) := by decide +kernel
theorem d_167_570 : decode code 570 = .ok (.iaload, 1) := by decide +kernel
theorem d_167_571 : decode code 571 = .ok (.aload_n 0, 1) := by decide +kernel
theorem d_167_572 : decode code 572 = .ok (.iload_n 3, 1) := by decide +kernel
theorem d_167_573 : decode code 573 = .ok (.iconst 3, 1) := by decide +kernel
theorem d_167_574 : decode code 574 = .ok (.iadd, 1) := by decide +kernel
theorem d_167_575 : decode code 575 = .ok (.iaload, 1) := by decide +kernel
theorem d_167_576 : decode code 576 = .ok (.invokevirtual 63, 3) := by decide +kernel
theorem d_167_579 : decode code 579 = .ok (.if_icmp .eq 199, 3) := by decide +kernel
theorem d_167_582 : decode code 582 = .ok (.iconst 0, 1) := by decide +kernel
theorem d_167_583 : decode code 583 = .ok (.ireturn, 1) := by decide +kernel
theorem d_167_584 : decode code 584 = .ok (.aload_n 1, 1) := by decide +kernel
theorem d_167_585 : decode code 585 = .ok (.aload_n 0, 1) := by decide +kernel
theorem d_167_586 : decode code 586 = .ok (.iload_n 3, 1) := by decide +kernel
theorem d_167_587 : decode code 587 = .ok (.iconst 1, 1) := by decide +kernel
theorem d_167_588 : decode code 588 = .ok (.iadd, 1) := by decide +kernel
theorem d_167_589 : decode code 589 = .ok (.iaload, 1) := by decide +kernel
theorem d_167_590 : decode code 590 = .ok (.aload_n 0, 1) := by decide +kernel
theorem d_167_591 : decode code 591 = .ok (.iload_n 3, 1) := by decide +kernel
theorem d_167_592 : decode code 592 = .ok (.iconst 2, 1) := by decide +kernel
theorem d_167_593 : decode code 593 = .ok (.iadd, 1) := by decide +kernel
theorem d_167_594 : decode code 594 = .ok (.iaload, 1) := by decide +kernel
theorem d_167_595 : decode code 595 = .ok (.invokevirtual 64, 3) := by decide +kernel
theorem d_167_598 : decode code 598 = .ok (.aload_n 2, 1) := by decide +kernel
theorem d_167_599 : decode code 599 = .ok (.aload_n 0, 1) := by decide +kernel
theorem d_167_600 : decode code 600 = .ok (.iload_n 3, 1) := by decide +kernel
theorem d_167_601 : decode code 601 = .ok (.iconst 1, 1) := by decide +kernel
theorem d_167_602 : decode code 602 = .ok (.iadd, 1) := by decide +kernel
theorem d_167_603 : decode code 603 = .ok (.iaload, 1) := by decide +kernel
theorem d_167_604 : decode code 604 = .ok (.aload_n 0, 1) := by decide +kernel
theorem d_167_605 : decode code 605 = .ok (.iload_n 3, 1) := by decide +kernel
theorem d_167_606 : decode code 606 = .ok (.iconst 2, 1) := by decide +kernel
theorem d_167_607 : decode code 607 = .ok (.iadd, 1) := by decide +kernel
theorem d_167_608 : decode code 608 = .ok (.iaload, 1) := by decide +kernel
theorem d_167_609 : decode code 609 = .ok (.invokevirtual 68, 3) := by decide +kernel
theorem d_167_612 : decode code 612 = .ok (.lcmp, 1) := by decide +kernel
theorem d_167_613 : decode code 613 = .ok (.ifCond .eq 165, 3) := by decide +kernel
theorem d_167_616 : decode code 616 = .ok (.iconst 0, 1) := by decide +kernel
theorem d_167_617 : decode code 617 = .ok (.ireturn, 1) := by decide +kernel
theorem d_167_618 : decode code 618 = .ok (.aload_n 1, 1) := by decide +kernel
theorem d_167_619 : decode code 619 = .ok (.invokevirtual 69, 3) := by decide +kernel
theorem d_167_622 : decode code 622 = .ok (.aload_n 2, 1) := by decide +kernel
theorem d_167_623 : decode code 623 = .ok (.invokevirtual 72, 3) := by decide +kernel
theorem d_167_626 : decode code 626 = .ok (.if_icmp .eq 152, 3) := by decide +kernel
theorem d_167_629 : decode code 629 = .ok (.iconst 0, 1) := by decide +kernel
theorem d_167_630 : decode code 630 = .ok (.ireturn, 1) := by decide +kernel
theorem d_167_631 : decode code 631 = .ok (.aload_n 1, 1) := by decide +kernel
theorem d_167_632 : decode code 632 = .ok (.invokevirtual 73, 3) := by decide +kernel
theorem d_167_635 : decode code 635 = .ok (.aload_n 2, 1) := by decide +kernel
theorem d_167_636 : decode code 636 = .ok (.invokevirtual 76, 3) := by decide +kernel
theorem d_167_639 : decode code 639 = .ok (.if_icmp .eq 139, 3) := by decide +kernel
theorem d_167_642 : decode code 642 = .ok (.iconst 0, 1) := by decide +kernel
theorem d_167_643 : decode code 643 = .ok (.ireturn, 1) := by decide +kernel
theorem d_167_644 : decode code 644 = .ok (.aload_n 1, 1) := by decide +kernel
theorem d_167_645 : decode code 645 = .ok (.aload_n 0, 1) := by decide +kernel
theorem d_167_646 : decode code 646 = .ok (.iload_n 3, 1) := by decide +kernel
theorem d_167_647 : decode code 647 = .ok (.iconst 1, 1) := by decide +kernel
theorem d_167_648 : decode code 648 = .ok (.iadd, 1) := by decide +kernel
theorem d_167_649 : decode code 649 = .ok (.iaload, 1) := by decide +kernel
theorem d_167_650 : decode code 650 = .ok (.invokevirtual 77, 3) := by decide +kernel
theorem d_167_653 : decode code 653 = .ok (.aload_n 2, 1) := by decide +kernel
theorem d_167_654 : decode code 654 = .ok (.aload_n 0, 1) := by decide +kernel
theorem d_167_655 : decode code 655 = .ok (.iload_n 3, 1) := by decide +kernel
theorem d_167_656 : decode code 656 = .ok (.iconst 1, 1) := by decide +kernel
theorem d_167_657 : decode code 657 = .ok (.iadd, 1) := by decide +kernel
theorem d_167_658 : decode code 658 = .ok (.iaload, 1) := by decide +kernel
theorem d_167_659 : decode code 659 = .ok (.invokevirtual 81, 3) := by decide +kernel
theorem d_167_662 : decode code 662 = .ok (.if_icmp .eq 116, 3) := by decide +kernel
theorem d_167_665 : decode code 665 = .ok (.iconst 0, 1) := by decide +kernel
theorem d_167_666 : decode code 666 = .ok (.ireturn, 1) := by decide +kernel
theorem d_167_667 : decode code 667 = .ok (.aload_n 1, 1) := by decide +kernel
theorem d_167_668 : decode code 668 = .ok (.aload_n 0, 1) := by decide +kernel
theorem d_167_669 : decode code 669 = .ok (.iload_n 3, 1) := by decide +kernel
theorem d_167_670 : decode code 670 = .ok (.iconst 1, 1) := by decide +kernel
theorem d_167_671 : decode code 671 = .ok (.iadd, 1) := by decide +kernel
theorem d_167_672 : decode code 672 = .ok (.iaload, 1) := by decide +kernel
theorem d_167_673 : decode code 673 = .ok (.invokevirtual 82, 3) := by decide +kernel
theorem d_167_676 : decode code 676 = .ok (.aload_n 2, 1) := by decide +kernel
theorem d_167_677 : decode code 677 = .ok (.aload_n 0, 1) := by decide +kernel
theorem d_167_678 : decode code 678 = .ok (.iload_n 3, 1) := by decide +kernel
theorem d_167_679 : decode code 679 = .ok (.iconst 1, 1) := by decide +kernel
theorem d_167_680 : decode code 680 = .ok (.iadd, 1) := by decide +kernel
theorem d_167_681 : decode code 681 = .ok (.iaload, 1) := by decide +kernel
theorem d_167_682 : decode code 682 = .ok (.invokevirtual 86, 3) := by decide +kernel
theorem d_167_685 : decode code 685 = .ok (.lcmp, 1) := by decide +kernel
theorem d_167_686 : decode code 686 = .ok (.ifCond .eq 92, 3) := by decide +kernel
theorem d_167_689 : decode code 689 = .ok (.iconst 0, 1) := by decide +kernel
theorem d_167_690 : decode code 690 = .ok (.ireturn, 1) := by decide +kernel
theorem d_167_691 : decode code 691 = .ok (.aload_n 1, 1) := by decide +kernel
theorem d_167_692 : decode code 692 = .ok (.aload_n 0, 1) := by decide +kernel
theorem d_167_693 : decode code 693 = .ok (.iload_n 3, 1) := by decide +kernel
theorem d_167_694 : decode code 694 = .ok (.iconst 1, 1) := by decide +kernel
theorem d_167_695 : decode code 695 = .ok (.iadd, 1) := by decide +kernel
theorem d_167_696 : decode code 696 = .ok (.iaload, 1) := by decide +kernel
theorem d_167_697 : decode code 697 = .ok (.i2l, 1) := by decide +kernel
theorem d_167_698 : decode code 698 = .ok (.bipush 32, 2) := by decide +kernel
theorem d_167_700 : decode code 700 = .ok (.lshl, 1) := by decide +kernel
theorem d_167_701 : decode code 701 = .ok (.aload_n 0, 1) := by decide +kernel
theorem d_167_702 : decode code 702 = .ok (.iload_n 3, 1) := by decide +kernel
theorem d_167_703 : decode code 703 = .ok (.iconst 2, 1) := by decide +kernel
theorem d_167_704 : decode code 704 = .ok (.iadd, 1) := by decide +kernel
theorem d_167_705 : decode code 705 = .ok (.iaload, 1) := by decide +kernel
theorem d_167_706 : decode code 706 = .ok (.i2l, 1) := by decide +kernel
theorem d_167_707 : decode code 707 = .ok (.ldc2_w 87, 3) := by decide +kernel
theorem d_167_710 : decode code 710 = .ok (.land, 1) := by decide +kernel
theorem d_167_711 : decode code 711 = .ok (.lor, 1) := by decide +kernel
theorem d_167_712 : decode code 712 = .ok (.aload_n 0, 1) := by decide +kernel
theorem d_167_713 : decode code 713 = .ok (.iload_n 3, 1) := by decide +kernel
theorem d_167_714 : decode code 714 = .ok (.iconst 3, 1) := by decide +kernel
theorem d_167_715 : decode code 715 = .ok (.iadd, 1) := by decide +kernel
theorem d_167_716 : decode code 716 = .ok (.iaload, 1) := by decide +kernel
theorem d_167_717 : decode code 717 = .ok (.invokevirtual 89, 3) := by decide +kernel
theorem d_167_720 : decode code 720 = .ok (.aload_n 2, 1) := by decide +kernel
theorem d_167_721 : decode code 721 = .ok (.aload_n 0, 1) := by decide +kernel
theorem d_167_722 : decode code 722 = .ok (.iload_n 3, 1) := by decide +kernel
theorem d_167_723 : decode code 723 = .ok (.iconst 1, 1) := by decide +kernel
theorem d_167_724 : decode code 724 = .ok (.iadd, 1) := by decide +kernel
theorem d_167_725 : decode code 725 = .ok (.iaload, 1) := by decide +kernel
theorem d_167_726 : decode code 726 = .ok (.i2l, 1) := by decide +kernel
theorem d_167_727 : decode code 727 = .ok (.bipush 32, 2) := by decide +kernel
theorem d_167_729 : decode code 729 = .ok (.lshl, 1) := by decide +kernel
theorem d_167_730 : decode code 730 = .ok (.aload_n 0, 1) := by decide +kernel
theorem d_167_731 : decode code 731 = .ok (.iload_n 3, 1) := by decide +kernel
theorem d_167_732 : decode code 732 = .ok (.iconst 2, 1) := by decide +kernel
theorem d_167_733 : decode code 733 = .ok (.iadd, 1) := by decide +kernel
theorem d_167_734 : decode code 734 = .ok (.iaload, 1) := by decide +kernel
theorem d_167_735 : decode code 735 = .ok (.i2l, 1) := by decide +kernel
theorem d_167_736 : decode code 736 = .ok (.ldc2_w 87, 3) := by decide +kernel
theorem d_167_739 : decode code 739 = .ok (.land, 1) := by decide +kernel
theorem d_167_740 : decode code 740 = .ok (.lor, 1) := by decide +kernel
theorem d_167_741 : decode code 741 = .ok (.aload_n 0, 1) := by decide +kernel
theorem d_167_742 : decode code 742 = .ok (.iload_n 3, 1) := by decide +kernel
theorem d_167_743 : decode code 743 = .ok (.iconst 3, 1) := by decide +kernel
theorem d_167_744 : decode code 744 = .ok (.iadd, 1) := by decide +kernel
theorem d_167_745 : decode code 745 = .ok (.iaload, 1) := by decide +kernel
theorem d_167_746 : decode code 746 = .ok (.invokevirtual 93, 3) := by decide +kernel
theorem d_167_749 : decode code 749 = .ok (.if_icmp .eq 29, 3) := by decide +kernel
theorem d_167_752 : decode code 752 = .ok (.iconst 0, 1) := by decide +kernel
theorem d_167_753 : decode code 753 = .ok (.ireturn, 1) := by decide +kernel
theorem d_167_754 : decode code 754 = .ok (.aload_n 1, 1) := by decide +kernel
theorem d_167_755 : decode code 755 = .ok (.invokevirtual 94, 3) := by decide +kernel
theorem d_167_758 : decode code 758 = .ok (.aload_n 2, 1) := by decide +kernel
theorem d_167_759 : decode code 759 = .ok (.invokevirtual 97, 3) := by decide +kernel
theorem d_167_762 : decode code 762 = .ok (.goto 16, 3) := by decide +kernel
theorem d_167_765 : decode code 765 = .ok (.aload_n 1, 1) := by decide +kernel
theorem d_167_766 : decode code 766 = .ok (.invokevirtual 98, 3) := by decide +kernel
theorem d_167_769 : decode code 769 = .ok (.aload_n 2, 1) := by decide +kernel
theorem d_167_770 : decode code 770 = .ok (.invokevirtual 101, 3) := by decide +kernel
theorem d_167_773 : decode code 773 = .ok (.if_icmp .eq 5, 3) := by decide +kernel
theorem d_167_776 : decode code 776 = .ok (.iconst 0, 1) := by decide +kernel
theorem d_167_777 : decode code 777 = .ok (.ireturn, 1) := by decide +kernel
theorem d_167_778 : decode code 778 = .ok (.iinc 3 6, 3) := by decide +kernel
theorem d_167_781 : decode code 781 = .ok (.goto (-763), 3) := by decide +kernel
theorem d_167_784 : decode code 784 = .ok (.iconst 1, 1) := by decide +kernel
theorem d_167_785 : decode code 785 = .ok (.ireturn, 1) := by decide +kernel
end
section
theorem w_0 : Cond.methodLink "SlabImage" 1 objectInit ∈ am_ws := am_in 58 (by decide +kernel) (by decide +kernel)
theorem w_1 : Cond.instanceMethod objectInit ∈ am_ws := am_in 59 (by decide +kernel) (by decide +kernel)
theorem w_2 : Cond.code objectInit ⟨#[0xb1]⟩ 1 none ∈ am_ws := am_in 60 (by decide +kernel) (by decide +kernel)
theorem w_3 : Cond.classLink "SlabImage" 7 "SlabImage$Store" ∈ am_ws := am_in 61 (by decide +kernel) (by decide +kernel)
theorem w_4 : Cond.instantiable "SlabImage$Store" 8 ∈ am_ws := am_in 62 (by decide +kernel) (by decide +kernel)
theorem w_5 : Cond.initialized "SlabImage$Store" ∈ am_ws := am_in 46 (by decide +kernel) (by decide +kernel)
theorem w_6 : Cond.fieldLink "SlabImage" 10 "SlabImage" "store" "LSlabImage$Store;" ∈ am_ws := am_in 194 (by decide +kernel) (by decide +kernel)
theorem w_7 : Cond.fieldLink "SlabImage" 16 "SlabImage" "spare" "LSlabImage$Store;" ∈ am_ws := am_in 195 (by decide +kernel) (by decide +kernel)
theorem w_8 : Cond.fieldLink "SlabImage" 19 "SlabImage" "defining" "Z" ∈ am_ws := am_in 196 (by decide +kernel) (by decide +kernel)
theorem w_9 : Cond.classLink "SlabImage" 23 "SlabImage$Selection" ∈ am_ws := am_in 157 (by decide +kernel) (by decide +kernel)
theorem w_10 : Cond.instantiable "SlabImage$Selection" 3 ∈ am_ws := am_in 158 (by decide +kernel) (by decide +kernel)
theorem w_11 : Cond.initialized "SlabImage$Selection" ∈ am_ws := am_in 49 (by decide +kernel) (by decide +kernel)
theorem w_12 : Cond.fieldLink "SlabImage" 26 "SlabImage" "rowSelection" "LSlabImage$Selection;" ∈ am_ws := am_in 197 (by decide +kernel) (by decide +kernel)
theorem w_13 : Cond.fieldLink "SlabImage" 30 "SlabImage" "columnSelection" "LSlabImage$Selection;" ∈ am_ws := am_in 198 (by decide +kernel) (by decide +kernel)
theorem w_14 : Cond.fieldLink "SlabImage" 33 "SlabImage" "zeroAlone" "LSlabImage$Selection;" ∈ am_ws := am_in 199 (by decide +kernel) (by decide +kernel)
theorem w_15 : Cond.classLink "SlabImage" 36 "SlabImage$ByteRow" ∈ am_ws := am_in 175 (by decide +kernel) (by decide +kernel)
theorem w_16 : Cond.instantiable "SlabImage$ByteRow" 3 ∈ am_ws := am_in 176 (by decide +kernel) (by decide +kernel)
theorem w_17 : Cond.initialized "SlabImage$ByteRow" ∈ am_ws := am_in 50 (by decide +kernel) (by decide +kernel)
theorem w_18 : Cond.fieldLink "SlabImage" 39 "SlabImage" "draft" "LSlabImage$ByteRow;" ∈ am_ws := am_in 200 (by decide +kernel) (by decide +kernel)
theorem w_19 : Cond.fieldLink "SlabImage" 43 "SlabImage" "image" "LSlabImage$ByteRow;" ∈ am_ws := am_in 201 (by decide +kernel) (by decide +kernel)
theorem w_20 : Cond.methodLink "SlabImage" 38 my_5 ∈ am_ws := am_in 177 (by decide +kernel) (by decide +kernel)
theorem w_21 : Cond.instanceMethod my_5 ∈ am_ws := am_in 178 (by decide +kernel) (by decide +kernel)
theorem w_22 : Cond.methodLink "SlabImage" 25 my_4 ∈ am_ws := am_in 159 (by decide +kernel) (by decide +kernel)
theorem w_23 : Cond.instanceMethod my_4 ∈ am_ws := am_in 160 (by decide +kernel) (by decide +kernel)
theorem w_24 : Cond.methodLink "SlabImage" 9 my_1 ∈ am_ws := am_in 63 (by decide +kernel) (by decide +kernel)
theorem w_25 : Cond.instanceMethod my_1 ∈ am_ws := am_in 64 (by decide +kernel) (by decide +kernel)
theorem w_26 : Cond.methodLink "SlabImage$Store" 3 objectInit ∈ am_ws := am_in 66 (by decide +kernel) (by decide +kernel)
theorem w_27 : Cond.fieldLink "SlabImage$Store" 9 "SlabImage$Store" "recordCount" "I" ∈ am_ws := am_in 131 (by decide +kernel) (by decide +kernel)
theorem w_28 : Cond.fieldLink "SlabImage$Store" 15 "SlabImage$Store" "dimensionCount" "I" ∈ am_ws := am_in 133 (by decide +kernel) (by decide +kernel)
theorem w_29 : Cond.arrayClass .int ∈ am_ws := am_in 96 (by decide +kernel) (by decide +kernel)
theorem w_30 : Cond.fieldLink "SlabImage$Store" 18 "SlabImage$Store" "dimensionNames" "[I" ∈ am_ws := am_in 134 (by decide +kernel) (by decide +kernel)
theorem w_31 : Cond.fieldLink "SlabImage$Store" 22 "SlabImage$Store" "dimensionLengths" "[I" ∈ am_ws := am_in 135 (by decide +kernel) (by decide +kernel)
theorem w_32 : Cond.fieldLink "SlabImage$Store" 25 "SlabImage$Store" "variableCount" "I" ∈ am_ws := am_in 136 (by decide +kernel) (by decide +kernel)
theorem w_33 : Cond.fieldLink "SlabImage$Store" 28 "SlabImage$Store" "variableNames" "[I" ∈ am_ws := am_in 137 (by decide +kernel) (by decide +kernel)
theorem w_34 : Cond.classLink "SlabImage$Store" 31 "SlabImage$Variable" ∈ am_ws := am_in 67 (by decide +kernel) (by decide +kernel)
theorem w_35 : Cond.fieldLink "SlabImage$Store" 33 "SlabImage$Store" "variables" "[LSlabImage$Variable;" ∈ am_ws := am_in 138 (by decide +kernel) (by decide +kernel)
theorem w_36 : Cond.classLink "SlabImage$Store" 38 "SlabImage$AttributeList" ∈ am_ws := am_in 129 (by decide +kernel) (by decide +kernel)
theorem w_37 : Cond.instantiable "SlabImage$AttributeList" 5 ∈ am_ws := am_in 75 (by decide +kernel) (by decide +kernel)
theorem w_38 : Cond.initialized "SlabImage$AttributeList" ∈ am_ws := am_in 48 (by decide +kernel) (by decide +kernel)
theorem w_39 : Cond.fieldLink "SlabImage$Store" 41 "SlabImage$Store" "attributes" "LSlabImage$AttributeList;" ∈ am_ws := am_in 139 (by decide +kernel) (by decide +kernel)
theorem w_40 : Cond.methodLink "SlabImage$Store" 40 my_3 ∈ am_ws := am_in 130 (by decide +kernel) (by decide +kernel)
theorem w_41 : Cond.instanceMethod my_3 ∈ am_ws := am_in 77 (by decide +kernel) (by decide +kernel)
theorem w_42 : Cond.instantiable "SlabImage$Variable" 8 ∈ am_ws := am_in 69 (by decide +kernel) (by decide +kernel)
theorem w_43 : Cond.initialized "SlabImage$Variable" ∈ am_ws := am_in 47 (by decide +kernel) (by decide +kernel)
theorem w_44 : Cond.methodLink "SlabImage$Store" 37 my_2 ∈ am_ws := am_in 70 (by decide +kernel) (by decide +kernel)
theorem w_45 : Cond.instanceMethod my_2 ∈ am_ws := am_in 71 (by decide +kernel) (by decide +kernel)
theorem w_46 : Cond.methodLink "SlabImage$Variable" 3 objectInit ∈ am_ws := am_in 73 (by decide +kernel) (by decide +kernel)
theorem w_47 : Cond.fieldLink "SlabImage$Variable" 9 "SlabImage$Variable" "type" "I" ∈ am_ws := am_in 97 (by decide +kernel) (by decide +kernel)
theorem w_48 : Cond.fieldLink "SlabImage$Variable" 15 "SlabImage$Variable" "firstAxis" "I" ∈ am_ws := am_in 100 (by decide +kernel) (by decide +kernel)
theorem w_49 : Cond.fieldLink "SlabImage$Variable" 18 "SlabImage$Variable" "secondAxis" "I" ∈ am_ws := am_in 102 (by decide +kernel) (by decide +kernel)
theorem w_50 : Cond.fieldLink "SlabImage$Variable" 21 "SlabImage$Variable" "growing" "Z" ∈ am_ws := am_in 104 (by decide +kernel) (by decide +kernel)
theorem w_51 : Cond.fieldLink "SlabImage$Variable" 25 "SlabImage$Variable" "rowCount" "I" ∈ am_ws := am_in 106 (by decide +kernel) (by decide +kernel)
theorem w_52 : Cond.fieldLink "SlabImage$Variable" 28 "SlabImage$Variable" "columnCount" "I" ∈ am_ws := am_in 108 (by decide +kernel) (by decide +kernel)
theorem w_53 : Cond.classLink "SlabImage$Variable" 31 "SlabImage$AttributeList" ∈ am_ws := am_in 74 (by decide +kernel) (by decide +kernel)
theorem w_54 : Cond.fieldLink "SlabImage$Variable" 34 "SlabImage$Variable" "attributes" "LSlabImage$AttributeList;" ∈ am_ws := am_in 109 (by decide +kernel) (by decide +kernel)
theorem w_55 : Cond.fieldLink "SlabImage$Variable" 38 "SlabImage$Variable" "cells" "[I" ∈ am_ws := am_in 111 (by decide +kernel) (by decide +kernel)
theorem w_56 : Cond.methodLink "SlabImage$Variable" 33 my_3 ∈ am_ws := am_in 76 (by decide +kernel) (by decide +kernel)
theorem w_57 : Cond.methodLink "SlabImage$AttributeList" 3 objectInit ∈ am_ws := am_in 79 (by decide +kernel) (by decide +kernel)
theorem w_58 : Cond.fieldLink "SlabImage$AttributeList" 9 "SlabImage$AttributeList" "count" "I" ∈ am_ws := am_in 80 (by decide +kernel) (by decide +kernel)
theorem w_59 : Cond.fieldLink "SlabImage$AttributeList" 15 "SlabImage$AttributeList" "names" "[I" ∈ am_ws := am_in 81 (by decide +kernel) (by decide +kernel)
theorem w_60 : Cond.fieldLink "SlabImage$AttributeList" 19 "SlabImage$AttributeList" "types" "[I" ∈ am_ws := am_in 82 (by decide +kernel) (by decide +kernel)
theorem w_61 : Cond.fieldLink "SlabImage$AttributeList" 22 "SlabImage$AttributeList" "firsts" "[I" ∈ am_ws := am_in 83 (by decide +kernel) (by decide +kernel)
theorem w_62 : Cond.fieldLink "SlabImage$AttributeList" 25 "SlabImage$AttributeList" "seconds" "[I" ∈ am_ws := am_in 84 (by decide +kernel) (by decide +kernel)
theorem w_63 : Cond.methodLink "SlabImage$Selection" 1 objectInit ∈ am_ws := am_in 162 (by decide +kernel) (by decide +kernel)
theorem w_64 : Cond.fieldLink "SlabImage$Selection" 7 "SlabImage$Selection" "start" "I" ∈ am_ws := am_in 163 (by decide +kernel) (by decide +kernel)
theorem w_65 : Cond.fieldLink "SlabImage$Selection" 13 "SlabImage$Selection" "count" "I" ∈ am_ws := am_in 164 (by decide +kernel) (by decide +kernel)
theorem w_66 : Cond.fieldLink "SlabImage$Selection" 16 "SlabImage$Selection" "stride" "I" ∈ am_ws := am_in 167 (by decide +kernel) (by decide +kernel)
theorem w_67 : Cond.methodLink "SlabImage$ByteRow" 3 objectInit ∈ am_ws := am_in 180 (by decide +kernel) (by decide +kernel)
theorem w_68 : Cond.arrayClass .byte ∈ am_ws := am_in 193 (by decide +kernel) (by decide +kernel)
theorem w_69 : Cond.fieldLink "SlabImage$ByteRow" 9 "SlabImage$ByteRow" "bytes" "[B" ∈ am_ws := am_in 181 (by decide +kernel) (by decide +kernel)
theorem w_70 : Cond.fieldLink "SlabImage$ByteRow" 15 "SlabImage$ByteRow" "length" "I" ∈ am_ws := am_in 182 (by decide +kernel) (by decide +kernel)
theorem w_71 : Cond.fieldLink "SlabImage$ByteRow" 19 "SlabImage$ByteRow" "cursor" "I" ∈ am_ws := am_in 185 (by decide +kernel) (by decide +kernel)
theorem w_72 : Cond.methodLink "SlabImage" 46 my_7 ∈ am_ws := am_in 223 (by decide +kernel) (by decide +kernel)
theorem w_73 : Cond.instanceMethod my_7 ∈ am_ws := am_in 224 (by decide +kernel) (by decide +kernel)
theorem w_74 : Cond.selects "SlabImage$Store" my_7 my_7 ∈ am_ws := am_in 225 (by decide +kernel) (by decide +kernel)
theorem w_75 : Cond.static my_8 ∈ am_ws := am_in 228 (by decide +kernel) (by decide +kernel)
theorem w_76 : Cond.static my_9 ∈ am_ws := am_in 231 (by decide +kernel) (by decide +kernel)
theorem w_77 : Cond.methodLink "SlabImage$Store" 57 my_10 ∈ am_ws := am_in 233 (by decide +kernel) (by decide +kernel)
theorem w_78 : Cond.instanceMethod my_10 ∈ am_ws := am_in 234 (by decide +kernel) (by decide +kernel)
theorem w_79 : Cond.selects "SlabImage$Store" my_10 my_10 ∈ am_ws := am_in 235 (by decide +kernel) (by decide +kernel)
theorem w_80 : Cond.methodLink "SlabImage" 50 my_12 ∈ am_ws := am_in 241 (by decide +kernel) (by decide +kernel)
theorem w_81 : Cond.instanceMethod my_12 ∈ am_ws := am_in 242 (by decide +kernel) (by decide +kernel)
theorem w_82 : Cond.selects "SlabImage$Store" my_12 my_12 ∈ am_ws := am_in 243 (by decide +kernel) (by decide +kernel)
theorem w_83 : Cond.static my_13 ∈ am_ws := am_in 246 (by decide +kernel) (by decide +kernel)
theorem w_84 : Cond.methodLink "SlabImage$Store" 64 my_14 ∈ am_ws := am_in 248 (by decide +kernel) (by decide +kernel)
theorem w_85 : Cond.instanceMethod my_14 ∈ am_ws := am_in 249 (by decide +kernel) (by decide +kernel)
theorem w_86 : Cond.selects "SlabImage$Store" my_14 my_14 ∈ am_ws := am_in 250 (by decide +kernel) (by decide +kernel)
theorem w_87 : Cond.methodLink "SlabImage$Store" 75 my_18 ∈ am_ws := am_in 264 (by decide +kernel) (by decide +kernel)
theorem w_88 : Cond.instanceMethod my_18 ∈ am_ws := am_in 265 (by decide +kernel) (by decide +kernel)
theorem w_89 : Cond.selects "SlabImage$Variable" my_18 my_18 ∈ am_ws := am_in 266 (by decide +kernel) (by decide +kernel)
theorem w_90 : Cond.methodLink "SlabImage$Store" 71 my_17 ∈ am_ws := am_in 260 (by decide +kernel) (by decide +kernel)
theorem w_91 : Cond.instanceMethod my_17 ∈ am_ws := am_in 261 (by decide +kernel) (by decide +kernel)
theorem w_92 : Cond.selects "SlabImage$Variable" my_17 my_17 ∈ am_ws := am_in 262 (by decide +kernel) (by decide +kernel)
theorem w_93 : Cond.methodLink "SlabImage$Store" 67 my_16 ∈ am_ws := am_in 256 (by decide +kernel) (by decide +kernel)
theorem w_94 : Cond.instanceMethod my_16 ∈ am_ws := am_in 257 (by decide +kernel) (by decide +kernel)
theorem w_95 : Cond.selects "SlabImage$Store" my_16 my_16 ∈ am_ws := am_in 258 (by decide +kernel) (by decide +kernel)
theorem w_96 : Cond.methodLink "SlabImage$Store" 79 my_15 ∈ am_ws := am_in 252 (by decide +kernel) (by decide +kernel)
theorem w_97 : Cond.instanceMethod my_15 ∈ am_ws := am_in 253 (by decide +kernel) (by decide +kernel)
theorem w_98 : Cond.selects "SlabImage$Store" my_15 my_15 ∈ am_ws := am_in 254 (by decide +kernel) (by decide +kernel)
theorem w_99 : Cond.methodLink "SlabImage$Variable" 45 my_19 ∈ am_ws := am_in 270 (by decide +kernel) (by decide +kernel)
theorem w_100 : Cond.static my_19 ∈ am_ws := am_in 271 (by decide +kernel) (by decide +kernel)
theorem w_101 : Cond.methodLink "SlabImage" 58 my_23 ∈ am_ws := am_in 285 (by decide +kernel) (by decide +kernel)
theorem w_102 : Cond.instanceMethod my_23 ∈ am_ws := am_in 286 (by decide +kernel) (by decide +kernel)
theorem w_103 : Cond.selects "SlabImage$AttributeList" my_23 my_23 ∈ am_ws := am_in 287 (by decide +kernel) (by decide +kernel)
theorem w_104 : Cond.methodLink "SlabImage" 54 my_21 ∈ am_ws := am_in 277 (by decide +kernel) (by decide +kernel)
theorem w_105 : Cond.instanceMethod my_21 ∈ am_ws := am_in 278 (by decide +kernel) (by decide +kernel)
theorem w_106 : Cond.selects "SlabImage$Store" my_21 my_21 ∈ am_ws := am_in 279 (by decide +kernel) (by decide +kernel)
theorem w_107 : Cond.fieldLink "SlabImage$Store" 48 "SlabImage$Variable" "attributes" "LSlabImage$AttributeList;" ∈ am_ws := am_in 110 (by decide +kernel) (by decide +kernel)
theorem w_108 : Cond.methodLink "SlabImage$Store" 82 my_22 ∈ am_ws := am_in 281 (by decide +kernel) (by decide +kernel)
theorem w_109 : Cond.instanceMethod my_22 ∈ am_ws := am_in 282 (by decide +kernel) (by decide +kernel)
theorem w_110 : Cond.selects "SlabImage$Store" my_22 my_22 ∈ am_ws := am_in 283 (by decide +kernel) (by decide +kernel)
theorem w_111 : Cond.static my_24 ∈ am_ws := am_in 292 (by decide +kernel) (by decide +kernel)
theorem w_112 : Cond.fieldLink "SlabImage" 175 "SlabImage" "LEAST" "[I" ∈ am_ws := am_in 294 (by decide +kernel) (by decide +kernel)
theorem w_113 : Cond.fieldLink "SlabImage" 179 "SlabImage" "GREATEST" "[I" ∈ am_ws := am_in 296 (by decide +kernel) (by decide +kernel)
theorem w_114 : Cond.methodLink "SlabImage" 63 my_26 ∈ am_ws := am_in 303 (by decide +kernel) (by decide +kernel)
theorem w_115 : Cond.instanceMethod my_26 ∈ am_ws := am_in 304 (by decide +kernel) (by decide +kernel)
theorem w_116 : Cond.selects "SlabImage$AttributeList" my_26 my_26 ∈ am_ws := am_in 305 (by decide +kernel) (by decide +kernel)
theorem w_117 : Cond.methodLink "SlabImage" 70 my_30 ∈ am_ws := am_in 318 (by decide +kernel) (by decide +kernel)
theorem w_118 : Cond.instanceMethod my_30 ∈ am_ws := am_in 319 (by decide +kernel) (by decide +kernel)
theorem w_119 : Cond.selects "SlabImage$Store" my_30 my_30 ∈ am_ws := am_in 320 (by decide +kernel) (by decide +kernel)
theorem w_120 : Cond.methodLink "SlabImage" 67 my_28 ∈ am_ws := am_in 311 (by decide +kernel) (by decide +kernel)
theorem w_121 : Cond.instanceMethod my_28 ∈ am_ws := am_in 312 (by decide +kernel) (by decide +kernel)
theorem w_122 : Cond.selects "SlabImage$Store" my_28 my_28 ∈ am_ws := am_in 313 (by decide +kernel) (by decide +kernel)
theorem w_123 : Cond.methodLink "SlabImage$Store" 86 my_29 ∈ am_ws := am_in 315 (by decide +kernel) (by decide +kernel)
theorem w_124 : Cond.static my_29 ∈ am_ws := am_in 316 (by decide +kernel) (by decide +kernel)
theorem w_125 : Cond.fieldLink "SlabImage" 73 "SlabImage$Store" "recordCount" "I" ∈ am_ws := am_in 132 (by decide +kernel) (by decide +kernel)
theorem w_126 : Cond.constantLong "SlabImage" 81 (800) ∈ am_ws := am_in 375 (by decide +kernel) (by decide +kernel)
theorem w_127 : Cond.methodLink "SlabImage" 77 my_32 ∈ am_ws := am_in 326 (by decide +kernel) (by decide +kernel)
theorem w_128 : Cond.instanceMethod my_32 ∈ am_ws := am_in 327 (by decide +kernel) (by decide +kernel)
theorem w_129 : Cond.selects "SlabImage$Store" my_32 my_32 ∈ am_ws := am_in 328 (by decide +kernel) (by decide +kernel)
theorem w_130 : Cond.methodLink "SlabImage$Store" 123 my_41 ∈ am_ws := am_in 366 (by decide +kernel) (by decide +kernel)
theorem w_131 : Cond.instanceMethod my_41 ∈ am_ws := am_in 367 (by decide +kernel) (by decide +kernel)
theorem w_132 : Cond.selects "SlabImage$Store" my_41 my_41 ∈ am_ws := am_in 368 (by decide +kernel) (by decide +kernel)
theorem w_133 : Cond.methodLink "SlabImage$Store" 115 my_38 ∈ am_ws := am_in 352 (by decide +kernel) (by decide +kernel)
theorem w_134 : Cond.instanceMethod my_38 ∈ am_ws := am_in 353 (by decide +kernel) (by decide +kernel)
theorem w_135 : Cond.selects "SlabImage$Store" my_38 my_38 ∈ am_ws := am_in 354 (by decide +kernel) (by decide +kernel)
theorem w_136 : Cond.methodLink "SlabImage$Store" 122 my_33 ∈ am_ws := am_in 330 (by decide +kernel) (by decide +kernel)
theorem w_137 : Cond.instanceMethod my_33 ∈ am_ws := am_in 331 (by decide +kernel) (by decide +kernel)
theorem w_138 : Cond.selects "SlabImage$Store" my_33 my_33 ∈ am_ws := am_in 332 (by decide +kernel) (by decide +kernel)
theorem w_139 : Cond.methodLink "SlabImage$Store" 104 my_34 ∈ am_ws := am_in 334 (by decide +kernel) (by decide +kernel)
theorem w_140 : Cond.instanceMethod my_34 ∈ am_ws := am_in 335 (by decide +kernel) (by decide +kernel)
theorem w_141 : Cond.selects "SlabImage$AttributeList" my_34 my_34 ∈ am_ws := am_in 336 (by decide +kernel) (by decide +kernel)
theorem w_142 : Cond.methodLink "SlabImage$Store" 108 my_36 ∈ am_ws := am_in 343 (by decide +kernel) (by decide +kernel)
theorem w_143 : Cond.instanceMethod my_36 ∈ am_ws := am_in 344 (by decide +kernel) (by decide +kernel)
theorem w_144 : Cond.selects "SlabImage$Variable" my_36 my_36 ∈ am_ws := am_in 345 (by decide +kernel) (by decide +kernel)
theorem w_145 : Cond.static my_35 ∈ am_ws := am_in 341 (by decide +kernel) (by decide +kernel)
theorem w_146 : Cond.methodLink "SlabImage$Variable" 77 my_34 ∈ am_ws := am_in 351 (by decide +kernel) (by decide +kernel)
theorem w_147 : Cond.methodLink "SlabImage$Variable" 74 my_37 ∈ am_ws := am_in 347 (by decide +kernel) (by decide +kernel)
theorem w_148 : Cond.instanceMethod my_37 ∈ am_ws := am_in 348 (by decide +kernel) (by decide +kernel)
theorem w_149 : Cond.selects "SlabImage$Variable" my_37 my_37 ∈ am_ws := am_in 349 (by decide +kernel) (by decide +kernel)
theorem w_150 : Cond.fieldLink "SlabImage$Store" 94 "SlabImage$Variable" "growing" "Z" ∈ am_ws := am_in 105 (by decide +kernel) (by decide +kernel)
theorem w_151 : Cond.methodLink "SlabImage$Store" 109 my_39 ∈ am_ws := am_in 356 (by decide +kernel) (by decide +kernel)
theorem w_152 : Cond.instanceMethod my_39 ∈ am_ws := am_in 357 (by decide +kernel) (by decide +kernel)
theorem w_153 : Cond.selects "SlabImage$Variable" my_39 my_39 ∈ am_ws := am_in 358 (by decide +kernel) (by decide +kernel)
theorem w_154 : Cond.methodLink "SlabImage$Variable" 67 my_40 ∈ am_ws := am_in 360 (by decide +kernel) (by decide +kernel)
theorem w_155 : Cond.instanceMethod my_40 ∈ am_ws := am_in 361 (by decide +kernel) (by decide +kernel)
theorem w_156 : Cond.selects "SlabImage$Variable" my_40 my_40 ∈ am_ws := am_in 362 (by decide +kernel) (by decide +kernel)
theorem w_157 : Cond.methodLink "SlabImage$Store" 112 my_42 ∈ am_ws := am_in 370 (by decide +kernel) (by decide +kernel)
theorem w_158 : Cond.instanceMethod my_42 ∈ am_ws := am_in 371 (by decide +kernel) (by decide +kernel)
theorem w_159 : Cond.selects "SlabImage$Store" my_42 my_42 ∈ am_ws := am_in 372 (by decide +kernel) (by decide +kernel)
theorem w_160 : Cond.methodLink "SlabImage$Store" 119 my_40 ∈ am_ws := am_in 374 (by decide +kernel) (by decide +kernel)
theorem w_161 : Cond.fieldLink "SlabImage" 93 "SlabImage$Variable" "type" "I" ∈ am_ws := am_in 98 (by decide +kernel) (by decide +kernel)
theorem w_162 : Cond.methodLink "SlabImage" 96 my_24 ∈ am_ws := am_in 389 (by decide +kernel) (by decide +kernel)
theorem w_163 : Cond.methodLink "SlabImage" 104 my_47 ∈ am_ws := am_in 396 (by decide +kernel) (by decide +kernel)
theorem w_164 : Cond.instanceMethod my_47 ∈ am_ws := am_in 397 (by decide +kernel) (by decide +kernel)
theorem w_165 : Cond.selects "SlabImage$Variable" my_47 my_47 ∈ am_ws := am_in 398 (by decide +kernel) (by decide +kernel)
theorem w_166 : Cond.methodLink "SlabImage" 100 my_46 ∈ am_ws := am_in 390 (by decide +kernel) (by decide +kernel)
theorem w_167 : Cond.instanceMethod my_46 ∈ am_ws := am_in 391 (by decide +kernel) (by decide +kernel)
theorem w_168 : Cond.selects "SlabImage$Store" my_46 my_46 ∈ am_ws := am_in 392 (by decide +kernel) (by decide +kernel)
theorem w_169 : Cond.methodLink "SlabImage" 87 my_45 ∈ am_ws := am_in 385 (by decide +kernel) (by decide +kernel)
theorem w_170 : Cond.instanceMethod my_45 ∈ am_ws := am_in 386 (by decide +kernel) (by decide +kernel)
theorem w_171 : Cond.selects "SlabImage$Variable" my_45 my_45 ∈ am_ws := am_in 387 (by decide +kernel) (by decide +kernel)
theorem w_172 : Cond.methodLink "SlabImage" 83 my_22 ∈ am_ws := am_in 384 (by decide +kernel) (by decide +kernel)
theorem w_173 : Cond.constantLong "SlabImage$Store" 102 (800) ∈ am_ws := am_in 395 (by decide +kernel) (by decide +kernel)
theorem w_174 : Cond.methodLink "SlabImage$Store" 98 my_32 ∈ am_ws := am_in 394 (by decide +kernel) (by decide +kernel)
theorem w_175 : Cond.methodLink "SlabImage" 114 my_50 ∈ am_ws := am_in 410 (by decide +kernel) (by decide +kernel)
theorem w_176 : Cond.instanceMethod my_50 ∈ am_ws := am_in 411 (by decide +kernel) (by decide +kernel)
theorem w_177 : Cond.selects "SlabImage$Variable" my_50 my_50 ∈ am_ws := am_in 412 (by decide +kernel) (by decide +kernel)
theorem w_178 : Cond.methodLink "SlabImage" 110 my_49 ∈ am_ws := am_in 405 (by decide +kernel) (by decide +kernel)
theorem w_179 : Cond.instanceMethod my_49 ∈ am_ws := am_in 406 (by decide +kernel) (by decide +kernel)
theorem w_180 : Cond.selects "SlabImage$Store" my_49 my_49 ∈ am_ws := am_in 407 (by decide +kernel) (by decide +kernel)
theorem w_181 : Cond.constantLong "SlabImage" 108 (1099511627776) ∈ am_ws := am_in 404 (by decide +kernel) (by decide +kernel)
theorem w_182 : Cond.methodLink "SlabImage$Store" 90 my_45 ∈ am_ws := am_in 409 (by decide +kernel) (by decide +kernel)
theorem w_183 : Cond.methodLink "SlabImage" 117 my_52 ∈ am_ws := am_in 418 (by decide +kernel) (by decide +kernel)
theorem w_184 : Cond.instanceMethod my_52 ∈ am_ws := am_in 419 (by decide +kernel) (by decide +kernel)
theorem w_185 : Cond.selects "SlabImage$Selection" my_52 my_52 ∈ am_ws := am_in 420 (by decide +kernel) (by decide +kernel)
theorem w_186 : Cond.fieldLink "SlabImage" 131 "SlabImage$Selection" "count" "I" ∈ am_ws := am_in 166 (by decide +kernel) (by decide +kernel)
theorem w_187 : Cond.methodLink "SlabImage" 134 my_57 ∈ am_ws := am_in 439 (by decide +kernel) (by decide +kernel)
theorem w_188 : Cond.static my_57 ∈ am_ws := am_in 440 (by decide +kernel) (by decide +kernel)
theorem w_189 : Cond.methodLink "SlabImage" 138 my_58 ∈ am_ws := am_in 442 (by decide +kernel) (by decide +kernel)
theorem w_190 : Cond.instanceMethod my_58 ∈ am_ws := am_in 443 (by decide +kernel) (by decide +kernel)
theorem w_191 : Cond.selects "SlabImage$Variable" my_58 my_58 ∈ am_ws := am_in 444 (by decide +kernel) (by decide +kernel)
theorem w_192 : Cond.methodLink "SlabImage" 127 my_56 ∈ am_ws := am_in 435 (by decide +kernel) (by decide +kernel)
theorem w_193 : Cond.instanceMethod my_56 ∈ am_ws := am_in 436 (by decide +kernel) (by decide +kernel)
theorem w_194 : Cond.selects "SlabImage$Selection" my_56 my_56 ∈ am_ws := am_in 437 (by decide +kernel) (by decide +kernel)
theorem w_195 : Cond.methodLink "SlabImage" 124 my_55 ∈ am_ws := am_in 431 (by decide +kernel) (by decide +kernel)
theorem w_196 : Cond.instanceMethod my_55 ∈ am_ws := am_in 433 (by decide +kernel) (by decide +kernel)
theorem w_197 : Cond.selects "SlabImage" my_55 my_55 ∈ am_ws := am_in 1 (by decide +kernel) (by decide +kernel)
theorem w_198 : Cond.methodLink "SlabImage" 120 my_54 ∈ am_ws := am_in 426 (by decide +kernel) (by decide +kernel)
theorem w_199 : Cond.instanceMethod my_54 ∈ am_ws := am_in 428 (by decide +kernel) (by decide +kernel)
theorem w_200 : Cond.selects "SlabImage" my_54 my_54 ∈ am_ws := am_in 0 (by decide +kernel) (by decide +kernel)
theorem w_201 : Cond.methodLink "SlabImage" 171 my_37 ∈ am_ws := am_in 430 (by decide +kernel) (by decide +kernel)
theorem w_202 : Cond.fieldLink "SlabImage$Variable" 51 "SlabImage$Selection" "count" "I" ∈ am_ws := am_in 165 (by decide +kernel) (by decide +kernel)
theorem w_203 : Cond.methodLink "SlabImage$Variable" 60 my_47 ∈ am_ws := am_in 450 (by decide +kernel) (by decide +kernel)
theorem w_204 : Cond.methodLink "SlabImage$Variable" 56 my_59 ∈ am_ws := am_in 446 (by decide +kernel) (by decide +kernel)
theorem w_205 : Cond.instanceMethod my_59 ∈ am_ws := am_in 447 (by decide +kernel) (by decide +kernel)
theorem w_206 : Cond.selects "SlabImage$Selection" my_59 my_59 ∈ am_ws := am_in 448 (by decide +kernel) (by decide +kernel)
theorem w_207 : Cond.methodLink "SlabImage" 142 my_59 ∈ am_ws := am_in 455 (by decide +kernel) (by decide +kernel)
theorem w_208 : Cond.methodLink "SlabImage" 145 my_64 ∈ am_ws := am_in 468 (by decide +kernel) (by decide +kernel)
theorem w_209 : Cond.instanceMethod my_64 ∈ am_ws := am_in 469 (by decide +kernel) (by decide +kernel)
theorem w_210 : Cond.selects "SlabImage$Store" my_64 my_64 ∈ am_ws := am_in 470 (by decide +kernel) (by decide +kernel)
theorem w_211 : Cond.methodLink "SlabImage" 148 my_66 ∈ am_ws := am_in 476 (by decide +kernel) (by decide +kernel)
theorem w_212 : Cond.instanceMethod my_66 ∈ am_ws := am_in 477 (by decide +kernel) (by decide +kernel)
theorem w_213 : Cond.selects "SlabImage$Store" my_66 my_66 ∈ am_ws := am_in 478 (by decide +kernel) (by decide +kernel)
theorem w_214 : Cond.methodLink "SlabImage" 152 my_79 ∈ am_ws := am_in 539 (by decide +kernel) (by decide +kernel)
theorem w_215 : Cond.instanceMethod my_79 ∈ am_ws := am_in 540 (by decide +kernel) (by decide +kernel)
theorem w_216 : Cond.selects "SlabImage$ByteRow" my_79 my_79 ∈ am_ws := am_in 541 (by decide +kernel) (by decide +kernel)
theorem w_217 : Cond.constant "SlabImage$Store" 129 (1196573697) ∈ am_ws := am_in 484 (by decide +kernel) (by decide +kernel)
theorem w_218 : Cond.methodLink "SlabImage$Store" 133 my_71 ∈ am_ws := am_in 497 (by decide +kernel) (by decide +kernel)
theorem w_219 : Cond.instanceMethod my_71 ∈ am_ws := am_in 498 (by decide +kernel) (by decide +kernel)
theorem w_220 : Cond.selects "SlabImage$ByteRow" my_71 my_71 ∈ am_ws := am_in 499 (by decide +kernel) (by decide +kernel)
theorem w_221 : Cond.methodLink "SlabImage$Store" 130 my_68 ∈ am_ws := am_in 485 (by decide +kernel) (by decide +kernel)
theorem w_222 : Cond.instanceMethod my_68 ∈ am_ws := am_in 486 (by decide +kernel) (by decide +kernel)
theorem w_223 : Cond.selects "SlabImage$ByteRow" my_68 my_68 ∈ am_ws := am_in 487 (by decide +kernel) (by decide +kernel)
theorem w_224 : Cond.methodLink "SlabImage$Store" 126 my_67 ∈ am_ws := am_in 480 (by decide +kernel) (by decide +kernel)
theorem w_225 : Cond.instanceMethod my_67 ∈ am_ws := am_in 481 (by decide +kernel) (by decide +kernel)
theorem w_226 : Cond.selects "SlabImage$ByteRow" my_67 my_67 ∈ am_ws := am_in 482 (by decide +kernel) (by decide +kernel)
theorem w_227 : Cond.methodLink "SlabImage$Store" 140 my_73 ∈ am_ws := am_in 505 (by decide +kernel) (by decide +kernel)
theorem w_228 : Cond.instanceMethod my_73 ∈ am_ws := am_in 506 (by decide +kernel) (by decide +kernel)
theorem w_229 : Cond.selects "SlabImage$AttributeList" my_73 my_73 ∈ am_ws := am_in 507 (by decide +kernel) (by decide +kernel)
theorem w_230 : Cond.methodLink "SlabImage$Store" 137 my_72 ∈ am_ws := am_in 501 (by decide +kernel) (by decide +kernel)
theorem w_231 : Cond.instanceMethod my_72 ∈ am_ws := am_in 502 (by decide +kernel) (by decide +kernel)
theorem w_232 : Cond.selects "SlabImage$ByteRow" my_72 my_72 ∈ am_ws := am_in 503 (by decide +kernel) (by decide +kernel)
theorem w_233 : Cond.methodLink "SlabImage$Store" 151 my_76 ∈ am_ws := am_in 524 (by decide +kernel) (by decide +kernel)
theorem w_234 : Cond.instanceMethod my_76 ∈ am_ws := am_in 525 (by decide +kernel) (by decide +kernel)
theorem w_235 : Cond.selects "SlabImage$Store" my_76 my_76 ∈ am_ws := am_in 526 (by decide +kernel) (by decide +kernel)
theorem w_236 : Cond.methodLink "SlabImage$Store" 147 my_75 ∈ am_ws := am_in 519 (by decide +kernel) (by decide +kernel)
theorem w_237 : Cond.instanceMethod my_75 ∈ am_ws := am_in 520 (by decide +kernel) (by decide +kernel)
theorem w_238 : Cond.selects "SlabImage$Store" my_75 my_75 ∈ am_ws := am_in 521 (by decide +kernel) (by decide +kernel)
theorem w_239 : Cond.methodLink "SlabImage$Store" 144 my_64 ∈ am_ws := am_in 518 (by decide +kernel) (by decide +kernel)
theorem w_240 : Cond.methodLink "SlabImage$ByteRow" 26 my_69 ∈ am_ws := am_in 489 (by decide +kernel) (by decide +kernel)
theorem w_241 : Cond.instanceMethod my_69 ∈ am_ws := am_in 490 (by decide +kernel) (by decide +kernel)
theorem w_242 : Cond.selects "SlabImage$ByteRow" my_69 my_69 ∈ am_ws := am_in 491 (by decide +kernel) (by decide +kernel)
theorem w_243 : Cond.methodLink "SlabImage$ByteRow" 22 my_70 ∈ am_ws := am_in 493 (by decide +kernel) (by decide +kernel)
theorem w_244 : Cond.instanceMethod my_70 ∈ am_ws := am_in 494 (by decide +kernel) (by decide +kernel)
theorem w_245 : Cond.selects "SlabImage$ByteRow" my_70 my_70 ∈ am_ws := am_in 495 (by decide +kernel) (by decide +kernel)
theorem w_246 : Cond.methodLink "SlabImage$AttributeList" 50 my_71 ∈ am_ws := am_in 509 (by decide +kernel) (by decide +kernel)
theorem w_247 : Cond.methodLink "SlabImage$AttributeList" 66 my_74 ∈ am_ws := am_in 513 (by decide +kernel) (by decide +kernel)
theorem w_248 : Cond.instanceMethod my_74 ∈ am_ws := am_in 514 (by decide +kernel) (by decide +kernel)
theorem w_249 : Cond.selects "SlabImage$ByteRow" my_74 my_74 ∈ am_ws := am_in 515 (by decide +kernel) (by decide +kernel)
theorem w_250 : Cond.methodLink "SlabImage$AttributeList" 63 my_69 ∈ am_ws := am_in 512 (by decide +kernel) (by decide +kernel)
theorem w_251 : Cond.methodLink "SlabImage$AttributeList" 60 my_68 ∈ am_ws := am_in 511 (by decide +kernel) (by decide +kernel)
theorem w_252 : Cond.methodLink "SlabImage$AttributeList" 56 my_72 ∈ am_ws := am_in 510 (by decide +kernel) (by decide +kernel)
theorem w_253 : Cond.fieldLink "SlabImage$Store" 157 "SlabImage$Variable" "firstAxis" "I" ∈ am_ws := am_in 101 (by decide +kernel) (by decide +kernel)
theorem w_254 : Cond.methodLink "SlabImage$Store" 154 my_37 ∈ am_ws := am_in 523 (by decide +kernel) (by decide +kernel)
theorem w_255 : Cond.fieldLink "SlabImage$Store" 160 "SlabImage$Variable" "secondAxis" "I" ∈ am_ws := am_in 103 (by decide +kernel) (by decide +kernel)
theorem w_256 : Cond.fieldLink "SlabImage$Store" 163 "SlabImage$Variable" "type" "I" ∈ am_ws := am_in 99 (by decide +kernel) (by decide +kernel)
theorem w_257 : Cond.fieldLink "SlabImage$Store" 166 "SlabImage$Variable" "rowCount" "I" ∈ am_ws := am_in 107 (by decide +kernel) (by decide +kernel)
theorem w_258 : Cond.methodLink "SlabImage$Store" 173 my_74 ∈ am_ws := am_in 534 (by decide +kernel) (by decide +kernel)
theorem w_259 : Cond.methodLink "SlabImage$Store" 169 my_77 ∈ am_ws := am_in 528 (by decide +kernel) (by decide +kernel)
theorem w_260 : Cond.instanceMethod my_77 ∈ am_ws := am_in 529 (by decide +kernel) (by decide +kernel)
theorem w_261 : Cond.selects "SlabImage$Variable" my_77 my_77 ∈ am_ws := am_in 530 (by decide +kernel) (by decide +kernel)
theorem w_262 : Cond.methodLink "SlabImage$Store" 176 my_78 ∈ am_ws := am_in 535 (by decide +kernel) (by decide +kernel)
theorem w_263 : Cond.instanceMethod my_78 ∈ am_ws := am_in 536 (by decide +kernel) (by decide +kernel)
theorem w_264 : Cond.selects "SlabImage$Store" my_78 my_78 ∈ am_ws := am_in 537 (by decide +kernel) (by decide +kernel)
theorem w_265 : Cond.methodLink "SlabImage$Variable" 84 my_69 ∈ am_ws := am_in 533 (by decide +kernel) (by decide +kernel)
theorem w_266 : Cond.methodLink "SlabImage$Variable" 80 my_50 ∈ am_ws := am_in 532 (by decide +kernel) (by decide +kernel)
theorem w_267 : Cond.fieldLink "SlabImage" 153 "SlabImage$ByteRow" "length" "I" ∈ am_ws := am_in 183 (by decide +kernel) (by decide +kernel)
theorem w_268 : Cond.methodLink "SlabImage" 156 my_70 ∈ am_ws := am_in 547 (by decide +kernel) (by decide +kernel)
theorem w_269 : Cond.methodLink "SlabImage" 160 my_67 ∈ am_ws := am_in 552 (by decide +kernel) (by decide +kernel)
theorem w_270 : Cond.methodLink "SlabImage" 168 my_100 ∈ am_ws := am_in 634 (by decide +kernel) (by decide +kernel)
theorem w_271 : Cond.instanceMethod my_100 ∈ am_ws := am_in 635 (by decide +kernel) (by decide +kernel)
theorem w_272 : Cond.selects "SlabImage$ByteRow" my_100 my_100 ∈ am_ws := am_in 636 (by decide +kernel) (by decide +kernel)
theorem w_273 : Cond.methodLink "SlabImage" 164 my_85 ∈ am_ws := am_in 565 (by decide +kernel) (by decide +kernel)
theorem w_274 : Cond.instanceMethod my_85 ∈ am_ws := am_in 566 (by decide +kernel) (by decide +kernel)
theorem w_275 : Cond.selects "SlabImage$Store" my_85 my_85 ∈ am_ws := am_in 567 (by decide +kernel) (by decide +kernel)
theorem w_276 : Cond.methodLink "SlabImage" 163 my_83 ∈ am_ws := am_in 557 (by decide +kernel) (by decide +kernel)
theorem w_277 : Cond.instanceMethod my_83 ∈ am_ws := am_in 558 (by decide +kernel) (by decide +kernel)
theorem w_278 : Cond.selects "SlabImage$Store" my_83 my_83 ∈ am_ws := am_in 559 (by decide +kernel) (by decide +kernel)
theorem w_279 : Cond.methodLink "SlabImage$Store" 45 my_84 ∈ am_ws := am_in 561 (by decide +kernel) (by decide +kernel)
theorem w_280 : Cond.instanceMethod my_84 ∈ am_ws := am_in 562 (by decide +kernel) (by decide +kernel)
theorem w_281 : Cond.selects "SlabImage$AttributeList" my_84 my_84 ∈ am_ws := am_in 563 (by decide +kernel) (by decide +kernel)
theorem w_282 : Cond.methodLink "SlabImage$Store" 193 my_95 ∈ am_ws := am_in 611 (by decide +kernel) (by decide +kernel)
theorem w_283 : Cond.instanceMethod my_95 ∈ am_ws := am_in 612 (by decide +kernel) (by decide +kernel)
theorem w_284 : Cond.selects "SlabImage$Store" my_95 my_95 ∈ am_ws := am_in 613 (by decide +kernel) (by decide +kernel)
theorem w_285 : Cond.methodLink "SlabImage$Store" 190 my_92 ∈ am_ws := am_in 594 (by decide +kernel) (by decide +kernel)
theorem w_286 : Cond.instanceMethod my_92 ∈ am_ws := am_in 595 (by decide +kernel) (by decide +kernel)
theorem w_287 : Cond.selects "SlabImage$AttributeList" my_92 my_92 ∈ am_ws := am_in 596 (by decide +kernel) (by decide +kernel)
theorem w_288 : Cond.methodLink "SlabImage$Store" 186 my_89 ∈ am_ws := am_in 581 (by decide +kernel) (by decide +kernel)
theorem w_289 : Cond.instanceMethod my_89 ∈ am_ws := am_in 582 (by decide +kernel) (by decide +kernel)
theorem w_290 : Cond.selects "SlabImage$Store" my_89 my_89 ∈ am_ws := am_in 583 (by decide +kernel) (by decide +kernel)
theorem w_291 : Cond.methodLink "SlabImage$Store" 183 my_87 ∈ am_ws := am_in 573 (by decide +kernel) (by decide +kernel)
theorem w_292 : Cond.instanceMethod my_87 ∈ am_ws := am_in 574 (by decide +kernel) (by decide +kernel)
theorem w_293 : Cond.selects "SlabImage$ByteRow" my_87 my_87 ∈ am_ws := am_in 575 (by decide +kernel) (by decide +kernel)
theorem w_294 : Cond.methodLink "SlabImage$Store" 180 my_86 ∈ am_ws := am_in 569 (by decide +kernel) (by decide +kernel)
theorem w_295 : Cond.instanceMethod my_86 ∈ am_ws := am_in 570 (by decide +kernel) (by decide +kernel)
theorem w_296 : Cond.selects "SlabImage$ByteRow" my_86 my_86 ∈ am_ws := am_in 571 (by decide +kernel) (by decide +kernel)
theorem w_297 : Cond.fieldLink "SlabImage$Store" 196 "SlabImage$ByteRow" "length" "I" ∈ am_ws := am_in 184 (by decide +kernel) (by decide +kernel)
theorem w_298 : Cond.methodLink "SlabImage$Store" 199 my_97 ∈ am_ws := am_in 620 (by decide +kernel) (by decide +kernel)
theorem w_299 : Cond.instanceMethod my_97 ∈ am_ws := am_in 621 (by decide +kernel) (by decide +kernel)
theorem w_300 : Cond.selects "SlabImage$Store" my_97 my_97 ∈ am_ws := am_in 622 (by decide +kernel) (by decide +kernel)
theorem w_301 : Cond.methodLink "SlabImage$ByteRow" 34 my_88 ∈ am_ws := am_in 577 (by decide +kernel) (by decide +kernel)
theorem w_302 : Cond.instanceMethod my_88 ∈ am_ws := am_in 578 (by decide +kernel) (by decide +kernel)
theorem w_303 : Cond.selects "SlabImage$ByteRow" my_88 my_88 ∈ am_ws := am_in 579 (by decide +kernel) (by decide +kernel)
theorem w_304 : Cond.methodLink "SlabImage$Store" 202 my_90 ∈ am_ws := am_in 585 (by decide +kernel) (by decide +kernel)
theorem w_305 : Cond.instanceMethod my_90 ∈ am_ws := am_in 586 (by decide +kernel) (by decide +kernel)
theorem w_306 : Cond.selects "SlabImage$ByteRow" my_90 my_90 ∈ am_ws := am_in 587 (by decide +kernel) (by decide +kernel)
theorem w_307 : Cond.methodLink "SlabImage$Store" 208 my_7 ∈ am_ws := am_in 593 (by decide +kernel) (by decide +kernel)
theorem w_308 : Cond.methodLink "SlabImage$Store" 205 my_91 ∈ am_ws := am_in 589 (by decide +kernel) (by decide +kernel)
theorem w_309 : Cond.instanceMethod my_91 ∈ am_ws := am_in 590 (by decide +kernel) (by decide +kernel)
theorem w_310 : Cond.selects "SlabImage$ByteRow" my_91 my_91 ∈ am_ws := am_in 591 (by decide +kernel) (by decide +kernel)
theorem w_311 : Cond.methodLink "SlabImage$AttributeList" 69 my_90 ∈ am_ws := am_in 598 (by decide +kernel) (by decide +kernel)
theorem w_312 : Cond.methodLink "SlabImage$AttributeList" 85 my_23 ∈ am_ws := am_in 610 (by decide +kernel) (by decide +kernel)
theorem w_313 : Cond.methodLink "SlabImage$AttributeList" 82 my_94 ∈ am_ws := am_in 606 (by decide +kernel) (by decide +kernel)
theorem w_314 : Cond.instanceMethod my_94 ∈ am_ws := am_in 607 (by decide +kernel) (by decide +kernel)
theorem w_315 : Cond.selects "SlabImage$ByteRow" my_94 my_94 ∈ am_ws := am_in 608 (by decide +kernel) (by decide +kernel)
theorem w_316 : Cond.methodLink "SlabImage$AttributeList" 79 my_93 ∈ am_ws := am_in 601 (by decide +kernel) (by decide +kernel)
theorem w_317 : Cond.instanceMethod my_93 ∈ am_ws := am_in 602 (by decide +kernel) (by decide +kernel)
theorem w_318 : Cond.selects "SlabImage$ByteRow" my_93 my_93 ∈ am_ws := am_in 603 (by decide +kernel) (by decide +kernel)
theorem w_319 : Cond.methodLink "SlabImage$AttributeList" 76 my_87 ∈ am_ws := am_in 600 (by decide +kernel) (by decide +kernel)
theorem w_320 : Cond.methodLink "SlabImage$AttributeList" 73 my_91 ∈ am_ws := am_in 599 (by decide +kernel) (by decide +kernel)
theorem w_321 : Cond.methodLink "SlabImage$Store" 212 my_96 ∈ am_ws := am_in 615 (by decide +kernel) (by decide +kernel)
theorem w_322 : Cond.instanceMethod my_96 ∈ am_ws := am_in 616 (by decide +kernel) (by decide +kernel)
theorem w_323 : Cond.selects "SlabImage$Store" my_96 my_96 ∈ am_ws := am_in 617 (by decide +kernel) (by decide +kernel)
theorem w_324 : Cond.methodLink "SlabImage$Store" 216 my_12 ∈ am_ws := am_in 619 (by decide +kernel) (by decide +kernel)
theorem w_325 : Cond.methodLink "SlabImage$Store" 223 my_94 ∈ am_ws := am_in 629 (by decide +kernel) (by decide +kernel)
theorem w_326 : Cond.methodLink "SlabImage$Store" 220 my_98 ∈ am_ws := am_in 624 (by decide +kernel) (by decide +kernel)
theorem w_327 : Cond.instanceMethod my_98 ∈ am_ws := am_in 625 (by decide +kernel) (by decide +kernel)
theorem w_328 : Cond.selects "SlabImage$Variable" my_98 my_98 ∈ am_ws := am_in 626 (by decide +kernel) (by decide +kernel)
theorem w_329 : Cond.methodLink "SlabImage$Store" 226 my_99 ∈ am_ws := am_in 630 (by decide +kernel) (by decide +kernel)
theorem w_330 : Cond.instanceMethod my_99 ∈ am_ws := am_in 631 (by decide +kernel) (by decide +kernel)
theorem w_331 : Cond.selects "SlabImage$Store" my_99 my_99 ∈ am_ws := am_in 632 (by decide +kernel) (by decide +kernel)
theorem w_332 : Cond.methodLink "SlabImage$Variable" 90 my_93 ∈ am_ws := am_in 628 (by decide +kernel) (by decide +kernel)
theorem w_333 : Cond.methodLink "SlabImageModel" 1 objectInit ∈ am_ws := am_in 643 (by decide +kernel) (by decide +kernel)
theorem w_334 : Cond.fieldLink "SlabImageModel" 7 "SlabImageModel" "dimensions" "[I" ∈ am_ws := am_in 646 (by decide +kernel) (by decide +kernel)
theorem w_335 : Cond.fieldLink "SlabImageModel" 13 "SlabImageModel" "dimName" "[I" ∈ am_ws := am_in 647 (by decide +kernel) (by decide +kernel)
theorem w_336 : Cond.fieldLink "SlabImageModel" 16 "SlabImageModel" "dimLength" "[I" ∈ am_ws := am_in 648 (by decide +kernel) (by decide +kernel)
theorem w_337 : Cond.fieldLink "SlabImageModel" 19 "SlabImageModel" "variables" "[I" ∈ am_ws := am_in 649 (by decide +kernel) (by decide +kernel)
theorem w_338 : Cond.fieldLink "SlabImageModel" 22 "SlabImageModel" "varName" "[I" ∈ am_ws := am_in 650 (by decide +kernel) (by decide +kernel)
theorem w_339 : Cond.fieldLink "SlabImageModel" 25 "SlabImageModel" "varType" "[I" ∈ am_ws := am_in 651 (by decide +kernel) (by decide +kernel)
theorem w_340 : Cond.fieldLink "SlabImageModel" 28 "SlabImageModel" "axes" "[I" ∈ am_ws := am_in 652 (by decide +kernel) (by decide +kernel)
theorem w_341 : Cond.fieldLink "SlabImageModel" 31 "SlabImageModel" "axis" "[I" ∈ am_ws := am_in 653 (by decide +kernel) (by decide +kernel)
theorem w_342 : Cond.fieldLink "SlabImageModel" 34 "SlabImageModel" "attributes" "[I" ∈ am_ws := am_in 654 (by decide +kernel) (by decide +kernel)
theorem w_343 : Cond.fieldLink "SlabImageModel" 37 "SlabImageModel" "attName" "[I" ∈ am_ws := am_in 655 (by decide +kernel) (by decide +kernel)
theorem w_344 : Cond.fieldLink "SlabImageModel" 40 "SlabImageModel" "attType" "[I" ∈ am_ws := am_in 656 (by decide +kernel) (by decide +kernel)
theorem w_345 : Cond.fieldLink "SlabImageModel" 43 "SlabImageModel" "attX" "[I" ∈ am_ws := am_in 657 (by decide +kernel) (by decide +kernel)
theorem w_346 : Cond.fieldLink "SlabImageModel" 46 "SlabImageModel" "attY" "[I" ∈ am_ws := am_in 658 (by decide +kernel) (by decide +kernel)
theorem w_347 : Cond.fieldLink "SlabImageModel" 49 "SlabImageModel" "records" "[I" ∈ am_ws := am_in 659 (by decide +kernel) (by decide +kernel)
theorem w_348 : Cond.fieldLink "SlabImageModel" 52 "SlabImageModel" "cell" "[I" ∈ am_ws := am_in 660 (by decide +kernel) (by decide +kernel)
theorem w_349 : Cond.fieldLink "SlabImageModel" 55 "SlabImageModel" "start" "[I" ∈ am_ws := am_in 661 (by decide +kernel) (by decide +kernel)
theorem w_350 : Cond.fieldLink "SlabImageModel" 58 "SlabImageModel" "count" "[I" ∈ am_ws := am_in 662 (by decide +kernel) (by decide +kernel)
theorem w_351 : Cond.fieldLink "SlabImageModel" 61 "SlabImageModel" "stride" "[I" ∈ am_ws := am_in 663 (by decide +kernel) (by decide +kernel)
theorem w_352 : Cond.fieldLink "SlabImageModel" 64 "SlabImageModel" "image" "[I" ∈ am_ws := am_in 664 (by decide +kernel) (by decide +kernel)
theorem w_353 : Cond.fieldLink "SlabImageModel" 67 "SlabImageModel" "draft" "[I" ∈ am_ws := am_in 666 (by decide +kernel) (by decide +kernel)
theorem w_354 : Cond.fieldLink "SlabImageModel" 140 "SlabImageModel" "data" "Z" ∈ am_ws := am_in 645 (by decide +kernel) (by decide +kernel)
theorem w_355 : Cond.methodLink "SlabImageModel" 144 my_103 ∈ am_ws := am_in 727 (by decide +kernel) (by decide +kernel)
theorem w_356 : Cond.static my_103 ∈ am_ws := am_in 728 (by decide +kernel) (by decide +kernel)
theorem w_357 : Cond.fieldLink "SlabImageModel" 137 "SlabImageModel" "now" "I" ∈ am_ws := am_in 644 (by decide +kernel) (by decide +kernel)
theorem w_358 : Cond.methodLink "SlabImageModel" 152 my_105 ∈ am_ws := am_in 734 (by decide +kernel) (by decide +kernel)
theorem w_359 : Cond.instanceMethod my_105 ∈ am_ws := am_in 736 (by decide +kernel) (by decide +kernel)
theorem w_360 : Cond.selects "SlabImageModel" my_105 my_105 ∈ am_ws := am_in 3 (by decide +kernel) (by decide +kernel)
theorem w_361 : Cond.methodLink "SlabImageModel" 148 my_104 ∈ am_ws := am_in 730 (by decide +kernel) (by decide +kernel)
theorem w_362 : Cond.instanceMethod my_104 ∈ am_ws := am_in 732 (by decide +kernel) (by decide +kernel)
theorem w_363 : Cond.selects "SlabImageModel" my_104 my_104 ∈ am_ws := am_in 2 (by decide +kernel) (by decide +kernel)
theorem w_364 : Cond.methodLink "SlabImageModel" 158 my_107 ∈ am_ws := am_in 742 (by decide +kernel) (by decide +kernel)
theorem w_365 : Cond.instanceMethod my_107 ∈ am_ws := am_in 744 (by decide +kernel) (by decide +kernel)
theorem w_366 : Cond.selects "SlabImageModel" my_107 my_107 ∈ am_ws := am_in 4 (by decide +kernel) (by decide +kernel)
theorem w_367 : Cond.methodLink "SlabImageModel" 161 my_108 ∈ am_ws := am_in 746 (by decide +kernel) (by decide +kernel)
theorem w_368 : Cond.instanceMethod my_108 ∈ am_ws := am_in 748 (by decide +kernel) (by decide +kernel)
theorem w_369 : Cond.selects "SlabImageModel" my_108 my_108 ∈ am_ws := am_in 5 (by decide +kernel) (by decide +kernel)
theorem w_370 : Cond.methodLink "SlabImageModel" 164 my_109 ∈ am_ws := am_in 750 (by decide +kernel) (by decide +kernel)
theorem w_371 : Cond.instanceMethod my_109 ∈ am_ws := am_in 752 (by decide +kernel) (by decide +kernel)
theorem w_372 : Cond.selects "SlabImageModel" my_109 my_109 ∈ am_ws := am_in 6 (by decide +kernel) (by decide +kernel)
theorem w_373 : Cond.methodLink "SlabImageModel" 155 my_110 ∈ am_ws := am_in 754 (by decide +kernel) (by decide +kernel)
theorem w_374 : Cond.static my_110 ∈ am_ws := am_in 755 (by decide +kernel) (by decide +kernel)
theorem w_375 : Cond.constant "SlabImageModel" 70 (-2147483647) ∈ am_ws := am_in 757 (by decide +kernel) (by decide +kernel)
theorem w_376 : Cond.methodLink "SlabImageModel" 167 my_112 ∈ am_ws := am_in 762 (by decide +kernel) (by decide +kernel)
theorem w_377 : Cond.instanceMethod my_112 ∈ am_ws := am_in 764 (by decide +kernel) (by decide +kernel)
theorem w_378 : Cond.selects "SlabImageModel" my_112 my_112 ∈ am_ws := am_in 7 (by decide +kernel) (by decide +kernel)
theorem w_379 : Cond.methodLink "SlabImageModel" 170 my_113 ∈ am_ws := am_in 766 (by decide +kernel) (by decide +kernel)
theorem w_380 : Cond.static my_113 ∈ am_ws := am_in 767 (by decide +kernel) (by decide +kernel)
theorem w_381 : Cond.methodLink "SlabImageModel" 173 my_114 ∈ am_ws := am_in 769 (by decide +kernel) (by decide +kernel)
theorem w_382 : Cond.instanceMethod my_114 ∈ am_ws := am_in 771 (by decide +kernel) (by decide +kernel)
theorem w_383 : Cond.selects "SlabImageModel" my_114 my_114 ∈ am_ws := am_in 8 (by decide +kernel) (by decide +kernel)
theorem w_384 : Cond.constantLong "SlabImageModel" 180 (800) ∈ am_ws := am_in 828 (by decide +kernel) (by decide +kernel)
theorem w_385 : Cond.methodLink "SlabImageModel" 176 my_118 ∈ am_ws := am_in 785 (by decide +kernel) (by decide +kernel)
theorem w_386 : Cond.instanceMethod my_118 ∈ am_ws := am_in 787 (by decide +kernel) (by decide +kernel)
theorem w_387 : Cond.selects "SlabImageModel" my_118 my_118 ∈ am_ws := am_in 9 (by decide +kernel) (by decide +kernel)
theorem w_388 : Cond.methodLink "SlabImageModel" 102 my_127 ∈ am_ws := am_in 820 (by decide +kernel) (by decide +kernel)
theorem w_389 : Cond.instanceMethod my_127 ∈ am_ws := am_in 822 (by decide +kernel) (by decide +kernel)
theorem w_390 : Cond.selects "SlabImageModel" my_127 my_127 ∈ am_ws := am_in 17 (by decide +kernel) (by decide +kernel)
theorem w_391 : Cond.methodLink "SlabImageModel" 99 my_119 ∈ am_ws := am_in 789 (by decide +kernel) (by decide +kernel)
theorem w_392 : Cond.instanceMethod my_119 ∈ am_ws := am_in 791 (by decide +kernel) (by decide +kernel)
theorem w_393 : Cond.selects "SlabImageModel" my_119 my_119 ∈ am_ws := am_in 10 (by decide +kernel) (by decide +kernel)
theorem w_394 : Cond.methodLink "SlabImageModel" 83 my_120 ∈ am_ws := am_in 793 (by decide +kernel) (by decide +kernel)
theorem w_395 : Cond.instanceMethod my_120 ∈ am_ws := am_in 795 (by decide +kernel) (by decide +kernel)
theorem w_396 : Cond.selects "SlabImageModel" my_120 my_120 ∈ am_ws := am_in 11 (by decide +kernel) (by decide +kernel)
theorem w_397 : Cond.methodLink "SlabImageModel" 90 my_122 ∈ am_ws := am_in 801 (by decide +kernel) (by decide +kernel)
theorem w_398 : Cond.instanceMethod my_122 ∈ am_ws := am_in 803 (by decide +kernel) (by decide +kernel)
theorem w_399 : Cond.selects "SlabImageModel" my_122 my_122 ∈ am_ws := am_in 13 (by decide +kernel) (by decide +kernel)
theorem w_400 : Cond.methodLink "SlabImageModel" 93 my_124 ∈ am_ws := am_in 809 (by decide +kernel) (by decide +kernel)
theorem w_401 : Cond.instanceMethod my_124 ∈ am_ws := am_in 811 (by decide +kernel) (by decide +kernel)
theorem w_402 : Cond.selects "SlabImageModel" my_124 my_124 ∈ am_ws := am_in 15 (by decide +kernel) (by decide +kernel)
theorem w_403 : Cond.methodLink "SlabImageModel" 71 my_121 ∈ am_ws := am_in 797 (by decide +kernel) (by decide +kernel)
theorem w_404 : Cond.instanceMethod my_121 ∈ am_ws := am_in 799 (by decide +kernel) (by decide +kernel)
theorem w_405 : Cond.selects "SlabImageModel" my_121 my_121 ∈ am_ws := am_in 12 (by decide +kernel) (by decide +kernel)
theorem w_406 : Cond.methodLink "SlabImageModel" 87 my_123 ∈ am_ws := am_in 805 (by decide +kernel) (by decide +kernel)
theorem w_407 : Cond.instanceMethod my_123 ∈ am_ws := am_in 807 (by decide +kernel) (by decide +kernel)
theorem w_408 : Cond.selects "SlabImageModel" my_123 my_123 ∈ am_ws := am_in 14 (by decide +kernel) (by decide +kernel)
theorem w_409 : Cond.methodLink "SlabImageModel" 79 my_126 ∈ am_ws := am_in 817 (by decide +kernel) (by decide +kernel)
theorem w_410 : Cond.static my_126 ∈ am_ws := am_in 818 (by decide +kernel) (by decide +kernel)
theorem w_411 : Cond.methodLink "SlabImageModel" 75 my_125 ∈ am_ws := am_in 813 (by decide +kernel) (by decide +kernel)
theorem w_412 : Cond.instanceMethod my_125 ∈ am_ws := am_in 815 (by decide +kernel) (by decide +kernel)
theorem w_413 : Cond.selects "SlabImageModel" my_125 my_125 ∈ am_ws := am_in 16 (by decide +kernel) (by decide +kernel)
theorem w_414 : Cond.methodLink "SlabImageModel" 96 my_128 ∈ am_ws := am_in 824 (by decide +kernel) (by decide +kernel)
theorem w_415 : Cond.instanceMethod my_128 ∈ am_ws := am_in 826 (by decide +kernel) (by decide +kernel)
theorem w_416 : Cond.selects "SlabImageModel" my_128 my_128 ∈ am_ws := am_in 18 (by decide +kernel) (by decide +kernel)
theorem w_417 : Cond.methodLink "SlabImageModel" 190 my_133 ∈ am_ws := am_in 845 (by decide +kernel) (by decide +kernel)
theorem w_418 : Cond.instanceMethod my_133 ∈ am_ws := am_in 847 (by decide +kernel) (by decide +kernel)
theorem w_419 : Cond.selects "SlabImageModel" my_133 my_133 ∈ am_ws := am_in 21 (by decide +kernel) (by decide +kernel)
theorem w_420 : Cond.methodLink "SlabImageModel" 186 my_132 ∈ am_ws := am_in 841 (by decide +kernel) (by decide +kernel)
theorem w_421 : Cond.instanceMethod my_132 ∈ am_ws := am_in 843 (by decide +kernel) (by decide +kernel)
theorem w_422 : Cond.selects "SlabImageModel" my_132 my_132 ∈ am_ws := am_in 20 (by decide +kernel) (by decide +kernel)
theorem w_423 : Cond.methodLink "SlabImageModel" 182 my_131 ∈ am_ws := am_in 837 (by decide +kernel) (by decide +kernel)
theorem w_424 : Cond.instanceMethod my_131 ∈ am_ws := am_in 839 (by decide +kernel) (by decide +kernel)
theorem w_425 : Cond.selects "SlabImageModel" my_131 my_131 ∈ am_ws := am_in 19 (by decide +kernel) (by decide +kernel)
theorem w_426 : Cond.constantLong "SlabImageModel" 194 (1099511627776) ∈ am_ws := am_in 853 (by decide +kernel) (by decide +kernel)
theorem w_427 : Cond.methodLink "SlabImageModel" 196 my_138 ∈ am_ws := am_in 866 (by decide +kernel) (by decide +kernel)
theorem w_428 : Cond.instanceMethod my_138 ∈ am_ws := am_in 868 (by decide +kernel) (by decide +kernel)
theorem w_429 : Cond.selects "SlabImageModel" my_138 my_138 ∈ am_ws := am_in 23 (by decide +kernel) (by decide +kernel)
theorem w_430 : Cond.methodLink "SlabImageModel" 203 my_137 ∈ am_ws := am_in 862 (by decide +kernel) (by decide +kernel)
theorem w_431 : Cond.instanceMethod my_137 ∈ am_ws := am_in 864 (by decide +kernel) (by decide +kernel)
theorem w_432 : Cond.selects "SlabImageModel" my_137 my_137 ∈ am_ws := am_in 22 (by decide +kernel) (by decide +kernel)
theorem w_433 : Cond.methodLink "SlabImageModel" 199 my_139 ∈ am_ws := am_in 870 (by decide +kernel) (by decide +kernel)
theorem w_434 : Cond.instanceMethod my_139 ∈ am_ws := am_in 872 (by decide +kernel) (by decide +kernel)
theorem w_435 : Cond.selects "SlabImageModel" my_139 my_139 ∈ am_ws := am_in 24 (by decide +kernel) (by decide +kernel)
theorem w_436 : Cond.methodLink "SlabImageModel" 207 my_145 ∈ am_ws := am_in 894 (by decide +kernel) (by decide +kernel)
theorem w_437 : Cond.instanceMethod my_145 ∈ am_ws := am_in 896 (by decide +kernel) (by decide +kernel)
theorem w_438 : Cond.selects "SlabImageModel" my_145 my_145 ∈ am_ws := am_in 25 (by decide +kernel) (by decide +kernel)
theorem w_439 : Cond.constantLong "SlabImageModel" 210 (8) ∈ am_ws := am_in 931 (by decide +kernel) (by decide +kernel)
theorem w_440 : Cond.constantLong "SlabImageModel" 212 (256) ∈ am_ws := am_in 932 (by decide +kernel) (by decide +kernel)
theorem w_441 : Cond.fieldLink "SlabImageModel" 105 "SlabImageModel" "length" "I" ∈ am_ws := am_in 665 (by decide +kernel) (by decide +kernel)
theorem w_442 : Cond.constant "SlabImageModel" 129 (1196573697) ∈ am_ws := am_in 898 (by decide +kernel) (by decide +kernel)
theorem w_443 : Cond.methodLink "SlabImageModel" 117 my_148 ∈ am_ws := am_in 907 (by decide +kernel) (by decide +kernel)
theorem w_444 : Cond.instanceMethod my_148 ∈ am_ws := am_in 909 (by decide +kernel) (by decide +kernel)
theorem w_445 : Cond.selects "SlabImageModel" my_148 my_148 ∈ am_ws := am_in 28 (by decide +kernel) (by decide +kernel)
theorem w_446 : Cond.methodLink "SlabImageModel" 113 my_146 ∈ am_ws := am_in 899 (by decide +kernel) (by decide +kernel)
theorem w_447 : Cond.instanceMethod my_146 ∈ am_ws := am_in 901 (by decide +kernel) (by decide +kernel)
theorem w_448 : Cond.selects "SlabImageModel" my_146 my_146 ∈ am_ws := am_in 26 (by decide +kernel) (by decide +kernel)
theorem w_449 : Cond.methodLink "SlabImageModel" 126 my_150 ∈ am_ws := am_in 915 (by decide +kernel) (by decide +kernel)
theorem w_450 : Cond.instanceMethod my_150 ∈ am_ws := am_in 917 (by decide +kernel) (by decide +kernel)
theorem w_451 : Cond.selects "SlabImageModel" my_150 my_150 ∈ am_ws := am_in 30 (by decide +kernel) (by decide +kernel)
theorem w_452 : Cond.methodLink "SlabImageModel" 120 my_149 ∈ am_ws := am_in 911 (by decide +kernel) (by decide +kernel)
theorem w_453 : Cond.instanceMethod my_149 ∈ am_ws := am_in 913 (by decide +kernel) (by decide +kernel)
theorem w_454 : Cond.selects "SlabImageModel" my_149 my_149 ∈ am_ws := am_in 29 (by decide +kernel) (by decide +kernel)
theorem w_455 : Cond.methodLink "SlabImageModel" 130 my_152 ∈ am_ws := am_in 923 (by decide +kernel) (by decide +kernel)
theorem w_456 : Cond.instanceMethod my_152 ∈ am_ws := am_in 925 (by decide +kernel) (by decide +kernel)
theorem w_457 : Cond.selects "SlabImageModel" my_152 my_152 ∈ am_ws := am_in 32 (by decide +kernel) (by decide +kernel)
theorem w_458 : Cond.methodLink "SlabImageModel" 133 my_153 ∈ am_ws := am_in 927 (by decide +kernel) (by decide +kernel)
theorem w_459 : Cond.instanceMethod my_153 ∈ am_ws := am_in 929 (by decide +kernel) (by decide +kernel)
theorem w_460 : Cond.selects "SlabImageModel" my_153 my_153 ∈ am_ws := am_in 33 (by decide +kernel) (by decide +kernel)
theorem w_461 : Cond.methodLink "SlabImageModel" 109 my_147 ∈ am_ws := am_in 903 (by decide +kernel) (by decide +kernel)
theorem w_462 : Cond.instanceMethod my_147 ∈ am_ws := am_in 905 (by decide +kernel) (by decide +kernel)
theorem w_463 : Cond.selects "SlabImageModel" my_147 my_147 ∈ am_ws := am_in 27 (by decide +kernel) (by decide +kernel)
theorem w_464 : Cond.methodLink "SlabImageModel" 123 my_151 ∈ am_ws := am_in 919 (by decide +kernel) (by decide +kernel)
theorem w_465 : Cond.instanceMethod my_151 ∈ am_ws := am_in 921 (by decide +kernel) (by decide +kernel)
theorem w_466 : Cond.selects "SlabImageModel" my_151 my_151 ∈ am_ws := am_in 31 (by decide +kernel) (by decide +kernel)
theorem w_467 : Cond.fieldLink "SlabImageModel" 214 "SlabImageModel" "drafted" "I" ∈ am_ws := am_in 667 (by decide +kernel) (by decide +kernel)
theorem w_468 : Cond.constantLong "SlabImageModel" 217 (255) ∈ am_ws := am_in 937 (by decide +kernel) (by decide +kernel)
theorem w_469 : Cond.methodLink "SlabImageModel" 253 my_165 ∈ am_ws := am_in 978 (by decide +kernel) (by decide +kernel)
theorem w_470 : Cond.instanceMethod my_165 ∈ am_ws := am_in 980 (by decide +kernel) (by decide +kernel)
theorem w_471 : Cond.selects "SlabImageModel" my_165 my_165 ∈ am_ws := am_in 42 (by decide +kernel) (by decide +kernel)
theorem w_472 : Cond.methodLink "SlabImageModel" 250 my_157 ∈ am_ws := am_in 946 (by decide +kernel) (by decide +kernel)
theorem w_473 : Cond.instanceMethod my_157 ∈ am_ws := am_in 948 (by decide +kernel) (by decide +kernel)
theorem w_474 : Cond.selects "SlabImageModel" my_157 my_157 ∈ am_ws := am_in 34 (by decide +kernel) (by decide +kernel)
theorem w_475 : Cond.fieldLink "SlabImageModel" 222 "SlabImageModel" "at" "I" ∈ am_ws := am_in 668 (by decide +kernel) (by decide +kernel)
theorem w_476 : Cond.fieldLink "SlabImageModel" 219 "SlabImageModel" "runsOut" "Z" ∈ am_ws := am_in 669 (by decide +kernel) (by decide +kernel)
theorem w_477 : Cond.methodLink "SlabImageModel" 228 my_160 ∈ am_ws := am_in 958 (by decide +kernel) (by decide +kernel)
theorem w_478 : Cond.instanceMethod my_160 ∈ am_ws := am_in 960 (by decide +kernel) (by decide +kernel)
theorem w_479 : Cond.selects "SlabImageModel" my_160 my_160 ∈ am_ws := am_in 37 (by decide +kernel) (by decide +kernel)
theorem w_480 : Cond.methodLink "SlabImageModel" 238 my_162 ∈ am_ws := am_in 966 (by decide +kernel) (by decide +kernel)
theorem w_481 : Cond.instanceMethod my_162 ∈ am_ws := am_in 968 (by decide +kernel) (by decide +kernel)
theorem w_482 : Cond.selects "SlabImageModel" my_162 my_162 ∈ am_ws := am_in 39 (by decide +kernel) (by decide +kernel)
theorem w_483 : Cond.methodLink "SlabImageModel" 241 my_159 ∈ am_ws := am_in 954 (by decide +kernel) (by decide +kernel)
theorem w_484 : Cond.instanceMethod my_159 ∈ am_ws := am_in 956 (by decide +kernel) (by decide +kernel)
theorem w_485 : Cond.selects "SlabImageModel" my_159 my_159 ∈ am_ws := am_in 36 (by decide +kernel) (by decide +kernel)
theorem w_486 : Cond.methodLink "SlabImageModel" 225 my_158 ∈ am_ws := am_in 950 (by decide +kernel) (by decide +kernel)
theorem w_487 : Cond.instanceMethod my_158 ∈ am_ws := am_in 952 (by decide +kernel) (by decide +kernel)
theorem w_488 : Cond.selects "SlabImageModel" my_158 my_158 ∈ am_ws := am_in 35 (by decide +kernel) (by decide +kernel)
theorem w_489 : Cond.methodLink "SlabImageModel" 244 my_164 ∈ am_ws := am_in 974 (by decide +kernel) (by decide +kernel)
theorem w_490 : Cond.instanceMethod my_164 ∈ am_ws := am_in 976 (by decide +kernel) (by decide +kernel)
theorem w_491 : Cond.selects "SlabImageModel" my_164 my_164 ∈ am_ws := am_in 41 (by decide +kernel) (by decide +kernel)
theorem w_492 : Cond.methodLink "SlabImageModel" 231 my_161 ∈ am_ws := am_in 962 (by decide +kernel) (by decide +kernel)
theorem w_493 : Cond.instanceMethod my_161 ∈ am_ws := am_in 964 (by decide +kernel) (by decide +kernel)
theorem w_494 : Cond.selects "SlabImageModel" my_161 my_161 ∈ am_ws := am_in 38 (by decide +kernel) (by decide +kernel)
theorem w_495 : Cond.methodLink "SlabImageModel" 235 my_163 ∈ am_ws := am_in 970 (by decide +kernel) (by decide +kernel)
theorem w_496 : Cond.instanceMethod my_163 ∈ am_ws := am_in 972 (by decide +kernel) (by decide +kernel)
theorem w_497 : Cond.selects "SlabImageModel" my_163 my_163 ∈ am_ws := am_in 40 (by decide +kernel) (by decide +kernel)
theorem w_498 : Cond.methodLink "SlabImageModel" 247 my_166 ∈ am_ws := am_in 982 (by decide +kernel) (by decide +kernel)
theorem w_499 : Cond.instanceMethod my_166 ∈ am_ws := am_in 984 (by decide +kernel) (by decide +kernel)
end
