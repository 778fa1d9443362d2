section
-- ===== PART A: goes FIRST, ahead of the names: the tables' words, and 'selects' of the private methods out of them =====
/-- a private method of a class that the tables say can be made, by its rows of tables_1 -/
def lw_okq (q : MethodName × Nat) : Prop := (q.1.cls ≠ "java/lang/invoke/MethodHandle" ∧ q.1.cls ≠ "java/lang/invoke/VarHandle") ∧ Cond.instantiable q.1.cls q.2 ∈ tables_1 ∧ Cond.privateMethod q.1 ∈ tables_1 ∧ Cond.instanceMethod q.1 ∈ tables_1
theorem lw_p0 : lw_okq (⟨"SlabImage", "rowsOf", "(LSlabImage$Variable;)LSlabImage$Selection;"⟩, 8) := ⟨⟨by decide +kernel, by decide +kernel⟩, List.mem_of_getElem? (i := 10) (by decide +kernel), List.mem_of_getElem? (i := 383) (by decide +kernel), List.mem_of_getElem? (i := 384) (by decide +kernel)⟩
theorem lw_p1 : lw_okq (⟨"SlabImage", "columnsOf", "(LSlabImage$Variable;)LSlabImage$Selection;"⟩, 8) := ⟨⟨by decide +kernel, by decide +kernel⟩, List.mem_of_getElem? (i := 10) (by decide +kernel), List.mem_of_getElem? (i := 388) (by decide +kernel), List.mem_of_getElem? (i := 389) (by decide +kernel)⟩
theorem lw_p2 : lw_okq (⟨"SlabImageModel", "dimNamed", "(III)Z"⟩, 26) := ⟨⟨by decide +kernel, by decide +kernel⟩, List.mem_of_getElem? (i := 595) (by decide +kernel), List.mem_of_getElem? (i := 687) (by decide +kernel), List.mem_of_getElem? (i := 688) (by decide +kernel)⟩
theorem lw_p3 : lw_okq (⟨"SlabImageModel", "growing", "(I)I"⟩, 26) := ⟨⟨by decide +kernel, by decide +kernel⟩, List.mem_of_getElem? (i := 595) (by decide +kernel), List.mem_of_getElem? (i := 691) (by decide +kernel), List.mem_of_getElem? (i := 692) (by decide +kernel)⟩
theorem lw_p4 : lw_okq (⟨"SlabImageModel", "isDimension", "(I)Z"⟩, 26) := ⟨⟨by decide +kernel, by decide +kernel⟩, List.mem_of_getElem? (i := 595) (by decide +kernel), List.mem_of_getElem? (i := 699) (by decide +kernel), List.mem_of_getElem? (i := 700) (by decide +kernel)⟩
theorem lw_p5 : lw_okq (⟨"SlabImageModel", "varNamed", "(III)Z"⟩, 26) := ⟨⟨by decide +kernel, by decide +kernel⟩, List.mem_of_getElem? (i := 595) (by decide +kernel), List.mem_of_getElem? (i := 703) (by decide +kernel), List.mem_of_getElem? (i := 704) (by decide +kernel)⟩
theorem lw_p6 : lw_okq (⟨"SlabImageModel", "blank", "(II)V"⟩, 26) := ⟨⟨by decide +kernel, by decide +kernel⟩, List.mem_of_getElem? (i := 595) (by decide +kernel), List.mem_of_getElem? (i := 707) (by decide +kernel), List.mem_of_getElem? (i := 708) (by decide +kernel)⟩
theorem lw_p7 : lw_okq (⟨"SlabImageModel", "isVariable", "(I)Z"⟩, 26) := ⟨⟨by decide +kernel, by decide +kernel⟩, List.mem_of_getElem? (i := 595) (by decide +kernel), List.mem_of_getElem? (i := 719) (by decide +kernel), List.mem_of_getElem? (i := 720) (by decide +kernel)⟩
theorem lw_p8 : lw_okq (⟨"SlabImageModel", "find", "(II)I"⟩, 26) := ⟨⟨by decide +kernel, by decide +kernel⟩, List.mem_of_getElem? (i := 595) (by decide +kernel), List.mem_of_getElem? (i := 726) (by decide +kernel), List.mem_of_getElem? (i := 727) (by decide +kernel)⟩
theorem lw_p9 : lw_okq (⟨"SlabImageModel", "total", "(IJ)J"⟩, 26) := ⟨⟨by decide +kernel, by decide +kernel⟩, List.mem_of_getElem? (i := 595) (by decide +kernel), List.mem_of_getElem? (i := 742) (by decide +kernel), List.mem_of_getElem? (i := 743) (by decide +kernel)⟩
theorem lw_p10 : lw_okq (⟨"SlabImageModel", "beginOf", "(II)I"⟩, 26) := ⟨⟨by decide +kernel, by decide +kernel⟩, List.mem_of_getElem? (i := 595) (by decide +kernel), List.mem_of_getElem? (i := 746) (by decide +kernel), List.mem_of_getElem? (i := 747) (by decide +kernel)⟩
theorem lw_p11 : lw_okq (⟨"SlabImageModel", "isRecord", "(II)Z"⟩, 26) := ⟨⟨by decide +kernel, by decide +kernel⟩, List.mem_of_getElem? (i := 595) (by decide +kernel), List.mem_of_getElem? (i := 750) (by decide +kernel), List.mem_of_getElem? (i := 751) (by decide +kernel)⟩
theorem lw_p12 : lw_okq (⟨"SlabImageModel", "lengthOf", "(III)I"⟩, 26) := ⟨⟨by decide +kernel, by decide +kernel⟩, List.mem_of_getElem? (i := 595) (by decide +kernel), List.mem_of_getElem? (i := 754) (by decide +kernel), List.mem_of_getElem? (i := 755) (by decide +kernel)⟩
theorem lw_p13 : lw_okq (⟨"SlabImageModel", "headerSize", "(I)I"⟩, 26) := ⟨⟨by decide +kernel, by decide +kernel⟩, List.mem_of_getElem? (i := 595) (by decide +kernel), List.mem_of_getElem? (i := 758) (by decide +kernel), List.mem_of_getElem? (i := 759) (by decide +kernel)⟩
theorem lw_p14 : lw_okq (⟨"SlabImageModel", "listSize", "(II)I"⟩, 26) := ⟨⟨by decide +kernel, by decide +kernel⟩, List.mem_of_getElem? (i := 595) (by decide +kernel), List.mem_of_getElem? (i := 762) (by decide +kernel), List.mem_of_getElem? (i := 763) (by decide +kernel)⟩
theorem lw_p15 : lw_okq (⟨"SlabImageModel", "padded", "(II)I"⟩, 26) := ⟨⟨by decide +kernel, by decide +kernel⟩, List.mem_of_getElem? (i := 595) (by decide +kernel), List.mem_of_getElem? (i := 766) (by decide +kernel), List.mem_of_getElem? (i := 767) (by decide +kernel)⟩
def lw_privs_1 : List (MethodName × Nat) := [(⟨"SlabImage", "rowsOf", "(LSlabImage$Variable;)LSlabImage$Selection;"⟩, 8), (⟨"SlabImage", "columnsOf", "(LSlabImage$Variable;)LSlabImage$Selection;"⟩, 8), (⟨"SlabImageModel", "dimNamed", "(III)Z"⟩, 26), (⟨"SlabImageModel", "growing", "(I)I"⟩, 26), (⟨"SlabImageModel", "isDimension", "(I)Z"⟩, 26), (⟨"SlabImageModel", "varNamed", "(III)Z"⟩, 26), (⟨"SlabImageModel", "blank", "(II)V"⟩, 26), (⟨"SlabImageModel", "isVariable", "(I)Z"⟩, 26), (⟨"SlabImageModel", "find", "(II)I"⟩, 26), (⟨"SlabImageModel", "total", "(IJ)J"⟩, 26), (⟨"SlabImageModel", "beginOf", "(II)I"⟩, 26), (⟨"SlabImageModel", "isRecord", "(II)Z"⟩, 26), (⟨"SlabImageModel", "lengthOf", "(III)I"⟩, 26), (⟨"SlabImageModel", "headerSize", "(I)I"⟩, 26), (⟨"SlabImageModel", "listSize", "(II)I"⟩, 26), (⟨"SlabImageModel", "padded", "(II)I"⟩, 26)]
theorem lw_r1 : ∀ q ∈ lw_privs_1, lw_okq q := List.forall_mem_cons.mpr ⟨lw_p0, List.forall_mem_cons.mpr ⟨lw_p1, List.forall_mem_cons.mpr ⟨lw_p2, List.forall_mem_cons.mpr ⟨lw_p3, List.forall_mem_cons.mpr ⟨lw_p4, List.forall_mem_cons.mpr ⟨lw_p5, List.forall_mem_cons.mpr ⟨lw_p6, List.forall_mem_cons.mpr ⟨lw_p7, List.forall_mem_cons.mpr ⟨lw_p8, List.forall_mem_cons.mpr ⟨lw_p9, List.forall_mem_cons.mpr ⟨lw_p10, List.forall_mem_cons.mpr ⟨lw_p11, List.forall_mem_cons.mpr ⟨lw_p12, List.forall_mem_cons.mpr ⟨lw_p13, List.forall_mem_cons.mpr ⟨lw_p14, List.forall_mem_cons.mpr ⟨lw_p15, fun _ h => absurd h List.not_mem_nil⟩⟩⟩⟩⟩⟩⟩⟩⟩⟩⟩⟩⟩⟩⟩⟩
theorem lw_p16 : lw_okq (⟨"SlabImageModel", "cells", "(II)I"⟩, 26) := ⟨⟨by decide +kernel, by decide +kernel⟩, List.mem_of_getElem? (i := 595) (by decide +kernel), List.mem_of_getElem? (i := 770) (by decide +kernel), List.mem_of_getElem? (i := 771) (by decide +kernel)⟩
theorem lw_p17 : lw_okq (⟨"SlabImageModel", "recordSize", "(I)I"⟩, 26) := ⟨⟨by decide +kernel, by decide +kernel⟩, List.mem_of_getElem? (i := 595) (by decide +kernel), List.mem_of_getElem? (i := 777) (by decide +kernel), List.mem_of_getElem? (i := 778) (by decide +kernel)⟩
theorem lw_p18 : lw_okq (⟨"SlabImageModel", "recordVariables", "(I)I"⟩, 26) := ⟨⟨by decide +kernel, by decide +kernel⟩, List.mem_of_getElem? (i := 595) (by decide +kernel), List.mem_of_getElem? (i := 781) (by decide +kernel), List.mem_of_getElem? (i := 782) (by decide +kernel)⟩
theorem lw_p19 : lw_okq (⟨"SlabImageModel", "there", "(IJJZ)Z"⟩, 26) := ⟨⟨by decide +kernel, by decide +kernel⟩, List.mem_of_getElem? (i := 595) (by decide +kernel), List.mem_of_getElem? (i := 794) (by decide +kernel), List.mem_of_getElem? (i := 795) (by decide +kernel)⟩
theorem lw_p20 : lw_okq (⟨"SlabImageModel", "grow", "(IJ)Z"⟩, 26) := ⟨⟨by decide +kernel, by decide +kernel⟩, List.mem_of_getElem? (i := 595) (by decide +kernel), List.mem_of_getElem? (i := 798) (by decide +kernel), List.mem_of_getElem? (i := 799) (by decide +kernel)⟩
theorem lw_p21 : lw_okq (⟨"SlabImageModel", "cellAt", "(IJJ)I"⟩, 26) := ⟨⟨by decide +kernel, by decide +kernel⟩, List.mem_of_getElem? (i := 595) (by decide +kernel), List.mem_of_getElem? (i := 802) (by decide +kernel), List.mem_of_getElem? (i := 803) (by decide +kernel)⟩
theorem lw_p22 : lw_okq (⟨"SlabImageModel", "slabThere", "(IZ)Z"⟩, 26) := ⟨⟨by decide +kernel, by decide +kernel⟩, List.mem_of_getElem? (i := 595) (by decide +kernel), List.mem_of_getElem? (i := 819) (by decide +kernel), List.mem_of_getElem? (i := 820) (by decide +kernel)⟩
theorem lw_p23 : lw_okq (⟨"SlabImageModel", "many", "(II)I"⟩, 26) := ⟨⟨by decide +kernel, by decide +kernel⟩, List.mem_of_getElem? (i := 595) (by decide +kernel), List.mem_of_getElem? (i := 823) (by decide +kernel), List.mem_of_getElem? (i := 824) (by decide +kernel)⟩
theorem lw_p24 : lw_okq (⟨"SlabImageModel", "chosen", "(III)J"⟩, 26) := ⟨⟨by decide +kernel, by decide +kernel⟩, List.mem_of_getElem? (i := 595) (by decide +kernel), List.mem_of_getElem? (i := 827) (by decide +kernel), List.mem_of_getElem? (i := 828) (by decide +kernel)⟩
theorem lw_p25 : lw_okq (⟨"SlabImageModel", "writeImage", "(I)V"⟩, 26) := ⟨⟨by decide +kernel, by decide +kernel⟩, List.mem_of_getElem? (i := 595) (by decide +kernel), List.mem_of_getElem? (i := 851) (by decide +kernel), List.mem_of_getElem? (i := 852) (by decide +kernel)⟩
theorem lw_p26 : lw_okq (⟨"SlabImageModel", "writeValue", "(II)V"⟩, 26) := ⟨⟨by decide +kernel, by decide +kernel⟩, List.mem_of_getElem? (i := 595) (by decide +kernel), List.mem_of_getElem? (i := 856) (by decide +kernel), List.mem_of_getElem? (i := 857) (by decide +kernel)⟩
theorem lw_p27 : lw_okq (⟨"SlabImageModel", "write", "(I)V"⟩, 26) := ⟨⟨by decide +kernel, by decide +kernel⟩, List.mem_of_getElem? (i := 595) (by decide +kernel), List.mem_of_getElem? (i := 860) (by decide +kernel), List.mem_of_getElem? (i := 861) (by decide +kernel)⟩
theorem lw_p28 : lw_okq (⟨"SlabImageModel", "writeCount", "(II)V"⟩, 26) := ⟨⟨by decide +kernel, by decide +kernel⟩, List.mem_of_getElem? (i := 595) (by decide +kernel), List.mem_of_getElem? (i := 864) (by decide +kernel), List.mem_of_getElem? (i := 865) (by decide +kernel)⟩
theorem lw_p29 : lw_okq (⟨"SlabImageModel", "writeName", "(I)V"⟩, 26) := ⟨⟨by decide +kernel, by decide +kernel⟩, List.mem_of_getElem? (i := 595) (by decide +kernel), List.mem_of_getElem? (i := 868) (by decide +kernel), List.mem_of_getElem? (i := 869) (by decide +kernel)⟩
theorem lw_p30 : lw_okq (⟨"SlabImageModel", "writeList", "(II)V"⟩, 26) := ⟨⟨by decide +kernel, by decide +kernel⟩, List.mem_of_getElem? (i := 595) (by decide +kernel), List.mem_of_getElem? (i := 872) (by decide +kernel), List.mem_of_getElem? (i := 873) (by decide +kernel)⟩
theorem lw_p31 : lw_okq (⟨"SlabImageModel", "pad", "(I)V"⟩, 26) := ⟨⟨by decide +kernel, by decide +kernel⟩, List.mem_of_getElem? (i := 595) (by decide +kernel), List.mem_of_getElem? (i := 876) (by decide +kernel), List.mem_of_getElem? (i := 877) (by decide +kernel)⟩
def lw_privs_2 : List (MethodName × Nat) := [(⟨"SlabImageModel", "cells", "(II)I"⟩, 26), (⟨"SlabImageModel", "recordSize", "(I)I"⟩, 26), (⟨"SlabImageModel", "recordVariables", "(I)I"⟩, 26), (⟨"SlabImageModel", "there", "(IJJZ)Z"⟩, 26), (⟨"SlabImageModel", "grow", "(IJ)Z"⟩, 26), (⟨"SlabImageModel", "cellAt", "(IJJ)I"⟩, 26), (⟨"SlabImageModel", "slabThere", "(IZ)Z"⟩, 26), (⟨"SlabImageModel", "many", "(II)I"⟩, 26), (⟨"SlabImageModel", "chosen", "(III)J"⟩, 26), (⟨"SlabImageModel", "writeImage", "(I)V"⟩, 26), (⟨"SlabImageModel", "writeValue", "(II)V"⟩, 26), (⟨"SlabImageModel", "write", "(I)V"⟩, 26), (⟨"SlabImageModel", "writeCount", "(II)V"⟩, 26), (⟨"SlabImageModel", "writeName", "(I)V"⟩, 26), (⟨"SlabImageModel", "writeList", "(II)V"⟩, 26), (⟨"SlabImageModel", "pad", "(I)V"⟩, 26)]
theorem lw_r2 : ∀ q ∈ lw_privs_2, lw_okq q := List.forall_mem_cons.mpr ⟨lw_p16, List.forall_mem_cons.mpr ⟨lw_p17, List.forall_mem_cons.mpr ⟨lw_p18, List.forall_mem_cons.mpr ⟨lw_p19, List.forall_mem_cons.mpr ⟨lw_p20, List.forall_mem_cons.mpr ⟨lw_p21, List.forall_mem_cons.mpr ⟨lw_p22, List.forall_mem_cons.mpr ⟨lw_p23, List.forall_mem_cons.mpr ⟨lw_p24, List.forall_mem_cons.mpr ⟨lw_p25, List.forall_mem_cons.mpr ⟨lw_p26, List.forall_mem_cons.mpr ⟨lw_p27, List.forall_mem_cons.mpr ⟨lw_p28, List.forall_mem_cons.mpr ⟨lw_p29, List.forall_mem_cons.mpr ⟨lw_p30, List.forall_mem_cons.mpr ⟨lw_p31, fun _ h => absurd h List.not_mem_nil⟩⟩⟩⟩⟩⟩⟩⟩⟩⟩⟩⟩⟩⟩⟩⟩
theorem lw_p32 : lw_okq (⟨"SlabImageModel", "writeVariable", "(II)V"⟩, 26) := ⟨⟨by decide +kernel, by decide +kernel⟩, List.mem_of_getElem? (i := 595) (by decide +kernel), List.mem_of_getElem? (i := 880) (by decide +kernel), List.mem_of_getElem? (i := 881) (by decide +kernel)⟩
theorem lw_p33 : lw_okq (⟨"SlabImageModel", "writeCells", "(IIIZ)V"⟩, 26) := ⟨⟨by decide +kernel, by decide +kernel⟩, List.mem_of_getElem? (i := 595) (by decide +kernel), List.mem_of_getElem? (i := 884) (by decide +kernel), List.mem_of_getElem? (i := 885) (by decide +kernel)⟩
theorem lw_p34 : lw_okq (⟨"SlabImageModel", "readHeader", "(I)Z"⟩, 26) := ⟨⟨by decide +kernel, by decide +kernel⟩, List.mem_of_getElem? (i := 595) (by decide +kernel), List.mem_of_getElem? (i := 903) (by decide +kernel), List.mem_of_getElem? (i := 904) (by decide +kernel)⟩
theorem lw_p35 : lw_okq (⟨"SlabImageModel", "read", "(I)I"⟩, 26) := ⟨⟨by decide +kernel, by decide +kernel⟩, List.mem_of_getElem? (i := 595) (by decide +kernel), List.mem_of_getElem? (i := 907) (by decide +kernel), List.mem_of_getElem? (i := 908) (by decide +kernel)⟩
theorem lw_p36 : lw_okq (⟨"SlabImageModel", "readDimensions", "(I)Z"⟩, 26) := ⟨⟨by decide +kernel, by decide +kernel⟩, List.mem_of_getElem? (i := 595) (by decide +kernel), List.mem_of_getElem? (i := 911) (by decide +kernel), List.mem_of_getElem? (i := 912) (by decide +kernel)⟩
theorem lw_p37 : lw_okq (⟨"SlabImageModel", "readCount", "(I)I"⟩, 26) := ⟨⟨by decide +kernel, by decide +kernel⟩, List.mem_of_getElem? (i := 595) (by decide +kernel), List.mem_of_getElem? (i := 915) (by decide +kernel), List.mem_of_getElem? (i := 916) (by decide +kernel)⟩
theorem lw_p38 : lw_okq (⟨"SlabImageModel", "readName", "()I"⟩, 26) := ⟨⟨by decide +kernel, by decide +kernel⟩, List.mem_of_getElem? (i := 595) (by decide +kernel), List.mem_of_getElem? (i := 919) (by decide +kernel), List.mem_of_getElem? (i := 920) (by decide +kernel)⟩
theorem lw_p39 : lw_okq (⟨"SlabImageModel", "readList", "(II)Z"⟩, 26) := ⟨⟨by decide +kernel, by decide +kernel⟩, List.mem_of_getElem? (i := 595) (by decide +kernel), List.mem_of_getElem? (i := 923) (by decide +kernel), List.mem_of_getElem? (i := 924) (by decide +kernel)⟩
theorem lw_p40 : lw_okq (⟨"SlabImageModel", "readOf", "(I)I"⟩, 26) := ⟨⟨by decide +kernel, by decide +kernel⟩, List.mem_of_getElem? (i := 595) (by decide +kernel), List.mem_of_getElem? (i := 927) (by decide +kernel), List.mem_of_getElem? (i := 928) (by decide +kernel)⟩
theorem lw_p41 : lw_okq (⟨"SlabImageModel", "readVariable", "(II)Z"⟩, 26) := ⟨⟨by decide +kernel, by decide +kernel⟩, List.mem_of_getElem? (i := 595) (by decide +kernel), List.mem_of_getElem? (i := 931) (by decide +kernel), List.mem_of_getElem? (i := 932) (by decide +kernel)⟩
theorem lw_p42 : lw_okq (⟨"SlabImageModel", "readAllCells", "(I)V"⟩, 26) := ⟨⟨by decide +kernel, by decide +kernel⟩, List.mem_of_getElem? (i := 595) (by decide +kernel), List.mem_of_getElem? (i := 935) (by decide +kernel), List.mem_of_getElem? (i := 936) (by decide +kernel)⟩
theorem lw_p43 : lw_okq (⟨"SlabImageModel", "readCells", "(IIIZ)V"⟩, 26) := ⟨⟨by decide +kernel, by decide +kernel⟩, List.mem_of_getElem? (i := 595) (by decide +kernel), List.mem_of_getElem? (i := 939) (by decide +kernel), List.mem_of_getElem? (i := 940) (by decide +kernel)⟩
def lw_privs_3 : List (MethodName × Nat) := [(⟨"SlabImageModel", "writeVariable", "(II)V"⟩, 26), (⟨"SlabImageModel", "writeCells", "(IIIZ)V"⟩, 26), (⟨"SlabImageModel", "readHeader", "(I)Z"⟩, 26), (⟨"SlabImageModel", "read", "(I)I"⟩, 26), (⟨"SlabImageModel", "readDimensions", "(I)Z"⟩, 26), (⟨"SlabImageModel", "readCount", "(I)I"⟩, 26), (⟨"SlabImageModel", "readName", "()I"⟩, 26), (⟨"SlabImageModel", "readList", "(II)Z"⟩, 26), (⟨"SlabImageModel", "readOf", "(I)I"⟩, 26), (⟨"SlabImageModel", "readVariable", "(II)Z"⟩, 26), (⟨"SlabImageModel", "readAllCells", "(I)V"⟩, 26), (⟨"SlabImageModel", "readCells", "(IIIZ)V"⟩, 26)]
theorem lw_r3 : ∀ q ∈ lw_privs_3, lw_okq q := List.forall_mem_cons.mpr ⟨lw_p32, List.forall_mem_cons.mpr ⟨lw_p33, List.forall_mem_cons.mpr ⟨lw_p34, List.forall_mem_cons.mpr ⟨lw_p35, List.forall_mem_cons.mpr ⟨lw_p36, List.forall_mem_cons.mpr ⟨lw_p37, List.forall_mem_cons.mpr ⟨lw_p38, List.forall_mem_cons.mpr ⟨lw_p39, List.forall_mem_cons.mpr ⟨lw_p40, List.forall_mem_cons.mpr ⟨lw_p41, List.forall_mem_cons.mpr ⟨lw_p42, List.forall_mem_cons.mpr ⟨lw_p43, fun _ h => absurd h List.not_mem_nil⟩⟩⟩⟩⟩⟩⟩⟩⟩⟩⟩⟩
def lw_privs : List (MethodName × Nat) := lw_privs_1 ++ (lw_privs_2 ++ (lw_privs_3))
def lw_tbl : List Cond := k2_sels lw_privs ++ tables_1
theorem lw_privs_ok : ∀ q ∈ lw_privs, lw_okq q := by
  show ∀ q ∈ lw_privs_1 ++ (lw_privs_2 ++ (lw_privs_3)), lw_okq q
  exact List.forall_mem_append.mpr ⟨lw_r1, List.forall_mem_append.mpr ⟨lw_r2, lw_r3⟩⟩
end
section
/-! names: classes, their fields, methods (printed by my program out of the listing) -/
def RX0 : String := "SlabImage$AttributeList"
def TX0 : u_T := fun k => match k with
  | 0 => ("SlabImage$AttributeList", "count", "I", false)
  | 1 => ("SlabImage$AttributeList", "names", "[I", true)
  | 2 => ("SlabImage$AttributeList", "types", "[I", true)
  | 3 => ("SlabImage$AttributeList", "firsts", "[I", true)
  | _ => ("SlabImage$AttributeList", "seconds", "[I", true)
def tyX0 : Nat → FieldType := fun k => match k with
  | 0 => .int
  | 1 => .array (.int)
  | 2 => .array (.int)
  | 3 => .array (.int)
  | _ => .array (.int)
theorem nmX0 : ∀ a, a < 5 → ∀ b, b < 5 → a ≠ b → (TX0 a).2.1 ≠ (TX0 b).2.1 := by decide +kernel
theorem tyX0_ok : ∀ k, k < 5 → parseFieldDescriptor (TX0 k).2.2.1 = some (tyX0 k) := by decide +kernel
def RX1 : String := "SlabImage$ByteRow"
def TX1 : u_T := fun k => match k with
  | 0 => ("SlabImage$ByteRow", "bytes", "[B", true)
  | 1 => ("SlabImage$ByteRow", "length", "I", false)
  | _ => ("SlabImage$ByteRow", "cursor", "I", false)
def tyX1 : Nat → FieldType := fun k => match k with
  | 0 => .array (.byte)
  | 1 => .int
  | _ => .int
theorem nmX1 : ∀ a, a < 3 → ∀ b, b < 3 → a ≠ b → (TX1 a).2.1 ≠ (TX1 b).2.1 := by decide +kernel
theorem tyX1_ok : ∀ k, k < 3 → parseFieldDescriptor (TX1 k).2.2.1 = some (tyX1 k) := by decide +kernel
def RX2 : String := "SlabImage$Selection"
def TX2 : u_T := fun k => match k with
  | 0 => ("SlabImage$Selection", "start", "I", false)
  | 1 => ("SlabImage$Selection", "count", "I", false)
  | _ => ("SlabImage$Selection", "stride", "I", false)
def tyX2 : Nat → FieldType := fun k => match k with
  | 0 => .int
  | 1 => .int
  | _ => .int
theorem nmX2 : ∀ a, a < 3 → ∀ b, b < 3 → a ≠ b → (TX2 a).2.1 ≠ (TX2 b).2.1 := by decide +kernel
theorem tyX2_ok : ∀ k, k < 3 → parseFieldDescriptor (TX2 k).2.2.1 = some (tyX2 k) := by decide +kernel
def RX3 : String := "SlabImage$Store"
def TX3 : u_T := fun k => match k with
  | 0 => ("SlabImage$Store", "recordCount", "I", false)
  | 1 => ("SlabImage$Store", "dimensionCount", "I", false)
  | 2 => ("SlabImage$Store", "dimensionNames", "[I", true)
  | 3 => ("SlabImage$Store", "dimensionLengths", "[I", true)
  | 4 => ("SlabImage$Store", "variableCount", "I", false)
  | 5 => ("SlabImage$Store", "variableNames", "[I", true)
  | 6 => ("SlabImage$Store", "variables", "[LSlabImage$Variable;", true)
  | _ => ("SlabImage$Store", "attributes", "LSlabImage$AttributeList;", true)
def tyX3 : Nat → FieldType := fun k => match k with
  | 0 => .int
  | 1 => .int
  | 2 => .array (.int)
  | 3 => .array (.int)
  | 4 => .int
  | 5 => .array (.int)
  | 6 => .array (.object "SlabImage$Variable")
  | _ => .object "SlabImage$AttributeList"
theorem nmX3 : ∀ a, a < 8 → ∀ b, b < 8 → a ≠ b → (TX3 a).2.1 ≠ (TX3 b).2.1 := by decide +kernel
theorem tyX3_ok : ∀ k, k < 8 → parseFieldDescriptor (TX3 k).2.2.1 = some (tyX3 k) := by decide +kernel
def RX4 : String := "SlabImage$Variable"
def TX4 : u_T := fun k => match k with
  | 0 => ("SlabImage$Variable", "type", "I", false)
  | 1 => ("SlabImage$Variable", "firstAxis", "I", false)
  | 2 => ("SlabImage$Variable", "secondAxis", "I", false)
  | 3 => ("SlabImage$Variable", "growing", "Z", false)
  | 4 => ("SlabImage$Variable", "rowCount", "I", false)
  | 5 => ("SlabImage$Variable", "columnCount", "I", false)
  | 6 => ("SlabImage$Variable", "attributes", "LSlabImage$AttributeList;", true)
  | _ => ("SlabImage$Variable", "cells", "[I", true)
def tyX4 : Nat → FieldType := fun k => match k with
  | 0 => .int
  | 1 => .int
  | 2 => .int
  | 3 => .boolean
  | 4 => .int
  | 5 => .int
  | 6 => .object "SlabImage$AttributeList"
  | _ => .array (.int)
theorem nmX4 : ∀ a, a < 8 → ∀ b, b < 8 → a ≠ b → (TX4 a).2.1 ≠ (TX4 b).2.1 := by decide +kernel
theorem tyX4_ok : ∀ k, k < 8 → parseFieldDescriptor (TX4 k).2.2.1 = some (tyX4 k) := by decide +kernel
def RX5 : String := "SlabImage"
def TX5 : u_T := fun k => match k with
  | 0 => ("SlabImage", "store", "LSlabImage$Store;", false)
  | 1 => ("SlabImage", "spare", "LSlabImage$Store;", false)
  | 2 => ("SlabImage", "defining", "Z", false)
  | 3 => ("SlabImage", "rowSelection", "LSlabImage$Selection;", true)
  | 4 => ("SlabImage", "columnSelection", "LSlabImage$Selection;", true)
  | 5 => ("SlabImage", "zeroAlone", "LSlabImage$Selection;", true)
  | 6 => ("SlabImage", "draft", "LSlabImage$ByteRow;", true)
  | _ => ("SlabImage", "image", "LSlabImage$ByteRow;", true)
def tyX5 : Nat → FieldType := fun k => match k with
  | 0 => .object "SlabImage$Store"
  | 1 => .object "SlabImage$Store"
  | 2 => .boolean
  | 3 => .object "SlabImage$Selection"
  | 4 => .object "SlabImage$Selection"
  | 5 => .object "SlabImage$Selection"
  | 6 => .object "SlabImage$ByteRow"
  | _ => .object "SlabImage$ByteRow"
theorem nmX5 : ∀ a, a < 8 → ∀ b, b < 8 → a ≠ b → (TX5 a).2.1 ≠ (TX5 b).2.1 := by decide +kernel
theorem tyX5_ok : ∀ k, k < 8 → parseFieldDescriptor (TX5 k).2.2.1 = some (tyX5 k) := by decide +kernel
def RX6 : String := "SlabImageModel"
def TX6 : u_T := fun k => match k with
  | 0 => ("SlabImageModel", "now", "I", false)
  | 1 => ("SlabImageModel", "data", "Z", false)
  | 2 => ("SlabImageModel", "dimensions", "[I", false)
  | 3 => ("SlabImageModel", "dimName", "[I", false)
  | 4 => ("SlabImageModel", "dimLength", "[I", false)
  | 5 => ("SlabImageModel", "variables", "[I", false)
  | 6 => ("SlabImageModel", "varName", "[I", false)
  | 7 => ("SlabImageModel", "varType", "[I", false)
  | 8 => ("SlabImageModel", "axes", "[I", false)
  | 9 => ("SlabImageModel", "axis", "[I", false)
  | 10 => ("SlabImageModel", "attributes", "[I", false)
  | 11 => ("SlabImageModel", "attName", "[I", false)
  | 12 => ("SlabImageModel", "attType", "[I", false)
  | 13 => ("SlabImageModel", "attX", "[I", false)
  | 14 => ("SlabImageModel", "attY", "[I", false)
  | 15 => ("SlabImageModel", "records", "[I", false)
  | 16 => ("SlabImageModel", "cell", "[I", false)
  | 17 => ("SlabImageModel", "start", "[I", false)
  | 18 => ("SlabImageModel", "count", "[I", false)
  | 19 => ("SlabImageModel", "stride", "[I", false)
  | 20 => ("SlabImageModel", "image", "[I", false)
  | 21 => ("SlabImageModel", "length", "I", false)
  | 22 => ("SlabImageModel", "draft", "[I", false)
  | 23 => ("SlabImageModel", "drafted", "I", false)
  | 24 => ("SlabImageModel", "at", "I", false)
  | _ => ("SlabImageModel", "runsOut", "Z", false)
def tyX6 : Nat → FieldType := fun k => match k with
  | 0 => .int
  | 1 => .boolean
  | 2 => .array (.int)
  | 3 => .array (.int)
  | 4 => .array (.int)
  | 5 => .array (.int)
  | 6 => .array (.int)
  | 7 => .array (.int)
  | 8 => .array (.int)
  | 9 => .array (.int)
  | 10 => .array (.int)
  | 11 => .array (.int)
  | 12 => .array (.int)
  | 13 => .array (.int)
  | 14 => .array (.int)
  | 15 => .array (.int)
  | 16 => .array (.int)
  | 17 => .array (.int)
  | 18 => .array (.int)
  | 19 => .array (.int)
  | 20 => .array (.int)
  | 21 => .int
  | 22 => .array (.int)
  | 23 => .int
  | 24 => .int
  | _ => .boolean
theorem nmX6 : ∀ a, a < 26 → ∀ b, b < 26 → a ≠ b → (TX6 a).2.1 ≠ (TX6 b).2.1 := by decide +kernel
theorem tyX6_ok : ∀ k, k < 26 → parseFieldDescriptor (TX6 k).2.2.1 = some (tyX6 k) := by decide +kernel
def am_sn (i : Nat) : String := match i with
  | 0 => "WIDTH"
  | 1 => "FILL"
  | 2 => "LEAST"
  | _ => "GREATEST"
def my_0 : MethodName := ⟨"SlabImage", "<init>", "()V"⟩
def my_1 : MethodName := ⟨"SlabImage$Store", "<init>", "()V"⟩
def my_2 : MethodName := ⟨"SlabImage$Variable", "<init>", "()V"⟩
def my_3 : MethodName := ⟨"SlabImage$AttributeList", "<init>", "()V"⟩
def my_4 : MethodName := ⟨"SlabImage$Selection", "<init>", "()V"⟩
def my_5 : MethodName := ⟨"SlabImage$ByteRow", "<init>", "()V"⟩
def my_6 : MethodName := ⟨"SlabImage", "dimension", "(II)I"⟩
def my_7 : MethodName := ⟨"SlabImage$Store", "defineDimension", "(II)I"⟩
def my_8 : MethodName := ⟨"SlabImage", "isName", "(I)Z"⟩
def my_9 : MethodName := ⟨"SlabImage", "placeOf", "(I[II)I"⟩
def my_10 : MethodName := ⟨"SlabImage$Store", "hasGrowingDimension", "()Z"⟩
def my_11 : MethodName := ⟨"SlabImage", "variable", "(IIII)I"⟩
def my_12 : MethodName := ⟨"SlabImage$Store", "defineVariable", "(IIII)I"⟩
def my_13 : MethodName := ⟨"SlabImage", "isType", "(I)Z"⟩
def my_14 : MethodName := ⟨"SlabImage$Store", "mayBeAxis", "(I)Z"⟩
def my_15 : MethodName := ⟨"SlabImage$Store", "isDimension", "(I)Z"⟩
def my_16 : MethodName := ⟨"SlabImage$Store", "lengthOf", "(I)I"⟩
def my_17 : MethodName := ⟨"SlabImage$Variable", "shape", "(IIII)V"⟩
def my_18 : MethodName := ⟨"SlabImage$Variable", "fill", "(I)V"⟩
def my_19 : MethodName := ⟨"java/util/Arrays", "fill", "([II)V"⟩
def my_20 : MethodName := ⟨"SlabImage", "attribute", "(IIIII)I"⟩
def my_21 : MethodName := ⟨"SlabImage$Store", "attributesOf", "(I)LSlabImage$AttributeList;"⟩
def my_22 : MethodName := ⟨"SlabImage$Store", "variableAt", "(I)LSlabImage$Variable;"⟩
def my_23 : MethodName := ⟨"SlabImage$AttributeList", "assign", "(IIII)I"⟩
def my_24 : MethodName := ⟨"SlabImage", "isValue", "(II)Z"⟩
def my_25 : MethodName := ⟨"SlabImage", "drop", "(II)I"⟩
def my_26 : MethodName := ⟨"SlabImage$AttributeList", "takeOff", "(I)I"⟩
def my_27 : MethodName := ⟨"SlabImage", "rename", "(ZII)I"⟩
def my_28 : MethodName := ⟨"SlabImage$Store", "renameVariable", "(II)I"⟩
def my_29 : MethodName := ⟨"SlabImage$Store", "changeName", "([IIII)I"⟩
def my_30 : MethodName := ⟨"SlabImage$Store", "renameDimension", "(II)I"⟩
def my_31 : MethodName := ⟨"SlabImage", "seal", "()I"⟩
def my_32 : MethodName := ⟨"SlabImage$Store", "imageBytes", "(J)J"⟩
def my_33 : MethodName := ⟨"SlabImage$Store", "headerBytes", "()I"⟩
def my_34 : MethodName := ⟨"SlabImage$AttributeList", "headerBytes", "()I"⟩
def my_35 : MethodName := ⟨"SlabImage", "padded", "(I)I"⟩
def my_36 : MethodName := ⟨"SlabImage$Variable", "headerBytes", "()I"⟩
def my_37 : MethodName := ⟨"SlabImage$Variable", "axisCount", "()I"⟩
def my_38 : MethodName := ⟨"SlabImage$Store", "paddedBytes", "(IZ)I"⟩
def my_39 : MethodName := ⟨"SlabImage$Variable", "paddedSize", "()I"⟩
def my_40 : MethodName := ⟨"SlabImage$Variable", "bytesOfRow", "()I"⟩
def my_41 : MethodName := ⟨"SlabImage$Store", "recordBytes", "()I"⟩
def my_42 : MethodName := ⟨"SlabImage$Store", "recordVariables", "()I"⟩
def my_43 : MethodName := ⟨"SlabImage", "redefine", "()I"⟩
def my_44 : MethodName := ⟨"SlabImage", "put", "(IIII)I"⟩
def my_45 : MethodName := ⟨"SlabImage$Variable", "admits", "(JJ)Z"⟩
def my_46 : MethodName := ⟨"SlabImage$Store", "growToHold", "(LSlabImage$Variable;J)Z"⟩
def my_47 : MethodName := ⟨"SlabImage$Variable", "setCell", "(III)V"⟩
def my_48 : MethodName := ⟨"SlabImage", "get", "(III)J"⟩
def my_49 : MethodName := ⟨"SlabImage$Store", "holds", "(LSlabImage$Variable;JJ)Z"⟩
def my_50 : MethodName := ⟨"SlabImage$Variable", "cell", "(II)I"⟩
def my_51 : MethodName := ⟨"SlabImage", "select", "(IIII)I"⟩
def my_52 : MethodName := ⟨"SlabImage$Selection", "become", "(III)V"⟩
def my_53 : MethodName := ⟨"SlabImage", "putSlab", "(III)I"⟩
def my_54 : MethodName := ⟨"SlabImage", "rowsOf", "(LSlabImage$Variable;)LSlabImage$Selection;"⟩
def my_55 : MethodName := ⟨"SlabImage", "columnsOf", "(LSlabImage$Variable;)LSlabImage$Selection;"⟩
def my_56 : MethodName := ⟨"SlabImage$Selection", "last", "()J"⟩
def my_57 : MethodName := ⟨"SlabImage", "areValues", "(IIII)Z"⟩
def my_58 : MethodName := ⟨"SlabImage$Variable", "setSlab", "(LSlabImage$Selection;LSlabImage$Selection;II)V"⟩
def my_59 : MethodName := ⟨"SlabImage$Selection", "at", "(I)I"⟩
def my_60 : MethodName := ⟨"SlabImage", "getSlab", "(II)J"⟩
def my_61 : MethodName := ⟨"SlabImage", "records", "()I"⟩
def my_62 : MethodName := ⟨"SlabImage", "size", "()I"⟩
def my_63 : MethodName := ⟨"SlabImage", "begin", "(I)I"⟩
def my_64 : MethodName := ⟨"SlabImage$Store", "beginOf", "(I)I"⟩
def my_65 : MethodName := ⟨"SlabImage", "eight", "(I)J"⟩
def my_66 : MethodName := ⟨"SlabImage$Store", "writeTo", "(LSlabImage$ByteRow;)V"⟩
def my_67 : MethodName := ⟨"SlabImage$ByteRow", "clear", "()V"⟩
def my_68 : MethodName := ⟨"SlabImage$ByteRow", "appendWord", "(I)V"⟩
def my_69 : MethodName := ⟨"SlabImage$ByteRow", "appendNumber", "(II)V"⟩
def my_70 : MethodName := ⟨"SlabImage$ByteRow", "append", "(I)V"⟩
def my_71 : MethodName := ⟨"SlabImage$ByteRow", "appendListHead", "(II)V"⟩
def my_72 : MethodName := ⟨"SlabImage$ByteRow", "appendName", "(I)V"⟩
def my_73 : MethodName := ⟨"SlabImage$AttributeList", "writeTo", "(LSlabImage$ByteRow;)V"⟩
def my_74 : MethodName := ⟨"SlabImage$ByteRow", "appendPadding", "()V"⟩
def my_75 : MethodName := ⟨"SlabImage$Store", "writeVariable", "(LSlabImage$ByteRow;II)V"⟩
def my_76 : MethodName := ⟨"SlabImage$Store", "writeCells", "(LSlabImage$ByteRow;)V"⟩
def my_77 : MethodName := ⟨"SlabImage$Variable", "writeRow", "(LSlabImage$ByteRow;I)V"⟩
def my_78 : MethodName := ⟨"SlabImage$Store", "writeRecord", "(LSlabImage$ByteRow;IZ)V"⟩
def my_79 : MethodName := ⟨"SlabImage$ByteRow", "at", "(I)I"⟩
def my_80 : MethodName := ⟨"SlabImage", "add", "(JI)Z"⟩
def my_81 : MethodName := ⟨"SlabImage", "erase", "()V"⟩
def my_82 : MethodName := ⟨"SlabImage", "open", "()I"⟩
def my_83 : MethodName := ⟨"SlabImage$Store", "clear", "()V"⟩
def my_84 : MethodName := ⟨"SlabImage$AttributeList", "clear", "()V"⟩
def my_85 : MethodName := ⟨"SlabImage$Store", "readFrom", "(LSlabImage$ByteRow;)Z"⟩
def my_86 : MethodName := ⟨"SlabImage$ByteRow", "rewind", "()V"⟩
def my_87 : MethodName := ⟨"SlabImage$ByteRow", "takeWord", "()I"⟩
def my_88 : MethodName := ⟨"SlabImage$ByteRow", "takeNumber", "(I)I"⟩
def my_89 : MethodName := ⟨"SlabImage$Store", "readDimensions", "(LSlabImage$ByteRow;)Z"⟩
def my_90 : MethodName := ⟨"SlabImage$ByteRow", "takeCount", "()I"⟩
def my_91 : MethodName := ⟨"SlabImage$ByteRow", "takeName", "()I"⟩
def my_92 : MethodName := ⟨"SlabImage$AttributeList", "readFrom", "(LSlabImage$ByteRow;)Z"⟩
def my_93 : MethodName := ⟨"SlabImage$ByteRow", "takeValue", "(I)I"⟩
def my_94 : MethodName := ⟨"SlabImage$ByteRow", "takePadding", "()V"⟩
def my_95 : MethodName := ⟨"SlabImage$Store", "readVariables", "(LSlabImage$ByteRow;)Z"⟩
def my_96 : MethodName := ⟨"SlabImage$Store", "readVariable", "(LSlabImage$ByteRow;LSlabImage$AttributeList;)Z"⟩
def my_97 : MethodName := ⟨"SlabImage$Store", "readCells", "(LSlabImage$ByteRow;)V"⟩
def my_98 : MethodName := ⟨"SlabImage$Variable", "readRow", "(LSlabImage$ByteRow;I)V"⟩
def my_99 : MethodName := ⟨"SlabImage$Store", "readRecord", "(LSlabImage$ByteRow;IZ)V"⟩
def my_100 : MethodName := ⟨"SlabImage$ByteRow", "matches", "(LSlabImage$ByteRow;)Z"⟩
def my_101 : MethodName := ⟨"SlabImageModel", "<init>", "()V"⟩
def my_102 : MethodName := ⟨"SlabImageModel", "dimension", "(II)I"⟩
def my_103 : MethodName := ⟨"SlabImageModel", "isName", "(I)Z"⟩
def my_104 : MethodName := ⟨"SlabImageModel", "dimNamed", "(III)Z"⟩
def my_105 : MethodName := ⟨"SlabImageModel", "growing", "(I)I"⟩
def my_106 : MethodName := ⟨"SlabImageModel", "variable", "(IIII)I"⟩
def my_107 : MethodName := ⟨"SlabImageModel", "isDimension", "(I)Z"⟩
def my_108 : MethodName := ⟨"SlabImageModel", "varNamed", "(III)Z"⟩
def my_109 : MethodName := ⟨"SlabImageModel", "blank", "(II)V"⟩
def my_110 : MethodName := ⟨"SlabImageModel", "fill", "(I)I"⟩
def my_111 : MethodName := ⟨"SlabImageModel", "attribute", "(IIIII)I"⟩
def my_112 : MethodName := ⟨"SlabImageModel", "isVariable", "(I)Z"⟩
def my_113 : MethodName := ⟨"SlabImageModel", "fits", "(II)Z"⟩
def my_114 : MethodName := ⟨"SlabImageModel", "find", "(II)I"⟩
def my_115 : MethodName := ⟨"SlabImageModel", "drop", "(II)I"⟩
def my_116 : MethodName := ⟨"SlabImageModel", "rename", "(ZII)I"⟩
def my_117 : MethodName := ⟨"SlabImageModel", "seal", "()I"⟩
def my_118 : MethodName := ⟨"SlabImageModel", "total", "(IJ)J"⟩
def my_119 : MethodName := ⟨"SlabImageModel", "beginOf", "(II)I"⟩
def my_120 : MethodName := ⟨"SlabImageModel", "isRecord", "(II)Z"⟩
def my_121 : MethodName := ⟨"SlabImageModel", "lengthOf", "(III)I"⟩
def my_122 : MethodName := ⟨"SlabImageModel", "headerSize", "(I)I"⟩
def my_123 : MethodName := ⟨"SlabImageModel", "listSize", "(II)I"⟩
def my_124 : MethodName := ⟨"SlabImageModel", "padded", "(II)I"⟩
def my_125 : MethodName := ⟨"SlabImageModel", "cells", "(II)I"⟩
def my_126 : MethodName := ⟨"SlabImageModel", "bytes", "(I)I"⟩
def my_127 : MethodName := ⟨"SlabImageModel", "recordSize", "(I)I"⟩
def my_128 : MethodName := ⟨"SlabImageModel", "recordVariables", "(I)I"⟩
def my_129 : MethodName := ⟨"SlabImageModel", "redefine", "()I"⟩
def my_130 : MethodName := ⟨"SlabImageModel", "put", "(IIII)I"⟩
def my_131 : MethodName := ⟨"SlabImageModel", "there", "(IJJZ)Z"⟩
def my_132 : MethodName := ⟨"SlabImageModel", "grow", "(IJ)Z"⟩
def my_133 : MethodName := ⟨"SlabImageModel", "cellAt", "(IJJ)I"⟩
def my_134 : MethodName := ⟨"SlabImageModel", "get", "(III)J"⟩
def my_135 : MethodName := ⟨"SlabImageModel", "select", "(IIII)I"⟩
def my_136 : MethodName := ⟨"SlabImageModel", "putSlab", "(III)I"⟩
def my_137 : MethodName := ⟨"SlabImageModel", "slabThere", "(IZ)Z"⟩
def my_138 : MethodName := ⟨"SlabImageModel", "many", "(II)I"⟩
def my_139 : MethodName := ⟨"SlabImageModel", "chosen", "(III)J"⟩
def my_140 : MethodName := ⟨"SlabImageModel", "getSlab", "(II)J"⟩
def my_141 : MethodName := ⟨"SlabImageModel", "records", "()I"⟩
def my_142 : MethodName := ⟨"SlabImageModel", "size", "()I"⟩
def my_143 : MethodName := ⟨"SlabImageModel", "begin", "(I)I"⟩
def my_144 : MethodName := ⟨"SlabImageModel", "eight", "(I)J"⟩
def my_145 : MethodName := ⟨"SlabImageModel", "writeImage", "(I)V"⟩
def my_146 : MethodName := ⟨"SlabImageModel", "writeValue", "(II)V"⟩
def my_147 : MethodName := ⟨"SlabImageModel", "write", "(I)V"⟩
def my_148 : MethodName := ⟨"SlabImageModel", "writeCount", "(II)V"⟩
def my_149 : MethodName := ⟨"SlabImageModel", "writeName", "(I)V"⟩
def my_150 : MethodName := ⟨"SlabImageModel", "writeList", "(II)V"⟩
def my_151 : MethodName := ⟨"SlabImageModel", "pad", "(I)V"⟩
def my_152 : MethodName := ⟨"SlabImageModel", "writeVariable", "(II)V"⟩
def my_153 : MethodName := ⟨"SlabImageModel", "writeCells", "(IIIZ)V"⟩
def my_154 : MethodName := ⟨"SlabImageModel", "add", "(JI)Z"⟩
def my_155 : MethodName := ⟨"SlabImageModel", "erase", "()V"⟩
def my_156 : MethodName := ⟨"SlabImageModel", "open", "()I"⟩
def my_157 : MethodName := ⟨"SlabImageModel", "readHeader", "(I)Z"⟩
def my_158 : MethodName := ⟨"SlabImageModel", "read", "(I)I"⟩
def my_159 : MethodName := ⟨"SlabImageModel", "readDimensions", "(I)Z"⟩
def my_160 : MethodName := ⟨"SlabImageModel", "readCount", "(I)I"⟩
def my_161 : MethodName := ⟨"SlabImageModel", "readName", "()I"⟩
def my_162 : MethodName := ⟨"SlabImageModel", "readList", "(II)Z"⟩
def my_163 : MethodName := ⟨"SlabImageModel", "readOf", "(I)I"⟩
def my_164 : MethodName := ⟨"SlabImageModel", "readVariable", "(II)Z"⟩
def my_165 : MethodName := ⟨"SlabImageModel", "readAllCells", "(I)V"⟩
def my_166 : MethodName := ⟨"SlabImageModel", "readCells", "(IIIZ)V"⟩
def my_167 : MethodName := ⟨"SlabImageLaw", "law", "([I)Z"⟩
def am_nestM : List (String × Nat × MethodName × String) := [("SlabImage$Store", 49, my_8, "SlabImage"), ("SlabImage$Store", 53, my_9, "SlabImage"), ("SlabImage$Store", 61, my_13, "SlabImage"), ("SlabImage$AttributeList", 28, my_8, "SlabImage"), ("SlabImage$AttributeList", 32, my_13, "SlabImage"), ("SlabImage$AttributeList", 35, my_24, "SlabImage"), ("SlabImage$AttributeList", 39, my_9, "SlabImage"), ("SlabImage$AttributeList", 46, my_35, "SlabImage"), ("SlabImage$Variable", 71, my_35, "SlabImage"), ("SlabImage$ByteRow", 30, my_35, "SlabImage")]
def am_nestF : List (String × Nat × String × String × String × String) := [("SlabImage$Variable", 42, "SlabImage", "FILL", "[I", "SlabImage"), ("SlabImage$AttributeList", 43, "SlabImage", "WIDTH", "[I", "SlabImage"), ("SlabImage$Variable", 64, "SlabImage", "WIDTH", "[I", "SlabImage"), ("SlabImage$ByteRow", 37, "SlabImage", "WIDTH", "[I", "SlabImage")]
end
section
/-! the pure machine: cells (rows of numbers: kind, length, contents; rows of references; objects: class number, fields), heap (next position, slots made, cells), locals, answers -/
abbrev am_C : Type := (Nat × Nat × (Nat → Int32)) ⊕ ((Nat × (Nat → Option Nat)) ⊕ (Nat × List Value))
abbrev am_H : Type := Nat × Nat × (Nat → Option am_C)
abbrev am_L : Type := List (Option Value)
abbrev am_R : Type := Option Value × am_H
abbrev am_F : Type := am_L → List Value → am_H → Option am_R
abbrev am_K : Type := Nat → Nat → am_F
abbrev am_B : Type := am_K → Nat → am_F
def am_run (T : Nat → am_B) : Nat → am_K
  | 0 => fun _ _ _ _ _ => none
  | n + 1 => fun d lab => T lab (am_run T n) d
def am_set (A : am_H) (p : Nat) (e : am_C) : am_H := (A.1, A.2.1, fun q => if q = p then some e else A.2.2 q)
def am_new (A : am_H) (n : Nat) (e : am_C) : am_H := (A.1 + 1, A.2.1 + n, fun q => if q = A.1 then some e else A.2.2 q)
def am_rv (r : Option Nat) : Value := match r with
  | none => .null
  | some p => .ref p
/-- a store into a local: not behind a long -/
def am_put (l : am_L) (i : Nat) (v : Value) : Option am_L := if i < l.length then (match i with
  | 0 => some (l.set 0 (some v))
  | j + 1 => match l[j]? with
    | some (some (.long _)) => none
    | some (some (.double _)) => none
    | _ => some (l.set (j + 1) (some v))) else none
def am_put2 (l : am_L) (i : Nat) (v : Value) : Option am_L := if i + 1 < l.length then (match am_put l i v with
  | some l' => some (l'.set (i + 1) none)
  | none => none) else none
/-- arguments as locals -/
def am_sl : List Value → am_L
  | [] => []
  | v :: vs => if v.category = 2 then some v :: none :: am_sl vs else some v :: am_sl vs
def am_ent (vs : List Value) (n : Nat) : am_L := am_sl vs ++ List.replicate (n - (am_sl vs).length) none
-- constants
def i_int (v : Int32) (f : am_F) : am_F := fun l s A => f l (.int v :: s) A
def i_long (v : Int64) (f : am_F) : am_F := fun l s A => f l (.long v :: s) A
def i_null (f : am_F) : am_F := fun l s A => f l (.null :: s) A
def i_stat (i : Nat) (f : am_F) : am_F := fun l s A => f l (.ref i :: s) A
-- locals
def i_iload (i : Nat) (f : am_F) : am_F := fun l s A => match l[i]? with
  | some (some (.int x)) => f l (.int x :: s) A
  | _ => none
def i_lload (i : Nat) (f : am_F) : am_F := fun l s A => match l[i]? with
  | some (some (.long x)) => f l (.long x :: s) A
  | _ => none
def i_aload (i : Nat) (f : am_F) : am_F := fun l s A => match l[i]? with
  | some (some (.ref p)) => f l (.ref p :: s) A
  | some (some .null) => f l (.null :: s) A
  | _ => none
def i_istore (i : Nat) (f : am_F) : am_F := fun l s A => match s with
  | .int x :: s => (match am_put l i (.int x) with
    | some l' => f l' s A
    | none => none)
  | _ => none
def i_astore (i : Nat) (f : am_F) : am_F := fun l s A => match s with
  | .ref p :: s => (match am_put l i (.ref p) with
    | some l' => f l' s A
    | none => none)
  | .null :: s => (match am_put l i .null with
    | some l' => f l' s A
    | none => none)
  | _ => none
def i_lstore (i : Nat) (f : am_F) : am_F := fun l s A => match s with
  | .long x :: s => (match am_put2 l i (.long x) with
    | some l' => f l' s A
    | none => none)
  | _ => none
def i_iinc (i : Nat) (n : Int32) (f : am_F) : am_F := fun l s A => match l[i]? with
  | some (some (.int x)) => (match am_put l i (.int (x + n)) with
    | some l' => f l' s A
    | none => none)
  | _ => none
-- arithmetic
def i_ii (op : Int32 → Int32 → Int32) (f : am_F) : am_F := fun l s A => match s with
  | .int y :: .int x :: s => f l (.int (op x y) :: s) A
  | _ => none
def i_idz (op : Int32 → Int32 → Int32) (f : am_F) : am_F := fun l s A => match s with
  | .int y :: .int x :: s => if y = 0 then none else f l (.int (op x y) :: s) A
  | _ => none
def i_i (op : Int32 → Int32) (f : am_F) : am_F := fun l s A => match s with
  | .int x :: s => f l (.int (op x) :: s) A
  | _ => none
def i_ll (op : Int64 → Int64 → Int64) (f : am_F) : am_F := fun l s A => match s with
  | .long y :: .long x :: s => f l (.long (op x y) :: s) A
  | _ => none
def i_lsh (op : Int64 → Int32 → Int64) (f : am_F) : am_F := fun l s A => match s with
  | .int y :: .long x :: s => f l (.long (op x y) :: s) A
  | _ => none
def i_i2l (f : am_F) : am_F := fun l s A => match s with
  | .int x :: s => f l (.long x.toInt64 :: s) A
  | _ => none
def i_l2i (f : am_F) : am_F := fun l s A => match s with
  | .long x :: s => f l (.int x.toInt32 :: s) A
  | _ => none
def i_lcmp (f : am_F) : am_F := fun l s A => match s with
  | .long y :: .long x :: s => f l (.int (lg_cmp x y) :: s) A
  | _ => none
-- stack
def i_dup (f : am_F) : am_F := fun l s A => match s with
  | v :: s => if v.category = 1 then f l (v :: v :: s) A else none
  | _ => none
def i_pop (f : am_F) : am_F := fun l s A => match s with
  | v :: s => if v.category = 1 then f l s A else none
  | _ => none
def i_dup2 (f : am_F) : am_F := fun l s A => match s with
  | v :: w :: s => if v.category = 1 then (if w.category = 1 then f l (v :: w :: v :: w :: s) A else none) else none
  | _ => none
-- branches: where it goes when it holds, and when not
def i_ifeq (t f : am_F) : am_F := fun l s A => match s with
  | .int x :: s => if x = 0 then t l s A else f l s A
  | _ => none
def i_ifne (t f : am_F) : am_F := fun l s A => match s with
  | .int x :: s => if ¬ x = 0 then t l s A else f l s A
  | _ => none
def i_iflt (t f : am_F) : am_F := fun l s A => match s with
  | .int x :: s => if x < 0 then t l s A else f l s A
  | _ => none
def i_ifge (t f : am_F) : am_F := fun l s A => match s with
  | .int x :: s => if 0 ≤ x then t l s A else f l s A
  | _ => none
def i_ifgt (t f : am_F) : am_F := fun l s A => match s with
  | .int x :: s => if 0 < x then t l s A else f l s A
  | _ => none
def i_ifle (t f : am_F) : am_F := fun l s A => match s with
  | .int x :: s => if x ≤ 0 then t l s A else f l s A
  | _ => none
def i_cmpeq (t f : am_F) : am_F := fun l s A => match s with
  | .int y :: .int x :: s => if x = y then t l s A else f l s A
  | _ => none
def i_cmpne (t f : am_F) : am_F := fun l s A => match s with
  | .int y :: .int x :: s => if ¬ x = y then t l s A else f l s A
  | _ => none
def i_cmplt (t f : am_F) : am_F := fun l s A => match s with
  | .int y :: .int x :: s => if x < y then t l s A else f l s A
  | _ => none
def i_cmpge (t f : am_F) : am_F := fun l s A => match s with
  | .int y :: .int x :: s => if y ≤ x then t l s A else f l s A
  | _ => none
def i_cmpgt (t f : am_F) : am_F := fun l s A => match s with
  | .int y :: .int x :: s => if y < x then t l s A else f l s A
  | _ => none
def i_cmple (t f : am_F) : am_F := fun l s A => match s with
  | .int y :: .int x :: s => if x ≤ y then t l s A else f l s A
  | _ => none
def i_ifnull (t f : am_F) : am_F := fun l s A => match s with
  | .null :: s => t l s A
  | .ref _ :: s => f l s A
  | _ => none
def i_ifnonnull (t f : am_F) : am_F := fun l s A => match s with
  | .ref _ :: s => t l s A
  | .null :: s => f l s A
  | _ => none
/-- a switch over 0 .. n - 1 -/
def i_switch (ts : List am_F) (dflt : am_F) : am_F := fun l s A => match s with
  | .int x :: s => if x < 0 then dflt l s A else (match ts[x.toNatClampNeg]? with
    | some t => t l s A
    | none => dflt l s A)
  | _ => none
-- cells by kind
def am_obj (A : am_H) (p ci : Nat) : Option (List Value) := match A.2.2 p with
  | some (.inr (.inr (c, fs))) => if c = ci then some fs else none
  | _ => none
def am_row (A : am_H) (p kd : Nat) : Option (Nat × (Nat → Int32)) := match A.2.2 p with
  | some (.inl (k, n, g)) => if k = kd then some (n, g) else none
  | _ => none
def am_refs (A : am_H) (p : Nat) : Option (Nat × (Nat → Option Nat)) := match A.2.2 p with
  | some (.inr (.inl (n, g))) => some (n, g)
  | _ => none
def am_len (A : am_H) (p : Nat) : Option Nat := match A.2.2 p with
  | some (.inl (_, n, _)) => some n
  | some (.inr (.inl (n, _))) => some n
  | _ => none
def am_ix (i : Int32) (n : Nat) : Option Nat := if i < 0 then none else if i.toNatClampNeg < n then some i.toNatClampNeg else none
/-- positions from 5 on may be written -/
def am_own (p : Nat) : Option Unit := if 5 ≤ p then some () else none
-- fields
def i_getf (ci k : Nat) (f : am_F) : am_F := fun l s A => match s with
  | .ref p :: s => (am_obj A p ci).bind fun fs => (fs[k]?).bind fun v => f l (v :: s) A
  | _ => none
def am_wr (ci k : Nat) (v : Value) (f : am_F) (p : Nat) : am_F := fun l s A =>
  (am_obj A p ci).bind fun fs => (fs[k]?).bind fun _ => (am_own p).bind fun _ => f l s (am_set A p (.inr (.inr (ci, fs.set k v))))
def i_putI (ci k : Nat) (f : am_F) : am_F := fun l s A => match s with
  | .int x :: .ref p :: s => am_wr ci k (.int x) f p l s A
  | _ => none
def i_putZ (ci k : Nat) (f : am_F) : am_F := fun l s A => match s with
  | .int x :: .ref p :: s => if x = 0 ∨ x = 1 then am_wr ci k (.int x) f p l s A else none
  | _ => none
def i_putR (ci k : Nat) (f : am_F) : am_F := fun l s A => match s with
  | .ref q :: .ref p :: s => am_wr ci k (.ref q) f p l s A
  | _ => none
-- rows
def i_iald (kd : Nat) (f : am_F) : am_F := fun l s A => match s with
  | .int i :: .ref p :: s => (am_row A p kd).bind fun a => (am_ix i a.1).bind fun j => f l (.int (a.2 j) :: s) A
  | _ => none
def i_iast (kd : Nat) (nar : Int32 → Int32) (f : am_F) : am_F := fun l s A => match s with
  | .int x :: .int i :: .ref p :: s => (am_row A p kd).bind fun a => (am_ix i a.1).bind fun j => (am_own p).bind fun _ => f l s (am_set A p (.inl (kd, a.1, upd a.2 j (nar x))))
  | _ => none
def i_aald (f : am_F) : am_F := fun l s A => match s with
  | .int i :: .ref p :: s => (am_refs A p).bind fun a => (am_ix i a.1).bind fun j => f l (am_rv (a.2 j) :: s) A
  | _ => none
def i_aast (ci : Nat) (f : am_F) : am_F := fun l s A => match s with
  | .ref q :: .int i :: .ref p :: s => (am_refs A p).bind fun a => (am_obj A q ci).bind fun _ => (am_ix i a.1).bind fun j => (am_own p).bind fun _ => f l s (am_set A p (.inr (.inl (a.1, va_up a.2 j (some q)))))
  | _ => none
def i_alen (f : am_F) : am_F := fun l s A => match s with
  | .ref p :: s => (am_len A p).bind fun n => f l (.int (Int32.ofNat n) :: s) A
  | _ => none
/-- new rows: of at most 100000 places -/
def i_newi (kd : Nat) (f : am_F) : am_F := fun l s A => match s with
  | .int n :: s => (am_ix n 100000).bind fun N => f l (.ref A.1 :: s) (am_new A N (.inl (kd, N, fun _ => 0)))
  | _ => none
def i_newq (f : am_F) : am_F := fun l s A => match s with
  | .int n :: s => (am_ix n 100000).bind fun N => f l (.ref A.1 :: s) (am_new A N (.inr (.inl (N, fun _ => none))))
  | _ => none
def i_new (ci : Nat) (fs : List Value) (f : am_F) : am_F := fun l s A => f l (.ref A.1 :: s) (am_new A fs.length (.inr (.inr (ci, fs))))
-- Object.<init>
def i_obj (d : Nat) (f : am_F) : am_F := fun l s A => match d with
  | 0 => none
  | _ + 1 => match s with
    | .ref _ :: s => if (s.map fun v => v.category).sum ≤ 8 then f l s A else none
    | _ => none
-- calls: na arguments (with the receiver), nL locals of the callee
def i_call (k : am_K) (d lab na nL : Nat) (f : am_F) : am_F := fun l s A => match d with
  | 0 => none
  | d' + 1 => if na ≤ s.length ∧ ((s.drop na).map fun v => v.category).sum ≤ 12 ∧ (am_sl (s.take na).reverse).length ≤ nL then (k d' lab (am_ent (s.take na).reverse nL) [] A).bind fun r => f l (r.1.toList ++ s.drop na) r.2 else none
/-- the receiver is an object of that class -/
def i_recv (ci na : Nat) (f : am_F) : am_F := fun l s A => match s[na]? with
  | some (.ref p) => (am_obj A p ci).bind fun _ => f l s A
  | _ => none
-- ends
def i_iret : am_F := fun _ s A => match s with
  | [.int x] => some (some (.int x), A)
  | _ => none
def i_zret : am_F := fun _ s A => match s with
  | [.int x] => if x = 0 ∨ x = 1 then some (some (.int x), A) else none
  | _ => none
def i_lret : am_F := fun _ s A => match s with
  | [.long x] => some (some (.long x), A)
  | _ => none
def i_aret : am_F := fun _ s A => match s with
  | [.ref p] => some (some (.ref p), A)
  | [.null] => some (some .null, A)
  | _ => none
def i_vret : am_F := fun _ s A => match s with
  | [] => some (none, A)
  | _ => none
end
section
/-! how positions, values and cells of the pure machine stand for those of the machine -/
def am_el : String := RX4
abbrev am_cl : List vw_C := [(RX0, TX0, 5), (RX1, TX1, 3), (RX2, TX2, 3), (RX3, TX3, 8), (RX4, TX4, 8), (RX5, TX5, 8), (RX6, TX6, 26)]
def am_ws : List Cond := lw_tbl.filter goodWord
theorem am_good {L : List Cond} (h : ∀ w ∈ L, w ∈ am_ws) : GoodIn am_ws L := fun w hw => ⟨h w hw, good_of_word (List.mem_filter.mp (h w hw)).2⟩
theorem am_in {w : Cond} (i : Nat) (h : lw_tbl[i]? = some w) (hg : goodWord w = true) : w ∈ am_ws := List.mem_filter.mpr ⟨List.mem_of_getElem? h, hg⟩
def am_ty (kd : Nat) : FieldType := match kd with
  | 0 => .int
  | _ => .byte
def am_ad (sA : Nat → Nat) (z p : Nat) : Nat := if p < 5 then sA p else z + (p - 5)
def am_tr (sA : Nat → Nat) (z : Nat) (v : Value) : Value := match v with
  | .ref p => .ref (am_ad sA z p)
  | v => v
theorem am_tr_cat (sA : Nat → Nat) (z : Nat) (v : Value) : (am_tr sA z v).category = v.category := by cases v <;> rfl
theorem am_cats (sA : Nat → Nat) (z : Nat) (st : List Value) : ((st.map (am_tr sA z)).map fun v => v.category).sum = (st.map fun v => v.category).sum := by
  rw [List.map_map]
  congr 1
  exact List.map_congr_left fun v _ => am_tr_cat sA z v
theorem am_ad_ne {sA : Nat → Nat} {z : Nat} (hs : ∀ p, p < 5 → sA p < z) {p q : Nat} (hp : 5 ≤ p) (hne : q ≠ p) : am_ad sA z q ≠ am_ad sA z p := by
  unfold am_ad
  rw [if_neg (Nat.not_lt.mpr hp)]
  by_cases h : q < 5
  · rw [if_pos h]
    have := hs q h
    omega
  · rw [if_neg h]
    omega
theorem am_ad_ge {sA : Nat → Nat} {z p : Nat} (hp : 5 ≤ p) : z ≤ am_ad sA z p := by
  unfold am_ad
  rw [if_neg (Nat.not_lt.mpr hp)]
  omega
def am_at (dC : Nat → ClassId) (dI : Nat → Nat → Nat) (sA : Nat → Nat) (z : Nat) (U : State) (a : Nat) (e : am_C) (H : Heap) : Prop := match e with
  | .inl (kd, n, f) => ∃ cell : Cell, H[a]? = some cell ∧ U.isArrayOf cell (am_ty kd) ∧ cell.vm ≠ .unknown ∧ n ≤ cell.slots.size ∧ cell.slots.size.toInt32 = Int32.ofNat n ∧ ∀ j : Nat, j < n → cell.slots[j]? = some (.int (f j))
  | .inr (.inl (n, g)) => ∃ (cell : Cell) (kA : Class) (comp : ClassId), H[a]? = some cell ∧ cell.vm = .none ∧ U.vm.classes[cell.cls]? = some kA ∧ kA.kind = .array comp (.object am_el) ∧ U.vm.findClass am_el = some comp ∧ cell.slots.size = n ∧ ∀ j : Nat, j < n → cell.slots[j]? = some (am_tr sA z (am_rv (g j)))
  | .inr (.inr (ci, fs)) => ∃ r : vw_C, am_cl[ci]? = some r ∧ t_OB a (dC ci) r.2.2 (dI ci) H (vp_V (fs.map (am_tr sA z)))
theorem am_at.lt {dC : Nat → ClassId} {dI : Nat → Nat → Nat} {sA : Nat → Nat} {z : Nat} {U : State} {a : Nat} {e : am_C} {H : Heap} (h : am_at dC dI sA z U a e H) : a < H.size := by
  rcases e with ⟨kd, n, f⟩ | ⟨n, g⟩ | ⟨ci, fs⟩
  · obtain ⟨cell, h1, -⟩ := h
    exact (Array.getElem?_eq_some_iff.mp h1).1
  · obtain ⟨cell, kA, comp, h1, -⟩ := h
    exact (Array.getElem?_eq_some_iff.mp h1).1
  · obtain ⟨r, -, cell, h1, -⟩ := h
    exact (Array.getElem?_eq_some_iff.mp h1).1
theorem am_at.kept {dC : Nat → ClassId} {dI : Nat → Nat → Nat} {sA : Nat → Nat} {z : Nat} {U : State} {a : Nat} {e : am_C} {H H1 : Heap} (h : am_at dC dI sA z U a e H) (hq : H1[a]? = H[a]?) : am_at dC dI sA z U a e H1 := by
  rcases e with ⟨kd, n, f⟩ | ⟨n, g⟩ | ⟨ci, fs⟩
  · obtain ⟨cell, h1, h2⟩ := h
    exact ⟨cell, hq.trans h1, h2⟩
  · obtain ⟨cell, kA, comp, h1, h2⟩ := h
    exact ⟨cell, kA, comp, hq.trans h1, h2⟩
  · obtain ⟨r, h1, h2⟩ := h
    exact ⟨r, h1, h2.kept hq⟩
theorem am_at.moved {dC : Nat → ClassId} {dI : Nat → Nat → Nat} {sA : Nat → Nat} {z : Nat} {U V : State} {a : Nat} {e : am_C} {H : Heap} (hvm : U.vm.Alike V.vm) (h : am_at dC dI sA z U a e H) : am_at dC dI sA z V a e H := by
  rcases e with ⟨kd, n, f⟩ | ⟨n, g⟩ | ⟨ci, fs⟩
  · obtain ⟨cell, h1, h2, h3⟩ := h
    exact ⟨cell, h1, State.isArrayOf_alike hvm h2, h3⟩
  · obtain ⟨cell, kA, comp, h1, h2, h3, h4, h5, h6⟩ := h
    obtain ⟨k', hk', he⟩ := hvm.2.2 _ _ h3
    exact ⟨cell, k', comp, h1, h2, hk', by rw [he]; exact h4, by rw [hvm.findClass]; exact h5, h6⟩
  · exact h
/-- the pure heap A stands for the cells from z on (position 5 is the first), and for the old rows 0 .. 4 -/
def am_P (dC : Nat → ClassId) (dI : Nat → Nat → Nat) (sA : Nat → Nat) (z : Nat) (U : State) (A : am_H) (H : Heap) : Prop := 5 ≤ A.1 ∧ H.size + 5 = z + A.1 ∧ ∀ (p : Nat) (e : am_C), A.2.2 p = some e → p < A.1 ∧ am_at dC dI sA z U (am_ad sA z p) e H
theorem am_P.moved {dC : Nat → ClassId} {dI : Nat → Nat → Nat} {sA : Nat → Nat} {z : Nat} {U V : State} {A : am_H} {H : Heap} (hvm : U.vm.Alike V.vm) (h : am_P dC dI sA z U A H) : am_P dC dI sA z V A H := ⟨h.1, h.2.1, fun p e hp => ⟨(h.2.2 p e hp).1, (h.2.2 p e hp).2.moved hvm⟩⟩
theorem am_P.set {dC : Nat → ClassId} {dI : Nat → Nat → Nat} {sA : Nat → Nat} {z : Nat} {U : State} {A : am_H} {H H1 : Heap} {p : Nat} {e0 e : am_C} (hs : ∀ p, p < 5 → sA p < z) (h : am_P dC dI sA z U A H) (hp : A.2.2 p = some e0) (h5 : 5 ≤ p) (hz : H1.size = H.size) (ho : ∀ q, q ≠ am_ad sA z p → H1[q]? = H[q]?) (he : am_at dC dI sA z U (am_ad sA z p) e H1) : am_P dC dI sA z U (am_set A p e) H1 := by
  refine ⟨h.1, by rw [hz]; exact h.2.1, fun q x hq => ?_⟩
  by_cases hqp : q = p
  · subst hqp
    have hx : e = x := by simpa [am_set] using hq
    subst hx
    exact ⟨(h.2.2 _ _ hp).1, he⟩
  · have hq' : A.2.2 q = some x := by simpa [am_set, hqp] using hq
    obtain ⟨g1, g2⟩ := h.2.2 q x hq'
    exact ⟨g1, g2.kept (ho _ (am_ad_ne hs h5 hqp))⟩
theorem am_P.new {dC : Nat → ClassId} {dI : Nat → Nat → Nat} {sA : Nat → Nat} {z : Nat} {U : State} {A : am_H} {H H1 : Heap} {n : Nat} {e : am_C} (h : am_P dC dI sA z U A H) (hz : H1.size = H.size + 1) (ho : ∀ q, q < H.size → H1[q]? = H[q]?) (he : am_at dC dI sA z U H.size e H1) : am_P dC dI sA z U (am_new A n e) H1 := by
  obtain ⟨h1, h2, h3⟩ := h
  have ha : am_ad sA z A.1 = H.size := by
    unfold am_ad
    rw [if_neg (Nat.not_lt.mpr h1)]
    omega
  refine ⟨by show 5 ≤ A.1 + 1; omega, by show H1.size + 5 = z + (A.1 + 1); omega, fun q x hq => ?_⟩
  by_cases hqp : q = A.1
  · subst hqp
    have hx : e = x := by simpa [am_new] using hq
    subst hx
    exact ⟨Nat.lt_succ_self _, by rw [ha]; exact he⟩
  · have hq' : A.2.2 q = some x := by simpa [am_new, hqp] using hq
    obtain ⟨g1, g2⟩ := h3 q x hq'
    exact ⟨Nat.lt_succ_of_lt g1, g2.kept (ho _ g2.lt)⟩
theorem am_ad_top {dC : Nat → ClassId} {dI : Nat → Nat → Nat} {sA : Nat → Nat} {z : Nat} {U : State} {A : am_H} {H : Heap} (h : am_P dC dI sA z U A H) : am_ad sA z A.1 = H.size := by
  obtain ⟨h1, h2, h3⟩ := h
  unfold am_ad
  rw [if_neg (Nat.not_lt.mpr h1)]
  omega
theorem am_obj_at {A : am_H} {p ci : Nat} {fs : List Value} (h : am_obj A p ci = some fs) : A.2.2 p = some (.inr (.inr (ci, fs))) := by
  unfold am_obj at h
  split at h
  · rename_i c fs' he
    split at h
    · rename_i hc
      subst hc
      cases h
      exact he
    · cases h
  · cases h
theorem am_row_at {A : am_H} {p kd : Nat} {a : Nat × (Nat → Int32)} (h : am_row A p kd = some a) : A.2.2 p = some (.inl (kd, a.1, a.2)) := by
  unfold am_row at h
  split at h
  · rename_i c n g he
    split at h
    · rename_i hc
      subst hc
      cases h
      exact he
    · cases h
  · cases h
theorem am_refs_at {A : am_H} {p : Nat} {a : Nat × (Nat → Option Nat)} (h : am_refs A p = some a) : A.2.2 p = some (.inr (.inl (a.1, a.2))) := by
  unfold am_refs at h
  split at h
  · rename_i n g he
    cases h
    exact he
  · cases h
theorem am_ix_at {i : Int32} {n j : Nat} (h : am_ix i n = some j) : ¬ i < 0 ∧ i.toNatClampNeg = j ∧ j < n := by
  unfold am_ix at h
  split at h
  · cases h
  · split at h
    · cases h
      exact ⟨by assumption, rfl, by assumption⟩
    · cases h
theorem am_own_at {p : Nat} {u : Unit} (h : am_own p = some u) : 5 ≤ p := by
  unfold am_own at h
  split at h
  · assumption
  · cases h
/-! the nest mates' words, the statics, the classes -/
def am_G (dC : Nat → ClassId) (dI : Nat → Nat → Nat) (sA : Nat → Nat) (z : Nat) (U : State) : Prop :=
  va_K (dC, dI) am_cl [] U ∧ (∀ q ∈ am_nestM, va_Nw (.methodLinkNest q.1 q.2.1 q.2.2.1 q.2.2.2) U) ∧ (∀ q ∈ am_nestF, va_Nw (.fieldLinkNest q.1 q.2.1 q.2.2.1 q.2.2.2.1 q.2.2.2.2.1 q.2.2.2.2.2) U) ∧ va_AO am_el U ∧ (∀ p, p < 5 → sA p < z) ∧ ∀ i, i < 4 → va_Z RX5 (am_sn i) "[I" (.ref (sA i)) (fun q => z ≤ q) U U.heap
theorem am_G.warm {dC : Nat → ClassId} {dI : Nat → Nat → Nat} {sA : Nat → Nat} {z : Nat} {s U : State} (h : am_G dC dI sA z s) (hW : s.WarmedH U.vm) (hk : ∀ q, q < z → U.heap[q]? = s.heap[q]?) : am_G dC dI sA z U :=
  ⟨va_K.moved hW.alike h.1, fun q hq => va_Nw.warmM hW (h.2.1 q hq), fun q hq => va_Nw.warmF hW (h.2.2.1 q hq), va_AO.moved hW.alike h.2.2.2.1, h.2.2.2.2.1, fun i hi => va_Z.kept (va_Z.moved hW.alike (h.2.2.2.2.2 i hi)) (fun a _ ha => hk a (Nat.not_le.mp ha))⟩
theorem am_G.calling {dC : Nat → ClassId} {dI : Nat → Nat → Nat} {sA : Nat → Nat} {z : Nat} {U : State} (h : am_G dC dI sA z U) (g : JFrame) (mk : MethodId) (a : Array Value) : am_G dC dI sA z (U.calling g mk a) :=
  ⟨va_K.moved (u := U) (U := U.calling g mk a) (Vm.Alike.refl U.vm) h.1, fun q hq => va_Nw.same rfl (u := U) (U := U.calling g mk a) rfl (h.2.1 q hq), fun q hq => va_Nw.same rfl (u := U) (U := U.calling g mk a) rfl (h.2.2.1 q hq), va_AO.moved (u := U) (U := U.calling g mk a) (Vm.Alike.refl U.vm) h.2.2.2.1, h.2.2.2.2.1, fun i hi => va_Z.moved (u := U) (U := U.calling g mk a) (Vm.Alike.refl U.vm) (h.2.2.2.2.2 i hi)⟩
/-! locals -/
def am_LR (sA : Nat → Nat) (z : Nat) (lo : am_L) (ls : Array Slot) : Prop := ls.size = lo.length ∧ lv_wf ls ∧ ∀ (i : Nat) (v : Value), lo[i]? = some (some v) → ls[i]? = some (.val (am_tr sA z v))
def am_ps (sA : Nat → Nat) (z : Nat) (lo : am_L) : List (Nat × Value) := (List.range lo.length).filterMap (fun i => match lo[i]? with
  | some (some v) => some (i, am_tr sA z v)
  | _ => none)
theorem am_ps_mem {sA : Nat → Nat} {z : Nat} {lo : am_L} {i : Nat} {v : Value} (h : lo[i]? = some (some v)) : (i, am_tr sA z v) ∈ am_ps sA z lo := by
  refine List.mem_filterMap.mpr ⟨i, List.mem_range.mpr (List.getElem?_eq_some_iff.mp h).1, ?_⟩
  simp only [h]
theorem am_LR.has {sA : Nat → Nat} {z : Nat} {lo : am_L} {ls : Array Slot} (h : am_LR sA z lo ls) : lv_has ls lo.length (am_ps sA z lo) := by
  refine ⟨h.1, h.2.1, fun q hq => ?_⟩
  obtain ⟨i, -, hi⟩ := List.mem_filterMap.mp hq
  split at hi
  · rename_i v hv
    cases hi
    exact h.2.2 i v hv
  · cases hi
theorem am_put_at {lo lo' : am_L} {i : Nat} {v : Value} (h : am_put lo i v = some lo') : i < lo.length ∧ lo' = lo.set i (some v) ∧ ∀ (j : Nat) (w : Value), j + 1 = i → lo[j]? = some (some w) → w.category = 1 := by
  unfold am_put at h
  split at h
  · rename_i hi
    cases i with
    | zero =>
      simp only [Option.some.injEq] at h
      exact ⟨hi, h.symm, fun j w hj _ => by omega⟩
    | succ k =>
      simp only at h
      refine ⟨hi, ?_, ?_⟩
      · split at h
        · cases h
        · cases h
        · exact (Option.some.inj h).symm
      · intro j w hj hw
        have hjk : j = k := by omega
        subst hjk
        cases w with
        | long x => rw [hw] at h; simp at h
        | double x => rw [hw] at h; simp at h
        | _ => rfl
  · cases h
theorem am_LR.put {sA : Nat → Nat} {z : Nat} {lo lo' : am_L} {i : Nat} {v : Value} {ls' : Array Slot} (hp : am_put lo i v = some lo') (h : lv_has ls' lo.length ((i, am_tr sA z v) :: (am_ps sA z lo).filter (fun q => !(q.1 == i) && !(q.1 + 1 == i && q.2.category == 2)))) : am_LR sA z lo' ls' := by
  obtain ⟨h1, h2, h3⟩ := am_put_at hp
  subst h2
  refine ⟨by rw [List.length_set]; exact h.1, h.2.1, fun j w hj => ?_⟩
  by_cases hji : j = i
  · subst hji
    rw [List.getElem?_set_self h1] at hj
    cases hj
    exact h.2.2 (j, am_tr sA z v) List.mem_cons_self
  · rw [List.getElem?_set_ne (fun e => hji e.symm)] at hj
    refine h.2.2 (j, am_tr sA z w) (List.mem_cons_of_mem _ (List.mem_filter.mpr ⟨am_ps_mem hj, ?_⟩))
    by_cases hj1 : j + 1 = i
    · simp [hji, am_tr_cat, h3 j w hj1 hj]
    · simp [hji, hj1]
theorem am_put2_at {lo lo' : am_L} {i : Nat} {v : Value} (h : am_put2 lo i v = some lo') : i + 1 < lo.length ∧ ∃ l1, am_put lo i v = some l1 ∧ lo' = l1.set (i + 1) none := by
  unfold am_put2 at h
  split at h
  · rename_i hi
    split at h
    · rename_i l1 h1
      cases h
      exact ⟨hi, l1, h1, rfl⟩
    · cases h
  · cases h
theorem am_LR.put2 {sA : Nat → Nat} {z : Nat} {lo lo' : am_L} {i : Nat} {v : Value} {ls' : Array Slot} (hp : am_put2 lo i v = some lo') (h : lv_has ls' lo.length ((i, am_tr sA z v) :: (am_ps sA z lo).filter (fun q => !(q.1 == i) && (!(q.1 == i + 1) && !(q.1 + 1 == i && q.2.category == 2))))) : am_LR sA z lo' ls' := by
  obtain ⟨h0, l1, hp1, rfl⟩ := am_put2_at hp
  obtain ⟨h1, rfl, h3⟩ := am_put_at hp1
  refine ⟨by rw [List.length_set, List.length_set]; exact h.1, h.2.1, fun j w hj => ?_⟩
  by_cases hj2 : j = i + 1
  · subst hj2
    rw [List.getElem?_set_self (by rw [List.length_set]; exact h0)] at hj
    cases hj
  · rw [List.getElem?_set_ne (fun e => hj2 e.symm)] at hj
    by_cases hji : j = i
    · subst hji
      rw [List.getElem?_set_self h1] at hj
      cases hj
      exact h.2.2 (j, am_tr sA z v) List.mem_cons_self
    · rw [List.getElem?_set_ne (fun e => hji e.symm)] at hj
      refine h.2.2 (j, am_tr sA z w) (List.mem_cons_of_mem _ (List.mem_filter.mpr ⟨am_ps_mem hj, ?_⟩))
      by_cases hj1 : j + 1 = i
      · simp [hji, hj2, am_tr_cat, h3 j w hj1 hj]
      · simp [hji, hj2, hj1]
theorem am_put_len {lo lo' : am_L} {i : Nat} {v : Value} (h : am_put lo i v = some lo') : lo'.length = lo.length := by
  rw [(am_put_at h).2.1, List.length_set]
theorem am_put2_len {lo lo' : am_L} {i : Nat} {v : Value} (h : am_put2 lo i v = some lo') : lo'.length = lo.length := by
  obtain ⟨-, l1, h1, rfl⟩ := am_put2_at h
  rw [List.length_set, am_put_len h1]
/-! soundness of a point: own class, code, locals, answer's type, constructor -/
abbrev am_I : Type := String × ByteArray × Nat × Option FieldType × Bool
def am_X (I : am_I) (dC : Nat → ClassId) (dI : Nat → Nat → Nat) (sA : Nat → Nat) (z : Nat) (p : Program) (s : State) (m : MethodId) (args : Array Value) (meth : Method) (c : Code) : Prop :=
  p.tables.exec = Jvm.exec ∧ c.code = I.2.1 ∧ c.maxLocals = I.2.2.1 ∧ meth.sig.returnType = I.2.2.2.1 ∧ meth.locks = false ∧ (I.2.2.2.2 = true → meth.name = "<init>") ∧ s.vm.findClass I.1 = some m.cls ∧ (∀ w ∈ am_ws, w.before args s = true) ∧ am_G dC dI sA z s
/-- an answer and the instruction that gives it -/
def am_rok (ret : Option FieldType) (v : Option Value) (ins : Instr) : Prop := (ret = none ∧ v = none ∧ ins = .return_) ∨ (∃ (ty : FieldType) (x : Int32), ret = some ty ∧ v = some (.int x) ∧ narrow ty (.int x) = .int x ∧ ins = .ireturn) ∨ (∃ x : Int64, ret = some .long ∧ v = some (.long x) ∧ ins = .lreturn) ∨ (∃ n : String, ret = some (.object n) ∧ (v = some .null ∨ ∃ q : Nat, v = some (.ref q)) ∧ ins = .areturn)
def am_E (l : Launch) (I : am_I) (dC : Nat → ClassId) (dI : Nat → Nat → Nat) (sA : Nat → Nat) (z : Nat) (p : Program) (e : Env) (R : Room) (s : State) (m : MethodId) (args : Array Value) (below : List Frame) (meth : Method) (c : Code) (mc ms : Nat) (Q : State → Prop) (r : am_R) : Prop :=
  ∀ (pc : Nat) (ls : Array Slot) (H : Heap) (locs : List Loc) (ins : Instr), decode I.2.1 pc = .ok (ins, 1) → am_rok I.2.2.2.1 r.1 ins → am_P dC dI sA z s r.2 H → (∀ q, q < z → H[q]? = s.heap[q]?) → (∀ q ∈ locs, z ≤ q.base) → W p l e R s m args below meth c H locs mc ms Q (F0 m pc ls (r.1.toList.map (am_tr sA z)))
def am_S1 (l : Launch) (I : am_I) (pc d : Nat) (lo : am_L) (st : List Value) (A : am_H) (r : am_R) : Prop := lo.length = I.2.2.1 → A.1 ≤ r.2.1 ∧ A.2.1 ≤ r.2.2.1 ∧
  ∀ (dC : Nat → ClassId) (dI : Nat → Nat → Nat) (sA : Nat → Nat) (z : Nat) (p : Program) (e : Env) (R : Room) (s : State) (m : MethodId) (args : Array Value) (below : List Frame) (meth : Method) (c : Code) (H : Heap) (locs : List Loc) (cells slots : Nat) (ls : Array Slot) (Q : State → Prop) (mc ms : Nat), am_X I dC dI sA z p s m args meth c → am_P dC dI sA z s A H → (∀ q, q < z → H[q]? = s.heap[q]?) → (∀ q ∈ locs, z ≤ q.base) → am_LR sA z lo ls → d ≤ R.frames → d * 37 ≤ R.locals → cells + (r.2.1 - A.1) = mc → slots + (r.2.2.1 - A.2.1) = ms → mc ≤ R.cells → ms ≤ R.slots → am_E l I dC dI sA z p e R s m args below meth c mc ms Q r → W p l e R s m args below meth c H locs cells slots Q (F0 m pc ls (st.map (am_tr sA z)))
def am_S (l : Launch) (I : am_I) (pc d : Nat) (f : am_F) : Prop := ∀ (lo : am_L) (st : List Value) (A : am_H) (r : am_R), f lo st A = some r → am_S1 l I pc d lo st A r
/-- a step, in general -/
theorem am_go0 {l : Launch} {I : am_I} {pc pc' d : Nat} {lo lo' : am_L} {st st' : List Value} {A A' : am_H} {r : am_R} (h : am_S1 l I pc' d lo' st' A' r) (hlen : lo'.length = lo.length) (h1 : A.1 ≤ A'.1) (h2 : A.2.1 ≤ A'.2.1)
    (hs : ∀ (dC : Nat → ClassId) (dI : Nat → Nat → Nat) (sA : Nat → Nat) (z : Nat) (p : Program) (e : Env) (R : Room) (s : State) (m : MethodId) (args : Array Value) (below : List Frame) (meth : Method) (c : Code) (H : Heap) (locs : List Loc) (cells slots : Nat) (ls : Array Slot) (Q : State → Prop), lo.length = I.2.2.1 → am_X I dC dI sA z p s m args meth c → am_P dC dI sA z s A H → (∀ q, q < z → H[q]? = s.heap[q]?) → (∀ q ∈ locs, z ≤ q.base) → am_LR sA z lo ls → d ≤ R.frames → d * 37 ≤ R.locals → cells + (A'.1 - A.1) ≤ R.cells → slots + (A'.2.1 - A.2.1) ≤ R.slots →
      (∀ (H' : Heap) (locs' : List Loc) (ls' : Array Slot), am_P dC dI sA z s A' H' → (∀ q, q < z → H'[q]? = s.heap[q]?) → (∀ q ∈ locs', z ≤ q.base) → am_LR sA z lo' ls' → W p l e R s m args below meth c H' locs' (cells + (A'.1 - A.1)) (slots + (A'.2.1 - A.2.1)) Q (F0 m pc' ls' (st'.map (am_tr sA z)))) → W p l e R s m args below meth c H locs cells slots Q (F0 m pc ls (st.map (am_tr sA z)))) : am_S1 l I pc d lo st A r := by
  intro hlo
  obtain ⟨a1, a2, a3⟩ := h (hlen.trans hlo)
  refine ⟨Nat.le_trans h1 a1, Nat.le_trans h2 a2, ?_⟩
  intro dC dI sA z p e R s m args below meth c H locs cells slots ls Q mc ms hX hP hz hl hL hr1 hr2 e1 e2 e3 e4 hE
  refine hs dC dI sA z p e R s m args below meth c H locs cells slots ls Q hlo hX hP hz hl hL hr1 hr2 (by omega) (by omega) (fun H' locs' ls' hP' hz' hl' hL' => ?_)
  exact a3 dC dI sA z p e R s m args below meth c H' locs' _ _ ls' Q mc ms hX hP' hz' hl' hL' hr1 hr2 (by omega) (by omega) e3 e4 hE
/-- a step that changes the stack alone -/
theorem am_go1 {l : Launch} {I : am_I} {pc pc' d : Nat} {lo : am_L} {st st' : List Value} {A : am_H} {r : am_R} (h : am_S1 l I pc' d lo st' A r)
    (hs : ∀ (dC : Nat → ClassId) (dI : Nat → Nat → Nat) (sA : Nat → Nat) (z : Nat) (p : Program) (e : Env) (R : Room) (s : State) (m : MethodId) (args : Array Value) (below : List Frame) (meth : Method) (c : Code) (H : Heap) (locs : List Loc) (cells slots : Nat) (ls : Array Slot) (Q : State → Prop), am_X I dC dI sA z p s m args meth c → am_P dC dI sA z s A H → (∀ q, q < z → H[q]? = s.heap[q]?) → am_LR sA z lo ls → W p l e R s m args below meth c H locs cells slots Q (F0 m pc' ls (st'.map (am_tr sA z))) → W p l e R s m args below meth c H locs cells slots Q (F0 m pc ls (st.map (am_tr sA z)))) : am_S1 l I pc d lo st A r := by
  refine am_go0 h rfl (Nat.le_refl _) (Nat.le_refl _) ?_
  intro dC dI sA z p e R s m args below meth c H locs cells slots ls Q _ hX hP hz hl hL _ _ _ _ k
  refine hs dC dI sA z p e R s m args below meth c H locs cells slots ls Q hX hP hz hL ?_
  have k1 := k H locs ls hP hz hl hL
  rw [Nat.sub_self, Nat.sub_self, Nat.add_zero, Nat.add_zero] at k1
  exact k1
/-- a step that changes locals too -/
theorem am_goL {l : Launch} {I : am_I} {pc pc' d : Nat} {lo lo' : am_L} {st st' : List Value} {A : am_H} {r : am_R} (h : am_S1 l I pc' d lo' st' A r) (hlen : lo'.length = lo.length)
    (hs : ∀ (dC : Nat → ClassId) (dI : Nat → Nat → Nat) (sA : Nat → Nat) (z : Nat) (p : Program) (e : Env) (R : Room) (s : State) (m : MethodId) (args : Array Value) (below : List Frame) (meth : Method) (c : Code) (H : Heap) (locs : List Loc) (cells slots : Nat) (ls : Array Slot) (Q : State → Prop), am_X I dC dI sA z p s m args meth c → am_LR sA z lo ls → (∀ ls' : Array Slot, am_LR sA z lo' ls' → W p l e R s m args below meth c H locs cells slots Q (F0 m pc' ls' (st'.map (am_tr sA z)))) → W p l e R s m args below meth c H locs cells slots Q (F0 m pc ls (st.map (am_tr sA z)))) : am_S1 l I pc d lo st A r := by
  refine am_go0 h hlen (Nat.le_refl _) (Nat.le_refl _) ?_
  intro dC dI sA z p e R s m args below meth c H locs cells slots ls Q _ hX hP hz hl hL _ _ _ _ k
  refine hs dC dI sA z p e R s m args below meth c H locs cells slots ls Q hX hL (fun ls' hL' => ?_)
  have k1 := k H locs ls' hP hz hl hL'
  rw [Nat.sub_self, Nat.sub_self, Nat.add_zero, Nat.add_zero] at k1
  exact k1
/-- a step that writes one cell -/
theorem am_goW {l : Launch} {I : am_I} {pc pc' d : Nat} {lo : am_L} {st st' : List Value} {A : am_H} {r : am_R} {q0 : Nat} {e0 x : am_C} (h : am_S1 l I pc' d lo st' (am_set A q0 x) r) (hq : A.2.2 q0 = some e0) (h5 : 5 ≤ q0)
    (hs : ∀ (dC : Nat → ClassId) (dI : Nat → Nat → Nat) (sA : Nat → Nat) (z : Nat) (p : Program) (e : Env) (R : Room) (s : State) (m : MethodId) (args : Array Value) (below : List Frame) (meth : Method) (c : Code) (H : Heap) (locs : List Loc) (cells slots : Nat) (ls : Array Slot) (Q : State → Prop), am_X I dC dI sA z p s m args meth c → am_P dC dI sA z s A H → am_at dC dI sA z s (am_ad sA z q0) e0 H → (∀ (H' : Heap) (k : Nat), am_at dC dI sA z s (am_ad sA z q0) x H' → H'.size = H.size → (∀ q, q ≠ am_ad sA z q0 → H'[q]? = H[q]?) → W p l e R s m args below meth c H' (locs ++ [⟨am_ad sA z q0, k⟩]) cells slots Q (F0 m pc' ls (st'.map (am_tr sA z)))) → W p l e R s m args below meth c H locs cells slots Q (F0 m pc ls (st.map (am_tr sA z)))) : am_S1 l I pc d lo st A r := by
  refine am_go0 h rfl (Nat.le_refl _) (Nat.le_refl _) ?_
  intro dC dI sA z p e R s m args below meth c H locs cells slots ls Q _ hX hP hz hl hL _ _ _ _ k
  refine hs dC dI sA z p e R s m args below meth c H locs cells slots ls Q hX hP (hP.2.2 q0 e0 hq).2 (fun H' i hat hsz ho => ?_)
  have hsA := hX.2.2.2.2.2.2.2.2.2.2.2.2.1
  have k1 := k H' (locs ++ [⟨am_ad sA z q0, i⟩]) ls (hP.set hsA hq h5 hsz ho hat) (fun q hq2 => by
    rw [ho q (fun e1 => by
      have := am_ad_ge (sA := sA) (z := z) h5
      omega)]
    exact hz q hq2) (fun q hq2 => by
    rcases List.mem_append.mp hq2 with h3 | h3
    · exact hl q h3
    · rw [List.mem_singleton.mp h3]
      exact am_ad_ge h5) hL
  have e1 : (am_set A q0 x).1 - A.1 = 0 := Nat.sub_self A.1
  have e2 : (am_set A q0 x).2.1 - A.2.1 = 0 := Nat.sub_self A.2.1
  rw [e1, e2, Nat.add_zero, Nat.add_zero] at k1
  exact k1
/-- a step that makes one cell -/
theorem am_goN {l : Launch} {I : am_I} {pc pc' d : Nat} {lo : am_L} {st st' : List Value} {A : am_H} {r : am_R} {n : Nat} {x : am_C} (h : am_S1 l I pc' d lo (.ref A.1 :: st') (am_new A n x) r)
    (hs : ∀ (dC : Nat → ClassId) (dI : Nat → Nat → Nat) (sA : Nat → Nat) (z : Nat) (p : Program) (e : Env) (R : Room) (s : State) (m : MethodId) (args : Array Value) (below : List Frame) (meth : Method) (c : Code) (H : Heap) (locs : List Loc) (cells slots : Nat) (ls : Array Slot) (Q : State → Prop), am_X I dC dI sA z p s m args meth c → cells + 1 ≤ R.cells → slots + n ≤ R.slots → (∀ H' : Heap, am_at dC dI sA z s H.size x H' → H'.size = H.size + 1 → (∀ q, q < H.size → H'[q]? = H[q]?) → W p l e R s m args below meth c H' locs (cells + 1) (slots + n) Q (F0 m pc' ls (.ref H.size :: st'.map (am_tr sA z)))) → W p l e R s m args below meth c H locs cells slots Q (F0 m pc ls (st.map (am_tr sA z)))) : am_S1 l I pc d lo st A r := by
  refine am_go0 h rfl (Nat.le_succ _) (Nat.le_add_right _ _) ?_
  intro dC dI sA z p e R s m args below meth c H locs cells slots ls Q _ hX hP hz hl hL _ _ g1 g2 k
  have e1 : (am_new A n x).1 - A.1 = 1 := Nat.add_sub_cancel_left _ _
  have e2 : (am_new A n x).2.1 - A.2.1 = n := Nat.add_sub_cancel_left _ _
  rw [e1] at g1
  rw [e2] at g2
  refine hs dC dI sA z p e R s m args below meth c H locs cells slots ls Q hX g1 g2 (fun H' hat hsz ho => ?_)
  have hzs : z ≤ H.size := by
    have h1 := hP.1
    have h2 := hP.2.1
    omega
  have k1 := k H' locs ls (hP.new hsz ho hat) (fun q hq => by rw [ho q (by omega)]; exact hz q hq) hl hL
  rw [e1, e2] at k1
  have e3 : am_tr sA z (.ref A.1) = .ref H.size := by
    show Value.ref (am_ad sA z A.1) = _
    rw [am_ad_top hP]
  rw [List.map_cons, e3] at k1
  exact k1
theorem s_iadd {l : Launch} {I : am_I} {pc d : Nat} {f : am_F} (hd : decode I.2.1 pc = .ok (.iadd, 1)) (hf : am_S l I (pc + 1) d f) : am_S l I pc d (i_ii (fun x y => x + y) f) := by
  intro lo st A r hg
  unfold i_ii at hg
  split at hg
  · exact am_go1 (hf _ _ _ _ hg) (fun _ _ _ _ _ _ _ _ _ _ _ _ _ _ _ _ _ _ _ hX _ _ _ k => lv_iadd hX.1 hX.2.1 hd k)
  · cases hg
theorem s_isub {l : Launch} {I : am_I} {pc d : Nat} {f : am_F} (hd : decode I.2.1 pc = .ok (.isub, 1)) (hf : am_S l I (pc + 1) d f) : am_S l I pc d (i_ii (fun x y => x - y) f) := by
  intro lo st A r hg
  unfold i_ii at hg
  split at hg
  · exact am_go1 (hf _ _ _ _ hg) (fun _ _ _ _ _ _ _ _ _ _ _ _ _ _ _ _ _ _ _ hX _ _ _ k => lv_isub hX.1 hX.2.1 hd k)
  · cases hg
theorem s_imul {l : Launch} {I : am_I} {pc d : Nat} {f : am_F} (hd : decode I.2.1 pc = .ok (.imul, 1)) (hf : am_S l I (pc + 1) d f) : am_S l I pc d (i_ii (fun x y => x * y) f) := by
  intro lo st A r hg
  unfold i_ii at hg
  split at hg
  · exact am_go1 (hf _ _ _ _ hg) (fun _ _ _ _ _ _ _ _ _ _ _ _ _ _ _ _ _ _ _ hX _ _ _ k => lv_imul hX.1 hX.2.1 hd k)
  · cases hg
theorem s_iand {l : Launch} {I : am_I} {pc d : Nat} {f : am_F} (hd : decode I.2.1 pc = .ok (.iand, 1)) (hf : am_S l I (pc + 1) d f) : am_S l I pc d (i_ii (fun x y => x &&& y) f) := by
  intro lo st A r hg
  unfold i_ii at hg
  split at hg
  · exact am_go1 (hf _ _ _ _ hg) (fun _ _ _ _ _ _ _ _ _ _ _ _ _ _ _ _ _ _ _ hX _ _ _ k => lv_iand hX.1 hX.2.1 hd k)
  · cases hg
theorem s_ior {l : Launch} {I : am_I} {pc d : Nat} {f : am_F} (hd : decode I.2.1 pc = .ok (.ior, 1)) (hf : am_S l I (pc + 1) d f) : am_S l I pc d (i_ii (fun x y => x ||| y) f) := by
  intro lo st A r hg
  unfold i_ii at hg
  split at hg
  · exact am_go1 (hf _ _ _ _ hg) (fun _ _ _ _ _ _ _ _ _ _ _ _ _ _ _ _ _ _ _ hX _ _ _ k => lv_ior hX.1 hX.2.1 hd k)
  · cases hg
theorem s_ishl {l : Launch} {I : am_I} {pc d : Nat} {f : am_F} (hd : decode I.2.1 pc = .ok (.ishl, 1)) (hf : am_S l I (pc + 1) d f) : am_S l I pc d (i_ii (fun x y => x <<< (y &&& 31)) f) := by
  intro lo st A r hg
  unfold i_ii at hg
  split at hg
  · exact am_go1 (hf _ _ _ _ hg) (fun _ _ _ _ _ _ _ _ _ _ _ _ _ _ _ _ _ _ _ hX _ _ _ k => lv_ishl hX.1 hX.2.1 hd k)
  · cases hg
theorem s_ishr {l : Launch} {I : am_I} {pc d : Nat} {f : am_F} (hd : decode I.2.1 pc = .ok (.ishr, 1)) (hf : am_S l I (pc + 1) d f) : am_S l I pc d (i_ii (fun x y => x >>> (y &&& 31)) f) := by
  intro lo st A r hg
  unfold i_ii at hg
  split at hg
  · exact am_go1 (hf _ _ _ _ hg) (fun _ _ _ _ _ _ _ _ _ _ _ _ _ _ _ _ _ _ _ hX _ _ _ k => lv_ishr hX.1 hX.2.1 hd k)
  · cases hg
theorem s_iushr {l : Launch} {I : am_I} {pc d : Nat} {f : am_F} (hd : decode I.2.1 pc = .ok (.iushr, 1)) (hf : am_S l I (pc + 1) d f) : am_S l I pc d (i_ii (fun x y => (x.toUInt32 >>> (y.toUInt32 &&& Int32.toUInt32 31)).toInt32) f) := by
  intro lo st A r hg
  unfold i_ii at hg
  split at hg
  · exact am_go1 (hf _ _ _ _ hg) (fun _ _ _ _ _ _ _ _ _ _ _ _ _ _ _ _ _ _ _ hX _ _ _ k => lv_iushr hX.1 hX.2.1 hd rfl k)
  · cases hg
theorem s_ladd {l : Launch} {I : am_I} {pc d : Nat} {f : am_F} (hd : decode I.2.1 pc = .ok (.ladd, 1)) (hf : am_S l I (pc + 1) d f) : am_S l I pc d (i_ll (fun x y => x + y) f) := by
  intro lo st A r hg
  unfold i_ll at hg
  split at hg
  · exact am_go1 (hf _ _ _ _ hg) (fun _ _ _ _ _ _ _ _ _ _ _ _ _ _ _ _ _ _ _ hX _ _ _ k => lv_ladd hX.1 hX.2.1 hd k)
  · cases hg
theorem s_lsub {l : Launch} {I : am_I} {pc d : Nat} {f : am_F} (hd : decode I.2.1 pc = .ok (.lsub, 1)) (hf : am_S l I (pc + 1) d f) : am_S l I pc d (i_ll (fun x y => x - y) f) := by
  intro lo st A r hg
  unfold i_ll at hg
  split at hg
  · exact am_go1 (hf _ _ _ _ hg) (fun _ _ _ _ _ _ _ _ _ _ _ _ _ _ _ _ _ _ _ hX _ _ _ k => lv_lsub hX.1 hX.2.1 hd k)
  · cases hg
theorem s_lmul {l : Launch} {I : am_I} {pc d : Nat} {f : am_F} (hd : decode I.2.1 pc = .ok (.lmul, 1)) (hf : am_S l I (pc + 1) d f) : am_S l I pc d (i_ll (fun x y => x * y) f) := by
  intro lo st A r hg
  unfold i_ll at hg
  split at hg
  · exact am_go1 (hf _ _ _ _ hg) (fun _ _ _ _ _ _ _ _ _ _ _ _ _ _ _ _ _ _ _ hX _ _ _ k => lv_lmul hX.1 hX.2.1 hd k)
  · cases hg
theorem s_land {l : Launch} {I : am_I} {pc d : Nat} {f : am_F} (hd : decode I.2.1 pc = .ok (.land, 1)) (hf : am_S l I (pc + 1) d f) : am_S l I pc d (i_ll (fun x y => x &&& y) f) := by
  intro lo st A r hg
  unfold i_ll at hg
  split at hg
  · exact am_go1 (hf _ _ _ _ hg) (fun _ _ _ _ _ _ _ _ _ _ _ _ _ _ _ _ _ _ _ hX _ _ _ k => lv_land hX.1 hX.2.1 hd k)
  · cases hg
theorem s_lor {l : Launch} {I : am_I} {pc d : Nat} {f : am_F} (hd : decode I.2.1 pc = .ok (.lor, 1)) (hf : am_S l I (pc + 1) d f) : am_S l I pc d (i_ll (fun x y => x ||| y) f) := by
  intro lo st A r hg
  unfold i_ll at hg
  split at hg
  · exact am_go1 (hf _ _ _ _ hg) (fun _ _ _ _ _ _ _ _ _ _ _ _ _ _ _ _ _ _ _ hX _ _ _ k => lv_lor hX.1 hX.2.1 hd k)
  · cases hg
theorem s_lshl {l : Launch} {I : am_I} {pc d : Nat} {f : am_F} (hd : decode I.2.1 pc = .ok (.lshl, 1)) (hf : am_S l I (pc + 1) d f) : am_S l I pc d (i_lsh (fun x y => x <<< (y.toInt64 &&& 63)) f) := by
  intro lo st A r hg
  unfold i_lsh at hg
  split at hg
  · exact am_go1 (hf _ _ _ _ hg) (fun _ _ _ _ _ _ _ _ _ _ _ _ _ _ _ _ _ _ _ hX _ _ _ k => lv_lshl hX.1 hX.2.1 hd rfl k)
  · cases hg
theorem s_lshr {l : Launch} {I : am_I} {pc d : Nat} {f : am_F} (hd : decode I.2.1 pc = .ok (.lshr, 1)) (hf : am_S l I (pc + 1) d f) : am_S l I pc d (i_lsh (fun x y => x >>> (y.toInt64 &&& 63)) f) := by
  intro lo st A r hg
  unfold i_lsh at hg
  split at hg
  · exact am_go1 (hf _ _ _ _ hg) (fun _ _ _ _ _ _ _ _ _ _ _ _ _ _ _ _ _ _ _ hX _ _ _ k => lv_lshr hX.1 hX.2.1 hd rfl k)
  · cases hg
theorem s_lushr {l : Launch} {I : am_I} {pc d : Nat} {f : am_F} (hd : decode I.2.1 pc = .ok (.lushr, 1)) (hf : am_S l I (pc + 1) d f) : am_S l I pc d (i_lsh (fun x y => (x.toUInt64 >>> (y.toInt64.toUInt64 &&& Int64.toUInt64 63)).toInt64) f) := by
  intro lo st A r hg
  unfold i_lsh at hg
  split at hg
  · exact am_go1 (hf _ _ _ _ hg) (fun _ _ _ _ _ _ _ _ _ _ _ _ _ _ _ _ _ _ _ hX _ _ _ k => lv_lushr hX.1 hX.2.1 hd rfl k)
  · cases hg
theorem s_i2b {l : Launch} {I : am_I} {pc d : Nat} {f : am_F} (hd : decode I.2.1 pc = .ok (.i2b, 1)) (hf : am_S l I (pc + 1) d f) : am_S l I pc d (i_i (fun x => x.toInt8.toInt32) f) := by
  intro lo st A r hg
  unfold i_i at hg
  split at hg
  · exact am_go1 (hf _ _ _ _ hg) (fun _ _ _ _ _ _ _ _ _ _ _ _ _ _ _ _ _ _ _ hX _ _ _ k => lv_i2b hX.1 hX.2.1 hd rfl k)
  · cases hg
theorem s_i2s {l : Launch} {I : am_I} {pc d : Nat} {f : am_F} (hd : decode I.2.1 pc = .ok (.i2s, 1)) (hf : am_S l I (pc + 1) d f) : am_S l I pc d (i_i (fun x => x.toInt16.toInt32) f) := by
  intro lo st A r hg
  unfold i_i at hg
  split at hg
  · exact am_go1 (hf _ _ _ _ hg) (fun _ _ _ _ _ _ _ _ _ _ _ _ _ _ _ _ _ _ _ hX _ _ _ k => lv_i2s hX.1 hX.2.1 hd rfl k)
  · cases hg
theorem s_i2l {l : Launch} {I : am_I} {pc d : Nat} {f : am_F} (hd : decode I.2.1 pc = .ok (.i2l, 1)) (hf : am_S l I (pc + 1) d f) : am_S l I pc d (i_i2l f) := by
  intro lo st A r hg
  unfold i_i2l at hg
  split at hg
  · exact am_go1 (hf _ _ _ _ hg) (fun _ _ _ _ _ _ _ _ _ _ _ _ _ _ _ _ _ _ _ hX _ _ _ k => lv_i2l hX.1 hX.2.1 hd rfl k)
  · cases hg
theorem s_l2i {l : Launch} {I : am_I} {pc d : Nat} {f : am_F} (hd : decode I.2.1 pc = .ok (.l2i, 1)) (hf : am_S l I (pc + 1) d f) : am_S l I pc d (i_l2i f) := by
  intro lo st A r hg
  unfold i_l2i at hg
  split at hg
  · exact am_go1 (hf _ _ _ _ hg) (fun _ _ _ _ _ _ _ _ _ _ _ _ _ _ _ _ _ _ _ hX _ _ _ k => lv_l2i hX.1 hX.2.1 hd rfl k)
  · cases hg
theorem s_lcmp {l : Launch} {I : am_I} {pc d : Nat} {f : am_F} (hd : decode I.2.1 pc = .ok (.lcmp, 1)) (hf : am_S l I (pc + 1) d f) : am_S l I pc d (i_lcmp f) := by
  intro lo st A r hg
  unfold i_lcmp at hg
  split at hg
  · exact am_go1 (hf _ _ _ _ hg) (fun _ _ _ _ _ _ _ _ _ _ _ _ _ _ _ _ _ _ _ hX _ _ _ k => W.lcmp hX.1 hX.2.1 hd k)
  · cases hg
theorem s_idiv {l : Launch} {I : am_I} {pc d : Nat} {f : am_F} (hd : decode I.2.1 pc = .ok (.idiv, 1)) (hf : am_S l I (pc + 1) d f) : am_S l I pc d (i_idz (fun x y => x / y) f) := by
  intro lo st A r hg
  unfold i_idz at hg
  split at hg
  · split at hg
    · cases hg
    · rename_i hne
      exact am_go1 (hf _ _ _ _ hg) (fun _ _ _ _ _ _ _ _ _ _ _ _ _ _ _ _ _ _ _ hX _ _ _ k => lv_idiv hX.1 hX.2.1 hd hne k)
  · cases hg
theorem s_irem {l : Launch} {I : am_I} {pc d : Nat} {f : am_F} (hd : decode I.2.1 pc = .ok (.irem, 1)) (hf : am_S l I (pc + 1) d f) : am_S l I pc d (i_idz (fun x y => x - x / y * y) f) := by
  intro lo st A r hg
  unfold i_idz at hg
  split at hg
  · split at hg
    · cases hg
    · rename_i hne
      exact am_go1 (hf _ _ _ _ hg) (fun _ _ _ _ _ _ _ _ _ _ _ _ _ _ _ _ _ _ _ hX _ _ _ k => lv_irem hX.1 hX.2.1 hd hne k)
  · cases hg
theorem s_iconst {l : Launch} {I : am_I} {pc d : Nat} {f : am_F} {n : Int} {v : Int32} (hd : decode I.2.1 pc = .ok (.iconst n, 1)) (hv : Int32.ofInt n = v) (hf : am_S l I (pc + 1) d f) : am_S l I pc d (i_int v f) :=
  fun lo st A r hg => am_go1 (hf lo (.int v :: st) A r hg) (fun _ _ _ _ _ _ _ _ _ _ _ _ _ _ _ _ _ _ _ hX _ _ _ k => lv_iconst hX.1 hX.2.1 hd hv k)
theorem s_bipush {l : Launch} {I : am_I} {pc d : Nat} {f : am_F} {n : Int} {v : Int32} (hd : decode I.2.1 pc = .ok (.bipush n, 2)) (hv : (Int8.ofInt n).toInt32 = v) (hf : am_S l I (pc + 2) d f) : am_S l I pc d (i_int v f) :=
  fun lo st A r hg => am_go1 (hf lo (.int v :: st) A r hg) (fun _ _ _ _ _ _ _ _ _ _ _ _ _ _ _ _ _ _ _ hX _ _ _ k => lv_bipush hX.1 hX.2.1 hd hv k)
theorem s_sipush {l : Launch} {I : am_I} {pc d : Nat} {f : am_F} {n : Int} {v : Int32} (hd : decode I.2.1 pc = .ok (.sipush n, 3)) (hv : (Int16.ofInt n).toInt32 = v) (hf : am_S l I (pc + 3) d f) : am_S l I pc d (i_int v f) :=
  fun lo st A r hg => am_go1 (hf lo (.int v :: st) A r hg) (fun _ _ _ _ _ _ _ _ _ _ _ _ _ _ _ _ _ _ _ hX _ _ _ k => lv_sipush hX.1 hX.2.1 hd hv k)
theorem s_lconst {l : Launch} {I : am_I} {pc d : Nat} {f : am_F} {n : Fin 2} {v : Int64} (hd : decode I.2.1 pc = .ok (.lconst n, 1)) (hv : Int64.ofNat (n : Nat) = v) (hf : am_S l I (pc + 1) d f) : am_S l I pc d (i_long v f) :=
  fun lo st A r hg => am_go1 (hf lo (.long v :: st) A r hg) (fun _ _ _ _ _ _ _ _ _ _ _ _ _ _ _ _ _ _ _ hX _ _ _ k => lv_lconst hX.1 hX.2.1 hd hv k)
theorem s_ldc {l : Launch} {I : am_I} {pc d : Nat} {f : am_F} {idx : Nat} {v : Int32} (hw : Cond.constant I.1 idx v ∈ am_ws) (hd : decode I.2.1 pc = .ok (.ldc idx, 2)) (hf : am_S l I (pc + 2) d f) : am_S l I pc d (i_int v f) :=
  fun lo st A r hg => am_go1 (hf lo (.int v :: st) A r hg) (fun _ _ _ _ _ _ _ _ _ _ _ _ _ _ _ _ _ _ _ hX _ _ _ k => lv_ldc hX.1 hX.2.1 hX.2.2.2.2.2.2.1 (hX.2.2.2.2.2.2.2.1 _ hw) hd k)
theorem s_ldc2 {l : Launch} {I : am_I} {pc d : Nat} {f : am_F} {idx : Nat} {v : Int64} (hw : Cond.constantLong I.1 idx v ∈ am_ws) (hd : decode I.2.1 pc = .ok (.ldc2_w idx, 3)) (hf : am_S l I (pc + 3) d f) : am_S l I pc d (i_long v f) :=
  fun lo st A r hg => am_go1 (hf lo (.long v :: st) A r hg) (fun _ _ _ _ _ _ _ _ _ _ _ _ _ _ _ _ _ _ _ hX _ _ _ k => lv_ldc2 hX.1 hX.2.1 hX.2.2.2.2.2.2.1 (hX.2.2.2.2.2.2.2.1 _ hw) hd k)
theorem s_null {l : Launch} {I : am_I} {pc d : Nat} {f : am_F} (hd : decode I.2.1 pc = .ok (.aconst_null, 1)) (hf : am_S l I (pc + 1) d f) : am_S l I pc d (i_null f) :=
  fun lo st A r hg => am_go1 (hf lo (.null :: st) A r hg) (fun _ _ _ _ _ _ _ _ _ _ _ _ _ _ _ _ _ _ _ hX _ _ _ k => lv_null hX.1 hX.2.1 hd k)
theorem s_iload_n {l : Launch} {I : am_I} {pc d : Nat} {f : am_F} {k0 : Fin 4} {i : Nat} (hi : (k0 : Nat) = i) (hd : decode I.2.1 pc = .ok (.iload_n k0, 1)) (hf : am_S l I (pc + 1) d f) : am_S l I pc d (i_iload i f) := by
  intro lo st A r hg
  unfold i_iload at hg
  split at hg
  · rename_i hv
    exact am_go1 (hf _ _ _ _ hg) (fun _ _ _ _ _ _ _ _ _ _ _ _ _ _ _ _ _ _ _ hX _ _ hL k => lv_iload_n hX.1 hX.2.1 hd hi (hL.2.2 _ _ hv) k)
  · cases hg
theorem s_iload {l : Launch} {I : am_I} {pc d : Nat} {f : am_F} {i : Nat} (hd : decode I.2.1 pc = .ok (.iload i, 2)) (hf : am_S l I (pc + 2) d f) : am_S l I pc d (i_iload i f) := by
  intro lo st A r hg
  unfold i_iload at hg
  split at hg
  · rename_i hv
    exact am_go1 (hf _ _ _ _ hg) (fun _ _ _ _ _ _ _ _ _ _ _ _ _ _ _ _ _ _ _ hX _ _ hL k => lv_iload hX.1 hX.2.1 hd (hL.2.2 _ _ hv) k)
  · cases hg
theorem s_lload_n {l : Launch} {I : am_I} {pc d : Nat} {f : am_F} {k0 : Fin 4} {i : Nat} (hi : (k0 : Nat) = i) (hd : decode I.2.1 pc = .ok (.lload_n k0, 1)) (hf : am_S l I (pc + 1) d f) : am_S l I pc d (i_lload i f) := by
  intro lo st A r hg
  unfold i_lload at hg
  split at hg
  · rename_i hv
    exact am_go1 (hf _ _ _ _ hg) (fun _ _ _ _ _ _ _ _ _ _ _ _ _ _ _ _ _ _ _ hX _ _ hL k => lv_lload_n hX.1 hX.2.1 hd hi (hL.2.2 _ _ hv) k)
  · cases hg
theorem s_lload {l : Launch} {I : am_I} {pc d : Nat} {f : am_F} {i : Nat} (hd : decode I.2.1 pc = .ok (.lload i, 2)) (hf : am_S l I (pc + 2) d f) : am_S l I pc d (i_lload i f) := by
  intro lo st A r hg
  unfold i_lload at hg
  split at hg
  · rename_i hv
    exact am_go1 (hf _ _ _ _ hg) (fun _ _ _ _ _ _ _ _ _ _ _ _ _ _ _ _ _ _ _ hX _ _ hL k => lv_lload hX.1 hX.2.1 hd (hL.2.2 _ _ hv) k)
  · cases hg
theorem s_aload_n {l : Launch} {I : am_I} {pc d : Nat} {f : am_F} {k0 : Fin 4} {i : Nat} (hi : (k0 : Nat) = i) (hd : decode I.2.1 pc = .ok (.aload_n k0, 1)) (hf : am_S l I (pc + 1) d f) : am_S l I pc d (i_aload i f) := by
  intro lo st A r hg
  unfold i_aload at hg
  split at hg
  · rename_i hv
    exact am_go1 (hf _ _ _ _ hg) (fun _ _ _ _ _ _ _ _ _ _ _ _ _ _ _ _ _ _ _ hX _ _ hL k => lv_aload_n hX.1 hX.2.1 hd hi (hL.2.2 _ _ hv) k)
  · rename_i hv
    exact am_go1 (hf _ _ _ _ hg) (fun _ _ _ _ _ _ _ _ _ _ _ _ _ _ _ _ _ _ _ hX _ _ hL k => lv_aload_nN hX.1 hX.2.1 hd hi (hL.2.2 _ _ hv) k)
  · cases hg
theorem s_aload {l : Launch} {I : am_I} {pc d : Nat} {f : am_F} {i : Nat} (hd : decode I.2.1 pc = .ok (.aload i, 2)) (hf : am_S l I (pc + 2) d f) : am_S l I pc d (i_aload i f) := by
  intro lo st A r hg
  unfold i_aload at hg
  split at hg
  · rename_i hv
    exact am_go1 (hf _ _ _ _ hg) (fun _ _ _ _ _ _ _ _ _ _ _ _ _ _ _ _ _ _ _ hX _ _ hL k => lv_aload hX.1 hX.2.1 hd (hL.2.2 _ _ hv) k)
  · rename_i hv
    exact am_go1 (hf _ _ _ _ hg) (fun _ _ _ _ _ _ _ _ _ _ _ _ _ _ _ _ _ _ _ hX _ _ hL k => lv_aloadN hX.1 hX.2.1 hd (hL.2.2 _ _ hv) k)
  · cases hg
theorem s_istore_n {l : Launch} {I : am_I} {pc d : Nat} {f : am_F} {k0 : Fin 4} {i : Nat} (hi : (k0 : Nat) = i) (hd : decode I.2.1 pc = .ok (.istore_n k0, 1)) (hf : am_S l I (pc + 1) d f) : am_S l I pc d (i_istore i f) := by
  intro lo st A r hg
  unfold i_istore at hg
  split at hg
  · split at hg
    · rename_i hp
      exact am_goL (hf _ _ _ _ hg) (am_put_len hp) (fun _ _ _ _ _ _ _ _ _ _ _ _ _ _ _ _ _ _ _ hX hL k => lv_istore_n hX.1 hX.2.1 hd hi hL.has (am_put_at hp).1 rfl (fun ls' h' => k ls' (am_LR.put hp h')))
    · cases hg
  · cases hg
theorem s_istore {l : Launch} {I : am_I} {pc d : Nat} {f : am_F} {i : Nat} (hd : decode I.2.1 pc = .ok (.istore i, 2)) (hf : am_S l I (pc + 2) d f) : am_S l I pc d (i_istore i f) := by
  intro lo st A r hg
  unfold i_istore at hg
  split at hg
  · split at hg
    · rename_i hp
      exact am_goL (hf _ _ _ _ hg) (am_put_len hp) (fun _ _ _ _ _ _ _ _ _ _ _ _ _ _ _ _ _ _ _ hX hL k => lv_istore hX.1 hX.2.1 hd hL.has (am_put_at hp).1 rfl (fun ls' h' => k ls' (am_LR.put hp h')))
    · cases hg
  · cases hg
theorem s_lstore_n {l : Launch} {I : am_I} {pc d : Nat} {f : am_F} {k0 : Fin 4} {i : Nat} (hi : (k0 : Nat) = i) (hd : decode I.2.1 pc = .ok (.lstore_n k0, 1)) (hf : am_S l I (pc + 1) d f) : am_S l I pc d (i_lstore i f) := by
  intro lo st A r hg
  unfold i_lstore at hg
  split at hg
  · split at hg
    · rename_i hp
      exact am_goL (hf _ _ _ _ hg) (am_put2_len hp) (fun _ _ _ _ _ _ _ _ _ _ _ _ _ _ _ _ _ _ _ hX hL k => lv_lstore_n hX.1 hX.2.1 hd hi hL.has (am_put2_at hp).1 rfl (fun ls' h' => k ls' (am_LR.put2 hp h')))
    · cases hg
  · cases hg
theorem s_lstore {l : Launch} {I : am_I} {pc d : Nat} {f : am_F} {i : Nat} (hd : decode I.2.1 pc = .ok (.lstore i, 2)) (hf : am_S l I (pc + 2) d f) : am_S l I pc d (i_lstore i f) := by
  intro lo st A r hg
  unfold i_lstore at hg
  split at hg
  · split at hg
    · rename_i hp
      exact am_goL (hf _ _ _ _ hg) (am_put2_len hp) (fun _ _ _ _ _ _ _ _ _ _ _ _ _ _ _ _ _ _ _ hX hL k => lv_lstore hX.1 hX.2.1 hd hL.has (am_put2_at hp).1 rfl (fun ls' h' => k ls' (am_LR.put2 hp h')))
    · cases hg
  · cases hg
theorem s_astore_n {l : Launch} {I : am_I} {pc d : Nat} {f : am_F} {k0 : Fin 4} {i : Nat} (hi : (k0 : Nat) = i) (hd : decode I.2.1 pc = .ok (.astore_n k0, 1)) (hf : am_S l I (pc + 1) d f) : am_S l I pc d (i_astore i f) := by
  intro lo st A r hg
  unfold i_astore at hg
  split at hg
  · split at hg
    · rename_i hp
      exact am_goL (hf _ _ _ _ hg) (am_put_len hp) (fun _ _ _ _ _ _ _ _ _ _ _ _ _ _ _ _ _ _ _ hX hL k => lv_astore_n hX.1 hX.2.1 hd hi hL.has (am_put_at hp).1 rfl (fun ls' h' => k ls' (am_LR.put hp h')))
    · cases hg
  · split at hg
    · rename_i hp
      exact am_goL (hf _ _ _ _ hg) (am_put_len hp) (fun _ _ _ _ _ _ _ _ _ _ _ _ _ _ _ _ _ _ _ hX hL k => lv_astore_nN hX.1 hX.2.1 hd hi hL.has (am_put_at hp).1 rfl (fun ls' h' => k ls' (am_LR.put hp h')))
    · cases hg
  · cases hg
theorem s_astore {l : Launch} {I : am_I} {pc d : Nat} {f : am_F} {i : Nat} (hd : decode I.2.1 pc = .ok (.astore i, 2)) (hf : am_S l I (pc + 2) d f) : am_S l I pc d (i_astore i f) := by
  intro lo st A r hg
  unfold i_astore at hg
  split at hg
  · split at hg
    · rename_i hp
      exact am_goL (hf _ _ _ _ hg) (am_put_len hp) (fun _ _ _ _ _ _ _ _ _ _ _ _ _ _ _ _ _ _ _ hX hL k => lv_astore hX.1 hX.2.1 hd hL.has (am_put_at hp).1 rfl (fun ls' h' => k ls' (am_LR.put hp h')))
    · cases hg
  · split at hg
    · rename_i hp
      exact am_goL (hf _ _ _ _ hg) (am_put_len hp) (fun _ _ _ _ _ _ _ _ _ _ _ _ _ _ _ _ _ _ _ hX hL k => lv_astoreN hX.1 hX.2.1 hd hL.has (am_put_at hp).1 rfl (fun ls' h' => k ls' (am_LR.put hp h')))
    · cases hg
  · cases hg
theorem s_iinc {l : Launch} {I : am_I} {pc d : Nat} {f : am_F} {i : Nat} {n : Int} {v : Int32} (hv : Int32.ofInt n = v) (hd : decode I.2.1 pc = .ok (.iinc i n, 3)) (hf : am_S l I (pc + 3) d f) : am_S l I pc d (i_iinc i v f) := by
  intro lo st A r hg
  unfold i_iinc at hg
  split at hg
  · rename_i x hx
    split at hg
    · rename_i hp
      refine am_goL (hf _ _ _ _ hg) (am_put_len hp) (fun dC dI sA z _ _ _ _ _ _ _ _ _ _ _ _ _ _ _ hX hL k => ?_)
      obtain ⟨j, hj⟩ := List.getElem?_of_mem (am_ps_mem (sA := sA) (z := z) hx)
      exact lv_iinc (k := j) (x := x) hX.1 hX.2.1 hd hL.has hj (by rw [hv]) (am_put_at hp).1 rfl (fun ls' h' => k ls' (am_LR.put hp h'))
    · cases hg
  · cases hg
theorem s_dup {l : Launch} {I : am_I} {pc d : Nat} {f : am_F} (hd : decode I.2.1 pc = .ok (.dup, 1)) (hf : am_S l I (pc + 1) d f) : am_S l I pc d (i_dup f) := by
  intro lo st A r hg
  unfold i_dup at hg
  split at hg
  · split at hg
    · rename_i hc
      exact am_go1 (hf _ _ _ _ hg) (fun _ _ _ _ _ _ _ _ _ _ _ _ _ _ _ _ _ _ _ hX _ _ _ k => lv_dup hX.1 hX.2.1 hd (by rw [am_tr_cat]; exact hc) k)
    · cases hg
  · cases hg
theorem s_pop {l : Launch} {I : am_I} {pc d : Nat} {f : am_F} (hd : decode I.2.1 pc = .ok (.pop, 1)) (hf : am_S l I (pc + 1) d f) : am_S l I pc d (i_pop f) := by
  intro lo st A r hg
  unfold i_pop at hg
  split at hg
  · split at hg
    · rename_i hc
      exact am_go1 (hf _ _ _ _ hg) (fun _ _ _ _ _ _ _ _ _ _ _ _ _ _ _ _ _ _ _ hX _ _ _ k => lv_pop hX.1 hX.2.1 hd (by rw [am_tr_cat]; exact hc) k)
    · cases hg
  · cases hg
theorem s_dup2 {l : Launch} {I : am_I} {pc d : Nat} {f : am_F} (hd : decode I.2.1 pc = .ok (.dup2, 1)) (hf : am_S l I (pc + 1) d f) : am_S l I pc d (i_dup2 f) := by
  intro lo st A r hg
  unfold i_dup2 at hg
  split at hg
  · split at hg
    · rename_i hc
      split at hg
      · rename_i hc2
        exact am_go1 (hf _ _ _ _ hg) (fun _ _ _ _ _ _ _ _ _ _ _ _ _ _ _ _ _ _ _ hX _ _ _ k => lv_dup2_11 hX.1 hX.2.1 hd (by rw [am_tr_cat]; exact hc) (by rw [am_tr_cat]; exact hc2) k)
      · cases hg
    · cases hg
  · cases hg
theorem s_ifeq {l : Launch} {I : am_I} {pc d : Nat} {f t : am_F} {off : Int} {tgt : Nat} (hd : decode I.2.1 pc = .ok (.ifCond .eq off, 3)) (ht : (pc : Int) + off = (tgt : Int)) (h1 : am_S l I tgt d t) (hf : am_S l I (pc + 3) d f) : am_S l I pc d (i_ifeq t f) := by
  intro lo st A r hg
  unfold i_ifeq at hg
  split at hg
  · split at hg
    · rename_i hc
      exact am_go1 (h1 _ _ _ _ hg) (fun _ _ _ _ _ _ _ _ _ _ _ _ _ _ _ _ _ _ _ hX _ _ _ k => lv_if_eq hX.1 hX.2.1 hd ht (fun _ => k) (fun hn => absurd hc hn))
    · rename_i hc
      exact am_go1 (hf _ _ _ _ hg) (fun _ _ _ _ _ _ _ _ _ _ _ _ _ _ _ _ _ _ _ hX _ _ _ k => lv_if_eq hX.1 hX.2.1 hd ht (fun hn => absurd hn hc) (fun _ => k))
  · cases hg
theorem s_ifne {l : Launch} {I : am_I} {pc d : Nat} {f t : am_F} {off : Int} {tgt : Nat} (hd : decode I.2.1 pc = .ok (.ifCond .ne off, 3)) (ht : (pc : Int) + off = (tgt : Int)) (h1 : am_S l I tgt d t) (hf : am_S l I (pc + 3) d f) : am_S l I pc d (i_ifne t f) := by
  intro lo st A r hg
  unfold i_ifne at hg
  split at hg
  · split at hg
    · rename_i hc
      exact am_go1 (h1 _ _ _ _ hg) (fun _ _ _ _ _ _ _ _ _ _ _ _ _ _ _ _ _ _ _ hX _ _ _ k => lv_if_ne hX.1 hX.2.1 hd ht (fun _ => k) (fun hn => absurd hn hc))
    · rename_i hc
      exact am_go1 (hf _ _ _ _ hg) (fun _ _ _ _ _ _ _ _ _ _ _ _ _ _ _ _ _ _ _ hX _ _ _ k => lv_if_ne hX.1 hX.2.1 hd ht (fun hn => absurd hn hc) (fun _ => k))
  · cases hg
theorem s_iflt {l : Launch} {I : am_I} {pc d : Nat} {f t : am_F} {off : Int} {tgt : Nat} (hd : decode I.2.1 pc = .ok (.ifCond .lt off, 3)) (ht : (pc : Int) + off = (tgt : Int)) (h1 : am_S l I tgt d t) (hf : am_S l I (pc + 3) d f) : am_S l I pc d (i_iflt t f) := by
  intro lo st A r hg
  unfold i_iflt at hg
  split at hg
  · split at hg
    · rename_i hc
      exact am_go1 (h1 _ _ _ _ hg) (fun _ _ _ _ _ _ _ _ _ _ _ _ _ _ _ _ _ _ _ hX _ _ _ k => lv_if_lt hX.1 hX.2.1 hd ht (fun _ => k) (fun hn => absurd hc hn))
    · rename_i hc
      exact am_go1 (hf _ _ _ _ hg) (fun _ _ _ _ _ _ _ _ _ _ _ _ _ _ _ _ _ _ _ hX _ _ _ k => lv_if_lt hX.1 hX.2.1 hd ht (fun hn => absurd hn hc) (fun _ => k))
  · cases hg
theorem s_ifge {l : Launch} {I : am_I} {pc d : Nat} {f t : am_F} {off : Int} {tgt : Nat} (hd : decode I.2.1 pc = .ok (.ifCond .ge off, 3)) (ht : (pc : Int) + off = (tgt : Int)) (h1 : am_S l I tgt d t) (hf : am_S l I (pc + 3) d f) : am_S l I pc d (i_ifge t f) := by
  intro lo st A r hg
  unfold i_ifge at hg
  split at hg
  · split at hg
    · rename_i hc
      exact am_go1 (h1 _ _ _ _ hg) (fun _ _ _ _ _ _ _ _ _ _ _ _ _ _ _ _ _ _ _ hX _ _ _ k => lv_if_ge hX.1 hX.2.1 hd ht (fun _ => k) (fun hn => absurd hc hn))
    · rename_i hc
      exact am_go1 (hf _ _ _ _ hg) (fun _ _ _ _ _ _ _ _ _ _ _ _ _ _ _ _ _ _ _ hX _ _ _ k => lv_if_ge hX.1 hX.2.1 hd ht (fun hn => absurd hn hc) (fun _ => k))
  · cases hg
theorem s_ifgt {l : Launch} {I : am_I} {pc d : Nat} {f t : am_F} {off : Int} {tgt : Nat} (hd : decode I.2.1 pc = .ok (.ifCond .gt off, 3)) (ht : (pc : Int) + off = (tgt : Int)) (h1 : am_S l I tgt d t) (hf : am_S l I (pc + 3) d f) : am_S l I pc d (i_ifgt t f) := by
  intro lo st A r hg
  unfold i_ifgt at hg
  split at hg
  · split at hg
    · rename_i hc
      exact am_go1 (h1 _ _ _ _ hg) (fun _ _ _ _ _ _ _ _ _ _ _ _ _ _ _ _ _ _ _ hX _ _ _ k => lv_if_gt hX.1 hX.2.1 hd ht (fun _ => k) (fun hn => absurd hc hn))
    · rename_i hc
      exact am_go1 (hf _ _ _ _ hg) (fun _ _ _ _ _ _ _ _ _ _ _ _ _ _ _ _ _ _ _ hX _ _ _ k => lv_if_gt hX.1 hX.2.1 hd ht (fun hn => absurd hn hc) (fun _ => k))
  · cases hg
theorem s_ifle {l : Launch} {I : am_I} {pc d : Nat} {f t : am_F} {off : Int} {tgt : Nat} (hd : decode I.2.1 pc = .ok (.ifCond .le off, 3)) (ht : (pc : Int) + off = (tgt : Int)) (h1 : am_S l I tgt d t) (hf : am_S l I (pc + 3) d f) : am_S l I pc d (i_ifle t f) := by
  intro lo st A r hg
  unfold i_ifle at hg
  split at hg
  · split at hg
    · rename_i hc
      exact am_go1 (h1 _ _ _ _ hg) (fun _ _ _ _ _ _ _ _ _ _ _ _ _ _ _ _ _ _ _ hX _ _ _ k => lv_if_le hX.1 hX.2.1 hd ht (fun _ => k) (fun hn => absurd hc hn))
    · rename_i hc
      exact am_go1 (hf _ _ _ _ hg) (fun _ _ _ _ _ _ _ _ _ _ _ _ _ _ _ _ _ _ _ hX _ _ _ k => lv_if_le hX.1 hX.2.1 hd ht (fun hn => absurd hn hc) (fun _ => k))
  · cases hg
theorem s_cmpeq {l : Launch} {I : am_I} {pc d : Nat} {f t : am_F} {off : Int} {tgt : Nat} (hd : decode I.2.1 pc = .ok (.if_icmp .eq off, 3)) (ht : (pc : Int) + off = (tgt : Int)) (h1 : am_S l I tgt d t) (hf : am_S l I (pc + 3) d f) : am_S l I pc d (i_cmpeq t f) := by
  intro lo st A r hg
  unfold i_cmpeq at hg
  split at hg
  · split at hg
    · rename_i hc
      exact am_go1 (h1 _ _ _ _ hg) (fun _ _ _ _ _ _ _ _ _ _ _ _ _ _ _ _ _ _ _ hX _ _ _ k => lv_icmp_eq hX.1 hX.2.1 hd ht (fun _ => k) (fun hn => absurd hc hn))
    · rename_i hc
      exact am_go1 (hf _ _ _ _ hg) (fun _ _ _ _ _ _ _ _ _ _ _ _ _ _ _ _ _ _ _ hX _ _ _ k => lv_icmp_eq hX.1 hX.2.1 hd ht (fun hn => absurd hn hc) (fun _ => k))
  · cases hg
theorem s_cmpne {l : Launch} {I : am_I} {pc d : Nat} {f t : am_F} {off : Int} {tgt : Nat} (hd : decode I.2.1 pc = .ok (.if_icmp .ne off, 3)) (ht : (pc : Int) + off = (tgt : Int)) (h1 : am_S l I tgt d t) (hf : am_S l I (pc + 3) d f) : am_S l I pc d (i_cmpne t f) := by
  intro lo st A r hg
  unfold i_cmpne at hg
  split at hg
  · split at hg
    · rename_i hc
      exact am_go1 (h1 _ _ _ _ hg) (fun _ _ _ _ _ _ _ _ _ _ _ _ _ _ _ _ _ _ _ hX _ _ _ k => lv_icmp_ne hX.1 hX.2.1 hd ht (fun _ => k) (fun hn => absurd hn hc))
    · rename_i hc
      exact am_go1 (hf _ _ _ _ hg) (fun _ _ _ _ _ _ _ _ _ _ _ _ _ _ _ _ _ _ _ hX _ _ _ k => lv_icmp_ne hX.1 hX.2.1 hd ht (fun hn => absurd hn hc) (fun _ => k))
  · cases hg
theorem s_cmplt {l : Launch} {I : am_I} {pc d : Nat} {f t : am_F} {off : Int} {tgt : Nat} (hd : decode I.2.1 pc = .ok (.if_icmp .lt off, 3)) (ht : (pc : Int) + off = (tgt : Int)) (h1 : am_S l I tgt d t) (hf : am_S l I (pc + 3) d f) : am_S l I pc d (i_cmplt t f) := by
  intro lo st A r hg
  unfold i_cmplt at hg
  split at hg
  · split at hg
    · rename_i hc
      exact am_go1 (h1 _ _ _ _ hg) (fun _ _ _ _ _ _ _ _ _ _ _ _ _ _ _ _ _ _ _ hX _ _ _ k => lv_icmp_lt hX.1 hX.2.1 hd ht (fun _ => k) (fun hn => absurd hc hn))
    · rename_i hc
      exact am_go1 (hf _ _ _ _ hg) (fun _ _ _ _ _ _ _ _ _ _ _ _ _ _ _ _ _ _ _ hX _ _ _ k => lv_icmp_lt hX.1 hX.2.1 hd ht (fun hn => absurd hn hc) (fun _ => k))
  · cases hg
theorem s_cmpge {l : Launch} {I : am_I} {pc d : Nat} {f t : am_F} {off : Int} {tgt : Nat} (hd : decode I.2.1 pc = .ok (.if_icmp .ge off, 3)) (ht : (pc : Int) + off = (tgt : Int)) (h1 : am_S l I tgt d t) (hf : am_S l I (pc + 3) d f) : am_S l I pc d (i_cmpge t f) := by
  intro lo st A r hg
  unfold i_cmpge at hg
  split at hg
  · split at hg
    · rename_i hc
      exact am_go1 (h1 _ _ _ _ hg) (fun _ _ _ _ _ _ _ _ _ _ _ _ _ _ _ _ _ _ _ hX _ _ _ k => lv_icmp_ge hX.1 hX.2.1 hd ht (fun _ => k) (fun hn => absurd hc hn))
    · rename_i hc
      exact am_go1 (hf _ _ _ _ hg) (fun _ _ _ _ _ _ _ _ _ _ _ _ _ _ _ _ _ _ _ hX _ _ _ k => lv_icmp_ge hX.1 hX.2.1 hd ht (fun hn => absurd hn hc) (fun _ => k))
  · cases hg
theorem s_cmpgt {l : Launch} {I : am_I} {pc d : Nat} {f t : am_F} {off : Int} {tgt : Nat} (hd : decode I.2.1 pc = .ok (.if_icmp .gt off, 3)) (ht : (pc : Int) + off = (tgt : Int)) (h1 : am_S l I tgt d t) (hf : am_S l I (pc + 3) d f) : am_S l I pc d (i_cmpgt t f) := by
  intro lo st A r hg
  unfold i_cmpgt at hg
  split at hg
  · split at hg
    · rename_i hc
      exact am_go1 (h1 _ _ _ _ hg) (fun _ _ _ _ _ _ _ _ _ _ _ _ _ _ _ _ _ _ _ hX _ _ _ k => lv_icmp_gt hX.1 hX.2.1 hd ht (fun _ => k) (fun hn => absurd hc hn))
    · rename_i hc
      exact am_go1 (hf _ _ _ _ hg) (fun _ _ _ _ _ _ _ _ _ _ _ _ _ _ _ _ _ _ _ hX _ _ _ k => lv_icmp_gt hX.1 hX.2.1 hd ht (fun hn => absurd hn hc) (fun _ => k))
  · cases hg
theorem s_cmple {l : Launch} {I : am_I} {pc d : Nat} {f t : am_F} {off : Int} {tgt : Nat} (hd : decode I.2.1 pc = .ok (.if_icmp .le off, 3)) (ht : (pc : Int) + off = (tgt : Int)) (h1 : am_S l I tgt d t) (hf : am_S l I (pc + 3) d f) : am_S l I pc d (i_cmple t f) := by
  intro lo st A r hg
  unfold i_cmple at hg
  split at hg
  · split at hg
    · rename_i hc
      exact am_go1 (h1 _ _ _ _ hg) (fun _ _ _ _ _ _ _ _ _ _ _ _ _ _ _ _ _ _ _ hX _ _ _ k => lv_icmp_le hX.1 hX.2.1 hd ht (fun _ => k) (fun hn => absurd hc hn))
    · rename_i hc
      exact am_go1 (hf _ _ _ _ hg) (fun _ _ _ _ _ _ _ _ _ _ _ _ _ _ _ _ _ _ _ hX _ _ _ k => lv_icmp_le hX.1 hX.2.1 hd ht (fun hn => absurd hn hc) (fun _ => k))
  · cases hg
theorem s_ifnull {l : Launch} {I : am_I} {pc d : Nat} {f t : am_F} {off : Int} {tgt : Nat} (hd : decode I.2.1 pc = .ok (.ifnull off, 3)) (ht : (pc : Int) + off = (tgt : Int)) (h1 : am_S l I tgt d t) (hf : am_S l I (pc + 3) d f) : am_S l I pc d (i_ifnull t f) := by
  intro lo st A r hg
  unfold i_ifnull at hg
  split at hg
  · exact am_go1 (h1 _ _ _ _ hg) (fun _ _ _ _ _ _ _ _ _ _ _ _ _ _ _ _ _ _ _ hX _ _ _ k => lv_ifnullN hX.1 hX.2.1 hd ht k)
  · exact am_go1 (hf _ _ _ _ hg) (fun _ _ _ _ _ _ _ _ _ _ _ _ _ _ _ _ _ _ _ hX _ _ _ k => lv_ifnull hX.1 hX.2.1 hd k)
  · cases hg
theorem s_ifnonnull {l : Launch} {I : am_I} {pc d : Nat} {f t : am_F} {off : Int} {tgt : Nat} (hd : decode I.2.1 pc = .ok (.ifnonnull off, 3)) (ht : (pc : Int) + off = (tgt : Int)) (h1 : am_S l I tgt d t) (hf : am_S l I (pc + 3) d f) : am_S l I pc d (i_ifnonnull t f) := by
  intro lo st A r hg
  unfold i_ifnonnull at hg
  split at hg
  · exact am_go1 (h1 _ _ _ _ hg) (fun _ _ _ _ _ _ _ _ _ _ _ _ _ _ _ _ _ _ _ hX _ _ _ k => lv_ifnonnull hX.1 hX.2.1 hd ht k)
  · exact am_go1 (hf _ _ _ _ hg) (fun _ _ _ _ _ _ _ _ _ _ _ _ _ _ _ _ _ _ _ hX _ _ _ k => lv_ifnonnullN hX.1 hX.2.1 hd k)
  · cases hg
theorem s_goto {l : Launch} {I : am_I} {pc d : Nat} {t : am_F} {off : Int} {tgt : Nat} (hd : decode I.2.1 pc = .ok (.goto off, 3)) (ht : (pc : Int) + off = (tgt : Int)) (h1 : am_S l I tgt d t) : am_S l I pc d t :=
  fun lo st A r hg => am_go1 (h1 _ _ _ _ hg) (fun _ _ _ _ _ _ _ _ _ _ _ _ _ _ _ _ _ _ _ hX _ _ _ k => lv_goto hX.1 hX.2.1 hd ht k)
end
section
/-! calls with up to 12 words left on the stack -/
section
variable {p : Program} {l : Launch} {e : Env} {R : Room} {s : State} {m : MethodId} {args : Array Value} {below : List Frame} {meth : Method} {c : Code} {H : Heap} {locs : List Loc} {cells slots mc ms n index maxL nL : Nat}
variable {y : MethodName} {bytes cc : ByteArray} {ret : Option FieldType} {ws Ts : List Cond} {rm : Room} {Pc : Array Value → State → Prop} {Qc : Array Value → State → Outcome → State → Prop} {free : Addr → Prop} {own C host : String} {b : Addr} {As rest : List Value} {g : JFrame}
theorem wi_back (cb : CallB R s args own index y bytes maxL ret ws rm mc ms n) (h12 : 12 + (maxL + 11) + rm.locals ≤ R.locals) (hM : Met l y ws rm Pc Qc mc ms free) (hbl : FrameBlind Pc) : Back l R p e below s args y 3 12 (PreOf R mc ms Pc) (PostOf Qc mc ms free) :=
  back_of (bytes := bytes) (maxL := maxL) (ret := ret) hM hbl cb.1 cb.2.1 cb.2.2.1 h12 cb.2.2.2.2.1 cb.2.2.2.2.2.1 (fun _ _ hw => word_at hw (Or.inl (by first | rfl | simp [Cond.onTables, Cond.keeps, Cond.steady])) cb.2.2.2.2.2.2.2.1)
/-- what a call gives back, in va_Run's order -/
theorem wi_pack {T : State} {a : Array Value} (hT : T.heap = H) (h : ∃ (v : Option Value) (vm₁ : Vm) (B : Pt), s.WarmedH vm₁ ∧ Stand p l e R s m args below meth c B.U B.locs B.cells B.slots ∧ PostOf Qc mc ms free ⟨T.setVm vm₁, locs, cells, slots⟩ a v B ∧ ∀ target, Steps p.tables e below (B.U.setTop { g with pc := g.pc + 3, stack := v.toList ++ rest }) target → Steps p.tables e below (T.setTop g) target) : ∃ (v : Option Value) (st₀ t T' : State) (L : List Loc), st₀.heap = H ∧ Stand p l e R s m args below meth c T' (locs ++ L) (cells + mc) (slots + ms) ∧ (∀ q ∈ L, free q.base) ∧ T'.heap = t.heap ∧ T'.vm = t.vm ∧ Qc a st₀ (.returned v) t ∧ Goes p e below T g T' { g with pc := g.pc + 3, stack := v.toList ++ rest } := by
  obtain ⟨v, vm, B, -, hS, ⟨g1, mk, t, L, e1, e2, hq, e3, hL, e4, e5⟩, st⟩ := h
  refine ⟨v, (T.setVm vm).calling g1 mk a, t, B.U, L, hT, ?_, hL, e1, e2, hq, st⟩
  have hS' := hS
  rw [e3, e4, e5] at hS'
  exact hS'
theorem wi_runV (h12 : 12 + (maxL + 11) + rm.locals ≤ R.locals) (S : CallFix p m c cc nL s args Ts own) (hM : Met l y ws rm Pc Qc mc ms free) (cw : CallW R s args own C index y bytes maxL ret ws rm mc ms n) (hp : PreV s H C b Pc As) (hg : g.method = m) (hn : As.length = n) (hz : g.locals.size = nL) (hk : g.stack = As.reverse ++ .ref b :: rest) (hW : 2 * g.monitorRoom + (rest.map fun v => v.category).sum ≤ 12) (hd : decode cc g.pc = .ok (.invokevirtual index, 3)) (hf : cells + mc ≤ R.cells ∧ slots + ms ≤ R.slots) : va_Run p l e R s m args below meth c H locs cells slots mc ms g rest (Qc (Value.ref b :: As).toArray) free := by
  obtain ⟨cb, ci, cs⟩ := cw
  obtain ⟨hbl, ⟨cell, h1, h2, h3⟩, hP⟩ := hp
  exact fun T hT X => wi_pack hT (callV X S.1 (C := C) (bytes := bytes) (maxL := maxL) (ret := ret) S.2.2.2.1 cb.2.2.2.2.2.2.2.2.2.2 ci cs cb.2.2.2.2.2.2.1 cb.2.2.2.2.2.2.2.2.1 (wi_back cb h12 hM hbl) (by rw [hT]; exact h1) h2 h3 hg (hz.trans S.2.2.1.symm) (argsL := As) (rest := rest) (fun sig hs => hn.trans (cb.2.2.2.2.2.2.2.2.2.1 sig hs)) hk hW (by rw [S.2.1]; exact hd) (fun vm hw => ⟨hf.1, hf.2, hP (T.setVm vm) hT hw⟩))
theorem wi_runS (h12 : 12 + (maxL + 11) + rm.locals ≤ R.locals) (S : CallFix p m c cc nL s args Ts own) (hM : Met l y ws rm Pc Qc mc ms free) (cw : CallB R s args own index y bytes maxL ret ws rm mc ms n ∧ (Cond.static y).before args s = true) (hp : PreS s H Pc As) (hg : g.method = m) (hn : As.length = n) (hz : g.locals.size = nL) (hk : g.stack = As.reverse ++ rest) (hW : 2 * g.monitorRoom + (rest.map fun v => v.category).sum ≤ 12) (hd : decode cc g.pc = .ok (.invokestatic index, 3)) (hf : cells + mc ≤ R.cells ∧ slots + ms ≤ R.slots) : va_Run p l e R s m args below meth c H locs cells slots mc ms g rest (Qc As.toArray) free := by
  obtain ⟨cb, cs⟩ := cw
  exact fun T hT X => wi_pack hT (callS X S.1 (bytes := bytes) (maxL := maxL) (ret := ret) S.2.2.2.1 cb.2.2.2.2.2.2.2.2.2.2 cs cb.2.2.2.2.2.2.2.1 cb.2.2.2.2.2.2.1 cb.2.2.2.2.2.2.2.2.1 (wi_back cb h12 hM hp.1) hg (hz.trans S.2.2.1.symm) (argsL := As) (rest := rest) (fun sig hs => hn.trans (cb.2.2.2.2.2.2.2.2.2.1 sig hs)) hk hW (by rw [S.2.1]; exact hd) (fun vm hw => ⟨hf.1, hf.2, hp.2 (T.setVm vm) hT hw⟩))
theorem wi_runI (h12 : 12 + (maxL + 11) + rm.locals ≤ R.locals) (S : CallFix p m c cc nL s args Ts own) (hM : Met l y ws rm Pc Qc mc ms free) (cw : CallB R s args own index y bytes maxL none ws rm mc ms n ∧ y.name = "<init>" ∧ (Cond.instanceMethod y).before args s = true) (hp : PreS s H Pc (.ref b :: As)) (hg : g.method = m) (hn : As.length = n) (hz : g.locals.size = nL) (hk : g.stack = As.reverse ++ .ref b :: rest) (hW : 2 * g.monitorRoom + (rest.map fun v => v.category).sum ≤ 12) (hd : decode cc g.pc = .ok (.invokespecial index, 3)) (hf : cells + mc ≤ R.cells ∧ slots + ms ≤ R.slots) : va_Run p l e R s m args below meth c H locs cells slots mc ms g rest (Qc (Value.ref b :: As).toArray) free := by
  obtain ⟨cb, cn, ci⟩ := cw
  exact fun T hT X => wi_pack hT (callI X S.1 (bytes := bytes) (maxL := maxL) S.2.2.2.1 cn cb.2.2.2.2.2.2.2.2.2.2 ci cb.2.2.2.2.2.2.1 cb.2.2.2.2.2.2.2.2.1 (wi_back cb h12 hM hp.1) hg (hz.trans S.2.2.1.symm) (a := b) (argsL := As) (rest := rest) (fun sig hs => hn.trans (cb.2.2.2.2.2.2.2.2.2.1 sig hs)) hk hW (by rw [S.2.1]; exact hd) (fun vm hw => ⟨hf.1, hf.2, hp.2 (T.setVm vm) hT hw⟩))
theorem wi_runSN (h12 : 12 + (maxL + 11) + rm.locals ≤ R.locals) (S : CallFix p m c cc nL s args Ts own) (hM : Met l y ws rm Pc Qc mc ms free) (cw : va_CN R s args own index y host bytes maxL ret ws rm mc ms n ∧ (Cond.static y).before args s = true ∧ True) (hp : PreS s H Pc As) (hg : g.method = m) (hn : As.length = n) (hz : g.locals.size = nL) (hk : g.stack = As.reverse ++ rest) (hW : 2 * g.monitorRoom + (rest.map fun v => v.category).sum ≤ 12) (hd : decode cc g.pc = .ok (.invokestatic index, 3)) (hf : cells + mc ≤ R.cells ∧ slots + ms ≤ R.slots) : va_Run p l e R s m args below meth c H locs cells slots mc ms g rest (Qc As.toArray) free := by
  obtain ⟨⟨⟨k1, k2, k3, -, k5, k6⟩, k7, k8, k9, k10, k11⟩, cs, -⟩ := cw
  have hK : Back l R p e below s args y 3 12 (PreOf R mc ms Pc) (PostOf Qc mc ms free) := back_of (bytes := bytes) (maxL := maxL) (ret := ret) hM hp.1 k1 k2 k3 h12 k5 k6 (fun _ _ hw => word_at hw (Or.inl (by first | rfl | simp [Cond.onTables, Cond.keeps, Cond.steady])) k8)
  exact fun T hT X => wi_pack hT (va_callSN X S.1 (bytes := bytes) (maxL := maxL) (ret := ret) S.2.2.2.1 k11 cs k8 k7 k9 hK hg (hz.trans S.2.2.1.symm) (argsL := As) (rest := rest) (fun sig hs => hn.trans (k10 sig hs)) hk hW (by rw [S.2.1]; exact hd) (fun vm hw => ⟨hf.1, hf.2, hp.2 (T.setVm vm) hT hw⟩))
end
end
