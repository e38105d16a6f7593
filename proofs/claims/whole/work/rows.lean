section
/-- a private method of a class that the tables say can be made, by its rows of tables_1 -/
def lw_okq (q : MethodName × Nat) : Prop := (q.1.cls ≠ "java/lang/invoke/MethodHandle" ∧ q.1.cls ≠ "java/lang/invoke/VarHandle") ∧ Cond.instantiable q.1.cls q.2 ∈ tables_1 ∧ Cond.privateMethod q.1 ∈ tables_1 ∧ Cond.instanceMethod q.1 ∈ tables_1
theorem lw_p0 : lw_okq (⟨"FloorType", "failed", "(I)I"⟩, 8) := ⟨⟨by decide +kernel, by decide +kernel⟩, List.mem_of_getElem? (i := 12) (by decide +kernel), List.mem_of_getElem? (i := 193) (by decide +kernel), List.mem_of_getElem? (i := 194) (by decide +kernel)⟩
theorem lw_p1 : lw_okq (⟨"FloorType$Text", "passes", "(II)Z"⟩, 5) := ⟨⟨by decide +kernel, by decide +kernel⟩, List.mem_of_getElem? (i := 84) (by decide +kernel), List.mem_of_getElem? (i := 208) (by decide +kernel), List.mem_of_getElem? (i := 209) (by decide +kernel)⟩
theorem lw_p2 : lw_okq (⟨"FloorType$Text", "isNext", "(II)Z"⟩, 5) := ⟨⟨by decide +kernel, by decide +kernel⟩, List.mem_of_getElem? (i := 84) (by decide +kernel), List.mem_of_getElem? (i := 212) (by decide +kernel), List.mem_of_getElem? (i := 213) (by decide +kernel)⟩
theorem lw_p3 : lw_okq (⟨"FloorType$Text", "passesSorts", "()Z"⟩, 5) := ⟨⟨by decide +kernel, by decide +kernel⟩, List.mem_of_getElem? (i := 84) (by decide +kernel), List.mem_of_getElem? (i := 216) (by decide +kernel), List.mem_of_getElem? (i := 217) (by decide +kernel)⟩
theorem lw_p4 : lw_okq (⟨"FloorType$Text", "passesSort", "()Z"⟩, 5) := ⟨⟨by decide +kernel, by decide +kernel⟩, List.mem_of_getElem? (i := 84) (by decide +kernel), List.mem_of_getElem? (i := 220) (by decide +kernel), List.mem_of_getElem? (i := 221) (by decide +kernel)⟩
theorem lw_p5 : lw_okq (⟨"FloorType$Text", "passesKind", "()Z"⟩, 5) := ⟨⟨by decide +kernel, by decide +kernel⟩, List.mem_of_getElem? (i := 84) (by decide +kernel), List.mem_of_getElem? (i := 224) (by decide +kernel), List.mem_of_getElem? (i := 225) (by decide +kernel)⟩
theorem lw_p6 : lw_okq (⟨"FloorType$Text", "passesSigns", "()Z"⟩, 5) := ⟨⟨by decide +kernel, by decide +kernel⟩, List.mem_of_getElem? (i := 84) (by decide +kernel), List.mem_of_getElem? (i := 228) (by decide +kernel), List.mem_of_getElem? (i := 229) (by decide +kernel)⟩
theorem lw_p7 : lw_okq (⟨"FloorType$Text", "passesSign", "()Z"⟩, 5) := ⟨⟨by decide +kernel, by decide +kernel⟩, List.mem_of_getElem? (i := 84) (by decide +kernel), List.mem_of_getElem? (i := 232) (by decide +kernel), List.mem_of_getElem? (i := 233) (by decide +kernel)⟩
theorem lw_p8 : lw_okq (⟨"FloorType$Page", "fillSort", "([III)V"⟩, 10) := ⟨⟨by decide +kernel, by decide +kernel⟩, List.mem_of_getElem? (i := 37) (by decide +kernel), List.mem_of_getElem? (i := 240) (by decide +kernel), List.mem_of_getElem? (i := 241) (by decide +kernel)⟩
theorem lw_p9 : lw_okq (⟨"FloorType", "refusalOfRow", "(IIII)I"⟩, 8) := ⟨⟨by decide +kernel, by decide +kernel⟩, List.mem_of_getElem? (i := 12) (by decide +kernel), List.mem_of_getElem? (i := 283) (by decide +kernel), List.mem_of_getElem? (i := 284) (by decide +kernel)⟩
theorem lw_p10 : lw_okq (⟨"FloorType", "takeNumbers", "(IIIII)I"⟩, 8) := ⟨⟨by decide +kernel, by decide +kernel⟩, List.mem_of_getElem? (i := 12) (by decide +kernel), List.mem_of_getElem? (i := 291) (by decide +kernel), List.mem_of_getElem? (i := 292) (by decide +kernel)⟩
theorem lw_p11 : lw_okq (⟨"FloorType$Walk", "passBy", "(LFloorType$Page;II)V"⟩, 4) := ⟨⟨by decide +kernel, by decide +kernel⟩, List.mem_of_getElem? (i := 110) (by decide +kernel), List.mem_of_getElem? (i := 299) (by decide +kernel), List.mem_of_getElem? (i := 300) (by decide +kernel)⟩
theorem lw_p12 : lw_okq (⟨"FloorType$Walk", "noteReady", "(I)V"⟩, 4) := ⟨⟨by decide +kernel, by decide +kernel⟩, List.mem_of_getElem? (i := 110) (by decide +kernel), List.mem_of_getElem? (i := 327) (by decide +kernel), List.mem_of_getElem? (i := 328) (by decide +kernel)⟩
theorem lw_p13 : lw_okq (⟨"FloorType", "readyBehind", "(I)I"⟩, 8) := ⟨⟨by decide +kernel, by decide +kernel⟩, List.mem_of_getElem? (i := 12) (by decide +kernel), List.mem_of_getElem? (i := 334) (by decide +kernel), List.mem_of_getElem? (i := 335) (by decide +kernel)⟩
theorem lw_p14 : lw_okq (⟨"FloorType", "leastBeside", "(I)I"⟩, 8) := ⟨⟨by decide +kernel, by decide +kernel⟩, List.mem_of_getElem? (i := 12) (by decide +kernel), List.mem_of_getElem? (i := 338) (by decide +kernel), List.mem_of_getElem? (i := 339) (by decide +kernel)⟩
theorem lw_p15 : lw_okq (⟨"FloorType$Search", "fewestFrom", "(LFloorType$Page;II)I"⟩, 2) := ⟨⟨by decide +kernel, by decide +kernel⟩, List.mem_of_getElem? (i := 133) (by decide +kernel), List.mem_of_getElem? (i := 376) (by decide +kernel), List.mem_of_getElem? (i := 377) (by decide +kernel)⟩
def lw_privs_1 : List (MethodName × Nat) := [(⟨"FloorType", "failed", "(I)I"⟩, 8), (⟨"FloorType$Text", "passes", "(II)Z"⟩, 5), (⟨"FloorType$Text", "isNext", "(II)Z"⟩, 5), (⟨"FloorType$Text", "passesSorts", "()Z"⟩, 5), (⟨"FloorType$Text", "passesSort", "()Z"⟩, 5), (⟨"FloorType$Text", "passesKind", "()Z"⟩, 5), (⟨"FloorType$Text", "passesSigns", "()Z"⟩, 5), (⟨"FloorType$Text", "passesSign", "()Z"⟩, 5), (⟨"FloorType$Page", "fillSort", "([III)V"⟩, 10), (⟨"FloorType", "refusalOfRow", "(IIII)I"⟩, 8), (⟨"FloorType", "takeNumbers", "(IIIII)I"⟩, 8), (⟨"FloorType$Walk", "passBy", "(LFloorType$Page;II)V"⟩, 4), (⟨"FloorType$Walk", "noteReady", "(I)V"⟩, 4), (⟨"FloorType", "readyBehind", "(I)I"⟩, 8), (⟨"FloorType", "leastBeside", "(I)I"⟩, 8), (⟨"FloorType$Search", "fewestFrom", "(LFloorType$Page;II)I"⟩, 2)]
theorem lw_r1 : ∀ q ∈ lw_privs_1, lw_okq q := List.forall_mem_cons.mpr ⟨lw_p0, List.forall_mem_cons.mpr ⟨lw_p1, List.forall_mem_cons.mpr ⟨lw_p2, List.forall_mem_cons.mpr ⟨lw_p3, List.forall_mem_cons.mpr ⟨lw_p4, List.forall_mem_cons.mpr ⟨lw_p5, List.forall_mem_cons.mpr ⟨lw_p6, List.forall_mem_cons.mpr ⟨lw_p7, List.forall_mem_cons.mpr ⟨lw_p8, List.forall_mem_cons.mpr ⟨lw_p9, List.forall_mem_cons.mpr ⟨lw_p10, List.forall_mem_cons.mpr ⟨lw_p11, List.forall_mem_cons.mpr ⟨lw_p12, List.forall_mem_cons.mpr ⟨lw_p13, List.forall_mem_cons.mpr ⟨lw_p14, List.forall_mem_cons.mpr ⟨lw_p15, fun _ h => absurd h List.not_mem_nil⟩⟩⟩⟩⟩⟩⟩⟩⟩⟩⟩⟩⟩⟩⟩⟩
theorem lw_p16 : lw_okq (⟨"FloorType$Search", "nextSign", "(LFloorType$Page;I)I"⟩, 2) := ⟨⟨by decide +kernel, by decide +kernel⟩, List.mem_of_getElem? (i := 133) (by decide +kernel), List.mem_of_getElem? (i := 396) (by decide +kernel), List.mem_of_getElem? (i := 397) (by decide +kernel)⟩
theorem lw_p17 : lw_okq (⟨"FloorType$Search", "fewestOf", "(LFloorType$Page;I)I"⟩, 2) := ⟨⟨by decide +kernel, by decide +kernel⟩, List.mem_of_getElem? (i := 133) (by decide +kernel), List.mem_of_getElem? (i := 415) (by decide +kernel), List.mem_of_getElem? (i := 416) (by decide +kernel)⟩
theorem lw_p18 : lw_okq (⟨"FloorType$Search", "behindParting", "(LFloorType$Page;II)I"⟩, 2) := ⟨⟨by decide +kernel, by decide +kernel⟩, List.mem_of_getElem? (i := 133) (by decide +kernel), List.mem_of_getElem? (i := 419) (by decide +kernel), List.mem_of_getElem? (i := 420) (by decide +kernel)⟩
theorem lw_p19 : lw_okq (⟨"FloorType", "tellDoubtful", "(I)I"⟩, 8) := ⟨⟨by decide +kernel, by decide +kernel⟩, List.mem_of_getElem? (i := 12) (by decide +kernel), List.mem_of_getElem? (i := 527) (by decide +kernel), List.mem_of_getElem? (i := 528) (by decide +kernel)⟩
theorem lw_p20 : lw_okq (⟨"FloorType", "leave", "(I)V"⟩, 8) := ⟨⟨by decide +kernel, by decide +kernel⟩, List.mem_of_getElem? (i := 12) (by decide +kernel), List.mem_of_getElem? (i := 531) (by decide +kernel), List.mem_of_getElem? (i := 532) (by decide +kernel)⟩
theorem lw_p21 : lw_okq (⟨"FloorType", "tellSure", "(I)I"⟩, 8) := ⟨⟨by decide +kernel, by decide +kernel⟩, List.mem_of_getElem? (i := 12) (by decide +kernel), List.mem_of_getElem? (i := 535) (by decide +kernel), List.mem_of_getElem? (i := 536) (by decide +kernel)⟩
theorem lw_p22 : lw_okq (⟨"FloorType", "tellPicking", "(I)I"⟩, 8) := ⟨⟨by decide +kernel, by decide +kernel⟩, List.mem_of_getElem? (i := 12) (by decide +kernel), List.mem_of_getElem? (i := 539) (by decide +kernel), List.mem_of_getElem? (i := 540) (by decide +kernel)⟩
theorem lw_p23 : lw_okq (⟨"FloorType", "dropByOwn", "()I"⟩, 8) := ⟨⟨by decide +kernel, by decide +kernel⟩, List.mem_of_getElem? (i := 12) (by decide +kernel), List.mem_of_getElem? (i := 547) (by decide +kernel), List.mem_of_getElem? (i := 548) (by decide +kernel)⟩
theorem lw_p24 : lw_okq (⟨"FloorType", "dropByLent", "(I)I"⟩, 8) := ⟨⟨by decide +kernel, by decide +kernel⟩, List.mem_of_getElem? (i := 12) (by decide +kernel), List.mem_of_getElem? (i := 551) (by decide +kernel), List.mem_of_getElem? (i := 552) (by decide +kernel)⟩
theorem lw_p25 : lw_okq (⟨"FloorTypeModel", "refused", "(I)I"⟩, 32) := ⟨⟨by decide +kernel, by decide +kernel⟩, List.mem_of_getElem? (i := 575) (by decide +kernel), List.mem_of_getElem? (i := 689) (by decide +kernel), List.mem_of_getElem? (i := 690) (by decide +kernel)⟩
theorem lw_p26 : lw_okq (⟨"FloorTypeModel", "cellsBarred", "(IIIJ)I"⟩, 32) := ⟨⟨by decide +kernel, by decide +kernel⟩, List.mem_of_getElem? (i := 575) (by decide +kernel), List.mem_of_getElem? (i := 694) (by decide +kernel), List.mem_of_getElem? (i := 695) (by decide +kernel)⟩
theorem lw_p27 : lw_okq (⟨"FloorTypeModel", "failed", "(I)I"⟩, 32) := ⟨⟨by decide +kernel, by decide +kernel⟩, List.mem_of_getElem? (i := 575) (by decide +kernel), List.mem_of_getElem? (i := 698) (by decide +kernel), List.mem_of_getElem? (i := 699) (by decide +kernel)⟩
theorem lw_p28 : lw_okq (⟨"FloorTypeModel", "readsFloor", "(II)Z"⟩, 32) := ⟨⟨by decide +kernel, by decide +kernel⟩, List.mem_of_getElem? (i := 575) (by decide +kernel), List.mem_of_getElem? (i := 705) (by decide +kernel), List.mem_of_getElem? (i := 706) (by decide +kernel)⟩
theorem lw_p29 : lw_okq (⟨"FloorTypeModel", "codeAt", "(II)I"⟩, 32) := ⟨⟨by decide +kernel, by decide +kernel⟩, List.mem_of_getElem? (i := 575) (by decide +kernel), List.mem_of_getElem? (i := 709) (by decide +kernel), List.mem_of_getElem? (i := 710) (by decide +kernel)⟩
theorem lw_p30 : lw_okq (⟨"FloorTypeModel", "readsSort", "(II)Z"⟩, 32) := ⟨⟨by decide +kernel, by decide +kernel⟩, List.mem_of_getElem? (i := 575) (by decide +kernel), List.mem_of_getElem? (i := 713) (by decide +kernel), List.mem_of_getElem? (i := 714) (by decide +kernel)⟩
theorem lw_p31 : lw_okq (⟨"FloorTypeModel", "figure", "(IIII)I"⟩, 32) := ⟨⟨by decide +kernel, by decide +kernel⟩, List.mem_of_getElem? (i := 575) (by decide +kernel), List.mem_of_getElem? (i := 717) (by decide +kernel), List.mem_of_getElem? (i := 718) (by decide +kernel)⟩
def lw_privs_2 : List (MethodName × Nat) := [(⟨"FloorType$Search", "nextSign", "(LFloorType$Page;I)I"⟩, 2), (⟨"FloorType$Search", "fewestOf", "(LFloorType$Page;I)I"⟩, 2), (⟨"FloorType$Search", "behindParting", "(LFloorType$Page;II)I"⟩, 2), (⟨"FloorType", "tellDoubtful", "(I)I"⟩, 8), (⟨"FloorType", "leave", "(I)V"⟩, 8), (⟨"FloorType", "tellSure", "(I)I"⟩, 8), (⟨"FloorType", "tellPicking", "(I)I"⟩, 8), (⟨"FloorType", "dropByOwn", "()I"⟩, 8), (⟨"FloorType", "dropByLent", "(I)I"⟩, 8), (⟨"FloorTypeModel", "refused", "(I)I"⟩, 32), (⟨"FloorTypeModel", "cellsBarred", "(IIIJ)I"⟩, 32), (⟨"FloorTypeModel", "failed", "(I)I"⟩, 32), (⟨"FloorTypeModel", "readsFloor", "(II)Z"⟩, 32), (⟨"FloorTypeModel", "codeAt", "(II)I"⟩, 32), (⟨"FloorTypeModel", "readsSort", "(II)Z"⟩, 32), (⟨"FloorTypeModel", "figure", "(IIII)I"⟩, 32)]
theorem lw_r2 : ∀ q ∈ lw_privs_2, lw_okq q := List.forall_mem_cons.mpr ⟨lw_p16, List.forall_mem_cons.mpr ⟨lw_p17, List.forall_mem_cons.mpr ⟨lw_p18, List.forall_mem_cons.mpr ⟨lw_p19, List.forall_mem_cons.mpr ⟨lw_p20, List.forall_mem_cons.mpr ⟨lw_p21, List.forall_mem_cons.mpr ⟨lw_p22, List.forall_mem_cons.mpr ⟨lw_p23, List.forall_mem_cons.mpr ⟨lw_p24, List.forall_mem_cons.mpr ⟨lw_p25, List.forall_mem_cons.mpr ⟨lw_p26, List.forall_mem_cons.mpr ⟨lw_p27, List.forall_mem_cons.mpr ⟨lw_p28, List.forall_mem_cons.mpr ⟨lw_p29, List.forall_mem_cons.mpr ⟨lw_p30, List.forall_mem_cons.mpr ⟨lw_p31, fun _ h => absurd h List.not_mem_nil⟩⟩⟩⟩⟩⟩⟩⟩⟩⟩⟩⟩⟩⟩⟩⟩
theorem lw_p32 : lw_okq (⟨"FloorTypeModel", "readsSign", "(II)Z"⟩, 32) := ⟨⟨by decide +kernel, by decide +kernel⟩, List.mem_of_getElem? (i := 575) (by decide +kernel), List.mem_of_getElem? (i := 721) (by decide +kernel), List.mem_of_getElem? (i := 722) (by decide +kernel)⟩
theorem lw_p33 : lw_okq (⟨"FloorTypeModel", "noSort", "(I)Z"⟩, 32) := ⟨⟨by decide +kernel, by decide +kernel⟩, List.mem_of_getElem? (i := 575) (by decide +kernel), List.mem_of_getElem? (i := 729) (by decide +kernel), List.mem_of_getElem? (i := 730) (by decide +kernel)⟩
theorem lw_p34 : lw_okq (⟨"FloorTypeModel", "lookOf", "(I)I"⟩, 32) := ⟨⟨by decide +kernel, by decide +kernel⟩, List.mem_of_getElem? (i := 575) (by decide +kernel), List.mem_of_getElem? (i := 733) (by decide +kernel), List.mem_of_getElem? (i := 734) (by decide +kernel)⟩
theorem lw_p35 : lw_okq (⟨"FloorTypeModel", "noSign", "(I)Z"⟩, 32) := ⟨⟨by decide +kernel, by decide +kernel⟩, List.mem_of_getElem? (i := 575) (by decide +kernel), List.mem_of_getElem? (i := 741) (by decide +kernel), List.mem_of_getElem? (i := 742) (by decide +kernel)⟩
theorem lw_p36 : lw_okq (⟨"FloorTypeModel", "all", "()I"⟩, 32) := ⟨⟨by decide +kernel, by decide +kernel⟩, List.mem_of_getElem? (i := 575) (by decide +kernel), List.mem_of_getElem? (i := 745) (by decide +kernel), List.mem_of_getElem? (i := 746) (by decide +kernel)⟩
theorem lw_p37 : lw_okq (⟨"FloorTypeModel", "rowBarred", "(IIIIZ)I"⟩, 32) := ⟨⟨by decide +kernel, by decide +kernel⟩, List.mem_of_getElem? (i := 575) (by decide +kernel), List.mem_of_getElem? (i := 767) (by decide +kernel), List.mem_of_getElem? (i := 768) (by decide +kernel)⟩
theorem lw_p38 : lw_okq (⟨"FloorTypeModel", "goPlan", "(II)V"⟩, 32) := ⟨⟨by decide +kernel, by decide +kernel⟩, List.mem_of_getElem? (i := 575) (by decide +kernel), List.mem_of_getElem? (i := 771) (by decide +kernel), List.mem_of_getElem? (i := 772) (by decide +kernel)⟩
theorem lw_p39 : lw_okq (⟨"FloorTypeModel", "begin", "()V"⟩, 32) := ⟨⟨by decide +kernel, by decide +kernel⟩, List.mem_of_getElem? (i := 575) (by decide +kernel), List.mem_of_getElem? (i := 775) (by decide +kernel), List.mem_of_getElem? (i := 776) (by decide +kernel)⟩
theorem lw_p40 : lw_okq (⟨"FloorTypeModel", "goPass", "(II)V"⟩, 32) := ⟨⟨by decide +kernel, by decide +kernel⟩, List.mem_of_getElem? (i := 575) (by decide +kernel), List.mem_of_getElem? (i := 779) (by decide +kernel), List.mem_of_getElem? (i := 780) (by decide +kernel)⟩
theorem lw_p41 : lw_okq (⟨"FloorTypeModel", "isAlone", "(I)Z"⟩, 32) := ⟨⟨by decide +kernel, by decide +kernel⟩, List.mem_of_getElem? (i := 575) (by decide +kernel), List.mem_of_getElem? (i := 783) (by decide +kernel), List.mem_of_getElem? (i := 784) (by decide +kernel)⟩
theorem lw_p42 : lw_okq (⟨"FloorTypeModel", "looksOf", "(I)I"⟩, 32) := ⟨⟨by decide +kernel, by decide +kernel⟩, List.mem_of_getElem? (i := 575) (by decide +kernel), List.mem_of_getElem? (i := 790) (by decide +kernel), List.mem_of_getElem? (i := 791) (by decide +kernel)⟩
theorem lw_p43 : lw_okq (⟨"FloorTypeModel", "leastOf", "(I)I"⟩, 32) := ⟨⟨by decide +kernel, by decide +kernel⟩, List.mem_of_getElem? (i := 575) (by decide +kernel), List.mem_of_getElem? (i := 794) (by decide +kernel), List.mem_of_getElem? (i := 795) (by decide +kernel)⟩
theorem lw_p44 : lw_okq (⟨"FloorTypeModel", "heapsNow", "()I"⟩, 32) := ⟨⟨by decide +kernel, by decide +kernel⟩, List.mem_of_getElem? (i := 575) (by decide +kernel), List.mem_of_getElem? (i := 798) (by decide +kernel), List.mem_of_getElem? (i := 799) (by decide +kernel)⟩
theorem lw_p45 : lw_okq (⟨"FloorTypeModel", "readyNow", "()I"⟩, 32) := ⟨⟨by decide +kernel, by decide +kernel⟩, List.mem_of_getElem? (i := 575) (by decide +kernel), List.mem_of_getElem? (i := 802) (by decide +kernel), List.mem_of_getElem? (i := 803) (by decide +kernel)⟩
theorem lw_p46 : lw_okq (⟨"FloorTypeModel", "lengthOf", "(I)I"⟩, 32) := ⟨⟨by decide +kernel, by decide +kernel⟩, List.mem_of_getElem? (i := 575) (by decide +kernel), List.mem_of_getElem? (i := 821) (by decide +kernel), List.mem_of_getElem? (i := 822) (by decide +kernel)⟩
theorem lw_p47 : lw_okq (⟨"FloorTypeModel", "growTree", "(I)V"⟩, 32) := ⟨⟨by decide +kernel, by decide +kernel⟩, List.mem_of_getElem? (i := 575) (by decide +kernel), List.mem_of_getElem? (i := 829) (by decide +kernel), List.mem_of_getElem? (i := 830) (by decide +kernel)⟩
def lw_privs_3 : List (MethodName × Nat) := [(⟨"FloorTypeModel", "readsSign", "(II)Z"⟩, 32), (⟨"FloorTypeModel", "noSort", "(I)Z"⟩, 32), (⟨"FloorTypeModel", "lookOf", "(I)I"⟩, 32), (⟨"FloorTypeModel", "noSign", "(I)Z"⟩, 32), (⟨"FloorTypeModel", "all", "()I"⟩, 32), (⟨"FloorTypeModel", "rowBarred", "(IIIIZ)I"⟩, 32), (⟨"FloorTypeModel", "goPlan", "(II)V"⟩, 32), (⟨"FloorTypeModel", "begin", "()V"⟩, 32), (⟨"FloorTypeModel", "goPass", "(II)V"⟩, 32), (⟨"FloorTypeModel", "isAlone", "(I)Z"⟩, 32), (⟨"FloorTypeModel", "looksOf", "(I)I"⟩, 32), (⟨"FloorTypeModel", "leastOf", "(I)I"⟩, 32), (⟨"FloorTypeModel", "heapsNow", "()I"⟩, 32), (⟨"FloorTypeModel", "readyNow", "()I"⟩, 32), (⟨"FloorTypeModel", "lengthOf", "(I)I"⟩, 32), (⟨"FloorTypeModel", "growTree", "(I)V"⟩, 32)]
theorem lw_r3 : ∀ q ∈ lw_privs_3, lw_okq q := List.forall_mem_cons.mpr ⟨lw_p32, List.forall_mem_cons.mpr ⟨lw_p33, List.forall_mem_cons.mpr ⟨lw_p34, List.forall_mem_cons.mpr ⟨lw_p35, List.forall_mem_cons.mpr ⟨lw_p36, List.forall_mem_cons.mpr ⟨lw_p37, List.forall_mem_cons.mpr ⟨lw_p38, List.forall_mem_cons.mpr ⟨lw_p39, List.forall_mem_cons.mpr ⟨lw_p40, List.forall_mem_cons.mpr ⟨lw_p41, List.forall_mem_cons.mpr ⟨lw_p42, List.forall_mem_cons.mpr ⟨lw_p43, List.forall_mem_cons.mpr ⟨lw_p44, List.forall_mem_cons.mpr ⟨lw_p45, List.forall_mem_cons.mpr ⟨lw_p46, List.forall_mem_cons.mpr ⟨lw_p47, fun _ h => absurd h List.not_mem_nil⟩⟩⟩⟩⟩⟩⟩⟩⟩⟩⟩⟩⟩⟩⟩⟩
theorem lw_p48 : lw_okq (⟨"FloorTypeModel", "areSo", "()Z"⟩, 32) := ⟨⟨by decide +kernel, by decide +kernel⟩, List.mem_of_getElem? (i := 575) (by decide +kernel), List.mem_of_getElem? (i := 858) (by decide +kernel), List.mem_of_getElem? (i := 859) (by decide +kernel)⟩
theorem lw_p49 : lw_okq (⟨"FloorTypeModel", "noCell", "(II)I"⟩, 32) := ⟨⟨by decide +kernel, by decide +kernel⟩, List.mem_of_getElem? (i := 575) (by decide +kernel), List.mem_of_getElem? (i := 882) (by decide +kernel), List.mem_of_getElem? (i := 883) (by decide +kernel)⟩
theorem lw_p50 : lw_okq (⟨"FloorTypeModel", "failedLong", "(I)J"⟩, 32) := ⟨⟨by decide +kernel, by decide +kernel⟩, List.mem_of_getElem? (i := 575) (by decide +kernel), List.mem_of_getElem? (i := 890) (by decide +kernel), List.mem_of_getElem? (i := 891) (by decide +kernel)⟩
theorem lw_p51 : lw_okq (⟨"FloorTypeModel", "traced", "(I)V"⟩, 32) := ⟨⟨by decide +kernel, by decide +kernel⟩, List.mem_of_getElem? (i := 575) (by decide +kernel), List.mem_of_getElem? (i := 902) (by decide +kernel), List.mem_of_getElem? (i := 903) (by decide +kernel)⟩
theorem lw_p52 : lw_okq (⟨"FloorTypeModel", "lettersNow", "()I"⟩, 32) := ⟨⟨by decide +kernel, by decide +kernel⟩, List.mem_of_getElem? (i := 575) (by decide +kernel), List.mem_of_getElem? (i := 926) (by decide +kernel), List.mem_of_getElem? (i := 927) (by decide +kernel)⟩
def lw_privs_4 : List (MethodName × Nat) := [(⟨"FloorTypeModel", "areSo", "()Z"⟩, 32), (⟨"FloorTypeModel", "noCell", "(II)I"⟩, 32), (⟨"FloorTypeModel", "failedLong", "(I)J"⟩, 32), (⟨"FloorTypeModel", "traced", "(I)V"⟩, 32), (⟨"FloorTypeModel", "lettersNow", "()I"⟩, 32)]
theorem lw_r4 : ∀ q ∈ lw_privs_4, lw_okq q := List.forall_mem_cons.mpr ⟨lw_p48, List.forall_mem_cons.mpr ⟨lw_p49, List.forall_mem_cons.mpr ⟨lw_p50, List.forall_mem_cons.mpr ⟨lw_p51, List.forall_mem_cons.mpr ⟨lw_p52, fun _ h => absurd h List.not_mem_nil⟩⟩⟩⟩⟩
def lw_privs : List (MethodName × Nat) := lw_privs_1 ++ (lw_privs_2 ++ (lw_privs_3 ++ (lw_privs_4)))
def lw_tbl : List Cond := k2_sels lw_privs ++ tables_1
theorem lw_privs_ok : ∀ q ∈ lw_privs, lw_okq q := by
  show ∀ q ∈ lw_privs_1 ++ (lw_privs_2 ++ (lw_privs_3 ++ (lw_privs_4))), lw_okq q
  exact List.forall_mem_append.mpr ⟨lw_r1, List.forall_mem_append.mpr ⟨lw_r2, List.forall_mem_append.mpr ⟨lw_r3, lw_r4⟩⟩⟩

abbrev RX0 : String := "FloorType$Page"
def TX0 : u_T := fun k => match k with
  | 0 => ("FloorType$Page", "sorts", "I", false)
  | 1 => ("FloorType$Page", "signs", "I", false)
  | 2 => ("FloorType$Page", "readings", "I", false)
  | 3 => ("FloorType$Page", "kind", "[I", true)
  | 4 => ("FloorType$Page", "count", "[I", true)
  | 5 => ("FloorType$Page", "seconds", "[I", true)
  | 6 => ("FloorType$Page", "alike", "[I", true)
  | 7 => ("FloorType$Page", "having", "[I", true)
  | 8 => ("FloorType$Page", "setRead", "[I", true)
  | _ => ("FloorType$Page", "timeRead", "[I", true)
def tyX0 : Nat → FieldType := fun k => match k with
  | 0 => .int
  | 1 => .int
  | 2 => .int
  | 3 => .array .int
  | 4 => .array .int
  | 5 => .array .int
  | 6 => .array .int
  | 7 => .array .int
  | 8 => .array .int
  | _ => .array .int
theorem nmX0 : ∀ a, a < 10 → ∀ b, b < 10 → a ≠ b → (TX0 a).2.1 ≠ (TX0 b).2.1 := by decide +kernel
theorem tyX0_ok : ∀ k, k < 10 → parseFieldDescriptor (TX0 k).2.2.1 = some (tyX0 k) := by decide +kernel
abbrev cX0_init : ByteArray := prog_2_method_1_code
def yX0_init : MethodName := ⟨RX0, "<init>", "()V"⟩
abbrev cX0_isThere : ByteArray := prog_2_method_2_code
def yX0_isThere : MethodName := ⟨RX0, "isThere", "()Z"⟩
abbrev cX0_isSort : ByteArray := prog_2_method_3_code
def yX0_isSort : MethodName := ⟨RX0, "isSort", "(I)Z"⟩
abbrev cX0_isSign : ByteArray := prog_2_method_4_code
def yX0_isSign : MethodName := ⟨RX0, "isSign", "(I)Z"⟩
abbrev cX0_isSet : ByteArray := prog_2_method_5_code
def yX0_isSet : MethodName := ⟨RX0, "isSet", "(I)Z"⟩
abbrev cX0_everySort : ByteArray := prog_2_method_6_code
def yX0_everySort : MethodName := ⟨RX0, "everySort", "()I"⟩
abbrev cX0_fill : ByteArray := prog_2_method_7_code
def yX0_fill : MethodName := ⟨RX0, "fill", "(LFloorType$Text;)V"⟩
abbrev cX0_fillSort : ByteArray := prog_2_method_8_code
def yX0_fillSort : MethodName := ⟨RX0, "fillSort", "([III)V"⟩
abbrev cX0_letters : ByteArray := prog_2_method_9_code
def yX0_letters : MethodName := ⟨RX0, "letters", "()I"⟩
abbrev cX0_secondsFor : ByteArray := prog_2_method_10_code
def yX0_secondsFor : MethodName := ⟨RX0, "secondsFor", "(I)I"⟩
abbrev cX0_lettersAlike : ByteArray := prog_2_method_11_code
def yX0_lettersAlike : MethodName := ⟨RX0, "lettersAlike", "(I)I"⟩
abbrev cX0_firstShort : ByteArray := prog_2_method_12_code
def yX0_firstShort : MethodName := ⟨RX0, "firstShort", "([II)I"⟩
abbrev cX0_heapOf : ByteArray := prog_2_method_13_code
def yX0_heapOf : MethodName := ⟨RX0, "heapOf", "(II)I"⟩
abbrev cX0_waiting : ByteArray := prog_2_method_14_code
def yX0_waiting : MethodName := ⟨RX0, "waiting", "(I)I"⟩
abbrev cX0_heaps : ByteArray := prog_2_method_15_code
def yX0_heaps : MethodName := ⟨RX0, "heaps", "(I)I"⟩
abbrev cX0_note : ByteArray := prog_2_method_16_code
def yX0_note : MethodName := ⟨RX0, "note", "(II)I"⟩
abbrev cX0_readingsHold : ByteArray := prog_2_method_17_code
def yX0_readingsHold : MethodName := ⟨RX0, "readingsHold", "(II)Z"⟩
abbrev RX1 : String := "FloorType$Search"
def TX1 : u_T := fun k => match k with
  | 0 => ("FloorType$Search", "byUsed", "[I", true)
  | _ => ("FloorType$Search", "byHeap", "[I", true)
def tyX1 : Nat → FieldType := fun k => match k with
  | 0 => .array .int
  | _ => .array .int
theorem nmX1 : ∀ a, a < 2 → ∀ b, b < 2 → a ≠ b → (TX1 a).2.1 ≠ (TX1 b).2.1 := by decide +kernel
theorem tyX1_ok : ∀ k, k < 2 → parseFieldDescriptor (TX1 k).2.2.1 = some (tyX1 k) := by decide +kernel
abbrev cX1_init : ByteArray := prog_3_method_1_code
def yX1_init : MethodName := ⟨RX1, "<init>", "()V"⟩
abbrev cX1_weighOrders : ByteArray := prog_3_method_2_code
def yX1_weighOrders : MethodName := ⟨RX1, "weighOrders", "(LFloorType$Page;)V"⟩
abbrev cX1_fewestFrom : ByteArray := prog_3_method_3_code
def yX1_fewestFrom : MethodName := ⟨RX1, "fewestFrom", "(LFloorType$Page;II)I"⟩
abbrev cX1_fewer : ByteArray := prog_3_method_4_code
def yX1_fewer : MethodName := ⟨RX1, "fewer", "(II)I"⟩
abbrev cX1_fewestByOrder : ByteArray := prog_3_method_5_code
def yX1_fewestByOrder : MethodName := ⟨RX1, "fewestByOrder", "()I"⟩
abbrev cX1_signOfOrder : ByteArray := prog_3_method_6_code
def yX1_signOfOrder : MethodName := ⟨RX1, "signOfOrder", "(LFloorType$Page;I)I"⟩
abbrev cX1_nextSign : ByteArray := prog_3_method_7_code
def yX1_nextSign : MethodName := ⟨RX1, "nextSign", "(LFloorType$Page;I)I"⟩
abbrev cX1_weighTrees : ByteArray := prog_3_method_8_code
def yX1_weighTrees : MethodName := ⟨RX1, "weighTrees", "(LFloorType$Page;)V"⟩
abbrev cX1_fewestOf : ByteArray := prog_3_method_9_code
def yX1_fewestOf : MethodName := ⟨RX1, "fewestOf", "(LFloorType$Page;I)I"⟩
abbrev cX1_behindParting : ByteArray := prog_3_method_10_code
def yX1_behindParting : MethodName := ⟨RX1, "behindParting", "(LFloorType$Page;II)I"⟩
abbrev cX1_fewestByTree : ByteArray := prog_3_method_11_code
def yX1_fewestByTree : MethodName := ⟨RX1, "fewestByTree", "(LFloorType$Page;)I"⟩
abbrev cX1_firstOfTree : ByteArray := prog_3_method_12_code
def yX1_firstOfTree : MethodName := ⟨RX1, "firstOfTree", "(LFloorType$Page;)I"⟩
abbrev RX2 : String := "FloorType$Sheets"
def TX2 : u_T := fun k => match k with
  | 0 => ("FloorType$Sheets", "cells", "[I", true)
  | 1 => ("FloorType$Sheets", "lanes", "[I", true)
  | _ => ("FloorType$Sheets", "sizes", "[I", true)
def tyX2 : Nat → FieldType := fun k => match k with
  | 0 => .array .int
  | 1 => .array .int
  | _ => .array .int
theorem nmX2 : ∀ a, a < 3 → ∀ b, b < 3 → a ≠ b → (TX2 a).2.1 ≠ (TX2 b).2.1 := by decide +kernel
theorem tyX2_ok : ∀ k, k < 3 → parseFieldDescriptor (TX2 k).2.2.1 = some (tyX2 k) := by decide +kernel
abbrev cX2_init : ByteArray := prog_4_method_1_code
def yX2_init : MethodName := ⟨RX2, "<init>", "()V"⟩
abbrev cX2_isSheet : ByteArray := prog_4_method_2_code
def yX2_isSheet : MethodName := ⟨RX2, "isSheet", "(I)Z"⟩
abbrev cX2_isLane : ByteArray := prog_4_method_3_code
def yX2_isLane : MethodName := ⟨RX2, "isLane", "(I)Z"⟩
abbrev cX2_isEmpty : ByteArray := prog_4_method_4_code
def yX2_isEmpty : MethodName := ⟨RX2, "isEmpty", "(I)Z"⟩
abbrev cX2_faultAsRow : ByteArray := prog_4_method_5_code
def yX2_faultAsRow : MethodName := ⟨RX2, "faultAsRow", "(II)I"⟩
abbrev cX2_faultOfPair : ByteArray := prog_4_method_6_code
def yX2_faultOfPair : MethodName := ⟨RX2, "faultOfPair", "(II)I"⟩
abbrev cX2_faultOfCell : ByteArray := prog_4_method_7_code
def yX2_faultOfCell : MethodName := ⟨RX2, "faultOfCell", "(II)I"⟩
abbrev cX2_faultOfSpan : ByteArray := prog_4_method_8_code
def yX2_faultOfSpan : MethodName := ⟨RX2, "faultOfSpan", "(III)I"⟩
abbrev cX2_renew : ByteArray := prog_4_method_9_code
def yX2_renew : MethodName := ⟨RX2, "renew", "(III)V"⟩
abbrev cX2_clear : ByteArray := prog_4_method_10_code
def yX2_clear : MethodName := ⟨RX2, "clear", "(I)Z"⟩
abbrev cX2_read : ByteArray := prog_4_method_11_code
def yX2_read : MethodName := ⟨RX2, "read", "(II)I"⟩
abbrev cX2_write : ByteArray := prog_4_method_12_code
def yX2_write : MethodName := ⟨RX2, "write", "(III)V"⟩
abbrev cX2_cut : ByteArray := prog_4_method_13_code
def yX2_cut : MethodName := ⟨RX2, "cut", "(II)I"⟩
abbrev cX2_move : ByteArray := prog_4_method_14_code
def yX2_move : MethodName := ⟨RX2, "move", "(IIIII)V"⟩
abbrev cX2_take : ByteArray := prog_4_method_15_code
def yX2_take : MethodName := ⟨RX2, "take", "(III[I)V"⟩
abbrev RX3 : String := "FloorType$Text"
def TX3 : u_T := fun k => match k with
  | 0 => ("FloorType$Text", "codes", "[I", true)
  | 1 => ("FloorType$Text", "length", "I", false)
  | 2 => ("FloorType$Text", "at", "I", false)
  | 3 => ("FloorType$Text", "sorts", "I", false)
  | _ => ("FloorType$Text", "signs", "I", false)
def tyX3 : Nat → FieldType := fun k => match k with
  | 0 => .array .int
  | 1 => .int
  | 2 => .int
  | 3 => .int
  | _ => .int
theorem nmX3 : ∀ a, a < 5 → ∀ b, b < 5 → a ≠ b → (TX3 a).2.1 ≠ (TX3 b).2.1 := by decide +kernel
theorem tyX3_ok : ∀ k, k < 5 → parseFieldDescriptor (TX3 k).2.2.1 = some (tyX3 k) := by decide +kernel
abbrev cX3_init : ByteArray := prog_5_method_1_code
def yX3_init : MethodName := ⟨RX3, "<init>", "()V"⟩
abbrev cX3_firstFault : ByteArray := prog_5_method_2_code
def yX3_firstFault : MethodName := ⟨RX3, "firstFault", "(I)I"⟩
abbrev cX3_passes : ByteArray := prog_5_method_3_code
def yX3_passes : MethodName := ⟨RX3, "passes", "(II)Z"⟩
abbrev cX3_isNext : ByteArray := prog_5_method_4_code
def yX3_isNext : MethodName := ⟨RX3, "isNext", "(II)Z"⟩
abbrev cX3_passesSorts : ByteArray := prog_5_method_5_code
def yX3_passesSorts : MethodName := ⟨RX3, "passesSorts", "()Z"⟩
abbrev cX3_passesSort : ByteArray := prog_5_method_6_code
def yX3_passesSort : MethodName := ⟨RX3, "passesSort", "()Z"⟩
abbrev cX3_passesKind : ByteArray := prog_5_method_7_code
def yX3_passesKind : MethodName := ⟨RX3, "passesKind", "()Z"⟩
abbrev cX3_passesSigns : ByteArray := prog_5_method_8_code
def yX3_passesSigns : MethodName := ⟨RX3, "passesSigns", "()Z"⟩
abbrev cX3_passesSign : ByteArray := prog_5_method_9_code
def yX3_passesSign : MethodName := ⟨RX3, "passesSign", "()Z"⟩
abbrev RX4 : String := "FloorType$Walk"
def TX4 : u_T := fun k => match k with
  | 0 => ("FloorType$Walk", "seconds", "I", false)
  | 1 => ("FloorType$Walk", "idle", "I", false)
  | 2 => ("FloorType$Walk", "used", "I", false)
  | _ => ("FloorType$Walk", "behind", "[I", true)
def tyX4 : Nat → FieldType := fun k => match k with
  | 0 => .int
  | 1 => .int
  | 2 => .int
  | _ => .array .int
theorem nmX4 : ∀ a, a < 4 → ∀ b, b < 4 → a ≠ b → (TX4 a).2.1 ≠ (TX4 b).2.1 := by decide +kernel
theorem tyX4_ok : ∀ k, k < 4 → parseFieldDescriptor (TX4 k).2.2.1 = some (tyX4 k) := by decide +kernel
abbrev cX4_init : ByteArray := prog_6_method_1_code
def yX4_init : MethodName := ⟨RX4, "<init>", "()V"⟩
abbrev cX4_go : ByteArray := prog_6_method_2_code
def yX4_go : MethodName := ⟨RX4, "go", "(LFloorType$Page;[II)V"⟩
abbrev cX4_passBy : ByteArray := prog_6_method_3_code
def yX4_passBy : MethodName := ⟨RX4, "passBy", "(LFloorType$Page;II)V"⟩
abbrev cX4_noteReady : ByteArray := prog_6_method_4_code
def yX4_noteReady : MethodName := ⟨RX4, "noteReady", "(I)V"⟩
abbrev cX4_allReadyBehind : ByteArray := prog_6_method_5_code
def yX4_allReadyBehind : MethodName := ⟨RX4, "allReadyBehind", "(I)I"⟩
abbrev RX5 : String := "FloorType"
def TX5 : u_T := fun k => match k with
  | 0 => ("FloorType", "sheets", "LFloorType$Sheets;", true)
  | 1 => ("FloorType", "page", "LFloorType$Page;", true)
  | 2 => ("FloorType", "text", "LFloorType$Text;", true)
  | 3 => ("FloorType", "walk", "LFloorType$Walk;", true)
  | 4 => ("FloorType", "search", "LFloorType$Search;", true)
  | 5 => ("FloorType", "row", "[I", true)
  | 6 => ("FloorType", "trace", "I", false)
  | _ => ("FloorType", "fault", "I", false)
def tyX5 : Nat → FieldType := fun k => match k with
  | 0 => .object "FloorType$Sheets"
  | 1 => .object "FloorType$Page"
  | 2 => .object "FloorType$Text"
  | 3 => .object "FloorType$Walk"
  | 4 => .object "FloorType$Search"
  | 5 => .array .int
  | 6 => .int
  | _ => .int
theorem nmX5 : ∀ a, a < 8 → ∀ b, b < 8 → a ≠ b → (TX5 a).2.1 ≠ (TX5 b).2.1 := by decide +kernel
theorem tyX5_ok : ∀ k, k < 8 → parseFieldDescriptor (TX5 k).2.2.1 = some (tyX5 k) := by decide +kernel
abbrev cX5_init : ByteArray := prog_1_method_1_code
def yX5_init : MethodName := ⟨RX5, "<init>", "()V"⟩
abbrev cX5_floor : ByteArray := prog_1_method_2_code
def yX5_floor : MethodName := ⟨RX5, "floor", "(IIII)I"⟩
abbrev cX5_ofSort : ByteArray := prog_1_method_3_code
def yX5_ofSort : MethodName := ⟨RX5, "ofSort", "(II)I"⟩
abbrev cX5_ofSign : ByteArray := prog_1_method_4_code
def yX5_ofSign : MethodName := ⟨RX5, "ofSign", "(I)I"⟩
abbrev cX5_lay : ByteArray := prog_1_method_5_code
def yX5_lay : MethodName := ⟨RX5, "lay", "(II)I"⟩
abbrev cX5_sign : ByteArray := prog_1_method_6_code
def yX5_sign : MethodName := ⟨RX5, "sign", "(II)I"⟩
abbrev cX5_plan : ByteArray := prog_1_method_7_code
def yX5_plan : MethodName := ⟨RX5, "plan", "(IIIII)I"⟩
abbrev cX5_line : ByteArray := prog_1_method_8_code
def yX5_line : MethodName := ⟨RX5, "line", "(IIII)I"⟩
abbrev cX5_soon : ByteArray := prog_1_method_9_code
def yX5_soon : MethodName := ⟨RX5, "soon", "(IIIII)I"⟩
abbrev cX5_order : ByteArray := prog_1_method_10_code
def yX5_order : MethodName := ⟨RX5, "order", "(I)I"⟩
abbrev cX5_tree : ByteArray := prog_1_method_11_code
def yX5_tree : MethodName := ⟨RX5, "tree", "(I)I"⟩
abbrev cX5_odds : ByteArray := prog_1_method_12_code
def yX5_odds : MethodName := ⟨RX5, "odds", "(III)J"⟩
abbrev cX5_reading : ByteArray := prog_1_method_13_code
def yX5_reading : MethodName := ⟨RX5, "reading", "(II)I"⟩
abbrev cX5_back : ByteArray := prog_1_method_14_code
def yX5_back : MethodName := ⟨RX5, "back", "(I)I"⟩
abbrev cX5_counts : ByteArray := prog_1_method_15_code
def yX5_counts : MethodName := ⟨RX5, "counts", "(I)I"⟩
abbrev cX5_kinds : ByteArray := prog_1_method_16_code
def yX5_kinds : MethodName := ⟨RX5, "kinds", "(I)I"⟩
abbrev cX5_speeds : ByteArray := prog_1_method_17_code
def yX5_speeds : MethodName := ⟨RX5, "speeds", "(I)I"⟩
abbrev cX5_sheet : ByteArray := prog_1_method_18_code
def yX5_sheet : MethodName := ⟨RX5, "sheet", "(III)I"⟩
abbrev cX5_lose : ByteArray := prog_1_method_19_code
def yX5_lose : MethodName := ⟨RX5, "lose", "(I)I"⟩
abbrev cX5_put : ByteArray := prog_1_method_20_code
def yX5_put : MethodName := ⟨RX5, "put", "(III)I"⟩
abbrev cX5_cell : ByteArray := prog_1_method_21_code
def yX5_cell : MethodName := ⟨RX5, "cell", "(III)J"⟩
abbrev cX5_copy : ByteArray := prog_1_method_22_code
def yX5_copy : MethodName := ⟨RX5, "copy", "(IIIII)I"⟩
abbrev cX5_tell : ByteArray := prog_1_method_23_code
def yX5_tell : MethodName := ⟨RX5, "tell", "(I)I"⟩
abbrev cX5_drop : ByteArray := prog_1_method_24_code
def yX5_drop : MethodName := ⟨RX5, "drop", "(I)I"⟩
abbrev cX5_as : ByteArray := prog_1_method_25_code
def yX5_as : MethodName := ⟨RX5, "as", "(II)I"⟩
abbrev cX5_trace : ByteArray := prog_1_method_26_code
def yX5_trace : MethodName := ⟨RX5, "trace", "()I"⟩
abbrev cX5_fault : ByteArray := prog_1_method_27_code
def yX5_fault : MethodName := ⟨RX5, "fault", "()I"⟩
abbrev cX5_many : ByteArray := prog_1_method_28_code
def yX5_many : MethodName := ⟨RX5, "many", "(I)I"⟩
abbrev cX5_failed : ByteArray := prog_1_method_29_code
def yX5_failed : MethodName := ⟨RX5, "failed", "(I)I"⟩
abbrev cX5_refusalOfRow : ByteArray := prog_1_method_30_code
def yX5_refusalOfRow : MethodName := ⟨RX5, "refusalOfRow", "(IIII)I"⟩
abbrev cX5_takeNumbers : ByteArray := prog_1_method_31_code
def yX5_takeNumbers : MethodName := ⟨RX5, "takeNumbers", "(IIIII)I"⟩
abbrev cX5_isOfPlans : ByteArray := prog_1_method_32_code
def yX5_isOfPlans : MethodName := ⟨RX5, "isOfPlans", "(I)Z"⟩
abbrev cX5_readyBehind : ByteArray := prog_1_method_33_code
def yX5_readyBehind : MethodName := ⟨RX5, "readyBehind", "(I)I"⟩
abbrev cX5_leastBeside : ByteArray := prog_1_method_34_code
def yX5_leastBeside : MethodName := ⟨RX5, "leastBeside", "(I)I"⟩
abbrev cX5_least : ByteArray := prog_1_method_35_code
def yX5_least : MethodName := ⟨RX5, "least", "(I)I"⟩
abbrev cX5_holds : ByteArray := prog_1_method_36_code
def yX5_holds : MethodName := ⟨RX5, "holds", "(II)Z"⟩
abbrev cX5_look : ByteArray := prog_1_method_37_code
def yX5_look : MethodName := ⟨RX5, "look", "(II)I"⟩
abbrev cX5_waysOfAtLeast : ByteArray := prog_1_method_38_code
def yX5_waysOfAtLeast : MethodName := ⟨RX5, "waysOfAtLeast", "(II)J"⟩
abbrev cX5_leave : ByteArray := prog_1_method_39_code
def yX5_leave : MethodName := ⟨RX5, "leave", "(I)V"⟩
abbrev cX5_tellPicking : ByteArray := prog_1_method_40_code
def yX5_tellPicking : MethodName := ⟨RX5, "tellPicking", "(I)I"⟩
abbrev cX5_tellSure : ByteArray := prog_1_method_41_code
def yX5_tellSure : MethodName := ⟨RX5, "tellSure", "(I)I"⟩
abbrev cX5_tellDoubtful : ByteArray := prog_1_method_42_code
def yX5_tellDoubtful : MethodName := ⟨RX5, "tellDoubtful", "(I)I"⟩
abbrev cX5_dropByLent : ByteArray := prog_1_method_43_code
def yX5_dropByLent : MethodName := ⟨RX5, "dropByLent", "(I)I"⟩
abbrev cX5_dropByOwn : ByteArray := prog_1_method_44_code
def yX5_dropByOwn : MethodName := ⟨RX5, "dropByOwn", "()I"⟩
abbrev RX6 : String := "FloorTypeModel"
def TX6 : u_T := fun k => match k with
  | 0 => ("FloorTypeModel", "fault", "I", false)
  | 1 => ("FloorTypeModel", "sorts", "I", false)
  | 2 => ("FloorTypeModel", "kindOf", "[I", true)
  | 3 => ("FloorTypeModel", "countOf", "[I", true)
  | 4 => ("FloorTypeModel", "secondsOf", "[I", true)
  | 5 => ("FloorTypeModel", "alikeOf", "[I", true)
  | 6 => ("FloorTypeModel", "signs", "I", false)
  | 7 => ("FloorTypeModel", "hadBy", "[I", true)
  | 8 => ("FloorTypeModel", "readAt", "I", false)
  | 9 => ("FloorTypeModel", "readSorts", "I", false)
  | 10 => ("FloorTypeModel", "readSigns", "I", false)
  | 11 => ("FloorTypeModel", "readKind", "[I", true)
  | 12 => ("FloorTypeModel", "readCount", "[I", true)
  | 13 => ("FloorTypeModel", "readSeconds", "[I", true)
  | 14 => ("FloorTypeModel", "readAlike", "[I", true)
  | 15 => ("FloorTypeModel", "readHad", "[I", true)
  | 16 => ("FloorTypeModel", "heapOf", "[I", true)
  | 17 => ("FloorTypeModel", "readyAt", "[I", true)
  | 18 => ("FloorTypeModel", "spent", "I", false)
  | 19 => ("FloorTypeModel", "idleAt", "I", false)
  | 20 => ("FloorTypeModel", "setOf", "[I", true)
  | 21 => ("FloorTypeModel", "triedOf", "[I", true)
  | 22 => ("FloorTypeModel", "treeOf", "[I", true)
  | 23 => ("FloorTypeModel", "firstOf", "[I", true)
  | 24 => ("FloorTypeModel", "readings", "I", false)
  | 25 => ("FloorTypeModel", "readingSet", "[I", true)
  | 26 => ("FloorTypeModel", "readingTook", "[I", true)
  | 27 => ("FloorTypeModel", "sheetSize", "[I", true)
  | 28 => ("FloorTypeModel", "sheetLane", "[I", true)
  | 29 => ("FloorTypeModel", "sheet", "[I", true)
  | 30 => ("FloorTypeModel", "hands", "[I", true)
  | _ => ("FloorTypeModel", "traceNow", "I", false)
def tyX6 : Nat → FieldType := fun k => match k with
  | 0 => .int
  | 1 => .int
  | 2 => .array .int
  | 3 => .array .int
  | 4 => .array .int
  | 5 => .array .int
  | 6 => .int
  | 7 => .array .int
  | 8 => .int
  | 9 => .int
  | 10 => .int
  | 11 => .array .int
  | 12 => .array .int
  | 13 => .array .int
  | 14 => .array .int
  | 15 => .array .int
  | 16 => .array .int
  | 17 => .array .int
  | 18 => .int
  | 19 => .int
  | 20 => .array .int
  | 21 => .array .int
  | 22 => .array .int
  | 23 => .array .int
  | 24 => .int
  | 25 => .array .int
  | 26 => .array .int
  | 27 => .array .int
  | 28 => .array .int
  | 29 => .array .int
  | 30 => .array .int
  | _ => .int
theorem nmX6 : ∀ a, a < 32 → ∀ b, b < 32 → a ≠ b → (TX6 a).2.1 ≠ (TX6 b).2.1 := by decide +kernel
theorem tyX6_ok : ∀ k, k < 32 → parseFieldDescriptor (TX6 k).2.2.1 = some (tyX6 k) := by decide +kernel
abbrev cX6_init : ByteArray := prog_8_method_1_code
def yX6_init : MethodName := ⟨RX6, "<init>", "()V"⟩
abbrev cX6_in : ByteArray := prog_8_method_2_code
def yX6_in : MethodName := ⟨RX6, "in", "(JJJ)Z"⟩
abbrev cX6_lost : ByteArray := prog_8_method_3_code
def yX6_lost : MethodName := ⟨RX6, "lost", "()J"⟩
abbrev cX6_isIn : ByteArray := prog_8_method_4_code
def yX6_isIn : MethodName := ⟨RX6, "isIn", "(II)Z"⟩
abbrev cX6_share : ByteArray := prog_8_method_5_code
def yX6_share : MethodName := ⟨RX6, "share", "(JJI)J"⟩
abbrev cX6_refused : ByteArray := prog_8_method_6_code
def yX6_refused : MethodName := ⟨RX6, "refused", "(I)I"⟩
abbrev cX6_failed : ByteArray := prog_8_method_7_code
def yX6_failed : MethodName := ⟨RX6, "failed", "(I)I"⟩
abbrev cX6_failedLong : ByteArray := prog_8_method_8_code
def yX6_failedLong : MethodName := ⟨RX6, "failedLong", "(I)J"⟩
abbrev cX6_noSort : ByteArray := prog_8_method_9_code
def yX6_noSort : MethodName := ⟨RX6, "noSort", "(I)Z"⟩
abbrev cX6_noSign : ByteArray := prog_8_method_10_code
def yX6_noSign : MethodName := ⟨RX6, "noSign", "(I)Z"⟩
abbrev cX6_all : ByteArray := prog_8_method_11_code
def yX6_all : MethodName := ⟨RX6, "all", "()I"⟩
abbrev cX6_codeAt : ByteArray := prog_8_method_12_code
def yX6_codeAt : MethodName := ⟨RX6, "codeAt", "(II)I"⟩
abbrev cX6_figure : ByteArray := prog_8_method_13_code
def yX6_figure : MethodName := ⟨RX6, "figure", "(IIII)I"⟩
abbrev cX6_readsSort : ByteArray := prog_8_method_14_code
def yX6_readsSort : MethodName := ⟨RX6, "readsSort", "(II)Z"⟩
abbrev cX6_readsSign : ByteArray := prog_8_method_15_code
def yX6_readsSign : MethodName := ⟨RX6, "readsSign", "(II)Z"⟩
abbrev cX6_readsFloor : ByteArray := prog_8_method_16_code
def yX6_readsFloor : MethodName := ⟨RX6, "readsFloor", "(II)Z"⟩
abbrev cX6_cellsBarred : ByteArray := prog_8_method_17_code
def yX6_cellsBarred : MethodName := ⟨RX6, "cellsBarred", "(IIIJ)I"⟩
abbrev cX6_floor : ByteArray := prog_8_method_18_code
def yX6_floor : MethodName := ⟨RX6, "floor", "(IIII)I"⟩
abbrev cX6_lookOf : ByteArray := prog_8_method_19_code
def yX6_lookOf : MethodName := ⟨RX6, "lookOf", "(I)I"⟩
abbrev cX6_looksOf : ByteArray := prog_8_method_20_code
def yX6_looksOf : MethodName := ⟨RX6, "looksOf", "(I)I"⟩
abbrev cX6_ofSort : ByteArray := prog_8_method_21_code
def yX6_ofSort : MethodName := ⟨RX6, "ofSort", "(II)I"⟩
abbrev cX6_ofSign : ByteArray := prog_8_method_22_code
def yX6_ofSign : MethodName := ⟨RX6, "ofSign", "(I)I"⟩
abbrev cX6_lay : ByteArray := prog_8_method_23_code
def yX6_lay : MethodName := ⟨RX6, "lay", "(II)I"⟩
abbrev cX6_sign : ByteArray := prog_8_method_24_code
def yX6_sign : MethodName := ⟨RX6, "sign", "(II)I"⟩
abbrev cX6_begin : ByteArray := prog_8_method_25_code
def yX6_begin : MethodName := ⟨RX6, "begin", "()V"⟩
abbrev cX6_isAlone : ByteArray := prog_8_method_26_code
def yX6_isAlone : MethodName := ⟨RX6, "isAlone", "(I)Z"⟩
abbrev cX6_goPass : ByteArray := prog_8_method_27_code
def yX6_goPass : MethodName := ⟨RX6, "goPass", "(II)V"⟩
abbrev cX6_goPlan : ByteArray := prog_8_method_28_code
def yX6_goPlan : MethodName := ⟨RX6, "goPlan", "(II)V"⟩
abbrev cX6_readyNow : ByteArray := prog_8_method_29_code
def yX6_readyNow : MethodName := ⟨RX6, "readyNow", "()I"⟩
abbrev cX6_leastOf : ByteArray := prog_8_method_30_code
def yX6_leastOf : MethodName := ⟨RX6, "leastOf", "(I)I"⟩
abbrev cX6_heapsNow : ByteArray := prog_8_method_31_code
def yX6_heapsNow : MethodName := ⟨RX6, "heapsNow", "()I"⟩
abbrev cX6_rowBarred : ByteArray := prog_8_method_32_code
def yX6_rowBarred : MethodName := ⟨RX6, "rowBarred", "(IIIIZ)I"⟩
abbrev cX6_plan : ByteArray := prog_8_method_33_code
def yX6_plan : MethodName := ⟨RX6, "plan", "(IIIII)I"⟩
abbrev cX6_line : ByteArray := prog_8_method_34_code
def yX6_line : MethodName := ⟨RX6, "line", "(IIII)I"⟩
abbrev cX6_soon : ByteArray := prog_8_method_35_code
def yX6_soon : MethodName := ⟨RX6, "soon", "(IIIII)I"⟩
abbrev cX6_lengthOf : ByteArray := prog_8_method_36_code
def yX6_lengthOf : MethodName := ⟨RX6, "lengthOf", "(I)I"⟩
abbrev cX6_order : ByteArray := prog_8_method_37_code
def yX6_order : MethodName := ⟨RX6, "order", "(I)I"⟩
abbrev cX6_growTree : ByteArray := prog_8_method_38_code
def yX6_growTree : MethodName := ⟨RX6, "growTree", "(I)V"⟩
abbrev cX6_tree : ByteArray := prog_8_method_39_code
def yX6_tree : MethodName := ⟨RX6, "tree", "(I)I"⟩
abbrev cX6_odds : ByteArray := prog_8_method_40_code
def yX6_odds : MethodName := ⟨RX6, "odds", "(III)J"⟩
abbrev cX6_reading : ByteArray := prog_8_method_41_code
def yX6_reading : MethodName := ⟨RX6, "reading", "(II)I"⟩
abbrev cX6_back : ByteArray := prog_8_method_42_code
def yX6_back : MethodName := ⟨RX6, "back", "(I)I"⟩
abbrev cX6_areSo : ByteArray := prog_8_method_43_code
def yX6_areSo : MethodName := ⟨RX6, "areSo", "()Z"⟩
abbrev cX6_counts : ByteArray := prog_8_method_44_code
def yX6_counts : MethodName := ⟨RX6, "counts", "(I)I"⟩
abbrev cX6_kinds : ByteArray := prog_8_method_45_code
def yX6_kinds : MethodName := ⟨RX6, "kinds", "(I)I"⟩
abbrev cX6_speeds : ByteArray := prog_8_method_46_code
def yX6_speeds : MethodName := ⟨RX6, "speeds", "(I)I"⟩
abbrev cX6_noSheet : ByteArray := prog_8_method_47_code
def yX6_noSheet : MethodName := ⟨RX6, "noSheet", "(I)Z"⟩
abbrev cX6_sheet : ByteArray := prog_8_method_48_code
def yX6_sheet : MethodName := ⟨RX6, "sheet", "(III)I"⟩
abbrev cX6_lose : ByteArray := prog_8_method_49_code
def yX6_lose : MethodName := ⟨RX6, "lose", "(I)I"⟩
abbrev cX6_noCell : ByteArray := prog_8_method_50_code
def yX6_noCell : MethodName := ⟨RX6, "noCell", "(II)I"⟩
abbrev cX6_put : ByteArray := prog_8_method_51_code
def yX6_put : MethodName := ⟨RX6, "put", "(III)I"⟩
abbrev cX6_cell : ByteArray := prog_8_method_52_code
def yX6_cell : MethodName := ⟨RX6, "cell", "(III)J"⟩
abbrev cX6_isBeyond : ByteArray := prog_8_method_53_code
def yX6_isBeyond : MethodName := ⟨RX6, "isBeyond", "(IJI)Z"⟩
abbrev cX6_copy : ByteArray := prog_8_method_54_code
def yX6_copy : MethodName := ⟨RX6, "copy", "(IIIII)I"⟩
abbrev cX6_traced : ByteArray := prog_8_method_55_code
def yX6_traced : MethodName := ⟨RX6, "traced", "(I)V"⟩
abbrev cX6_tell : ByteArray := prog_8_method_56_code
def yX6_tell : MethodName := ⟨RX6, "tell", "(I)I"⟩
abbrev cX6_drop : ByteArray := prog_8_method_57_code
def yX6_drop : MethodName := ⟨RX6, "drop", "(I)I"⟩
abbrev cX6_as : ByteArray := prog_8_method_58_code
def yX6_as : MethodName := ⟨RX6, "as", "(II)I"⟩
abbrev cX6_trace : ByteArray := prog_8_method_59_code
def yX6_trace : MethodName := ⟨RX6, "trace", "()I"⟩
abbrev cX6_fault : ByteArray := prog_8_method_60_code
def yX6_fault : MethodName := ⟨RX6, "fault", "()I"⟩
abbrev cX6_lettersNow : ByteArray := prog_8_method_61_code
def yX6_lettersNow : MethodName := ⟨RX6, "lettersNow", "()I"⟩
abbrev cX6_many : ByteArray := prog_8_method_62_code
def yX6_many : MethodName := ⟨RX6, "many", "(I)I"⟩
abbrev RJ6 : String := "java/lang/Integer"
abbrev cJ6_bitCount_0f7a4 : ByteArray := prog_9_method_49_code
def yJ6_bitCount_0f7a4 : MethodName := ⟨RJ6, "bitCount", "(I)I"⟩
abbrev RJ9 : String := "java/lang/Math"
abbrev cJ9_max_7cf53 : ByteArray := prog_10_method_65_code
def yJ9_max_7cf53 : MethodName := ⟨RJ9, "max", "(II)I"⟩
abbrev cJ9_min_7cf53 : ByteArray := prog_10_method_69_code
def yJ9_min_7cf53 : MethodName := ⟨RJ9, "min", "(II)I"⟩
abbrev RJ10 : String := "java/lang/System"
abbrev RL : String := "FloorTypeLaw"
abbrev cL_law : ByteArray := code
def yL_law : MethodName := ⟨RL, "law", "([I)Z"⟩
abbrev vwCl : List vw_C := [(RX0, TX0, 10), (RX1, TX1, 2), (RX2, TX2, 3), (RX3, TX3, 5), (RX4, TX4, 4), (RX5, TX5, 8), (RX6, TX6, 32)]
def lw_gd : List Cond := lw_tbl.filter goodWord
theorem lw_mg {i : Nat} {w : Cond} (h : tables_1[i]? = some w) (hg : goodWord w = true) : w ∈ lw_gd := List.mem_filter.mpr ⟨List.mem_append_right _ (List.mem_of_getElem? h), hg⟩
theorem lw_ms {i : Nat} {w : Cond} (h : (k2_sels lw_privs)[i]? = some w) (hg : goodWord w = true) : w ∈ lw_gd := List.mem_filter.mpr ⟨List.mem_append_left _ (List.mem_of_getElem? h), hg⟩
theorem q0 : (.initialized RL : Cond) ∈ lw_gd := lw_mg (i := 0) (by decide +kernel) rfl
theorem q1 : (.initialized RX5 : Cond) ∈ lw_gd := lw_mg (i := 1) (by decide +kernel) rfl
theorem q2 : (.initialized RX2 : Cond) ∈ lw_gd := lw_mg (i := 2) (by decide +kernel) rfl
theorem q3 : (.initialized RX0 : Cond) ∈ lw_gd := lw_mg (i := 3) (by decide +kernel) rfl
theorem q4 : (.initialized RX3 : Cond) ∈ lw_gd := lw_mg (i := 4) (by decide +kernel) rfl
theorem q5 : (.initialized RX4 : Cond) ∈ lw_gd := lw_mg (i := 5) (by decide +kernel) rfl
theorem q6 : (.initialized RX1 : Cond) ∈ lw_gd := lw_mg (i := 6) (by decide +kernel) rfl
theorem q7 : (.initialized RX6 : Cond) ∈ lw_gd := lw_mg (i := 7) (by decide +kernel) rfl
theorem q8 : (.initialized RJ10 : Cond) ∈ lw_gd := lw_mg (i := 8) (by decide +kernel) rfl
theorem q9 : (.initialized RJ9 : Cond) ∈ lw_gd := lw_mg (i := 9) (by decide +kernel) rfl
theorem q10 : (.initialized RJ6 : Cond) ∈ lw_gd := lw_mg (i := 10) (by decide +kernel) rfl
theorem q11 : (.classLink RL 7 RX5 : Cond) ∈ lw_gd := lw_mg (i := 11) (by decide +kernel) rfl
theorem q12 : (.instantiable RX5 8 : Cond) ∈ lw_gd := lw_mg (i := 12) (by decide +kernel) rfl
theorem q13 : (.methodLink RL 9 yX5_init : Cond) ∈ lw_gd := lw_mg (i := 13) (by decide +kernel) rfl
theorem q14 : (.instanceMethod yX5_init : Cond) ∈ lw_gd := lw_mg (i := 14) (by decide +kernel) rfl
theorem q15 : (.code yX5_init cX5_init 1 none : Cond) ∈ lw_gd := lw_mg (i := 15) (by decide +kernel) rfl
theorem q16 : (.methodLink RX5 3 (⟨"java/lang/Object", "<init>", "()V"⟩ : MethodName) : Cond) ∈ lw_gd := lw_mg (i := 16) (by decide +kernel) rfl
theorem q17 : (.instanceMethod (⟨"java/lang/Object", "<init>", "()V"⟩ : MethodName) : Cond) ∈ lw_gd := lw_mg (i := 17) (by decide +kernel) rfl
theorem q18 : (.code (⟨"java/lang/Object", "<init>", "()V"⟩ : MethodName) object_method_1_code 1 none : Cond) ∈ lw_gd := lw_mg (i := 18) (by decide +kernel) rfl
theorem q19 : (.classLink RX5 9 RX2 : Cond) ∈ lw_gd := lw_mg (i := 19) (by decide +kernel) rfl
theorem q20 : (.instantiable RX2 3 : Cond) ∈ lw_gd := lw_mg (i := 20) (by decide +kernel) rfl
theorem q21 : (.methodLink RX5 11 yX2_init : Cond) ∈ lw_gd := lw_mg (i := 21) (by decide +kernel) rfl
theorem q22 : (.instanceMethod yX2_init : Cond) ∈ lw_gd := lw_mg (i := 22) (by decide +kernel) rfl
theorem q23 : (.code yX2_init cX2_init 2 none : Cond) ∈ lw_gd := lw_mg (i := 23) (by decide +kernel) rfl
theorem q24 : (.methodLink RX2 3 (⟨"java/lang/Object", "<init>", "()V"⟩ : MethodName) : Cond) ∈ lw_gd := lw_mg (i := 24) (by decide +kernel) rfl
theorem q25 : (.fieldLink RX2 9 "FloorType$Sheets" "cells" "[I" : Cond) ∈ lw_gd := lw_mg (i := 25) (by decide +kernel) rfl
theorem q26 : (.fieldLink RX2 15 "FloorType$Sheets" "lanes" "[I" : Cond) ∈ lw_gd := lw_mg (i := 26) (by decide +kernel) rfl
theorem q27 : (.fieldLink RX2 18 "FloorType$Sheets" "sizes" "[I" : Cond) ∈ lw_gd := lw_mg (i := 27) (by decide +kernel) rfl
theorem q35 : (.arrayClass .int : Cond) ∈ lw_gd := lw_mg (i := 35) (by decide +kernel) rfl
theorem q36 : (.classLink RX5 18 RX0 : Cond) ∈ lw_gd := lw_mg (i := 36) (by decide +kernel) rfl
theorem q37 : (.instantiable RX0 10 : Cond) ∈ lw_gd := lw_mg (i := 37) (by decide +kernel) rfl
theorem q39 : (.instanceMethod yX0_init : Cond) ∈ lw_gd := lw_mg (i := 39) (by decide +kernel) rfl
theorem q40 : (.code yX0_init cX0_init 1 none : Cond) ∈ lw_gd := lw_mg (i := 40) (by decide +kernel) rfl
theorem q41 : (.methodLink RX0 3 (⟨"java/lang/Object", "<init>", "()V"⟩ : MethodName) : Cond) ∈ lw_gd := lw_mg (i := 41) (by decide +kernel) rfl
theorem q42 : (.fieldLink RX0 33 "FloorType$Page" "sorts" "I" : Cond) ∈ lw_gd := lw_mg (i := 42) (by decide +kernel) rfl
theorem q43 : (.fieldLink RX5 87 "FloorType$Page" "sorts" "I" : Cond) ∈ lw_gd := lw_mg (i := 43) (by decide +kernel) rfl
theorem q44 : (.fieldLink RX1 18 "FloorType$Page" "signs" "I" : Cond) ∈ lw_gd := lw_mg (i := 44) (by decide +kernel) rfl
theorem q45 : (.fieldLink RX0 37 "FloorType$Page" "signs" "I" : Cond) ∈ lw_gd := lw_mg (i := 45) (by decide +kernel) rfl
theorem q46 : (.fieldLink RX5 125 "FloorType$Page" "signs" "I" : Cond) ∈ lw_gd := lw_mg (i := 46) (by decide +kernel) rfl
theorem q47 : (.fieldLink RX0 48 "FloorType$Page" "readings" "I" : Cond) ∈ lw_gd := lw_mg (i := 47) (by decide +kernel) rfl
theorem q48 : (.fieldLink RX5 200 "FloorType$Page" "readings" "I" : Cond) ∈ lw_gd := lw_mg (i := 48) (by decide +kernel) rfl
theorem q49 : (.fieldLink RX0 9 "FloorType$Page" "kind" "[I" : Cond) ∈ lw_gd := lw_mg (i := 49) (by decide +kernel) rfl
theorem q50 : (.fieldLink RX5 93 "FloorType$Page" "kind" "[I" : Cond) ∈ lw_gd := lw_mg (i := 50) (by decide +kernel) rfl
theorem q51 : (.fieldLink RX0 15 "FloorType$Page" "count" "[I" : Cond) ∈ lw_gd := lw_mg (i := 51) (by decide +kernel) rfl
theorem q52 : (.fieldLink RX5 96 "FloorType$Page" "count" "[I" : Cond) ∈ lw_gd := lw_mg (i := 52) (by decide +kernel) rfl
theorem q53 : (.fieldLink RX0 18 "FloorType$Page" "seconds" "[I" : Cond) ∈ lw_gd := lw_mg (i := 53) (by decide +kernel) rfl
theorem q54 : (.fieldLink RX5 99 "FloorType$Page" "seconds" "[I" : Cond) ∈ lw_gd := lw_mg (i := 54) (by decide +kernel) rfl
theorem q55 : (.fieldLink RX0 21 "FloorType$Page" "alike" "[I" : Cond) ∈ lw_gd := lw_mg (i := 55) (by decide +kernel) rfl
theorem q56 : (.fieldLink RX5 102 "FloorType$Page" "alike" "[I" : Cond) ∈ lw_gd := lw_mg (i := 56) (by decide +kernel) rfl
theorem q57 : (.fieldLink RX0 24 "FloorType$Page" "having" "[I" : Cond) ∈ lw_gd := lw_mg (i := 57) (by decide +kernel) rfl
theorem q58 : (.fieldLink RX5 111 "FloorType$Page" "having" "[I" : Cond) ∈ lw_gd := lw_mg (i := 58) (by decide +kernel) rfl
theorem q59 : (.fieldLink RX1 67 "FloorType$Page" "having" "[I" : Cond) ∈ lw_gd := lw_mg (i := 59) (by decide +kernel) rfl
theorem q60 : (.fieldLink RX0 27 "FloorType$Page" "setRead" "[I" : Cond) ∈ lw_gd := lw_mg (i := 60) (by decide +kernel) rfl
theorem q61 : (.fieldLink RX0 30 "FloorType$Page" "timeRead" "[I" : Cond) ∈ lw_gd := lw_mg (i := 61) (by decide +kernel) rfl
theorem q83 : (.classLink RX5 25 RX3 : Cond) ∈ lw_gd := lw_mg (i := 83) (by decide +kernel) rfl
theorem q84 : (.instantiable RX3 5 : Cond) ∈ lw_gd := lw_mg (i := 84) (by decide +kernel) rfl
theorem q86 : (.instanceMethod yX3_init : Cond) ∈ lw_gd := lw_mg (i := 86) (by decide +kernel) rfl
theorem q87 : (.code yX3_init cX3_init 1 none : Cond) ∈ lw_gd := lw_mg (i := 87) (by decide +kernel) rfl
theorem q88 : (.methodLink RX3 3 (⟨"java/lang/Object", "<init>", "()V"⟩ : MethodName) : Cond) ∈ lw_gd := lw_mg (i := 88) (by decide +kernel) rfl
theorem q89 : (.fieldLink RX3 9 "FloorType$Text" "codes" "[I" : Cond) ∈ lw_gd := lw_mg (i := 89) (by decide +kernel) rfl
theorem q90 : (.fieldLink RX5 73 "FloorType$Text" "codes" "[I" : Cond) ∈ lw_gd := lw_mg (i := 90) (by decide +kernel) rfl
theorem q91 : (.fieldLink RX0 51 "FloorType$Text" "codes" "[I" : Cond) ∈ lw_gd := lw_mg (i := 91) (by decide +kernel) rfl
theorem q92 : (.fieldLink RX3 15 "FloorType$Text" "length" "I" : Cond) ∈ lw_gd := lw_mg (i := 92) (by decide +kernel) rfl
theorem q93 : (.fieldLink RX3 19 "FloorType$Text" "at" "I" : Cond) ∈ lw_gd := lw_mg (i := 93) (by decide +kernel) rfl
theorem q94 : (.fieldLink RX3 22 "FloorType$Text" "sorts" "I" : Cond) ∈ lw_gd := lw_mg (i := 94) (by decide +kernel) rfl
theorem q95 : (.fieldLink RX0 44 "FloorType$Text" "sorts" "I" : Cond) ∈ lw_gd := lw_mg (i := 95) (by decide +kernel) rfl
theorem q96 : (.fieldLink RX3 25 "FloorType$Text" "signs" "I" : Cond) ∈ lw_gd := lw_mg (i := 96) (by decide +kernel) rfl
theorem q97 : (.fieldLink RX0 47 "FloorType$Text" "signs" "I" : Cond) ∈ lw_gd := lw_mg (i := 97) (by decide +kernel) rfl
theorem q109 : (.classLink RX5 32 RX4 : Cond) ∈ lw_gd := lw_mg (i := 109) (by decide +kernel) rfl
theorem q110 : (.instantiable RX4 4 : Cond) ∈ lw_gd := lw_mg (i := 110) (by decide +kernel) rfl
theorem q112 : (.instanceMethod yX4_init : Cond) ∈ lw_gd := lw_mg (i := 112) (by decide +kernel) rfl
theorem q113 : (.code yX4_init cX4_init 1 none : Cond) ∈ lw_gd := lw_mg (i := 113) (by decide +kernel) rfl
theorem q114 : (.methodLink RX4 3 (⟨"java/lang/Object", "<init>", "()V"⟩ : MethodName) : Cond) ∈ lw_gd := lw_mg (i := 114) (by decide +kernel) rfl
theorem q115 : (.fieldLink RX4 15 "FloorType$Walk" "seconds" "I" : Cond) ∈ lw_gd := lw_mg (i := 115) (by decide +kernel) rfl
theorem q116 : (.fieldLink RX5 136 "FloorType$Walk" "seconds" "I" : Cond) ∈ lw_gd := lw_mg (i := 116) (by decide +kernel) rfl
theorem q117 : (.fieldLink RX4 19 "FloorType$Walk" "idle" "I" : Cond) ∈ lw_gd := lw_mg (i := 117) (by decide +kernel) rfl
theorem q118 : (.fieldLink RX5 138 "FloorType$Walk" "idle" "I" : Cond) ∈ lw_gd := lw_mg (i := 118) (by decide +kernel) rfl
theorem q119 : (.fieldLink RX4 22 "FloorType$Walk" "used" "I" : Cond) ∈ lw_gd := lw_mg (i := 119) (by decide +kernel) rfl
theorem q120 : (.fieldLink RX5 141 "FloorType$Walk" "used" "I" : Cond) ∈ lw_gd := lw_mg (i := 120) (by decide +kernel) rfl
theorem q121 : (.fieldLink RX4 9 "FloorType$Walk" "behind" "[I" : Cond) ∈ lw_gd := lw_mg (i := 121) (by decide +kernel) rfl
theorem q122 : (.fieldLink RX5 254 "FloorType$Walk" "behind" "[I" : Cond) ∈ lw_gd := lw_mg (i := 122) (by decide +kernel) rfl
theorem q132 : (.classLink RX5 39 RX1 : Cond) ∈ lw_gd := lw_mg (i := 132) (by decide +kernel) rfl
theorem q133 : (.instantiable RX1 2 : Cond) ∈ lw_gd := lw_mg (i := 133) (by decide +kernel) rfl
theorem q135 : (.instanceMethod yX1_init : Cond) ∈ lw_gd := lw_mg (i := 135) (by decide +kernel) rfl
theorem q136 : (.code yX1_init cX1_init 1 none : Cond) ∈ lw_gd := lw_mg (i := 136) (by decide +kernel) rfl
theorem q137 : (.methodLink RX1 3 (⟨"java/lang/Object", "<init>", "()V"⟩ : MethodName) : Cond) ∈ lw_gd := lw_mg (i := 137) (by decide +kernel) rfl
theorem q138 : (.fieldLink RX1 9 "FloorType$Search" "byUsed" "[I" : Cond) ∈ lw_gd := lw_mg (i := 138) (by decide +kernel) rfl
theorem q139 : (.fieldLink RX1 15 "FloorType$Search" "byHeap" "[I" : Cond) ∈ lw_gd := lw_mg (i := 139) (by decide +kernel) rfl
theorem q145 : (.fieldLink RX5 12 "FloorType" "sheets" "LFloorType$Sheets;" : Cond) ∈ lw_gd := lw_mg (i := 145) (by decide +kernel) rfl
theorem q146 : (.fieldLink RX5 21 "FloorType" "page" "LFloorType$Page;" : Cond) ∈ lw_gd := lw_mg (i := 146) (by decide +kernel) rfl
theorem q147 : (.fieldLink RX5 28 "FloorType" "text" "LFloorType$Text;" : Cond) ∈ lw_gd := lw_mg (i := 147) (by decide +kernel) rfl
theorem q148 : (.fieldLink RX5 35 "FloorType" "walk" "LFloorType$Walk;" : Cond) ∈ lw_gd := lw_mg (i := 148) (by decide +kernel) rfl
theorem q149 : (.fieldLink RX5 42 "FloorType" "search" "LFloorType$Search;" : Cond) ∈ lw_gd := lw_mg (i := 149) (by decide +kernel) rfl
theorem q150 : (.fieldLink RX5 46 "FloorType" "row" "[I" : Cond) ∈ lw_gd := lw_mg (i := 150) (by decide +kernel) rfl
theorem q151 : (.fieldLink RX5 248 "FloorType" "trace" "I" : Cond) ∈ lw_gd := lw_mg (i := 151) (by decide +kernel) rfl
theorem q152 : (.fieldLink RX5 50 "FloorType" "fault" "I" : Cond) ∈ lw_gd := lw_mg (i := 152) (by decide +kernel) rfl
theorem q170 : (.methodLink RL 13 yX5_floor : Cond) ∈ lw_gd := lw_mg (i := 170) (by decide +kernel) rfl
theorem q171 : (.instanceMethod yX5_floor : Cond) ∈ lw_gd := lw_mg (i := 171) (by decide +kernel) rfl
theorem q172 : (.selects RX5 yX5_floor yX5_floor : Cond) ∈ lw_gd := lw_mg (i := 172) (by decide +kernel) rfl
theorem q173 : (.code yX5_floor cX5_floor 7 (some .int) : Cond) ∈ lw_gd := lw_mg (i := 173) (by decide +kernel) rfl
theorem q174 : (.methodLink RX5 54 yX2_isSheet : Cond) ∈ lw_gd := lw_mg (i := 174) (by decide +kernel) rfl
theorem q175 : (.static yX2_isSheet : Cond) ∈ lw_gd := lw_mg (i := 175) (by decide +kernel) rfl
theorem q176 : (.code yX2_isSheet cX2_isSheet 1 (some .boolean) : Cond) ∈ lw_gd := lw_mg (i := 176) (by decide +kernel) rfl
theorem q177 : (.methodLink RX5 58 yX2_isLane : Cond) ∈ lw_gd := lw_mg (i := 177) (by decide +kernel) rfl
theorem q178 : (.static yX2_isLane : Cond) ∈ lw_gd := lw_mg (i := 178) (by decide +kernel) rfl
theorem q179 : (.code yX2_isLane cX2_isLane 1 (some .boolean) : Cond) ∈ lw_gd := lw_mg (i := 179) (by decide +kernel) rfl
theorem q180 : (.methodLink RX5 61 yX2_faultAsRow : Cond) ∈ lw_gd := lw_mg (i := 180) (by decide +kernel) rfl
theorem q181 : (.instanceMethod yX2_faultAsRow : Cond) ∈ lw_gd := lw_mg (i := 181) (by decide +kernel) rfl
theorem q182 : (.selects RX2 yX2_faultAsRow yX2_faultAsRow : Cond) ∈ lw_gd := lw_mg (i := 182) (by decide +kernel) rfl
theorem q183 : (.code yX2_faultAsRow cX2_faultAsRow 3 (some .int) : Cond) ∈ lw_gd := lw_mg (i := 183) (by decide +kernel) rfl
theorem q184 : (.methodLink RX2 21 yX2_isEmpty : Cond) ∈ lw_gd := lw_mg (i := 184) (by decide +kernel) rfl
theorem q185 : (.instanceMethod yX2_isEmpty : Cond) ∈ lw_gd := lw_mg (i := 185) (by decide +kernel) rfl
theorem q186 : (.selects RX2 yX2_isEmpty yX2_isEmpty : Cond) ∈ lw_gd := lw_mg (i := 186) (by decide +kernel) rfl
theorem q187 : (.code yX2_isEmpty cX2_isEmpty 2 (some .boolean) : Cond) ∈ lw_gd := lw_mg (i := 187) (by decide +kernel) rfl
theorem q188 : (.methodLink RX5 65 yX2_faultOfSpan : Cond) ∈ lw_gd := lw_mg (i := 188) (by decide +kernel) rfl
theorem q189 : (.instanceMethod yX2_faultOfSpan : Cond) ∈ lw_gd := lw_mg (i := 189) (by decide +kernel) rfl
theorem q190 : (.selects RX2 yX2_faultOfSpan yX2_faultOfSpan : Cond) ∈ lw_gd := lw_mg (i := 190) (by decide +kernel) rfl
theorem q191 : (.code yX2_faultOfSpan cX2_faultOfSpan 5 (some .int) : Cond) ∈ lw_gd := lw_mg (i := 191) (by decide +kernel) rfl
theorem q192 : (.methodLink RX5 69 yX5_failed : Cond) ∈ lw_gd := lw_mg (i := 192) (by decide +kernel) rfl
theorem q194 : (.instanceMethod yX5_failed : Cond) ∈ lw_gd := lw_mg (i := 194) (by decide +kernel) rfl
theorem q195 : (.code yX5_failed cX5_failed 2 (some .int) : Cond) ∈ lw_gd := lw_mg (i := 195) (by decide +kernel) rfl
theorem q196 : (.methodLink RX5 76 yX2_take : Cond) ∈ lw_gd := lw_mg (i := 196) (by decide +kernel) rfl
theorem q197 : (.instanceMethod yX2_take : Cond) ∈ lw_gd := lw_mg (i := 197) (by decide +kernel) rfl
theorem q198 : (.selects RX2 yX2_take yX2_take : Cond) ∈ lw_gd := lw_mg (i := 198) (by decide +kernel) rfl
theorem q199 : (.code yX2_take cX2_take 5 none : Cond) ∈ lw_gd := lw_mg (i := 199) (by decide +kernel) rfl
theorem q200 : (.methodLink RX2 29 (⟨RJ10, "arraycopy", "(Ljava/lang/Object;ILjava/lang/Object;II)V"⟩ : MethodName) : Cond) ∈ lw_gd := lw_mg (i := 200) (by decide +kernel) rfl
theorem q201 : (.static (⟨RJ10, "arraycopy", "(Ljava/lang/Object;ILjava/lang/Object;II)V"⟩ : MethodName) : Cond) ∈ lw_gd := lw_mg (i := 201) (by decide +kernel) rfl
theorem q202 : (.native (⟨RJ10, "arraycopy", "(Ljava/lang/Object;ILjava/lang/Object;II)V"⟩ : MethodName) : Cond) ∈ lw_gd := lw_mg (i := 202) (by decide +kernel) rfl
theorem q203 : (.methodLink RX5 80 yX3_firstFault : Cond) ∈ lw_gd := lw_mg (i := 203) (by decide +kernel) rfl
theorem q204 : (.instanceMethod yX3_firstFault : Cond) ∈ lw_gd := lw_mg (i := 204) (by decide +kernel) rfl
theorem q205 : (.selects RX3 yX3_firstFault yX3_firstFault : Cond) ∈ lw_gd := lw_mg (i := 205) (by decide +kernel) rfl
theorem q206 : (.code yX3_firstFault cX3_firstFault 2 (some .int) : Cond) ∈ lw_gd := lw_mg (i := 206) (by decide +kernel) rfl
theorem q207 : (.methodLink RX3 28 yX3_passes : Cond) ∈ lw_gd := lw_mg (i := 207) (by decide +kernel) rfl
theorem q209 : (.instanceMethod yX3_passes : Cond) ∈ lw_gd := lw_mg (i := 209) (by decide +kernel) rfl
theorem q210 : (.code yX3_passes cX3_passes 3 (some .boolean) : Cond) ∈ lw_gd := lw_mg (i := 210) (by decide +kernel) rfl
theorem q211 : (.methodLink RX3 39 yX3_isNext : Cond) ∈ lw_gd := lw_mg (i := 211) (by decide +kernel) rfl
theorem q213 : (.instanceMethod yX3_isNext : Cond) ∈ lw_gd := lw_mg (i := 213) (by decide +kernel) rfl
theorem q214 : (.code yX3_isNext cX3_isNext 3 (some .boolean) : Cond) ∈ lw_gd := lw_mg (i := 214) (by decide +kernel) rfl
theorem q215 : (.methodLink RX3 32 yX3_passesSorts : Cond) ∈ lw_gd := lw_mg (i := 215) (by decide +kernel) rfl
theorem q217 : (.instanceMethod yX3_passesSorts : Cond) ∈ lw_gd := lw_mg (i := 217) (by decide +kernel) rfl
theorem q218 : (.code yX3_passesSorts cX3_passesSorts 1 (some .boolean) : Cond) ∈ lw_gd := lw_mg (i := 218) (by decide +kernel) rfl
theorem q219 : (.methodLink RX3 42 yX3_passesSort : Cond) ∈ lw_gd := lw_mg (i := 219) (by decide +kernel) rfl
theorem q221 : (.instanceMethod yX3_passesSort : Cond) ∈ lw_gd := lw_mg (i := 221) (by decide +kernel) rfl
theorem q222 : (.code yX3_passesSort cX3_passesSort 1 (some .boolean) : Cond) ∈ lw_gd := lw_mg (i := 222) (by decide +kernel) rfl
theorem q223 : (.methodLink RX3 45 yX3_passesKind : Cond) ∈ lw_gd := lw_mg (i := 223) (by decide +kernel) rfl
theorem q225 : (.instanceMethod yX3_passesKind : Cond) ∈ lw_gd := lw_mg (i := 225) (by decide +kernel) rfl
theorem q226 : (.code yX3_passesKind cX3_passesKind 1 (some .boolean) : Cond) ∈ lw_gd := lw_mg (i := 226) (by decide +kernel) rfl
theorem q227 : (.methodLink RX3 36 yX3_passesSigns : Cond) ∈ lw_gd := lw_mg (i := 227) (by decide +kernel) rfl
theorem q229 : (.instanceMethod yX3_passesSigns : Cond) ∈ lw_gd := lw_mg (i := 229) (by decide +kernel) rfl
theorem q230 : (.code yX3_passesSigns cX3_passesSigns 1 (some .boolean) : Cond) ∈ lw_gd := lw_mg (i := 230) (by decide +kernel) rfl
theorem q231 : (.methodLink RX3 48 yX3_passesSign : Cond) ∈ lw_gd := lw_mg (i := 231) (by decide +kernel) rfl
theorem q233 : (.instanceMethod yX3_passesSign : Cond) ∈ lw_gd := lw_mg (i := 233) (by decide +kernel) rfl
theorem q234 : (.code yX3_passesSign cX3_passesSign 2 (some .boolean) : Cond) ∈ lw_gd := lw_mg (i := 234) (by decide +kernel) rfl
theorem q235 : (.methodLink RX5 83 yX0_fill : Cond) ∈ lw_gd := lw_mg (i := 235) (by decide +kernel) rfl
theorem q236 : (.instanceMethod yX0_fill : Cond) ∈ lw_gd := lw_mg (i := 236) (by decide +kernel) rfl
theorem q237 : (.selects RX0 yX0_fill yX0_fill : Cond) ∈ lw_gd := lw_mg (i := 237) (by decide +kernel) rfl
theorem q238 : (.code yX0_fill cX0_fill 5 none : Cond) ∈ lw_gd := lw_mg (i := 238) (by decide +kernel) rfl
theorem q239 : (.methodLink RX0 54 yX0_fillSort : Cond) ∈ lw_gd := lw_mg (i := 239) (by decide +kernel) rfl
theorem q241 : (.instanceMethod yX0_fillSort : Cond) ∈ lw_gd := lw_mg (i := 241) (by decide +kernel) rfl
theorem q242 : (.code yX0_fillSort cX0_fillSort 4 none : Cond) ∈ lw_gd := lw_mg (i := 242) (by decide +kernel) rfl
theorem q243 : (.methodLink RX0 40 yX0_everySort : Cond) ∈ lw_gd := lw_mg (i := 243) (by decide +kernel) rfl
theorem q244 : (.instanceMethod yX0_everySort : Cond) ∈ lw_gd := lw_mg (i := 244) (by decide +kernel) rfl
theorem q245 : (.selects RX0 yX0_everySort yX0_everySort : Cond) ∈ lw_gd := lw_mg (i := 245) (by decide +kernel) rfl
theorem q246 : (.code yX0_everySort cX0_everySort 1 (some .int) : Cond) ∈ lw_gd := lw_mg (i := 246) (by decide +kernel) rfl
theorem q247 : (.methodLink RL 18 yX5_ofSort : Cond) ∈ lw_gd := lw_mg (i := 247) (by decide +kernel) rfl
theorem q248 : (.instanceMethod yX5_ofSort : Cond) ∈ lw_gd := lw_mg (i := 248) (by decide +kernel) rfl
theorem q249 : (.selects RX5 yX5_ofSort yX5_ofSort : Cond) ∈ lw_gd := lw_mg (i := 249) (by decide +kernel) rfl
theorem q250 : (.code yX5_ofSort cX5_ofSort 3 (some .int) : Cond) ∈ lw_gd := lw_mg (i := 250) (by decide +kernel) rfl
theorem q251 : (.methodLink RX5 90 yX0_isSort : Cond) ∈ lw_gd := lw_mg (i := 251) (by decide +kernel) rfl
theorem q252 : (.instanceMethod yX0_isSort : Cond) ∈ lw_gd := lw_mg (i := 252) (by decide +kernel) rfl
theorem q253 : (.selects RX0 yX0_isSort yX0_isSort : Cond) ∈ lw_gd := lw_mg (i := 253) (by decide +kernel) rfl
theorem q254 : (.code yX0_isSort cX0_isSort 2 (some .boolean) : Cond) ∈ lw_gd := lw_mg (i := 254) (by decide +kernel) rfl
theorem q255 : (.methodLink RX5 105 yX5_look : Cond) ∈ lw_gd := lw_mg (i := 255) (by decide +kernel) rfl
theorem q256 : (.static yX5_look : Cond) ∈ lw_gd := lw_mg (i := 256) (by decide +kernel) rfl
theorem q257 : (.code yX5_look cX5_look 2 (some .int) : Cond) ∈ lw_gd := lw_mg (i := 257) (by decide +kernel) rfl
theorem q258 : (.methodLink RL 23 yX5_ofSign : Cond) ∈ lw_gd := lw_mg (i := 258) (by decide +kernel) rfl
theorem q259 : (.instanceMethod yX5_ofSign : Cond) ∈ lw_gd := lw_mg (i := 259) (by decide +kernel) rfl
theorem q260 : (.selects RX5 yX5_ofSign yX5_ofSign : Cond) ∈ lw_gd := lw_mg (i := 260) (by decide +kernel) rfl
theorem q261 : (.code yX5_ofSign cX5_ofSign 2 (some .int) : Cond) ∈ lw_gd := lw_mg (i := 261) (by decide +kernel) rfl
theorem q262 : (.methodLink RX5 108 yX0_isSign : Cond) ∈ lw_gd := lw_mg (i := 262) (by decide +kernel) rfl
theorem q263 : (.instanceMethod yX0_isSign : Cond) ∈ lw_gd := lw_mg (i := 263) (by decide +kernel) rfl
theorem q264 : (.selects RX0 yX0_isSign yX0_isSign : Cond) ∈ lw_gd := lw_mg (i := 264) (by decide +kernel) rfl
theorem q265 : (.code yX0_isSign cX0_isSign 2 (some .boolean) : Cond) ∈ lw_gd := lw_mg (i := 265) (by decide +kernel) rfl
theorem q266 : (.methodLink RL 28 yX5_lay : Cond) ∈ lw_gd := lw_mg (i := 266) (by decide +kernel) rfl
theorem q267 : (.instanceMethod yX5_lay : Cond) ∈ lw_gd := lw_mg (i := 267) (by decide +kernel) rfl
theorem q268 : (.selects RX5 yX5_lay yX5_lay : Cond) ∈ lw_gd := lw_mg (i := 268) (by decide +kernel) rfl
theorem q269 : (.code yX5_lay cX5_lay 4 (some .int) : Cond) ∈ lw_gd := lw_mg (i := 269) (by decide +kernel) rfl
theorem q270 : (.methodLink RL 32 yX5_sign : Cond) ∈ lw_gd := lw_mg (i := 270) (by decide +kernel) rfl
theorem q271 : (.instanceMethod yX5_sign : Cond) ∈ lw_gd := lw_mg (i := 271) (by decide +kernel) rfl
theorem q272 : (.selects RX5 yX5_sign yX5_sign : Cond) ∈ lw_gd := lw_mg (i := 272) (by decide +kernel) rfl
theorem q273 : (.code yX5_sign cX5_sign 4 (some .int) : Cond) ∈ lw_gd := lw_mg (i := 273) (by decide +kernel) rfl
theorem q274 : (.methodLink RX5 114 yX0_everySort : Cond) ∈ lw_gd := lw_mg (i := 274) (by decide +kernel) rfl
theorem q275 : (.methodLink RL 36 yX5_plan : Cond) ∈ lw_gd := lw_mg (i := 275) (by decide +kernel) rfl
theorem q276 : (.instanceMethod yX5_plan : Cond) ∈ lw_gd := lw_mg (i := 276) (by decide +kernel) rfl
theorem q277 : (.selects RX5 yX5_plan yX5_plan : Cond) ∈ lw_gd := lw_mg (i := 277) (by decide +kernel) rfl
theorem q278 : (.code yX5_plan cX5_plan 7 (some .int) : Cond) ∈ lw_gd := lw_mg (i := 278) (by decide +kernel) rfl
theorem q279 : (.methodLink RX5 118 yX5_isOfPlans : Cond) ∈ lw_gd := lw_mg (i := 279) (by decide +kernel) rfl
theorem q280 : (.static yX5_isOfPlans : Cond) ∈ lw_gd := lw_mg (i := 280) (by decide +kernel) rfl
theorem q281 : (.code yX5_isOfPlans cX5_isOfPlans 1 (some .boolean) : Cond) ∈ lw_gd := lw_mg (i := 281) (by decide +kernel) rfl
theorem q282 : (.methodLink RX5 121 yX5_refusalOfRow : Cond) ∈ lw_gd := lw_mg (i := 282) (by decide +kernel) rfl
theorem q284 : (.instanceMethod yX5_refusalOfRow : Cond) ∈ lw_gd := lw_mg (i := 284) (by decide +kernel) rfl
theorem q285 : (.code yX5_refusalOfRow cX5_refusalOfRow 5 (some .int) : Cond) ∈ lw_gd := lw_mg (i := 285) (by decide +kernel) rfl
theorem q286 : (.methodLink RX5 166 yX0_isThere : Cond) ∈ lw_gd := lw_mg (i := 286) (by decide +kernel) rfl
theorem q287 : (.instanceMethod yX0_isThere : Cond) ∈ lw_gd := lw_mg (i := 287) (by decide +kernel) rfl
theorem q288 : (.selects RX0 yX0_isThere yX0_isThere : Cond) ∈ lw_gd := lw_mg (i := 288) (by decide +kernel) rfl
theorem q289 : (.code yX0_isThere cX0_isThere 1 (some .boolean) : Cond) ∈ lw_gd := lw_mg (i := 289) (by decide +kernel) rfl
theorem q290 : (.methodLink RX5 128 yX5_takeNumbers : Cond) ∈ lw_gd := lw_mg (i := 290) (by decide +kernel) rfl
theorem q292 : (.instanceMethod yX5_takeNumbers : Cond) ∈ lw_gd := lw_mg (i := 292) (by decide +kernel) rfl
theorem q293 : (.code yX5_takeNumbers cX5_takeNumbers 8 (some .int) : Cond) ∈ lw_gd := lw_mg (i := 293) (by decide +kernel) rfl
theorem q294 : (.methodLink RX5 132 yX4_go : Cond) ∈ lw_gd := lw_mg (i := 294) (by decide +kernel) rfl
theorem q295 : (.instanceMethod yX4_go : Cond) ∈ lw_gd := lw_mg (i := 295) (by decide +kernel) rfl
theorem q296 : (.selects RX4 yX4_go yX4_go : Cond) ∈ lw_gd := lw_mg (i := 296) (by decide +kernel) rfl
theorem q297 : (.code yX4_go cX4_go 5 none : Cond) ∈ lw_gd := lw_mg (i := 297) (by decide +kernel) rfl
theorem q298 : (.methodLink RX4 25 yX4_passBy : Cond) ∈ lw_gd := lw_mg (i := 298) (by decide +kernel) rfl
theorem q300 : (.instanceMethod yX4_passBy : Cond) ∈ lw_gd := lw_mg (i := 300) (by decide +kernel) rfl
theorem q301 : (.code yX4_passBy cX4_passBy 6 none : Cond) ∈ lw_gd := lw_mg (i := 301) (by decide +kernel) rfl
theorem q302 : (.methodLink RX4 29 yX0_waiting : Cond) ∈ lw_gd := lw_mg (i := 302) (by decide +kernel) rfl
theorem q303 : (.instanceMethod yX0_waiting : Cond) ∈ lw_gd := lw_mg (i := 303) (by decide +kernel) rfl
theorem q304 : (.selects RX0 yX0_waiting yX0_waiting : Cond) ∈ lw_gd := lw_mg (i := 304) (by decide +kernel) rfl
theorem q305 : (.code yX0_waiting cX0_waiting 4 (some .int) : Cond) ∈ lw_gd := lw_mg (i := 305) (by decide +kernel) rfl
theorem q306 : (.methodLink RX0 66 yX0_heapOf : Cond) ∈ lw_gd := lw_mg (i := 306) (by decide +kernel) rfl
theorem q307 : (.instanceMethod yX0_heapOf : Cond) ∈ lw_gd := lw_mg (i := 307) (by decide +kernel) rfl
theorem q308 : (.selects RX0 yX0_heapOf yX0_heapOf : Cond) ∈ lw_gd := lw_mg (i := 308) (by decide +kernel) rfl
theorem q309 : (.code yX0_heapOf cX0_heapOf 5 (some .int) : Cond) ∈ lw_gd := lw_mg (i := 309) (by decide +kernel) rfl
theorem q311 : (.static yX5_holds : Cond) ∈ lw_gd := lw_mg (i := 311) (by decide +kernel) rfl
theorem q312 : (.code yX5_holds cX5_holds 2 (some .boolean) : Cond) ∈ lw_gd := lw_mg (i := 312) (by decide +kernel) rfl
theorem q313 : (.methodLink RX4 35 yX0_secondsFor : Cond) ∈ lw_gd := lw_mg (i := 313) (by decide +kernel) rfl
theorem q314 : (.instanceMethod yX0_secondsFor : Cond) ∈ lw_gd := lw_mg (i := 314) (by decide +kernel) rfl
theorem q315 : (.selects RX0 yX0_secondsFor yX0_secondsFor : Cond) ∈ lw_gd := lw_mg (i := 315) (by decide +kernel) rfl
theorem q316 : (.code yX0_secondsFor cX0_secondsFor 4 (some .int) : Cond) ∈ lw_gd := lw_mg (i := 316) (by decide +kernel) rfl
theorem q318 : (.methodLink RX4 38 yX0_heaps : Cond) ∈ lw_gd := lw_mg (i := 318) (by decide +kernel) rfl
theorem q319 : (.instanceMethod yX0_heaps : Cond) ∈ lw_gd := lw_mg (i := 319) (by decide +kernel) rfl
theorem q320 : (.selects RX0 yX0_heaps yX0_heaps : Cond) ∈ lw_gd := lw_mg (i := 320) (by decide +kernel) rfl
theorem q321 : (.code yX0_heaps cX0_heaps 4 (some .int) : Cond) ∈ lw_gd := lw_mg (i := 321) (by decide +kernel) rfl
theorem q323 : (.static yX5_least : Cond) ∈ lw_gd := lw_mg (i := 323) (by decide +kernel) rfl
theorem q324 : (.code yX5_least cX5_least 2 (some .int) : Cond) ∈ lw_gd := lw_mg (i := 324) (by decide +kernel) rfl
theorem q325 : (.methodLink RX5 263 yX5_holds : Cond) ∈ lw_gd := lw_mg (i := 325) (by decide +kernel) rfl
theorem q326 : (.methodLink RX4 41 yX4_noteReady : Cond) ∈ lw_gd := lw_mg (i := 326) (by decide +kernel) rfl
theorem q328 : (.instanceMethod yX4_noteReady : Cond) ∈ lw_gd := lw_mg (i := 328) (by decide +kernel) rfl
theorem q329 : (.code yX4_noteReady cX4_noteReady 3 none : Cond) ∈ lw_gd := lw_mg (i := 329) (by decide +kernel) rfl
theorem q331 : (.methodLink RX5 144 yX0_heaps : Cond) ∈ lw_gd := lw_mg (i := 331) (by decide +kernel) rfl
theorem q332 : (.methodLink RX5 147 yX0_waiting : Cond) ∈ lw_gd := lw_mg (i := 332) (by decide +kernel) rfl
theorem q333 : (.methodLink RX5 150 yX5_readyBehind : Cond) ∈ lw_gd := lw_mg (i := 333) (by decide +kernel) rfl
theorem q335 : (.instanceMethod yX5_readyBehind : Cond) ∈ lw_gd := lw_mg (i := 335) (by decide +kernel) rfl
theorem q336 : (.code yX5_readyBehind cX5_readyBehind 2 (some .int) : Cond) ∈ lw_gd := lw_mg (i := 336) (by decide +kernel) rfl
theorem q337 : (.methodLink RX5 153 yX5_leastBeside : Cond) ∈ lw_gd := lw_mg (i := 337) (by decide +kernel) rfl
theorem q339 : (.instanceMethod yX5_leastBeside : Cond) ∈ lw_gd := lw_mg (i := 339) (by decide +kernel) rfl
theorem q340 : (.code yX5_leastBeside cX5_leastBeside 2 (some .int) : Cond) ∈ lw_gd := lw_mg (i := 340) (by decide +kernel) rfl
theorem q341 : (.methodLink RX5 257 yX0_heapOf : Cond) ∈ lw_gd := lw_mg (i := 341) (by decide +kernel) rfl
theorem q342 : (.methodLink RX5 260 yX5_least : Cond) ∈ lw_gd := lw_mg (i := 342) (by decide +kernel) rfl
theorem q343 : (.methodLink RL 41 yX5_line : Cond) ∈ lw_gd := lw_mg (i := 343) (by decide +kernel) rfl
theorem q344 : (.instanceMethod yX5_line : Cond) ∈ lw_gd := lw_mg (i := 344) (by decide +kernel) rfl
theorem q345 : (.selects RX5 yX5_line yX5_line : Cond) ∈ lw_gd := lw_mg (i := 345) (by decide +kernel) rfl
theorem q346 : (.code yX5_line cX5_line 6 (some .int) : Cond) ∈ lw_gd := lw_mg (i := 346) (by decide +kernel) rfl
theorem q347 : (.methodLink RX5 156 yX0_firstShort : Cond) ∈ lw_gd := lw_mg (i := 347) (by decide +kernel) rfl
theorem q348 : (.instanceMethod yX0_firstShort : Cond) ∈ lw_gd := lw_mg (i := 348) (by decide +kernel) rfl
theorem q349 : (.selects RX0 yX0_firstShort yX0_firstShort : Cond) ∈ lw_gd := lw_mg (i := 349) (by decide +kernel) rfl
theorem q350 : (.code yX0_firstShort cX0_firstShort 6 (some .int) : Cond) ∈ lw_gd := lw_mg (i := 350) (by decide +kernel) rfl
theorem q351 : (.methodLink RL 45 yX5_soon : Cond) ∈ lw_gd := lw_mg (i := 351) (by decide +kernel) rfl
theorem q352 : (.instanceMethod yX5_soon : Cond) ∈ lw_gd := lw_mg (i := 352) (by decide +kernel) rfl
theorem q353 : (.selects RX5 yX5_soon yX5_soon : Cond) ∈ lw_gd := lw_mg (i := 353) (by decide +kernel) rfl
theorem q354 : (.code yX5_soon cX5_soon 7 (some .int) : Cond) ∈ lw_gd := lw_mg (i := 354) (by decide +kernel) rfl
theorem q355 : (.methodLink RX5 160 yX0_isSet : Cond) ∈ lw_gd := lw_mg (i := 355) (by decide +kernel) rfl
theorem q356 : (.instanceMethod yX0_isSet : Cond) ∈ lw_gd := lw_mg (i := 356) (by decide +kernel) rfl
theorem q357 : (.selects RX0 yX0_isSet yX0_isSet : Cond) ∈ lw_gd := lw_mg (i := 357) (by decide +kernel) rfl
theorem q358 : (.code yX0_isSet cX0_isSet 2 (some .boolean) : Cond) ∈ lw_gd := lw_mg (i := 358) (by decide +kernel) rfl
theorem q359 : (.methodLink RX5 163 yX4_allReadyBehind : Cond) ∈ lw_gd := lw_mg (i := 359) (by decide +kernel) rfl
theorem q360 : (.instanceMethod yX4_allReadyBehind : Cond) ∈ lw_gd := lw_mg (i := 360) (by decide +kernel) rfl
theorem q361 : (.selects RX4 yX4_allReadyBehind yX4_allReadyBehind : Cond) ∈ lw_gd := lw_mg (i := 361) (by decide +kernel) rfl
theorem q362 : (.code yX4_allReadyBehind cX4_allReadyBehind 4 (some .int) : Cond) ∈ lw_gd := lw_mg (i := 362) (by decide +kernel) rfl
theorem q363 : (.methodLink RX4 49 yJ9_max_7cf53 : Cond) ∈ lw_gd := lw_mg (i := 363) (by decide +kernel) rfl
theorem q364 : (.static yJ9_max_7cf53 : Cond) ∈ lw_gd := lw_mg (i := 364) (by decide +kernel) rfl
theorem q365 : (.code yJ9_max_7cf53 cJ9_max_7cf53 2 (some .int) : Cond) ∈ lw_gd := lw_mg (i := 365) (by decide +kernel) rfl
theorem q366 : (.methodLink RL 49 yX5_order : Cond) ∈ lw_gd := lw_mg (i := 366) (by decide +kernel) rfl
theorem q367 : (.instanceMethod yX5_order : Cond) ∈ lw_gd := lw_mg (i := 367) (by decide +kernel) rfl
theorem q368 : (.selects RX5 yX5_order yX5_order : Cond) ∈ lw_gd := lw_mg (i := 368) (by decide +kernel) rfl
theorem q369 : (.code yX5_order cX5_order 2 (some .int) : Cond) ∈ lw_gd := lw_mg (i := 369) (by decide +kernel) rfl
theorem q370 : (.methodLink RX5 170 yX1_weighOrders : Cond) ∈ lw_gd := lw_mg (i := 370) (by decide +kernel) rfl
theorem q371 : (.instanceMethod yX1_weighOrders : Cond) ∈ lw_gd := lw_mg (i := 371) (by decide +kernel) rfl
theorem q372 : (.selects RX1 yX1_weighOrders yX1_weighOrders : Cond) ∈ lw_gd := lw_mg (i := 372) (by decide +kernel) rfl
theorem q373 : (.code yX1_weighOrders cX1_weighOrders 4 none : Cond) ∈ lw_gd := lw_mg (i := 373) (by decide +kernel) rfl
theorem q374 : (.methodLink RX1 24 yX0_waiting : Cond) ∈ lw_gd := lw_mg (i := 374) (by decide +kernel) rfl
theorem q375 : (.methodLink RX1 28 yX1_fewestFrom : Cond) ∈ lw_gd := lw_mg (i := 375) (by decide +kernel) rfl
theorem q377 : (.instanceMethod yX1_fewestFrom : Cond) ∈ lw_gd := lw_mg (i := 377) (by decide +kernel) rfl
theorem q378 : (.code yX1_fewestFrom cX1_fewestFrom 6 (some .int) : Cond) ∈ lw_gd := lw_mg (i := 378) (by decide +kernel) rfl
theorem q380 : (.methodLink RX1 36 yX1_fewer : Cond) ∈ lw_gd := lw_mg (i := 380) (by decide +kernel) rfl
theorem q381 : (.static yX1_fewer : Cond) ∈ lw_gd := lw_mg (i := 381) (by decide +kernel) rfl
theorem q382 : (.code yX1_fewer cX1_fewer 2 (some .int) : Cond) ∈ lw_gd := lw_mg (i := 382) (by decide +kernel) rfl
theorem q383 : (.methodLink RX1 43 yJ9_min_7cf53 : Cond) ∈ lw_gd := lw_mg (i := 383) (by decide +kernel) rfl
theorem q384 : (.static yJ9_min_7cf53 : Cond) ∈ lw_gd := lw_mg (i := 384) (by decide +kernel) rfl
theorem q385 : (.code yJ9_min_7cf53 cJ9_min_7cf53 2 (some .int) : Cond) ∈ lw_gd := lw_mg (i := 385) (by decide +kernel) rfl
theorem q386 : (.methodLink RX1 40 yX0_secondsFor : Cond) ∈ lw_gd := lw_mg (i := 386) (by decide +kernel) rfl
theorem q387 : (.methodLink RX5 174 yX1_fewestByOrder : Cond) ∈ lw_gd := lw_mg (i := 387) (by decide +kernel) rfl
theorem q388 : (.instanceMethod yX1_fewestByOrder : Cond) ∈ lw_gd := lw_mg (i := 388) (by decide +kernel) rfl
theorem q389 : (.selects RX1 yX1_fewestByOrder yX1_fewestByOrder : Cond) ∈ lw_gd := lw_mg (i := 389) (by decide +kernel) rfl
theorem q390 : (.code yX1_fewestByOrder cX1_fewestByOrder 1 (some .int) : Cond) ∈ lw_gd := lw_mg (i := 390) (by decide +kernel) rfl
theorem q391 : (.methodLink RX5 177 yX1_signOfOrder : Cond) ∈ lw_gd := lw_mg (i := 391) (by decide +kernel) rfl
theorem q392 : (.instanceMethod yX1_signOfOrder : Cond) ∈ lw_gd := lw_mg (i := 392) (by decide +kernel) rfl
theorem q393 : (.selects RX1 yX1_signOfOrder yX1_signOfOrder : Cond) ∈ lw_gd := lw_mg (i := 393) (by decide +kernel) rfl
theorem q394 : (.code yX1_signOfOrder cX1_signOfOrder 6 (some .int) : Cond) ∈ lw_gd := lw_mg (i := 394) (by decide +kernel) rfl
theorem q395 : (.methodLink RX1 48 yX1_nextSign : Cond) ∈ lw_gd := lw_mg (i := 395) (by decide +kernel) rfl
theorem q397 : (.instanceMethod yX1_nextSign : Cond) ∈ lw_gd := lw_mg (i := 397) (by decide +kernel) rfl
theorem q398 : (.code yX1_nextSign cX1_nextSign 6 (some .int) : Cond) ∈ lw_gd := lw_mg (i := 398) (by decide +kernel) rfl
theorem q399 : (.methodLink RL 53 yX5_tree : Cond) ∈ lw_gd := lw_mg (i := 399) (by decide +kernel) rfl
theorem q400 : (.instanceMethod yX5_tree : Cond) ∈ lw_gd := lw_mg (i := 400) (by decide +kernel) rfl
theorem q401 : (.selects RX5 yX5_tree yX5_tree : Cond) ∈ lw_gd := lw_mg (i := 401) (by decide +kernel) rfl
theorem q402 : (.code yX5_tree cX5_tree 2 (some .int) : Cond) ∈ lw_gd := lw_mg (i := 402) (by decide +kernel) rfl
theorem q403 : (.methodLink RX5 181 yX1_weighTrees : Cond) ∈ lw_gd := lw_mg (i := 403) (by decide +kernel) rfl
theorem q404 : (.instanceMethod yX1_weighTrees : Cond) ∈ lw_gd := lw_mg (i := 404) (by decide +kernel) rfl
theorem q405 : (.selects RX1 yX1_weighTrees yX1_weighTrees : Cond) ∈ lw_gd := lw_mg (i := 405) (by decide +kernel) rfl
theorem q406 : (.code yX1_weighTrees cX1_weighTrees 3 none : Cond) ∈ lw_gd := lw_mg (i := 406) (by decide +kernel) rfl
theorem q407 : (.methodLink RX1 52 yX0_everySort : Cond) ∈ lw_gd := lw_mg (i := 407) (by decide +kernel) rfl
theorem q408 : (.methodLink RX1 56 yJ6_bitCount_0f7a4 : Cond) ∈ lw_gd := lw_mg (i := 408) (by decide +kernel) rfl
theorem q409 : (.static yJ6_bitCount_0f7a4 : Cond) ∈ lw_gd := lw_mg (i := 409) (by decide +kernel) rfl
theorem q410 : (.code yJ6_bitCount_0f7a4 cJ6_bitCount_0f7a4 1 (some .int) : Cond) ∈ lw_gd := lw_mg (i := 410) (by decide +kernel) rfl
theorem q411 : (.constant RJ6 265 (1431655765) : Cond) ∈ lw_gd := lw_mg (i := 411) (by decide +kernel) rfl
theorem q412 : (.constant RJ6 266 (858993459) : Cond) ∈ lw_gd := lw_mg (i := 412) (by decide +kernel) rfl
theorem q413 : (.constant RJ6 267 (252645135) : Cond) ∈ lw_gd := lw_mg (i := 413) (by decide +kernel) rfl
theorem q414 : (.methodLink RX1 61 yX1_fewestOf : Cond) ∈ lw_gd := lw_mg (i := 414) (by decide +kernel) rfl
theorem q416 : (.instanceMethod yX1_fewestOf : Cond) ∈ lw_gd := lw_mg (i := 416) (by decide +kernel) rfl
theorem q417 : (.code yX1_fewestOf cX1_fewestOf 5 (some .int) : Cond) ∈ lw_gd := lw_mg (i := 417) (by decide +kernel) rfl
theorem q418 : (.methodLink RX1 64 yX1_behindParting : Cond) ∈ lw_gd := lw_mg (i := 418) (by decide +kernel) rfl
theorem q420 : (.instanceMethod yX1_behindParting : Cond) ∈ lw_gd := lw_mg (i := 420) (by decide +kernel) rfl
theorem q421 : (.code yX1_behindParting cX1_behindParting 6 (some .int) : Cond) ∈ lw_gd := lw_mg (i := 421) (by decide +kernel) rfl
theorem q422 : (.methodLink RX5 184 yX1_fewestByTree : Cond) ∈ lw_gd := lw_mg (i := 422) (by decide +kernel) rfl
theorem q423 : (.instanceMethod yX1_fewestByTree : Cond) ∈ lw_gd := lw_mg (i := 423) (by decide +kernel) rfl
theorem q424 : (.selects RX1 yX1_fewestByTree yX1_fewestByTree : Cond) ∈ lw_gd := lw_mg (i := 424) (by decide +kernel) rfl
theorem q425 : (.code yX1_fewestByTree cX1_fewestByTree 2 (some .int) : Cond) ∈ lw_gd := lw_mg (i := 425) (by decide +kernel) rfl
theorem q426 : (.methodLink RX5 188 yX1_firstOfTree : Cond) ∈ lw_gd := lw_mg (i := 426) (by decide +kernel) rfl
theorem q427 : (.instanceMethod yX1_firstOfTree : Cond) ∈ lw_gd := lw_mg (i := 427) (by decide +kernel) rfl
theorem q428 : (.selects RX1 yX1_firstOfTree yX1_firstOfTree : Cond) ∈ lw_gd := lw_mg (i := 428) (by decide +kernel) rfl
theorem q429 : (.code yX1_firstOfTree cX1_firstOfTree 5 (some .int) : Cond) ∈ lw_gd := lw_mg (i := 429) (by decide +kernel) rfl
theorem q430 : (.methodLink RL 57 yX5_odds : Cond) ∈ lw_gd := lw_mg (i := 430) (by decide +kernel) rfl
theorem q431 : (.instanceMethod yX5_odds : Cond) ∈ lw_gd := lw_mg (i := 431) (by decide +kernel) rfl
theorem q432 : (.selects RX5 yX5_odds yX5_odds : Cond) ∈ lw_gd := lw_mg (i := 432) (by decide +kernel) rfl
theorem q433 : (.code yX5_odds cX5_odds 10 (some .long) : Cond) ∈ lw_gd := lw_mg (i := 433) (by decide +kernel) rfl
theorem q434 : (.constantLong RX5 191 (-9223372036854775808) : Cond) ∈ lw_gd := lw_mg (i := 434) (by decide +kernel) rfl
theorem q435 : (.methodLink RX5 193 yX0_lettersAlike : Cond) ∈ lw_gd := lw_mg (i := 435) (by decide +kernel) rfl
theorem q436 : (.instanceMethod yX0_lettersAlike : Cond) ∈ lw_gd := lw_mg (i := 436) (by decide +kernel) rfl
theorem q437 : (.selects RX0 yX0_lettersAlike yX0_lettersAlike : Cond) ∈ lw_gd := lw_mg (i := 437) (by decide +kernel) rfl
theorem q438 : (.code yX0_lettersAlike cX0_lettersAlike 4 (some .int) : Cond) ∈ lw_gd := lw_mg (i := 438) (by decide +kernel) rfl
theorem q439 : (.methodLink RX5 196 yX5_waysOfAtLeast : Cond) ∈ lw_gd := lw_mg (i := 439) (by decide +kernel) rfl
theorem q440 : (.static yX5_waysOfAtLeast : Cond) ∈ lw_gd := lw_mg (i := 440) (by decide +kernel) rfl
theorem q441 : (.code yX5_waysOfAtLeast cX5_waysOfAtLeast 7 (some .long) : Cond) ∈ lw_gd := lw_mg (i := 441) (by decide +kernel) rfl
theorem q442 : (.methodLink RL 62 yX5_reading : Cond) ∈ lw_gd := lw_mg (i := 442) (by decide +kernel) rfl
theorem q443 : (.instanceMethod yX5_reading : Cond) ∈ lw_gd := lw_mg (i := 443) (by decide +kernel) rfl
theorem q444 : (.selects RX5 yX5_reading yX5_reading : Cond) ∈ lw_gd := lw_mg (i := 444) (by decide +kernel) rfl
theorem q445 : (.code yX5_reading cX5_reading 3 (some .int) : Cond) ∈ lw_gd := lw_mg (i := 445) (by decide +kernel) rfl
theorem q446 : (.methodLink RX5 203 yX0_note : Cond) ∈ lw_gd := lw_mg (i := 446) (by decide +kernel) rfl
theorem q447 : (.instanceMethod yX0_note : Cond) ∈ lw_gd := lw_mg (i := 447) (by decide +kernel) rfl
theorem q448 : (.selects RX0 yX0_note yX0_note : Cond) ∈ lw_gd := lw_mg (i := 448) (by decide +kernel) rfl
theorem q449 : (.code yX0_note cX0_note 3 (some .int) : Cond) ∈ lw_gd := lw_mg (i := 449) (by decide +kernel) rfl
theorem q450 : (.methodLink RL 66 yX5_back : Cond) ∈ lw_gd := lw_mg (i := 450) (by decide +kernel) rfl
theorem q451 : (.instanceMethod yX5_back : Cond) ∈ lw_gd := lw_mg (i := 451) (by decide +kernel) rfl
theorem q452 : (.selects RX5 yX5_back yX5_back : Cond) ∈ lw_gd := lw_mg (i := 452) (by decide +kernel) rfl
theorem q453 : (.code yX5_back cX5_back 2 (some .int) : Cond) ∈ lw_gd := lw_mg (i := 453) (by decide +kernel) rfl
theorem q454 : (.methodLink RL 70 yX5_counts : Cond) ∈ lw_gd := lw_mg (i := 454) (by decide +kernel) rfl
theorem q455 : (.instanceMethod yX5_counts : Cond) ∈ lw_gd := lw_mg (i := 455) (by decide +kernel) rfl
theorem q456 : (.selects RX5 yX5_counts yX5_counts : Cond) ∈ lw_gd := lw_mg (i := 456) (by decide +kernel) rfl
theorem q457 : (.code yX5_counts cX5_counts 4 (some .int) : Cond) ∈ lw_gd := lw_mg (i := 457) (by decide +kernel) rfl
theorem q458 : (.methodLink RX5 206 yX0_readingsHold : Cond) ∈ lw_gd := lw_mg (i := 458) (by decide +kernel) rfl
theorem q459 : (.instanceMethod yX0_readingsHold : Cond) ∈ lw_gd := lw_mg (i := 459) (by decide +kernel) rfl
theorem q460 : (.selects RX0 yX0_readingsHold yX0_readingsHold : Cond) ∈ lw_gd := lw_mg (i := 460) (by decide +kernel) rfl
theorem q461 : (.code yX0_readingsHold cX0_readingsHold 5 (some .boolean) : Cond) ∈ lw_gd := lw_mg (i := 461) (by decide +kernel) rfl
theorem q462 : (.methodLink RX0 73 yX0_secondsFor : Cond) ∈ lw_gd := lw_mg (i := 462) (by decide +kernel) rfl
theorem q463 : (.methodLink RL 74 yX5_kinds : Cond) ∈ lw_gd := lw_mg (i := 463) (by decide +kernel) rfl
theorem q464 : (.instanceMethod yX5_kinds : Cond) ∈ lw_gd := lw_mg (i := 464) (by decide +kernel) rfl
theorem q465 : (.selects RX5 yX5_kinds yX5_kinds : Cond) ∈ lw_gd := lw_mg (i := 465) (by decide +kernel) rfl
theorem q466 : (.code yX5_kinds cX5_kinds 4 (some .int) : Cond) ∈ lw_gd := lw_mg (i := 466) (by decide +kernel) rfl
theorem q467 : (.methodLink RL 78 yX5_speeds : Cond) ∈ lw_gd := lw_mg (i := 467) (by decide +kernel) rfl
theorem q468 : (.instanceMethod yX5_speeds : Cond) ∈ lw_gd := lw_mg (i := 468) (by decide +kernel) rfl
theorem q469 : (.selects RX5 yX5_speeds yX5_speeds : Cond) ∈ lw_gd := lw_mg (i := 469) (by decide +kernel) rfl
theorem q470 : (.code yX5_speeds cX5_speeds 4 (some .int) : Cond) ∈ lw_gd := lw_mg (i := 470) (by decide +kernel) rfl
theorem q471 : (.methodLink RL 82 yX5_sheet : Cond) ∈ lw_gd := lw_mg (i := 471) (by decide +kernel) rfl
theorem q472 : (.instanceMethod yX5_sheet : Cond) ∈ lw_gd := lw_mg (i := 472) (by decide +kernel) rfl
theorem q473 : (.selects RX5 yX5_sheet yX5_sheet : Cond) ∈ lw_gd := lw_mg (i := 473) (by decide +kernel) rfl
theorem q474 : (.code yX5_sheet cX5_sheet 4 (some .int) : Cond) ∈ lw_gd := lw_mg (i := 474) (by decide +kernel) rfl
theorem q475 : (.methodLink RX5 210 yX2_renew : Cond) ∈ lw_gd := lw_mg (i := 475) (by decide +kernel) rfl
theorem q476 : (.instanceMethod yX2_renew : Cond) ∈ lw_gd := lw_mg (i := 476) (by decide +kernel) rfl
theorem q477 : (.selects RX2 yX2_renew yX2_renew : Cond) ∈ lw_gd := lw_mg (i := 477) (by decide +kernel) rfl
theorem q478 : (.code yX2_renew cX2_renew 5 none : Cond) ∈ lw_gd := lw_mg (i := 478) (by decide +kernel) rfl
theorem q479 : (.methodLink RL 87 yX5_lose : Cond) ∈ lw_gd := lw_mg (i := 479) (by decide +kernel) rfl
theorem q480 : (.instanceMethod yX5_lose : Cond) ∈ lw_gd := lw_mg (i := 480) (by decide +kernel) rfl
theorem q481 : (.selects RX5 yX5_lose yX5_lose : Cond) ∈ lw_gd := lw_mg (i := 481) (by decide +kernel) rfl
theorem q482 : (.code yX5_lose cX5_lose 2 (some .int) : Cond) ∈ lw_gd := lw_mg (i := 482) (by decide +kernel) rfl
theorem q483 : (.methodLink RX5 214 yX2_clear : Cond) ∈ lw_gd := lw_mg (i := 483) (by decide +kernel) rfl
theorem q484 : (.instanceMethod yX2_clear : Cond) ∈ lw_gd := lw_mg (i := 484) (by decide +kernel) rfl
theorem q485 : (.selects RX2 yX2_clear yX2_clear : Cond) ∈ lw_gd := lw_mg (i := 485) (by decide +kernel) rfl
theorem q486 : (.code yX2_clear cX2_clear 3 (some .boolean) : Cond) ∈ lw_gd := lw_mg (i := 486) (by decide +kernel) rfl
theorem q487 : (.methodLink RL 91 yX5_put : Cond) ∈ lw_gd := lw_mg (i := 487) (by decide +kernel) rfl
theorem q488 : (.instanceMethod yX5_put : Cond) ∈ lw_gd := lw_mg (i := 488) (by decide +kernel) rfl
theorem q489 : (.selects RX5 yX5_put yX5_put : Cond) ∈ lw_gd := lw_mg (i := 489) (by decide +kernel) rfl
theorem q490 : (.code yX5_put cX5_put 5 (some .int) : Cond) ∈ lw_gd := lw_mg (i := 490) (by decide +kernel) rfl
theorem q491 : (.methodLink RX5 217 yX2_faultOfCell : Cond) ∈ lw_gd := lw_mg (i := 491) (by decide +kernel) rfl
theorem q492 : (.instanceMethod yX2_faultOfCell : Cond) ∈ lw_gd := lw_mg (i := 492) (by decide +kernel) rfl
theorem q493 : (.selects RX2 yX2_faultOfCell yX2_faultOfCell : Cond) ∈ lw_gd := lw_mg (i := 493) (by decide +kernel) rfl
theorem q494 : (.code yX2_faultOfCell cX2_faultOfCell 3 (some .int) : Cond) ∈ lw_gd := lw_mg (i := 494) (by decide +kernel) rfl
theorem q495 : (.methodLink RX5 220 yX2_write : Cond) ∈ lw_gd := lw_mg (i := 495) (by decide +kernel) rfl
theorem q496 : (.instanceMethod yX2_write : Cond) ∈ lw_gd := lw_mg (i := 496) (by decide +kernel) rfl
theorem q497 : (.selects RX2 yX2_write yX2_write : Cond) ∈ lw_gd := lw_mg (i := 497) (by decide +kernel) rfl
theorem q498 : (.code yX2_write cX2_write 4 none : Cond) ∈ lw_gd := lw_mg (i := 498) (by decide +kernel) rfl
theorem q499 : (.methodLink RX2 25 yX2_cut : Cond) ∈ lw_gd := lw_mg (i := 499) (by decide +kernel) rfl
theorem q500 : (.static yX2_cut : Cond) ∈ lw_gd := lw_mg (i := 500) (by decide +kernel) rfl
theorem q501 : (.code yX2_cut cX2_cut 2 (some .int) : Cond) ∈ lw_gd := lw_mg (i := 501) (by decide +kernel) rfl
theorem q502 : (.methodLink RL 95 yX5_cell : Cond) ∈ lw_gd := lw_mg (i := 502) (by decide +kernel) rfl
theorem q503 : (.instanceMethod yX5_cell : Cond) ∈ lw_gd := lw_mg (i := 503) (by decide +kernel) rfl
theorem q504 : (.selects RX5 yX5_cell yX5_cell : Cond) ∈ lw_gd := lw_mg (i := 504) (by decide +kernel) rfl
theorem q505 : (.code yX5_cell cX5_cell 4 (some .long) : Cond) ∈ lw_gd := lw_mg (i := 505) (by decide +kernel) rfl
theorem q506 : (.methodLink RX5 223 yX2_read : Cond) ∈ lw_gd := lw_mg (i := 506) (by decide +kernel) rfl
theorem q507 : (.instanceMethod yX2_read : Cond) ∈ lw_gd := lw_mg (i := 507) (by decide +kernel) rfl
theorem q508 : (.selects RX2 yX2_read yX2_read : Cond) ∈ lw_gd := lw_mg (i := 508) (by decide +kernel) rfl
theorem q509 : (.code yX2_read cX2_read 3 (some .int) : Cond) ∈ lw_gd := lw_mg (i := 509) (by decide +kernel) rfl
theorem q510 : (.methodLink RL 99 yX5_copy : Cond) ∈ lw_gd := lw_mg (i := 510) (by decide +kernel) rfl
theorem q511 : (.instanceMethod yX5_copy : Cond) ∈ lw_gd := lw_mg (i := 511) (by decide +kernel) rfl
theorem q512 : (.selects RX5 yX5_copy yX5_copy : Cond) ∈ lw_gd := lw_mg (i := 512) (by decide +kernel) rfl
theorem q513 : (.code yX5_copy cX5_copy 7 (some .int) : Cond) ∈ lw_gd := lw_mg (i := 513) (by decide +kernel) rfl
theorem q514 : (.methodLink RX5 226 yX2_faultOfPair : Cond) ∈ lw_gd := lw_mg (i := 514) (by decide +kernel) rfl
theorem q515 : (.instanceMethod yX2_faultOfPair : Cond) ∈ lw_gd := lw_mg (i := 515) (by decide +kernel) rfl
theorem q516 : (.selects RX2 yX2_faultOfPair yX2_faultOfPair : Cond) ∈ lw_gd := lw_mg (i := 516) (by decide +kernel) rfl
theorem q517 : (.code yX2_faultOfPair cX2_faultOfPair 3 (some .int) : Cond) ∈ lw_gd := lw_mg (i := 517) (by decide +kernel) rfl
theorem q518 : (.methodLink RX5 229 yX2_move : Cond) ∈ lw_gd := lw_mg (i := 518) (by decide +kernel) rfl
theorem q519 : (.instanceMethod yX2_move : Cond) ∈ lw_gd := lw_mg (i := 519) (by decide +kernel) rfl
theorem q520 : (.selects RX2 yX2_move yX2_move : Cond) ∈ lw_gd := lw_mg (i := 520) (by decide +kernel) rfl
theorem q521 : (.code yX2_move cX2_move 6 none : Cond) ∈ lw_gd := lw_mg (i := 521) (by decide +kernel) rfl
theorem q522 : (.methodLink RL 103 yX5_tell : Cond) ∈ lw_gd := lw_mg (i := 522) (by decide +kernel) rfl
theorem q523 : (.instanceMethod yX5_tell : Cond) ∈ lw_gd := lw_mg (i := 523) (by decide +kernel) rfl
theorem q524 : (.selects RX5 yX5_tell yX5_tell : Cond) ∈ lw_gd := lw_mg (i := 524) (by decide +kernel) rfl
theorem q525 : (.code yX5_tell cX5_tell 2 (some .int) : Cond) ∈ lw_gd := lw_mg (i := 525) (by decide +kernel) rfl
theorem q526 : (.methodLink RX5 233 yX5_tellDoubtful : Cond) ∈ lw_gd := lw_mg (i := 526) (by decide +kernel) rfl
theorem q528 : (.instanceMethod yX5_tellDoubtful : Cond) ∈ lw_gd := lw_mg (i := 528) (by decide +kernel) rfl
theorem q529 : (.code yX5_tellDoubtful cX5_tellDoubtful 2 (some .int) : Cond) ∈ lw_gd := lw_mg (i := 529) (by decide +kernel) rfl
theorem q530 : (.methodLink RX5 266 yX5_leave : Cond) ∈ lw_gd := lw_mg (i := 530) (by decide +kernel) rfl
theorem q532 : (.instanceMethod yX5_leave : Cond) ∈ lw_gd := lw_mg (i := 532) (by decide +kernel) rfl
theorem q533 : (.code yX5_leave cX5_leave 2 none : Cond) ∈ lw_gd := lw_mg (i := 533) (by decide +kernel) rfl
theorem q534 : (.methodLink RX5 236 yX5_tellSure : Cond) ∈ lw_gd := lw_mg (i := 534) (by decide +kernel) rfl
theorem q536 : (.instanceMethod yX5_tellSure : Cond) ∈ lw_gd := lw_mg (i := 536) (by decide +kernel) rfl
theorem q537 : (.code yX5_tellSure cX5_tellSure 2 (some .int) : Cond) ∈ lw_gd := lw_mg (i := 537) (by decide +kernel) rfl
theorem q538 : (.methodLink RX5 239 yX5_tellPicking : Cond) ∈ lw_gd := lw_mg (i := 538) (by decide +kernel) rfl
theorem q540 : (.instanceMethod yX5_tellPicking : Cond) ∈ lw_gd := lw_mg (i := 540) (by decide +kernel) rfl
theorem q541 : (.code yX5_tellPicking cX5_tellPicking 2 (some .int) : Cond) ∈ lw_gd := lw_mg (i := 541) (by decide +kernel) rfl
theorem q542 : (.methodLink RL 107 yX5_drop : Cond) ∈ lw_gd := lw_mg (i := 542) (by decide +kernel) rfl
theorem q543 : (.instanceMethod yX5_drop : Cond) ∈ lw_gd := lw_mg (i := 543) (by decide +kernel) rfl
theorem q544 : (.selects RX5 yX5_drop yX5_drop : Cond) ∈ lw_gd := lw_mg (i := 544) (by decide +kernel) rfl
theorem q545 : (.code yX5_drop cX5_drop 2 (some .int) : Cond) ∈ lw_gd := lw_mg (i := 545) (by decide +kernel) rfl
theorem q546 : (.methodLink RX5 242 yX5_dropByOwn : Cond) ∈ lw_gd := lw_mg (i := 546) (by decide +kernel) rfl
theorem q548 : (.instanceMethod yX5_dropByOwn : Cond) ∈ lw_gd := lw_mg (i := 548) (by decide +kernel) rfl
theorem q549 : (.code yX5_dropByOwn cX5_dropByOwn 1 (some .int) : Cond) ∈ lw_gd := lw_mg (i := 549) (by decide +kernel) rfl
theorem q550 : (.methodLink RX5 245 yX5_dropByLent : Cond) ∈ lw_gd := lw_mg (i := 550) (by decide +kernel) rfl
theorem q552 : (.instanceMethod yX5_dropByLent : Cond) ∈ lw_gd := lw_mg (i := 552) (by decide +kernel) rfl
theorem q553 : (.code yX5_dropByLent cX5_dropByLent 2 (some .int) : Cond) ∈ lw_gd := lw_mg (i := 553) (by decide +kernel) rfl
theorem q554 : (.methodLink RL 111 yX5_as : Cond) ∈ lw_gd := lw_mg (i := 554) (by decide +kernel) rfl
theorem q555 : (.instanceMethod yX5_as : Cond) ∈ lw_gd := lw_mg (i := 555) (by decide +kernel) rfl
theorem q556 : (.selects RX5 yX5_as yX5_as : Cond) ∈ lw_gd := lw_mg (i := 556) (by decide +kernel) rfl
theorem q557 : (.code yX5_as cX5_as 3 (some .int) : Cond) ∈ lw_gd := lw_mg (i := 557) (by decide +kernel) rfl
theorem q558 : (.methodLink RL 115 yX5_trace : Cond) ∈ lw_gd := lw_mg (i := 558) (by decide +kernel) rfl
theorem q559 : (.instanceMethod yX5_trace : Cond) ∈ lw_gd := lw_mg (i := 559) (by decide +kernel) rfl
theorem q560 : (.selects RX5 yX5_trace yX5_trace : Cond) ∈ lw_gd := lw_mg (i := 560) (by decide +kernel) rfl
theorem q561 : (.code yX5_trace cX5_trace 1 (some .int) : Cond) ∈ lw_gd := lw_mg (i := 561) (by decide +kernel) rfl
theorem q562 : (.methodLink RL 120 yX5_fault : Cond) ∈ lw_gd := lw_mg (i := 562) (by decide +kernel) rfl
theorem q563 : (.instanceMethod yX5_fault : Cond) ∈ lw_gd := lw_mg (i := 563) (by decide +kernel) rfl
theorem q564 : (.selects RX5 yX5_fault yX5_fault : Cond) ∈ lw_gd := lw_mg (i := 564) (by decide +kernel) rfl
theorem q565 : (.code yX5_fault cX5_fault 1 (some .int) : Cond) ∈ lw_gd := lw_mg (i := 565) (by decide +kernel) rfl
theorem q566 : (.methodLink RL 124 yX5_many : Cond) ∈ lw_gd := lw_mg (i := 566) (by decide +kernel) rfl
theorem q567 : (.instanceMethod yX5_many : Cond) ∈ lw_gd := lw_mg (i := 567) (by decide +kernel) rfl
theorem q568 : (.selects RX5 yX5_many yX5_many : Cond) ∈ lw_gd := lw_mg (i := 568) (by decide +kernel) rfl
theorem q569 : (.code yX5_many cX5_many 2 (some .int) : Cond) ∈ lw_gd := lw_mg (i := 569) (by decide +kernel) rfl
theorem q570 : (.methodLink RX5 251 yX0_letters : Cond) ∈ lw_gd := lw_mg (i := 570) (by decide +kernel) rfl
theorem q571 : (.instanceMethod yX0_letters : Cond) ∈ lw_gd := lw_mg (i := 571) (by decide +kernel) rfl
theorem q572 : (.selects RX0 yX0_letters yX0_letters : Cond) ∈ lw_gd := lw_mg (i := 572) (by decide +kernel) rfl
theorem q573 : (.code yX0_letters cX0_letters 3 (some .int) : Cond) ∈ lw_gd := lw_mg (i := 573) (by decide +kernel) rfl
theorem q574 : (.classLink RL 10 RX6 : Cond) ∈ lw_gd := lw_mg (i := 574) (by decide +kernel) rfl
theorem q575 : (.instantiable RX6 32 : Cond) ∈ lw_gd := lw_mg (i := 575) (by decide +kernel) rfl
theorem q576 : (.methodLink RL 12 yX6_init : Cond) ∈ lw_gd := lw_mg (i := 576) (by decide +kernel) rfl
theorem q577 : (.instanceMethod yX6_init : Cond) ∈ lw_gd := lw_mg (i := 577) (by decide +kernel) rfl
theorem q578 : (.code yX6_init cX6_init 2 none : Cond) ∈ lw_gd := lw_mg (i := 578) (by decide +kernel) rfl
theorem q579 : (.methodLink RX6 1 (⟨"java/lang/Object", "<init>", "()V"⟩ : MethodName) : Cond) ∈ lw_gd := lw_mg (i := 579) (by decide +kernel) rfl
theorem q580 : (.fieldLink RX6 78 "FloorTypeModel" "fault" "I" : Cond) ∈ lw_gd := lw_mg (i := 580) (by decide +kernel) rfl
theorem q581 : (.fieldLink RX6 86 "FloorTypeModel" "sorts" "I" : Cond) ∈ lw_gd := lw_mg (i := 581) (by decide +kernel) rfl
theorem q582 : (.fieldLink RX6 7 "FloorTypeModel" "kindOf" "[I" : Cond) ∈ lw_gd := lw_mg (i := 582) (by decide +kernel) rfl
theorem q583 : (.fieldLink RX6 13 "FloorTypeModel" "countOf" "[I" : Cond) ∈ lw_gd := lw_mg (i := 583) (by decide +kernel) rfl
theorem q584 : (.fieldLink RX6 16 "FloorTypeModel" "secondsOf" "[I" : Cond) ∈ lw_gd := lw_mg (i := 584) (by decide +kernel) rfl
theorem q585 : (.fieldLink RX6 19 "FloorTypeModel" "alikeOf" "[I" : Cond) ∈ lw_gd := lw_mg (i := 585) (by decide +kernel) rfl
theorem q586 : (.fieldLink RX6 93 "FloorTypeModel" "signs" "I" : Cond) ∈ lw_gd := lw_mg (i := 586) (by decide +kernel) rfl
theorem q587 : (.fieldLink RX6 22 "FloorTypeModel" "hadBy" "[I" : Cond) ∈ lw_gd := lw_mg (i := 587) (by decide +kernel) rfl
theorem q588 : (.fieldLink RX6 96 "FloorTypeModel" "readAt" "I" : Cond) ∈ lw_gd := lw_mg (i := 588) (by decide +kernel) rfl
theorem q589 : (.fieldLink RX6 103 "FloorTypeModel" "readSorts" "I" : Cond) ∈ lw_gd := lw_mg (i := 589) (by decide +kernel) rfl
theorem q590 : (.fieldLink RX6 110 "FloorTypeModel" "readSigns" "I" : Cond) ∈ lw_gd := lw_mg (i := 590) (by decide +kernel) rfl
theorem q591 : (.fieldLink RX6 25 "FloorTypeModel" "readKind" "[I" : Cond) ∈ lw_gd := lw_mg (i := 591) (by decide +kernel) rfl
theorem q592 : (.fieldLink RX6 28 "FloorTypeModel" "readCount" "[I" : Cond) ∈ lw_gd := lw_mg (i := 592) (by decide +kernel) rfl
theorem q593 : (.fieldLink RX6 31 "FloorTypeModel" "readSeconds" "[I" : Cond) ∈ lw_gd := lw_mg (i := 593) (by decide +kernel) rfl
theorem q594 : (.fieldLink RX6 34 "FloorTypeModel" "readAlike" "[I" : Cond) ∈ lw_gd := lw_mg (i := 594) (by decide +kernel) rfl
theorem q595 : (.fieldLink RX6 37 "FloorTypeModel" "readHad" "[I" : Cond) ∈ lw_gd := lw_mg (i := 595) (by decide +kernel) rfl
theorem q596 : (.fieldLink RX6 40 "FloorTypeModel" "heapOf" "[I" : Cond) ∈ lw_gd := lw_mg (i := 596) (by decide +kernel) rfl
theorem q597 : (.fieldLink RX6 43 "FloorTypeModel" "readyAt" "[I" : Cond) ∈ lw_gd := lw_mg (i := 597) (by decide +kernel) rfl
theorem q598 : (.fieldLink RX6 167 "FloorTypeModel" "spent" "I" : Cond) ∈ lw_gd := lw_mg (i := 598) (by decide +kernel) rfl
theorem q599 : (.fieldLink RX6 170 "FloorTypeModel" "idleAt" "I" : Cond) ∈ lw_gd := lw_mg (i := 599) (by decide +kernel) rfl
theorem q600 : (.fieldLink RX6 46 "FloorTypeModel" "setOf" "[I" : Cond) ∈ lw_gd := lw_mg (i := 600) (by decide +kernel) rfl
theorem q601 : (.fieldLink RX6 49 "FloorTypeModel" "triedOf" "[I" : Cond) ∈ lw_gd := lw_mg (i := 601) (by decide +kernel) rfl
theorem q602 : (.fieldLink RX6 52 "FloorTypeModel" "treeOf" "[I" : Cond) ∈ lw_gd := lw_mg (i := 602) (by decide +kernel) rfl
theorem q603 : (.fieldLink RX6 55 "FloorTypeModel" "firstOf" "[I" : Cond) ∈ lw_gd := lw_mg (i := 603) (by decide +kernel) rfl
theorem q604 : (.fieldLink RX6 144 "FloorTypeModel" "readings" "I" : Cond) ∈ lw_gd := lw_mg (i := 604) (by decide +kernel) rfl
theorem q605 : (.fieldLink RX6 58 "FloorTypeModel" "readingSet" "[I" : Cond) ∈ lw_gd := lw_mg (i := 605) (by decide +kernel) rfl
theorem q606 : (.fieldLink RX6 61 "FloorTypeModel" "readingTook" "[I" : Cond) ∈ lw_gd := lw_mg (i := 606) (by decide +kernel) rfl
theorem q607 : (.fieldLink RX6 64 "FloorTypeModel" "sheetSize" "[I" : Cond) ∈ lw_gd := lw_mg (i := 607) (by decide +kernel) rfl
theorem q608 : (.fieldLink RX6 67 "FloorTypeModel" "sheetLane" "[I" : Cond) ∈ lw_gd := lw_mg (i := 608) (by decide +kernel) rfl
theorem q609 : (.fieldLink RX6 70 "FloorTypeModel" "sheet" "[I" : Cond) ∈ lw_gd := lw_mg (i := 609) (by decide +kernel) rfl
theorem q610 : (.fieldLink RX6 73 "FloorTypeModel" "hands" "[I" : Cond) ∈ lw_gd := lw_mg (i := 610) (by decide +kernel) rfl
theorem q611 : (.fieldLink RX6 244 "FloorTypeModel" "traceNow" "I" : Cond) ∈ lw_gd := lw_mg (i := 611) (by decide +kernel) rfl
theorem q677 : (.methodLink RL 17 yX6_floor : Cond) ∈ lw_gd := lw_mg (i := 677) (by decide +kernel) rfl
theorem q678 : (.instanceMethod yX6_floor : Cond) ∈ lw_gd := lw_mg (i := 678) (by decide +kernel) rfl
theorem q679 : (.selects RX6 yX6_floor yX6_floor : Cond) ∈ lw_gd := lw_mg (i := 679) (by decide +kernel) rfl
theorem q680 : (.code yX6_floor cX6_floor 7 (some .int) : Cond) ∈ lw_gd := lw_mg (i := 680) (by decide +kernel) rfl
theorem q681 : (.methodLink RX6 128 yX6_noSheet : Cond) ∈ lw_gd := lw_mg (i := 681) (by decide +kernel) rfl
theorem q682 : (.static yX6_noSheet : Cond) ∈ lw_gd := lw_mg (i := 682) (by decide +kernel) rfl
theorem q683 : (.code yX6_noSheet cX6_noSheet 1 (some .boolean) : Cond) ∈ lw_gd := lw_mg (i := 683) (by decide +kernel) rfl
theorem q684 : (.constantLong RX6 189 (3) : Cond) ∈ lw_gd := lw_mg (i := 684) (by decide +kernel) rfl
theorem q685 : (.methodLink RX6 89 yX6_in : Cond) ∈ lw_gd := lw_mg (i := 685) (by decide +kernel) rfl
theorem q686 : (.static yX6_in : Cond) ∈ lw_gd := lw_mg (i := 686) (by decide +kernel) rfl
theorem q687 : (.code yX6_in cX6_in 6 (some .boolean) : Cond) ∈ lw_gd := lw_mg (i := 687) (by decide +kernel) rfl
theorem q688 : (.methodLink RX6 132 yX6_refused : Cond) ∈ lw_gd := lw_mg (i := 688) (by decide +kernel) rfl
theorem q690 : (.instanceMethod yX6_refused : Cond) ∈ lw_gd := lw_mg (i := 690) (by decide +kernel) rfl
theorem q691 : (.code yX6_refused cX6_refused 2 (some .int) : Cond) ∈ lw_gd := lw_mg (i := 691) (by decide +kernel) rfl
theorem q692 : (.constantLong RX6 135 (2) : Cond) ∈ lw_gd := lw_mg (i := 692) (by decide +kernel) rfl
theorem q693 : (.methodLink RX6 137 yX6_cellsBarred : Cond) ∈ lw_gd := lw_mg (i := 693) (by decide +kernel) rfl
theorem q695 : (.instanceMethod yX6_cellsBarred : Cond) ∈ lw_gd := lw_mg (i := 695) (by decide +kernel) rfl
theorem q696 : (.code yX6_cellsBarred cX6_cellsBarred 6 (some .int) : Cond) ∈ lw_gd := lw_mg (i := 696) (by decide +kernel) rfl
theorem q697 : (.methodLink RX6 120 yX6_failed : Cond) ∈ lw_gd := lw_mg (i := 697) (by decide +kernel) rfl
theorem q699 : (.instanceMethod yX6_failed : Cond) ∈ lw_gd := lw_mg (i := 699) (by decide +kernel) rfl
theorem q700 : (.code yX6_failed cX6_failed 2 (some .int) : Cond) ∈ lw_gd := lw_mg (i := 700) (by decide +kernel) rfl
theorem q701 : (.methodLink RX6 124 yX6_isBeyond : Cond) ∈ lw_gd := lw_mg (i := 701) (by decide +kernel) rfl
theorem q702 : (.static yX6_isBeyond : Cond) ∈ lw_gd := lw_mg (i := 702) (by decide +kernel) rfl
theorem q703 : (.code yX6_isBeyond cX6_isBeyond 4 (some .boolean) : Cond) ∈ lw_gd := lw_mg (i := 703) (by decide +kernel) rfl
theorem q704 : (.methodLink RX6 141 yX6_readsFloor : Cond) ∈ lw_gd := lw_mg (i := 704) (by decide +kernel) rfl
theorem q706 : (.instanceMethod yX6_readsFloor : Cond) ∈ lw_gd := lw_mg (i := 706) (by decide +kernel) rfl
theorem q707 : (.code yX6_readsFloor cX6_readsFloor 4 (some .boolean) : Cond) ∈ lw_gd := lw_mg (i := 707) (by decide +kernel) rfl
theorem q708 : (.methodLink RX6 99 yX6_codeAt : Cond) ∈ lw_gd := lw_mg (i := 708) (by decide +kernel) rfl
theorem q710 : (.instanceMethod yX6_codeAt : Cond) ∈ lw_gd := lw_mg (i := 710) (by decide +kernel) rfl
theorem q711 : (.code yX6_codeAt cX6_codeAt 3 (some .int) : Cond) ∈ lw_gd := lw_mg (i := 711) (by decide +kernel) rfl
theorem q712 : (.methodLink RX6 113 yX6_readsSort : Cond) ∈ lw_gd := lw_mg (i := 712) (by decide +kernel) rfl
theorem q714 : (.instanceMethod yX6_readsSort : Cond) ∈ lw_gd := lw_mg (i := 714) (by decide +kernel) rfl
theorem q715 : (.code yX6_readsSort cX6_readsSort 7 (some .boolean) : Cond) ∈ lw_gd := lw_mg (i := 715) (by decide +kernel) rfl
theorem q716 : (.methodLink RX6 106 yX6_figure : Cond) ∈ lw_gd := lw_mg (i := 716) (by decide +kernel) rfl
theorem q718 : (.instanceMethod yX6_figure : Cond) ∈ lw_gd := lw_mg (i := 718) (by decide +kernel) rfl
theorem q719 : (.code yX6_figure cX6_figure 7 (some .int) : Cond) ∈ lw_gd := lw_mg (i := 719) (by decide +kernel) rfl
theorem q720 : (.methodLink RX6 117 yX6_readsSign : Cond) ∈ lw_gd := lw_mg (i := 720) (by decide +kernel) rfl
theorem q722 : (.instanceMethod yX6_readsSign : Cond) ∈ lw_gd := lw_mg (i := 722) (by decide +kernel) rfl
theorem q723 : (.code yX6_readsSign cX6_readsSign 5 (some .boolean) : Cond) ∈ lw_gd := lw_mg (i := 723) (by decide +kernel) rfl
theorem q724 : (.methodLink RL 22 yX6_ofSort : Cond) ∈ lw_gd := lw_mg (i := 724) (by decide +kernel) rfl
theorem q725 : (.instanceMethod yX6_ofSort : Cond) ∈ lw_gd := lw_mg (i := 725) (by decide +kernel) rfl
theorem q726 : (.selects RX6 yX6_ofSort yX6_ofSort : Cond) ∈ lw_gd := lw_mg (i := 726) (by decide +kernel) rfl
theorem q727 : (.code yX6_ofSort cX6_ofSort 3 (some .int) : Cond) ∈ lw_gd := lw_mg (i := 727) (by decide +kernel) rfl
theorem q728 : (.methodLink RX6 153 yX6_noSort : Cond) ∈ lw_gd := lw_mg (i := 728) (by decide +kernel) rfl
theorem q730 : (.instanceMethod yX6_noSort : Cond) ∈ lw_gd := lw_mg (i := 730) (by decide +kernel) rfl
theorem q731 : (.code yX6_noSort cX6_noSort 2 (some .boolean) : Cond) ∈ lw_gd := lw_mg (i := 731) (by decide +kernel) rfl
theorem q732 : (.methodLink RX6 150 yX6_lookOf : Cond) ∈ lw_gd := lw_mg (i := 732) (by decide +kernel) rfl
theorem q734 : (.instanceMethod yX6_lookOf : Cond) ∈ lw_gd := lw_mg (i := 734) (by decide +kernel) rfl
theorem q735 : (.code yX6_lookOf cX6_lookOf 3 (some .int) : Cond) ∈ lw_gd := lw_mg (i := 735) (by decide +kernel) rfl
theorem q736 : (.methodLink RL 27 yX6_ofSign : Cond) ∈ lw_gd := lw_mg (i := 736) (by decide +kernel) rfl
theorem q737 : (.instanceMethod yX6_ofSign : Cond) ∈ lw_gd := lw_mg (i := 737) (by decide +kernel) rfl
theorem q738 : (.selects RX6 yX6_ofSign yX6_ofSign : Cond) ∈ lw_gd := lw_mg (i := 738) (by decide +kernel) rfl
theorem q739 : (.code yX6_ofSign cX6_ofSign 2 (some .int) : Cond) ∈ lw_gd := lw_mg (i := 739) (by decide +kernel) rfl
theorem q740 : (.methodLink RX6 156 yX6_noSign : Cond) ∈ lw_gd := lw_mg (i := 740) (by decide +kernel) rfl
theorem q742 : (.instanceMethod yX6_noSign : Cond) ∈ lw_gd := lw_mg (i := 742) (by decide +kernel) rfl
theorem q743 : (.code yX6_noSign cX6_noSign 2 (some .boolean) : Cond) ∈ lw_gd := lw_mg (i := 743) (by decide +kernel) rfl
theorem q744 : (.methodLink RX6 159 yX6_all : Cond) ∈ lw_gd := lw_mg (i := 744) (by decide +kernel) rfl
theorem q746 : (.instanceMethod yX6_all : Cond) ∈ lw_gd := lw_mg (i := 746) (by decide +kernel) rfl
theorem q747 : (.code yX6_all cX6_all 1 (some .int) : Cond) ∈ lw_gd := lw_mg (i := 747) (by decide +kernel) rfl
theorem q748 : (.methodLink RL 31 yX6_lay : Cond) ∈ lw_gd := lw_mg (i := 748) (by decide +kernel) rfl
theorem q749 : (.instanceMethod yX6_lay : Cond) ∈ lw_gd := lw_mg (i := 749) (by decide +kernel) rfl
theorem q750 : (.selects RX6 yX6_lay yX6_lay : Cond) ∈ lw_gd := lw_mg (i := 750) (by decide +kernel) rfl
theorem q751 : (.code yX6_lay cX6_lay 4 (some .int) : Cond) ∈ lw_gd := lw_mg (i := 751) (by decide +kernel) rfl
theorem q752 : (.constantLong RX6 163 (9) : Cond) ∈ lw_gd := lw_mg (i := 752) (by decide +kernel) rfl
theorem q753 : (.methodLink RL 35 yX6_sign : Cond) ∈ lw_gd := lw_mg (i := 753) (by decide +kernel) rfl
theorem q754 : (.instanceMethod yX6_sign : Cond) ∈ lw_gd := lw_mg (i := 754) (by decide +kernel) rfl
theorem q755 : (.selects RX6 yX6_sign yX6_sign : Cond) ∈ lw_gd := lw_mg (i := 755) (by decide +kernel) rfl
theorem q756 : (.code yX6_sign cX6_sign 4 (some .int) : Cond) ∈ lw_gd := lw_mg (i := 756) (by decide +kernel) rfl
theorem q757 : (.constantLong RX6 165 (63) : Cond) ∈ lw_gd := lw_mg (i := 757) (by decide +kernel) rfl
theorem q758 : (.methodLink RL 40 yX6_plan : Cond) ∈ lw_gd := lw_mg (i := 758) (by decide +kernel) rfl
theorem q759 : (.instanceMethod yX6_plan : Cond) ∈ lw_gd := lw_mg (i := 759) (by decide +kernel) rfl
theorem q760 : (.selects RX6 yX6_plan yX6_plan : Cond) ∈ lw_gd := lw_mg (i := 760) (by decide +kernel) rfl
theorem q761 : (.code yX6_plan cX6_plan 9 (some .int) : Cond) ∈ lw_gd := lw_mg (i := 761) (by decide +kernel) rfl
theorem q762 : (.constantLong RX6 191 (10) : Cond) ∈ lw_gd := lw_mg (i := 762) (by decide +kernel) rfl
theorem q763 : (.constantLong RX6 193 (15) : Cond) ∈ lw_gd := lw_mg (i := 763) (by decide +kernel) rfl
theorem q764 : (.constantLong RX6 195 (20) : Cond) ∈ lw_gd := lw_mg (i := 764) (by decide +kernel) rfl
theorem q765 : (.constantLong RX6 197 (25) : Cond) ∈ lw_gd := lw_mg (i := 765) (by decide +kernel) rfl
theorem q766 : (.methodLink RX6 199 yX6_rowBarred : Cond) ∈ lw_gd := lw_mg (i := 766) (by decide +kernel) rfl
theorem q768 : (.instanceMethod yX6_rowBarred : Cond) ∈ lw_gd := lw_mg (i := 768) (by decide +kernel) rfl
theorem q769 : (.code yX6_rowBarred cX6_rowBarred 9 (some .int) : Cond) ∈ lw_gd := lw_mg (i := 769) (by decide +kernel) rfl
theorem q770 : (.methodLink RX6 203 yX6_goPlan : Cond) ∈ lw_gd := lw_mg (i := 770) (by decide +kernel) rfl
theorem q772 : (.instanceMethod yX6_goPlan : Cond) ∈ lw_gd := lw_mg (i := 772) (by decide +kernel) rfl
theorem q773 : (.code yX6_goPlan cX6_goPlan 4 none : Cond) ∈ lw_gd := lw_mg (i := 773) (by decide +kernel) rfl
theorem q774 : (.methodLink RX6 179 yX6_begin : Cond) ∈ lw_gd := lw_mg (i := 774) (by decide +kernel) rfl
theorem q776 : (.instanceMethod yX6_begin : Cond) ∈ lw_gd := lw_mg (i := 776) (by decide +kernel) rfl
theorem q777 : (.code yX6_begin cX6_begin 2 none : Cond) ∈ lw_gd := lw_mg (i := 777) (by decide +kernel) rfl
theorem q778 : (.methodLink RX6 182 yX6_goPass : Cond) ∈ lw_gd := lw_mg (i := 778) (by decide +kernel) rfl
theorem q780 : (.instanceMethod yX6_goPass : Cond) ∈ lw_gd := lw_mg (i := 780) (by decide +kernel) rfl
theorem q781 : (.code yX6_goPass cX6_goPass 7 none : Cond) ∈ lw_gd := lw_mg (i := 781) (by decide +kernel) rfl
theorem q782 : (.methodLink RX6 173 yX6_isAlone : Cond) ∈ lw_gd := lw_mg (i := 782) (by decide +kernel) rfl
theorem q784 : (.instanceMethod yX6_isAlone : Cond) ∈ lw_gd := lw_mg (i := 784) (by decide +kernel) rfl
theorem q785 : (.code yX6_isAlone cX6_isAlone 2 (some .boolean) : Cond) ∈ lw_gd := lw_mg (i := 785) (by decide +kernel) rfl
theorem q786 : (.methodLink RX6 147 yX6_isIn : Cond) ∈ lw_gd := lw_mg (i := 786) (by decide +kernel) rfl
theorem q787 : (.static yX6_isIn : Cond) ∈ lw_gd := lw_mg (i := 787) (by decide +kernel) rfl
theorem q788 : (.code yX6_isIn cX6_isIn 2 (some .boolean) : Cond) ∈ lw_gd := lw_mg (i := 788) (by decide +kernel) rfl
theorem q789 : (.methodLink RX6 176 yX6_looksOf : Cond) ∈ lw_gd := lw_mg (i := 789) (by decide +kernel) rfl
theorem q791 : (.instanceMethod yX6_looksOf : Cond) ∈ lw_gd := lw_mg (i := 791) (by decide +kernel) rfl
theorem q792 : (.code yX6_looksOf cX6_looksOf 4 (some .int) : Cond) ∈ lw_gd := lw_mg (i := 792) (by decide +kernel) rfl
theorem q793 : (.methodLink RX6 186 yX6_leastOf : Cond) ∈ lw_gd := lw_mg (i := 793) (by decide +kernel) rfl
theorem q795 : (.instanceMethod yX6_leastOf : Cond) ∈ lw_gd := lw_mg (i := 795) (by decide +kernel) rfl
theorem q796 : (.code yX6_leastOf cX6_leastOf 3 (some .int) : Cond) ∈ lw_gd := lw_mg (i := 796) (by decide +kernel) rfl
theorem q797 : (.methodLink RX6 206 yX6_heapsNow : Cond) ∈ lw_gd := lw_mg (i := 797) (by decide +kernel) rfl
theorem q799 : (.instanceMethod yX6_heapsNow : Cond) ∈ lw_gd := lw_mg (i := 799) (by decide +kernel) rfl
theorem q800 : (.code yX6_heapsNow cX6_heapsNow 3 (some .int) : Cond) ∈ lw_gd := lw_mg (i := 800) (by decide +kernel) rfl
theorem q801 : (.methodLink RX6 209 yX6_readyNow : Cond) ∈ lw_gd := lw_mg (i := 801) (by decide +kernel) rfl
theorem q803 : (.instanceMethod yX6_readyNow : Cond) ∈ lw_gd := lw_mg (i := 803) (by decide +kernel) rfl
theorem q804 : (.code yX6_readyNow cX6_readyNow 3 (some .int) : Cond) ∈ lw_gd := lw_mg (i := 804) (by decide +kernel) rfl
theorem q805 : (.methodLink RL 44 yX6_line : Cond) ∈ lw_gd := lw_mg (i := 805) (by decide +kernel) rfl
theorem q806 : (.instanceMethod yX6_line : Cond) ∈ lw_gd := lw_mg (i := 806) (by decide +kernel) rfl
theorem q807 : (.selects RX6 yX6_line yX6_line : Cond) ∈ lw_gd := lw_mg (i := 807) (by decide +kernel) rfl
theorem q808 : (.code yX6_line cX6_line 8 (some .int) : Cond) ∈ lw_gd := lw_mg (i := 808) (by decide +kernel) rfl
theorem q809 : (.constantLong RX6 212 (60) : Cond) ∈ lw_gd := lw_mg (i := 809) (by decide +kernel) rfl
theorem q810 : (.methodLink RL 48 yX6_soon : Cond) ∈ lw_gd := lw_mg (i := 810) (by decide +kernel) rfl
theorem q811 : (.instanceMethod yX6_soon : Cond) ∈ lw_gd := lw_mg (i := 811) (by decide +kernel) rfl
theorem q812 : (.selects RX6 yX6_soon yX6_soon : Cond) ∈ lw_gd := lw_mg (i := 812) (by decide +kernel) rfl
theorem q813 : (.code yX6_soon cX6_soon 10 (some .int) : Cond) ∈ lw_gd := lw_mg (i := 813) (by decide +kernel) rfl
theorem q814 : (.methodLink RL 52 yX6_order : Cond) ∈ lw_gd := lw_mg (i := 814) (by decide +kernel) rfl
theorem q815 : (.instanceMethod yX6_order : Cond) ∈ lw_gd := lw_mg (i := 815) (by decide +kernel) rfl
theorem q816 : (.selects RX6 yX6_order yX6_order : Cond) ∈ lw_gd := lw_mg (i := 816) (by decide +kernel) rfl
theorem q817 : (.code yX6_order cX6_order 7 (some .int) : Cond) ∈ lw_gd := lw_mg (i := 817) (by decide +kernel) rfl
theorem q818 : (.constantLong RX6 214 (-1) : Cond) ∈ lw_gd := lw_mg (i := 818) (by decide +kernel) rfl
theorem q819 : (.constantLong RX6 216 (4) : Cond) ∈ lw_gd := lw_mg (i := 819) (by decide +kernel) rfl
theorem q820 : (.methodLink RX6 218 yX6_lengthOf : Cond) ∈ lw_gd := lw_mg (i := 820) (by decide +kernel) rfl
theorem q822 : (.instanceMethod yX6_lengthOf : Cond) ∈ lw_gd := lw_mg (i := 822) (by decide +kernel) rfl
theorem q823 : (.code yX6_lengthOf cX6_lengthOf 8 (some .int) : Cond) ∈ lw_gd := lw_mg (i := 823) (by decide +kernel) rfl
theorem q824 : (.methodLink RL 56 yX6_tree : Cond) ∈ lw_gd := lw_mg (i := 824) (by decide +kernel) rfl
theorem q825 : (.instanceMethod yX6_tree : Cond) ∈ lw_gd := lw_mg (i := 825) (by decide +kernel) rfl
theorem q826 : (.selects RX6 yX6_tree yX6_tree : Cond) ∈ lw_gd := lw_mg (i := 826) (by decide +kernel) rfl
theorem q827 : (.code yX6_tree cX6_tree 3 (some .int) : Cond) ∈ lw_gd := lw_mg (i := 827) (by decide +kernel) rfl
theorem q828 : (.methodLink RX6 221 yX6_growTree : Cond) ∈ lw_gd := lw_mg (i := 828) (by decide +kernel) rfl
theorem q830 : (.instanceMethod yX6_growTree : Cond) ∈ lw_gd := lw_mg (i := 830) (by decide +kernel) rfl
theorem q831 : (.code yX6_growTree cX6_growTree 7 none : Cond) ∈ lw_gd := lw_mg (i := 831) (by decide +kernel) rfl
theorem q832 : (.methodLink RL 61 yX6_odds : Cond) ∈ lw_gd := lw_mg (i := 832) (by decide +kernel) rfl
theorem q833 : (.instanceMethod yX6_odds : Cond) ∈ lw_gd := lw_mg (i := 833) (by decide +kernel) rfl
theorem q834 : (.selects RX6 yX6_odds yX6_odds : Cond) ∈ lw_gd := lw_mg (i := 834) (by decide +kernel) rfl
theorem q835 : (.code yX6_odds cX6_odds 10 (some .long) : Cond) ∈ lw_gd := lw_mg (i := 835) (by decide +kernel) rfl
theorem q836 : (.constantLong RX6 225 (99) : Cond) ∈ lw_gd := lw_mg (i := 836) (by decide +kernel) rfl
theorem q837 : (.methodLink RX6 82 yX6_lost : Cond) ∈ lw_gd := lw_mg (i := 837) (by decide +kernel) rfl
theorem q838 : (.static yX6_lost : Cond) ∈ lw_gd := lw_mg (i := 838) (by decide +kernel) rfl
theorem q839 : (.code yX6_lost cX6_lost 0 (some .long) : Cond) ∈ lw_gd := lw_mg (i := 839) (by decide +kernel) rfl
theorem q840 : (.constantLong RX6 76 (-9223372036854775808) : Cond) ∈ lw_gd := lw_mg (i := 840) (by decide +kernel) rfl
theorem q841 : (.methodLink RX6 227 yX6_share : Cond) ∈ lw_gd := lw_mg (i := 841) (by decide +kernel) rfl
theorem q842 : (.static yX6_share : Cond) ∈ lw_gd := lw_mg (i := 842) (by decide +kernel) rfl
theorem q843 : (.code yX6_share cX6_share 11 (some .long) : Cond) ∈ lw_gd := lw_mg (i := 843) (by decide +kernel) rfl
theorem q844 : (.methodLink RL 65 yX6_reading : Cond) ∈ lw_gd := lw_mg (i := 844) (by decide +kernel) rfl
theorem q845 : (.instanceMethod yX6_reading : Cond) ∈ lw_gd := lw_mg (i := 845) (by decide +kernel) rfl
theorem q846 : (.selects RX6 yX6_reading yX6_reading : Cond) ∈ lw_gd := lw_mg (i := 846) (by decide +kernel) rfl
theorem q847 : (.code yX6_reading cX6_reading 3 (some .int) : Cond) ∈ lw_gd := lw_mg (i := 847) (by decide +kernel) rfl
theorem q848 : (.constantLong RX6 231 (9999) : Cond) ∈ lw_gd := lw_mg (i := 848) (by decide +kernel) rfl
theorem q849 : (.methodLink RL 69 yX6_back : Cond) ∈ lw_gd := lw_mg (i := 849) (by decide +kernel) rfl
theorem q850 : (.instanceMethod yX6_back : Cond) ∈ lw_gd := lw_mg (i := 850) (by decide +kernel) rfl
theorem q851 : (.selects RX6 yX6_back yX6_back : Cond) ∈ lw_gd := lw_mg (i := 851) (by decide +kernel) rfl
theorem q852 : (.code yX6_back cX6_back 2 (some .int) : Cond) ∈ lw_gd := lw_mg (i := 852) (by decide +kernel) rfl
theorem q853 : (.methodLink RL 73 yX6_counts : Cond) ∈ lw_gd := lw_mg (i := 853) (by decide +kernel) rfl
theorem q854 : (.instanceMethod yX6_counts : Cond) ∈ lw_gd := lw_mg (i := 854) (by decide +kernel) rfl
theorem q855 : (.selects RX6 yX6_counts yX6_counts : Cond) ∈ lw_gd := lw_mg (i := 855) (by decide +kernel) rfl
theorem q856 : (.code yX6_counts cX6_counts 5 (some .int) : Cond) ∈ lw_gd := lw_mg (i := 856) (by decide +kernel) rfl
theorem q857 : (.methodLink RX6 233 yX6_areSo : Cond) ∈ lw_gd := lw_mg (i := 857) (by decide +kernel) rfl
theorem q859 : (.instanceMethod yX6_areSo : Cond) ∈ lw_gd := lw_mg (i := 859) (by decide +kernel) rfl
theorem q860 : (.code yX6_areSo cX6_areSo 3 (some .boolean) : Cond) ∈ lw_gd := lw_mg (i := 860) (by decide +kernel) rfl
theorem q861 : (.methodLink RL 77 yX6_kinds : Cond) ∈ lw_gd := lw_mg (i := 861) (by decide +kernel) rfl
theorem q862 : (.instanceMethod yX6_kinds : Cond) ∈ lw_gd := lw_mg (i := 862) (by decide +kernel) rfl
theorem q863 : (.selects RX6 yX6_kinds yX6_kinds : Cond) ∈ lw_gd := lw_mg (i := 863) (by decide +kernel) rfl
theorem q864 : (.code yX6_kinds cX6_kinds 5 (some .int) : Cond) ∈ lw_gd := lw_mg (i := 864) (by decide +kernel) rfl
theorem q865 : (.methodLink RL 81 yX6_speeds : Cond) ∈ lw_gd := lw_mg (i := 865) (by decide +kernel) rfl
theorem q866 : (.instanceMethod yX6_speeds : Cond) ∈ lw_gd := lw_mg (i := 866) (by decide +kernel) rfl
theorem q867 : (.selects RX6 yX6_speeds yX6_speeds : Cond) ∈ lw_gd := lw_mg (i := 867) (by decide +kernel) rfl
theorem q868 : (.code yX6_speeds cX6_speeds 5 (some .int) : Cond) ∈ lw_gd := lw_mg (i := 868) (by decide +kernel) rfl
theorem q869 : (.methodLink RL 86 yX6_sheet : Cond) ∈ lw_gd := lw_mg (i := 869) (by decide +kernel) rfl
theorem q870 : (.instanceMethod yX6_sheet : Cond) ∈ lw_gd := lw_mg (i := 870) (by decide +kernel) rfl
theorem q871 : (.selects RX6 yX6_sheet yX6_sheet : Cond) ∈ lw_gd := lw_mg (i := 871) (by decide +kernel) rfl
theorem q872 : (.code yX6_sheet cX6_sheet 5 (some .int) : Cond) ∈ lw_gd := lw_mg (i := 872) (by decide +kernel) rfl
theorem q873 : (.methodLink RL 90 yX6_lose : Cond) ∈ lw_gd := lw_mg (i := 873) (by decide +kernel) rfl
theorem q874 : (.instanceMethod yX6_lose : Cond) ∈ lw_gd := lw_mg (i := 874) (by decide +kernel) rfl
theorem q875 : (.selects RX6 yX6_lose yX6_lose : Cond) ∈ lw_gd := lw_mg (i := 875) (by decide +kernel) rfl
theorem q876 : (.code yX6_lose cX6_lose 3 (some .int) : Cond) ∈ lw_gd := lw_mg (i := 876) (by decide +kernel) rfl
theorem q877 : (.methodLink RL 94 yX6_put : Cond) ∈ lw_gd := lw_mg (i := 877) (by decide +kernel) rfl
theorem q878 : (.instanceMethod yX6_put : Cond) ∈ lw_gd := lw_mg (i := 878) (by decide +kernel) rfl
theorem q879 : (.selects RX6 yX6_put yX6_put : Cond) ∈ lw_gd := lw_mg (i := 879) (by decide +kernel) rfl
theorem q880 : (.code yX6_put cX6_put 4 (some .int) : Cond) ∈ lw_gd := lw_mg (i := 880) (by decide +kernel) rfl
theorem q881 : (.methodLink RX6 237 yX6_noCell : Cond) ∈ lw_gd := lw_mg (i := 881) (by decide +kernel) rfl
theorem q883 : (.instanceMethod yX6_noCell : Cond) ∈ lw_gd := lw_mg (i := 883) (by decide +kernel) rfl
theorem q884 : (.code yX6_noCell cX6_noCell 3 (some .int) : Cond) ∈ lw_gd := lw_mg (i := 884) (by decide +kernel) rfl
theorem q885 : (.methodLink RL 98 yX6_cell : Cond) ∈ lw_gd := lw_mg (i := 885) (by decide +kernel) rfl
theorem q886 : (.instanceMethod yX6_cell : Cond) ∈ lw_gd := lw_mg (i := 886) (by decide +kernel) rfl
theorem q887 : (.selects RX6 yX6_cell yX6_cell : Cond) ∈ lw_gd := lw_mg (i := 887) (by decide +kernel) rfl
theorem q888 : (.code yX6_cell cX6_cell 4 (some .long) : Cond) ∈ lw_gd := lw_mg (i := 888) (by decide +kernel) rfl
theorem q889 : (.methodLink RX6 240 yX6_failedLong : Cond) ∈ lw_gd := lw_mg (i := 889) (by decide +kernel) rfl
theorem q891 : (.instanceMethod yX6_failedLong : Cond) ∈ lw_gd := lw_mg (i := 891) (by decide +kernel) rfl
theorem q892 : (.code yX6_failedLong cX6_failedLong 2 (some .long) : Cond) ∈ lw_gd := lw_mg (i := 892) (by decide +kernel) rfl
theorem q893 : (.methodLink RL 102 yX6_copy : Cond) ∈ lw_gd := lw_mg (i := 893) (by decide +kernel) rfl
theorem q894 : (.instanceMethod yX6_copy : Cond) ∈ lw_gd := lw_mg (i := 894) (by decide +kernel) rfl
theorem q895 : (.selects RX6 yX6_copy yX6_copy : Cond) ∈ lw_gd := lw_mg (i := 895) (by decide +kernel) rfl
theorem q896 : (.code yX6_copy cX6_copy 7 (some .int) : Cond) ∈ lw_gd := lw_mg (i := 896) (by decide +kernel) rfl
theorem q897 : (.methodLink RL 106 yX6_tell : Cond) ∈ lw_gd := lw_mg (i := 897) (by decide +kernel) rfl
theorem q898 : (.instanceMethod yX6_tell : Cond) ∈ lw_gd := lw_mg (i := 898) (by decide +kernel) rfl
theorem q899 : (.selects RX6 yX6_tell yX6_tell : Cond) ∈ lw_gd := lw_mg (i := 899) (by decide +kernel) rfl
theorem q900 : (.code yX6_tell cX6_tell 4 (some .int) : Cond) ∈ lw_gd := lw_mg (i := 900) (by decide +kernel) rfl
theorem q901 : (.methodLink RX6 247 yX6_traced : Cond) ∈ lw_gd := lw_mg (i := 901) (by decide +kernel) rfl
theorem q903 : (.instanceMethod yX6_traced : Cond) ∈ lw_gd := lw_mg (i := 903) (by decide +kernel) rfl
theorem q904 : (.code yX6_traced cX6_traced 2 none : Cond) ∈ lw_gd := lw_mg (i := 904) (by decide +kernel) rfl
theorem q905 : (.methodLink RL 110 yX6_drop : Cond) ∈ lw_gd := lw_mg (i := 905) (by decide +kernel) rfl
theorem q906 : (.instanceMethod yX6_drop : Cond) ∈ lw_gd := lw_mg (i := 906) (by decide +kernel) rfl
theorem q907 : (.selects RX6 yX6_drop yX6_drop : Cond) ∈ lw_gd := lw_mg (i := 907) (by decide +kernel) rfl
theorem q908 : (.code yX6_drop cX6_drop 2 (some .int) : Cond) ∈ lw_gd := lw_mg (i := 908) (by decide +kernel) rfl
theorem q909 : (.methodLink RL 114 yX6_as : Cond) ∈ lw_gd := lw_mg (i := 909) (by decide +kernel) rfl
theorem q910 : (.instanceMethod yX6_as : Cond) ∈ lw_gd := lw_mg (i := 910) (by decide +kernel) rfl
theorem q911 : (.selects RX6 yX6_as yX6_as : Cond) ∈ lw_gd := lw_mg (i := 911) (by decide +kernel) rfl
theorem q912 : (.code yX6_as cX6_as 3 (some .int) : Cond) ∈ lw_gd := lw_mg (i := 912) (by decide +kernel) rfl
theorem q913 : (.methodLink RL 119 yX6_trace : Cond) ∈ lw_gd := lw_mg (i := 913) (by decide +kernel) rfl
theorem q914 : (.instanceMethod yX6_trace : Cond) ∈ lw_gd := lw_mg (i := 914) (by decide +kernel) rfl
theorem q915 : (.selects RX6 yX6_trace yX6_trace : Cond) ∈ lw_gd := lw_mg (i := 915) (by decide +kernel) rfl
theorem q916 : (.code yX6_trace cX6_trace 1 (some .int) : Cond) ∈ lw_gd := lw_mg (i := 916) (by decide +kernel) rfl
theorem q917 : (.methodLink RL 123 yX6_fault : Cond) ∈ lw_gd := lw_mg (i := 917) (by decide +kernel) rfl
theorem q918 : (.instanceMethod yX6_fault : Cond) ∈ lw_gd := lw_mg (i := 918) (by decide +kernel) rfl
theorem q919 : (.selects RX6 yX6_fault yX6_fault : Cond) ∈ lw_gd := lw_mg (i := 919) (by decide +kernel) rfl
theorem q920 : (.code yX6_fault cX6_fault 1 (some .int) : Cond) ∈ lw_gd := lw_mg (i := 920) (by decide +kernel) rfl
theorem q921 : (.methodLink RL 127 yX6_many : Cond) ∈ lw_gd := lw_mg (i := 921) (by decide +kernel) rfl
theorem q922 : (.instanceMethod yX6_many : Cond) ∈ lw_gd := lw_mg (i := 922) (by decide +kernel) rfl
theorem q923 : (.selects RX6 yX6_many yX6_many : Cond) ∈ lw_gd := lw_mg (i := 923) (by decide +kernel) rfl
theorem q924 : (.code yX6_many cX6_many 2 (some .int) : Cond) ∈ lw_gd := lw_mg (i := 924) (by decide +kernel) rfl
theorem q925 : (.methodLink RX6 250 yX6_lettersNow : Cond) ∈ lw_gd := lw_mg (i := 925) (by decide +kernel) rfl
theorem q927 : (.instanceMethod yX6_lettersNow : Cond) ∈ lw_gd := lw_mg (i := 927) (by decide +kernel) rfl
theorem q928 : (.code yX6_lettersNow cX6_lettersNow 3 (some .int) : Cond) ∈ lw_gd := lw_mg (i := 928) (by decide +kernel) rfl
theorem s0 : (.selects RX5 yX5_failed yX5_failed : Cond) ∈ lw_gd := lw_ms (i := 0) (by decide +kernel) rfl
theorem s1 : (.selects RX3 yX3_passes yX3_passes : Cond) ∈ lw_gd := lw_ms (i := 1) (by decide +kernel) rfl
theorem s2 : (.selects RX3 yX3_isNext yX3_isNext : Cond) ∈ lw_gd := lw_ms (i := 2) (by decide +kernel) rfl
theorem s3 : (.selects RX3 yX3_passesSorts yX3_passesSorts : Cond) ∈ lw_gd := lw_ms (i := 3) (by decide +kernel) rfl
theorem s4 : (.selects RX3 yX3_passesSort yX3_passesSort : Cond) ∈ lw_gd := lw_ms (i := 4) (by decide +kernel) rfl
theorem s5 : (.selects RX3 yX3_passesKind yX3_passesKind : Cond) ∈ lw_gd := lw_ms (i := 5) (by decide +kernel) rfl
theorem s6 : (.selects RX3 yX3_passesSigns yX3_passesSigns : Cond) ∈ lw_gd := lw_ms (i := 6) (by decide +kernel) rfl
theorem s7 : (.selects RX3 yX3_passesSign yX3_passesSign : Cond) ∈ lw_gd := lw_ms (i := 7) (by decide +kernel) rfl
theorem s8 : (.selects RX0 yX0_fillSort yX0_fillSort : Cond) ∈ lw_gd := lw_ms (i := 8) (by decide +kernel) rfl
theorem s9 : (.selects RX5 yX5_refusalOfRow yX5_refusalOfRow : Cond) ∈ lw_gd := lw_ms (i := 9) (by decide +kernel) rfl
theorem s10 : (.selects RX5 yX5_takeNumbers yX5_takeNumbers : Cond) ∈ lw_gd := lw_ms (i := 10) (by decide +kernel) rfl
theorem s11 : (.selects RX4 yX4_passBy yX4_passBy : Cond) ∈ lw_gd := lw_ms (i := 11) (by decide +kernel) rfl
theorem s12 : (.selects RX4 yX4_noteReady yX4_noteReady : Cond) ∈ lw_gd := lw_ms (i := 12) (by decide +kernel) rfl
theorem s13 : (.selects RX5 yX5_readyBehind yX5_readyBehind : Cond) ∈ lw_gd := lw_ms (i := 13) (by decide +kernel) rfl
theorem s14 : (.selects RX5 yX5_leastBeside yX5_leastBeside : Cond) ∈ lw_gd := lw_ms (i := 14) (by decide +kernel) rfl
theorem s15 : (.selects RX1 yX1_fewestFrom yX1_fewestFrom : Cond) ∈ lw_gd := lw_ms (i := 15) (by decide +kernel) rfl
theorem s16 : (.selects RX1 yX1_nextSign yX1_nextSign : Cond) ∈ lw_gd := lw_ms (i := 16) (by decide +kernel) rfl
theorem s17 : (.selects RX1 yX1_fewestOf yX1_fewestOf : Cond) ∈ lw_gd := lw_ms (i := 17) (by decide +kernel) rfl
theorem s18 : (.selects RX1 yX1_behindParting yX1_behindParting : Cond) ∈ lw_gd := lw_ms (i := 18) (by decide +kernel) rfl
theorem s19 : (.selects RX5 yX5_tellDoubtful yX5_tellDoubtful : Cond) ∈ lw_gd := lw_ms (i := 19) (by decide +kernel) rfl
theorem s20 : (.selects RX5 yX5_leave yX5_leave : Cond) ∈ lw_gd := lw_ms (i := 20) (by decide +kernel) rfl
theorem s21 : (.selects RX5 yX5_tellSure yX5_tellSure : Cond) ∈ lw_gd := lw_ms (i := 21) (by decide +kernel) rfl
theorem s22 : (.selects RX5 yX5_tellPicking yX5_tellPicking : Cond) ∈ lw_gd := lw_ms (i := 22) (by decide +kernel) rfl
theorem s23 : (.selects RX5 yX5_dropByOwn yX5_dropByOwn : Cond) ∈ lw_gd := lw_ms (i := 23) (by decide +kernel) rfl
theorem s24 : (.selects RX5 yX5_dropByLent yX5_dropByLent : Cond) ∈ lw_gd := lw_ms (i := 24) (by decide +kernel) rfl
theorem s25 : (.selects RX6 yX6_refused yX6_refused : Cond) ∈ lw_gd := lw_ms (i := 25) (by decide +kernel) rfl
theorem s26 : (.selects RX6 yX6_cellsBarred yX6_cellsBarred : Cond) ∈ lw_gd := lw_ms (i := 26) (by decide +kernel) rfl
theorem s27 : (.selects RX6 yX6_failed yX6_failed : Cond) ∈ lw_gd := lw_ms (i := 27) (by decide +kernel) rfl
theorem s28 : (.selects RX6 yX6_readsFloor yX6_readsFloor : Cond) ∈ lw_gd := lw_ms (i := 28) (by decide +kernel) rfl
theorem s29 : (.selects RX6 yX6_codeAt yX6_codeAt : Cond) ∈ lw_gd := lw_ms (i := 29) (by decide +kernel) rfl
theorem s30 : (.selects RX6 yX6_readsSort yX6_readsSort : Cond) ∈ lw_gd := lw_ms (i := 30) (by decide +kernel) rfl
theorem s31 : (.selects RX6 yX6_figure yX6_figure : Cond) ∈ lw_gd := lw_ms (i := 31) (by decide +kernel) rfl
theorem s32 : (.selects RX6 yX6_readsSign yX6_readsSign : Cond) ∈ lw_gd := lw_ms (i := 32) (by decide +kernel) rfl
theorem s33 : (.selects RX6 yX6_noSort yX6_noSort : Cond) ∈ lw_gd := lw_ms (i := 33) (by decide +kernel) rfl
theorem s34 : (.selects RX6 yX6_lookOf yX6_lookOf : Cond) ∈ lw_gd := lw_ms (i := 34) (by decide +kernel) rfl
theorem s35 : (.selects RX6 yX6_noSign yX6_noSign : Cond) ∈ lw_gd := lw_ms (i := 35) (by decide +kernel) rfl
theorem s36 : (.selects RX6 yX6_all yX6_all : Cond) ∈ lw_gd := lw_ms (i := 36) (by decide +kernel) rfl
theorem s37 : (.selects RX6 yX6_rowBarred yX6_rowBarred : Cond) ∈ lw_gd := lw_ms (i := 37) (by decide +kernel) rfl
theorem s38 : (.selects RX6 yX6_goPlan yX6_goPlan : Cond) ∈ lw_gd := lw_ms (i := 38) (by decide +kernel) rfl
theorem s39 : (.selects RX6 yX6_begin yX6_begin : Cond) ∈ lw_gd := lw_ms (i := 39) (by decide +kernel) rfl
theorem s40 : (.selects RX6 yX6_goPass yX6_goPass : Cond) ∈ lw_gd := lw_ms (i := 40) (by decide +kernel) rfl
theorem s41 : (.selects RX6 yX6_isAlone yX6_isAlone : Cond) ∈ lw_gd := lw_ms (i := 41) (by decide +kernel) rfl
theorem s42 : (.selects RX6 yX6_looksOf yX6_looksOf : Cond) ∈ lw_gd := lw_ms (i := 42) (by decide +kernel) rfl
theorem s43 : (.selects RX6 yX6_leastOf yX6_leastOf : Cond) ∈ lw_gd := lw_ms (i := 43) (by decide +kernel) rfl
theorem s44 : (.selects RX6 yX6_heapsNow yX6_heapsNow : Cond) ∈ lw_gd := lw_ms (i := 44) (by decide +kernel) rfl
theorem s45 : (.selects RX6 yX6_readyNow yX6_readyNow : Cond) ∈ lw_gd := lw_ms (i := 45) (by decide +kernel) rfl
theorem s46 : (.selects RX6 yX6_lengthOf yX6_lengthOf : Cond) ∈ lw_gd := lw_ms (i := 46) (by decide +kernel) rfl
theorem s47 : (.selects RX6 yX6_growTree yX6_growTree : Cond) ∈ lw_gd := lw_ms (i := 47) (by decide +kernel) rfl
theorem s48 : (.selects RX6 yX6_areSo yX6_areSo : Cond) ∈ lw_gd := lw_ms (i := 48) (by decide +kernel) rfl
theorem s49 : (.selects RX6 yX6_noCell yX6_noCell : Cond) ∈ lw_gd := lw_ms (i := 49) (by decide +kernel) rfl
theorem s50 : (.selects RX6 yX6_failedLong yX6_failedLong : Cond) ∈ lw_gd := lw_ms (i := 50) (by decide +kernel) rfl
theorem s51 : (.selects RX6 yX6_traced yX6_traced : Cond) ∈ lw_gd := lw_ms (i := 51) (by decide +kernel) rfl
theorem s52 : (.selects RX6 yX6_lettersNow yX6_lettersNow : Cond) ∈ lw_gd := lw_ms (i := 52) (by decide +kernel) rfl
theorem wsIn0 : ∀ w ∈ u_ws RX0 TX0 10, w ∈ lw_gd := by decide +kernel
theorem wsIn1 : ∀ w ∈ u_ws RX1 TX1 2, w ∈ lw_gd := by decide +kernel
theorem wsIn2 : ∀ w ∈ u_ws RX2 TX2 3, w ∈ lw_gd := by decide +kernel
theorem wsIn3 : ∀ w ∈ u_ws RX3 TX3 5, w ∈ lw_gd := by decide +kernel
theorem wsIn4 : ∀ w ∈ u_ws RX4 TX4 4, w ∈ lw_gd := by decide +kernel
theorem wsIn5 : ∀ w ∈ u_ws RX5 TX5 8, w ∈ lw_gd := by decide +kernel
theorem wsIn6 : ∀ w ∈ u_ws RX6 TX6 32, w ∈ lw_gd := by decide +kernel
end
section
theorem dX0_init_0 : decode cX0_init 0 = .ok (.aload_n 0, 1) := by decide +kernel
theorem dX0_init_1 : decode cX0_init 1 = .ok (.invokespecial 3, 3) := by decide +kernel
theorem dX0_init_4 : decode cX0_init 4 = .ok (.aload_n 0, 1) := by decide +kernel
theorem dX0_init_5 : decode cX0_init 5 = .ok (.bipush 6, 2) := by decide +kernel
theorem dX0_init_7 : decode cX0_init 7 = .ok (.newarray .int, 2) := by decide +kernel
theorem dX0_init_9 : decode cX0_init 9 = .ok (.putfield 9, 3) := by decide +kernel
theorem dX0_init_12 : decode cX0_init 12 = .ok (.aload_n 0, 1) := by decide +kernel
theorem dX0_init_13 : decode cX0_init 13 = .ok (.bipush 6, 2) := by decide +kernel
theorem dX0_init_15 : decode cX0_init 15 = .ok (.newarray .int, 2) := by decide +kernel
theorem dX0_init_17 : decode cX0_init 17 = .ok (.putfield 15, 3) := by decide +kernel
theorem dX0_init_20 : decode cX0_init 20 = .ok (.aload_n 0, 1) := by decide +kernel
theorem dX0_init_21 : decode cX0_init 21 = .ok (.bipush 6, 2) := by decide +kernel
theorem dX0_init_23 : decode cX0_init 23 = .ok (.newarray .int, 2) := by decide +kernel
theorem dX0_init_25 : decode cX0_init 25 = .ok (.putfield 18, 3) := by decide +kernel
theorem dX0_init_28 : decode cX0_init 28 = .ok (.aload_n 0, 1) := by decide +kernel
theorem dX0_init_29 : decode cX0_init 29 = .ok (.bipush 6, 2) := by decide +kernel
theorem dX0_init_31 : decode cX0_init 31 = .ok (.newarray .int, 2) := by decide +kernel
theorem dX0_init_33 : decode cX0_init 33 = .ok (.putfield 21, 3) := by decide +kernel
theorem dX0_init_36 : decode cX0_init 36 = .ok (.aload_n 0, 1) := by decide +kernel
theorem dX0_init_37 : decode cX0_init 37 = .ok (.iconst 5, 1) := by decide +kernel
theorem dX0_init_38 : decode cX0_init 38 = .ok (.newarray .int, 2) := by decide +kernel
theorem dX0_init_40 : decode cX0_init 40 = .ok (.putfield 24, 3) := by decide +kernel
theorem dX0_init_43 : decode cX0_init 43 = .ok (.aload_n 0, 1) := by decide +kernel
theorem dX0_init_44 : decode cX0_init 44 = .ok (.bipush 8, 2) := by decide +kernel
theorem dX0_init_46 : decode cX0_init 46 = .ok (.newarray .int, 2) := by decide +kernel
theorem dX0_init_48 : decode cX0_init 48 = .ok (.putfield 27, 3) := by decide +kernel
theorem dX0_init_51 : decode cX0_init 51 = .ok (.aload_n 0, 1) := by decide +kernel
theorem dX0_init_52 : decode cX0_init 52 = .ok (.bipush 8, 2) := by decide +kernel
theorem dX0_init_54 : decode cX0_init 54 = .ok (.newarray .int, 2) := by decide +kernel
theorem dX0_init_56 : decode cX0_init 56 = .ok (.putfield 30, 3) := by decide +kernel
theorem dX0_init_59 : decode cX0_init 59 = .ok (.return_, 1) := by decide +kernel
theorem dX0_isThere_0 : decode cX0_isThere 0 = .ok (.aload_n 0, 1) := by decide +kernel
theorem dX0_isThere_1 : decode cX0_isThere 1 = .ok (.getfield 33, 3) := by decide +kernel
theorem dX0_isThere_4 : decode cX0_isThere 4 = .ok (.ifCond .le 7, 3) := by decide +kernel
theorem dX0_isThere_7 : decode cX0_isThere 7 = .ok (.iconst 1, 1) := by decide +kernel
theorem dX0_isThere_8 : decode cX0_isThere 8 = .ok (.goto 4, 3) := by decide +kernel
theorem dX0_isThere_11 : decode cX0_isThere 11 = .ok (.iconst 0, 1) := by decide +kernel
theorem dX0_isThere_12 : decode cX0_isThere 12 = .ok (.ireturn, 1) := by decide +kernel
theorem dX0_isSort_0 : decode cX0_isSort 0 = .ok (.iload_n 1, 1) := by decide +kernel
theorem dX0_isSort_1 : decode cX0_isSort 1 = .ok (.ifCond .lt 15, 3) := by decide +kernel
theorem dX0_isSort_4 : decode cX0_isSort 4 = .ok (.iload_n 1, 1) := by decide +kernel
theorem dX0_isSort_5 : decode cX0_isSort 5 = .ok (.aload_n 0, 1) := by decide +kernel
theorem dX0_isSort_6 : decode cX0_isSort 6 = .ok (.getfield 33, 3) := by decide +kernel
theorem dX0_isSort_9 : decode cX0_isSort 9 = .ok (.if_icmp .ge 7, 3) := by decide +kernel
theorem dX0_isSort_12 : decode cX0_isSort 12 = .ok (.iconst 1, 1) := by decide +kernel
theorem dX0_isSort_13 : decode cX0_isSort 13 = .ok (.goto 4, 3) := by decide +kernel
theorem dX0_isSort_16 : decode cX0_isSort 16 = .ok (.iconst 0, 1) := by decide +kernel
theorem dX0_isSort_17 : decode cX0_isSort 17 = .ok (.ireturn, 1) := by decide +kernel
theorem dX0_isSign_0 : decode cX0_isSign 0 = .ok (.iload_n 1, 1) := by decide +kernel
theorem dX0_isSign_1 : decode cX0_isSign 1 = .ok (.ifCond .lt 15, 3) := by decide +kernel
theorem dX0_isSign_4 : decode cX0_isSign 4 = .ok (.iload_n 1, 1) := by decide +kernel
theorem dX0_isSign_5 : decode cX0_isSign 5 = .ok (.aload_n 0, 1) := by decide +kernel
theorem dX0_isSign_6 : decode cX0_isSign 6 = .ok (.getfield 37, 3) := by decide +kernel
theorem dX0_isSign_9 : decode cX0_isSign 9 = .ok (.if_icmp .ge 7, 3) := by decide +kernel
theorem dX0_isSign_12 : decode cX0_isSign 12 = .ok (.iconst 1, 1) := by decide +kernel
theorem dX0_isSign_13 : decode cX0_isSign 13 = .ok (.goto 4, 3) := by decide +kernel
theorem dX0_isSign_16 : decode cX0_isSign 16 = .ok (.iconst 0, 1) := by decide +kernel
theorem dX0_isSign_17 : decode cX0_isSign 17 = .ok (.ireturn, 1) := by decide +kernel
theorem dX0_isSet_0 : decode cX0_isSet 0 = .ok (.iload_n 1, 1) := by decide +kernel
theorem dX0_isSet_1 : decode cX0_isSet 1 = .ok (.ifCond .lt 15, 3) := by decide +kernel
theorem dX0_isSet_4 : decode cX0_isSet 4 = .ok (.iload_n 1, 1) := by decide +kernel
theorem dX0_isSet_5 : decode cX0_isSet 5 = .ok (.aload_n 0, 1) := by decide +kernel
theorem dX0_isSet_6 : decode cX0_isSet 6 = .ok (.invokevirtual 40, 3) := by decide +kernel
theorem dX0_isSet_9 : decode cX0_isSet 9 = .ok (.if_icmp .gt 7, 3) := by decide +kernel
theorem dX0_isSet_12 : decode cX0_isSet 12 = .ok (.iconst 1, 1) := by decide +kernel
theorem dX0_isSet_13 : decode cX0_isSet 13 = .ok (.goto 4, 3) := by decide +kernel
theorem dX0_isSet_16 : decode cX0_isSet 16 = .ok (.iconst 0, 1) := by decide +kernel
theorem dX0_isSet_17 : decode cX0_isSet 17 = .ok (.ireturn, 1) := by decide +kernel
theorem dX0_everySort_0 : decode cX0_everySort 0 = .ok (.iconst 1, 1) := by decide +kernel
theorem dX0_everySort_1 : decode cX0_everySort 1 = .ok (.aload_n 0, 1) := by decide +kernel
theorem dX0_everySort_2 : decode cX0_everySort 2 = .ok (.getfield 33, 3) := by decide +kernel
theorem dX0_everySort_5 : decode cX0_everySort 5 = .ok (.ishl, 1) := by decide +kernel
theorem dX0_everySort_6 : decode cX0_everySort 6 = .ok (.iconst 1, 1) := by decide +kernel
theorem dX0_everySort_7 : decode cX0_everySort 7 = .ok (.isub, 1) := by decide +kernel
theorem dX0_everySort_8 : decode cX0_everySort 8 = .ok (.ireturn, 1) := by decide +kernel
theorem dX0_fill_0 : decode cX0_fill 0 = .ok (.aload_n 0, 1) := by decide +kernel
theorem dX0_fill_1 : decode cX0_fill 1 = .ok (.aload_n 1, 1) := by decide +kernel
theorem dX0_fill_2 : decode cX0_fill 2 = .ok (.getfield 44, 3) := by decide +kernel
theorem dX0_fill_5 : decode cX0_fill 5 = .ok (.putfield 33, 3) := by decide +kernel
theorem dX0_fill_8 : decode cX0_fill 8 = .ok (.aload_n 0, 1) := by decide +kernel
theorem dX0_fill_9 : decode cX0_fill 9 = .ok (.aload_n 1, 1) := by decide +kernel
theorem dX0_fill_10 : decode cX0_fill 10 = .ok (.getfield 47, 3) := by decide +kernel
theorem dX0_fill_13 : decode cX0_fill 13 = .ok (.putfield 37, 3) := by decide +kernel
theorem dX0_fill_16 : decode cX0_fill 16 = .ok (.aload_n 0, 1) := by decide +kernel
theorem dX0_fill_17 : decode cX0_fill 17 = .ok (.iconst 0, 1) := by decide +kernel
theorem dX0_fill_18 : decode cX0_fill 18 = .ok (.putfield 48, 3) := by decide +kernel
theorem dX0_fill_21 : decode cX0_fill 21 = .ok (.iconst 0, 1) := by decide +kernel
theorem dX0_fill_22 : decode cX0_fill 22 = .ok (.istore_n 2, 1) := by decide +kernel
theorem dX0_fill_23 : decode cX0_fill 23 = .ok (.iload_n 2, 1) := by decide +kernel
theorem dX0_fill_24 : decode cX0_fill 24 = .ok (.aload_n 0, 1) := by decide +kernel
theorem dX0_fill_25 : decode cX0_fill 25 = .ok (.getfield 33, 3) := by decide +kernel
theorem dX0_fill_28 : decode cX0_fill 28 = .ok (.if_icmp .ge 23, 3) := by decide +kernel
theorem dX0_fill_31 : decode cX0_fill 31 = .ok (.aload_n 0, 1) := by decide +kernel
theorem dX0_fill_32 : decode cX0_fill 32 = .ok (.aload_n 1, 1) := by decide +kernel
theorem dX0_fill_33 : decode cX0_fill 33 = .ok (.getfield 51, 3) := by decide +kernel
theorem dX0_fill_36 : decode cX0_fill 36 = .ok (.iconst 1, 1) := by decide +kernel
theorem dX0_fill_37 : decode cX0_fill 37 = .ok (.iload_n 2, 1) := by decide +kernel
theorem dX0_fill_38 : decode cX0_fill 38 = .ok (.iconst 5, 1) := by decide +kernel
theorem dX0_fill_39 : decode cX0_fill 39 = .ok (.imul, 1) := by decide +kernel
theorem dX0_fill_40 : decode cX0_fill 40 = .ok (.iadd, 1) := by decide +kernel
theorem dX0_fill_41 : decode cX0_fill 41 = .ok (.iload_n 2, 1) := by decide +kernel
theorem dX0_fill_42 : decode cX0_fill 42 = .ok (.invokevirtual 54, 3) := by decide +kernel
theorem dX0_fill_45 : decode cX0_fill 45 = .ok (.iinc 2 1, 3) := by decide +kernel
theorem dX0_fill_48 : decode cX0_fill 48 = .ok (.goto (-25), 3) := by decide +kernel
theorem dX0_fill_51 : decode cX0_fill 51 = .ok (.iconst 1, 1) := by decide +kernel
theorem dX0_fill_52 : decode cX0_fill 52 = .ok (.aload_n 0, 1) := by decide +kernel
theorem dX0_fill_53 : decode cX0_fill 53 = .ok (.getfield 33, 3) := by decide +kernel
theorem dX0_fill_56 : decode cX0_fill 56 = .ok (.iconst 5, 1) := by decide +kernel
theorem dX0_fill_57 : decode cX0_fill 57 = .ok (.imul, 1) := by decide +kernel
theorem dX0_fill_58 : decode cX0_fill 58 = .ok (.iadd, 1) := by decide +kernel
theorem dX0_fill_59 : decode cX0_fill 59 = .ok (.istore_n 2, 1) := by decide +kernel
theorem dX0_fill_60 : decode cX0_fill 60 = .ok (.iconst 0, 1) := by decide +kernel
theorem dX0_fill_61 : decode cX0_fill 61 = .ok (.istore_n 3, 1) := by decide +kernel
theorem dX0_fill_62 : decode cX0_fill 62 = .ok (.iload_n 3, 1) := by decide +kernel
theorem dX0_fill_63 : decode cX0_fill 63 = .ok (.aload_n 0, 1) := by decide +kernel
theorem dX0_fill_64 : decode cX0_fill 64 = .ok (.getfield 37, 3) := by decide +kernel
theorem dX0_fill_67 : decode cX0_fill 67 = .ok (.if_icmp .ge 55, 3) := by decide +kernel
theorem dX0_fill_70 : decode cX0_fill 70 = .ok (.iload_n 2, 1) := by decide +kernel
theorem dX0_fill_71 : decode cX0_fill 71 = .ok (.iload_n 3, 1) := by decide +kernel
theorem dX0_fill_72 : decode cX0_fill 72 = .ok (.iconst 3, 1) := by decide +kernel
theorem dX0_fill_73 : decode cX0_fill 73 = .ok (.imul, 1) := by decide +kernel
theorem dX0_fill_74 : decode cX0_fill 74 = .ok (.iadd, 1) := by decide +kernel
theorem dX0_fill_75 : decode cX0_fill 75 = .ok (.istore 4, 2) := by decide +kernel
theorem dX0_fill_77 : decode cX0_fill 77 = .ok (.aload_n 0, 1) := by decide +kernel
theorem dX0_fill_78 : decode cX0_fill 78 = .ok (.getfield 24, 3) := by decide +kernel
theorem dX0_fill_81 : decode cX0_fill 81 = .ok (.iload_n 3, 1) := by decide +kernel
theorem dX0_fill_82 : decode cX0_fill 82 = .ok (.bipush 10, 2) := by decide +kernel
theorem dX0_fill_84 : decode cX0_fill 84 = .ok (.aload_n 1, 1) := by decide +kernel
theorem dX0_fill_85 : decode cX0_fill 85 = .ok (.getfield 51, 3) := by decide +kernel
theorem dX0_fill_88 : decode cX0_fill 88 = .ok (.iload 4, 2) := by decide +kernel
theorem dX0_fill_90 : decode cX0_fill 90 = .ok (.iconst 1, 1) := by decide +kernel
theorem dX0_fill_91 : decode cX0_fill 91 = .ok (.iadd, 1) := by decide +kernel
theorem dX0_fill_92 : decode cX0_fill 92 = .ok (.iaload, 1) := by decide +kernel
theorem dX0_fill_93 : decode cX0_fill 93 = .ok (.bipush 48, 2) := by decide +kernel
theorem dX0_fill_95 : decode cX0_fill 95 = .ok (.isub, 1) := by decide +kernel
theorem dX0_fill_96 : decode cX0_fill 96 = .ok (.imul, 1) := by decide +kernel
theorem dX0_fill_97 : decode cX0_fill 97 = .ok (.aload_n 1, 1) := by decide +kernel
theorem dX0_fill_98 : decode cX0_fill 98 = .ok (.getfield 51, 3) := by decide +kernel
theorem dX0_fill_101 : decode cX0_fill 101 = .ok (.iload 4, 2) := by decide +kernel
theorem dX0_fill_103 : decode cX0_fill 103 = .ok (.iconst 2, 1) := by decide +kernel
theorem dX0_fill_104 : decode cX0_fill 104 = .ok (.iadd, 1) := by decide +kernel
theorem dX0_fill_105 : decode cX0_fill 105 = .ok (.iaload, 1) := by decide +kernel
theorem dX0_fill_106 : decode cX0_fill 106 = .ok (.iadd, 1) := by decide +kernel
theorem dX0_fill_107 : decode cX0_fill 107 = .ok (.bipush 48, 2) := by decide +kernel
theorem dX0_fill_109 : decode cX0_fill 109 = .ok (.isub, 1) := by decide +kernel
theorem dX0_fill_110 : decode cX0_fill 110 = .ok (.aload_n 0, 1) := by decide +kernel
theorem dX0_fill_111 : decode cX0_fill 111 = .ok (.invokevirtual 40, 3) := by decide +kernel
theorem dX0_fill_114 : decode cX0_fill 114 = .ok (.iand, 1) := by decide +kernel
theorem dX0_fill_115 : decode cX0_fill 115 = .ok (.iastore, 1) := by decide +kernel
theorem dX0_fill_116 : decode cX0_fill 116 = .ok (.iinc 3 1, 3) := by decide +kernel
theorem dX0_fill_119 : decode cX0_fill 119 = .ok (.goto (-57), 3) := by decide +kernel
theorem dX0_fill_122 : decode cX0_fill 122 = .ok (.return_, 1) := by decide +kernel
theorem dX0_fillSort_0 : decode cX0_fillSort 0 = .ok (.aload_n 0, 1) := by decide +kernel
theorem dX0_fillSort_1 : decode cX0_fillSort 1 = .ok (.getfield 9, 3) := by decide +kernel
theorem dX0_fillSort_4 : decode cX0_fillSort 4 = .ok (.iload_n 3, 1) := by decide +kernel
theorem dX0_fillSort_5 : decode cX0_fillSort 5 = .ok (.aload_n 1, 1) := by decide +kernel
theorem dX0_fillSort_6 : decode cX0_fillSort 6 = .ok (.iload_n 2, 1) := by decide +kernel
theorem dX0_fillSort_7 : decode cX0_fillSort 7 = .ok (.iconst 1, 1) := by decide +kernel
theorem dX0_fillSort_8 : decode cX0_fillSort 8 = .ok (.iadd, 1) := by decide +kernel
theorem dX0_fillSort_9 : decode cX0_fillSort 9 = .ok (.iaload, 1) := by decide +kernel
theorem dX0_fillSort_10 : decode cX0_fillSort 10 = .ok (.bipush 112, 2) := by decide +kernel
theorem dX0_fillSort_12 : decode cX0_fillSort 12 = .ok (.if_icmp .ne 7, 3) := by decide +kernel
theorem dX0_fillSort_15 : decode cX0_fillSort 15 = .ok (.iconst 0, 1) := by decide +kernel
theorem dX0_fillSort_16 : decode cX0_fillSort 16 = .ok (.goto 18, 3) := by decide +kernel
theorem dX0_fillSort_19 : decode cX0_fillSort 19 = .ok (.aload_n 1, 1) := by decide +kernel
theorem dX0_fillSort_20 : decode cX0_fillSort 20 = .ok (.iload_n 2, 1) := by decide +kernel
theorem dX0_fillSort_21 : decode cX0_fillSort 21 = .ok (.iconst 1, 1) := by decide +kernel
theorem dX0_fillSort_22 : decode cX0_fillSort 22 = .ok (.iadd, 1) := by decide +kernel
theorem dX0_fillSort_23 : decode cX0_fillSort 23 = .ok (.iaload, 1) := by decide +kernel
theorem dX0_fillSort_24 : decode cX0_fillSort 24 = .ok (.bipush 115, 2) := by decide +kernel
theorem dX0_fillSort_26 : decode cX0_fillSort 26 = .ok (.if_icmp .ne 7, 3) := by decide +kernel
theorem dX0_fillSort_29 : decode cX0_fillSort 29 = .ok (.iconst 1, 1) := by decide +kernel
theorem dX0_fillSort_30 : decode cX0_fillSort 30 = .ok (.goto 4, 3) := by decide +kernel
theorem dX0_fillSort_33 : decode cX0_fillSort 33 = .ok (.iconst 2, 1) := by decide +kernel
theorem dX0_fillSort_34 : decode cX0_fillSort 34 = .ok (.iastore, 1) := by decide +kernel
theorem dX0_fillSort_35 : decode cX0_fillSort 35 = .ok (.aload_n 0, 1) := by decide +kernel
theorem dX0_fillSort_36 : decode cX0_fillSort 36 = .ok (.getfield 15, 3) := by decide +kernel
theorem dX0_fillSort_39 : decode cX0_fillSort 39 = .ok (.iload_n 3, 1) := by decide +kernel
theorem dX0_fillSort_40 : decode cX0_fillSort 40 = .ok (.aload_n 1, 1) := by decide +kernel
theorem dX0_fillSort_41 : decode cX0_fillSort 41 = .ok (.iload_n 2, 1) := by decide +kernel
theorem dX0_fillSort_42 : decode cX0_fillSort 42 = .ok (.iconst 2, 1) := by decide +kernel
theorem dX0_fillSort_43 : decode cX0_fillSort 43 = .ok (.iadd, 1) := by decide +kernel
theorem dX0_fillSort_44 : decode cX0_fillSort 44 = .ok (.iaload, 1) := by decide +kernel
theorem dX0_fillSort_45 : decode cX0_fillSort 45 = .ok (.bipush 48, 2) := by decide +kernel
theorem dX0_fillSort_47 : decode cX0_fillSort 47 = .ok (.isub, 1) := by decide +kernel
theorem dX0_fillSort_48 : decode cX0_fillSort 48 = .ok (.iastore, 1) := by decide +kernel
theorem dX0_fillSort_49 : decode cX0_fillSort 49 = .ok (.aload_n 0, 1) := by decide +kernel
theorem dX0_fillSort_50 : decode cX0_fillSort 50 = .ok (.getfield 18, 3) := by decide +kernel
theorem dX0_fillSort_53 : decode cX0_fillSort 53 = .ok (.iload_n 3, 1) := by decide +kernel
theorem dX0_fillSort_54 : decode cX0_fillSort 54 = .ok (.aload_n 1, 1) := by decide +kernel
theorem dX0_fillSort_55 : decode cX0_fillSort 55 = .ok (.iload_n 2, 1) := by decide +kernel
theorem dX0_fillSort_56 : decode cX0_fillSort 56 = .ok (.iconst 3, 1) := by decide +kernel
theorem dX0_fillSort_57 : decode cX0_fillSort 57 = .ok (.iadd, 1) := by decide +kernel
theorem dX0_fillSort_58 : decode cX0_fillSort 58 = .ok (.iaload, 1) := by decide +kernel
theorem dX0_fillSort_59 : decode cX0_fillSort 59 = .ok (.bipush 48, 2) := by decide +kernel
theorem dX0_fillSort_61 : decode cX0_fillSort 61 = .ok (.isub, 1) := by decide +kernel
theorem dX0_fillSort_62 : decode cX0_fillSort 62 = .ok (.iastore, 1) := by decide +kernel
theorem dX0_fillSort_63 : decode cX0_fillSort 63 = .ok (.aload_n 0, 1) := by decide +kernel
theorem dX0_fillSort_64 : decode cX0_fillSort 64 = .ok (.getfield 21, 3) := by decide +kernel
theorem dX0_fillSort_67 : decode cX0_fillSort 67 = .ok (.iload_n 3, 1) := by decide +kernel
theorem dX0_fillSort_68 : decode cX0_fillSort 68 = .ok (.aload_n 1, 1) := by decide +kernel
theorem dX0_fillSort_69 : decode cX0_fillSort 69 = .ok (.iload_n 2, 1) := by decide +kernel
theorem dX0_fillSort_70 : decode cX0_fillSort 70 = .ok (.iconst 4, 1) := by decide +kernel
theorem dX0_fillSort_71 : decode cX0_fillSort 71 = .ok (.iadd, 1) := by decide +kernel
theorem dX0_fillSort_72 : decode cX0_fillSort 72 = .ok (.iaload, 1) := by decide +kernel
theorem dX0_fillSort_73 : decode cX0_fillSort 73 = .ok (.bipush 48, 2) := by decide +kernel
theorem dX0_fillSort_75 : decode cX0_fillSort 75 = .ok (.isub, 1) := by decide +kernel
theorem dX0_fillSort_76 : decode cX0_fillSort 76 = .ok (.iastore, 1) := by decide +kernel
theorem dX0_fillSort_77 : decode cX0_fillSort 77 = .ok (.return_, 1) := by decide +kernel
theorem dX0_letters_0 : decode cX0_letters 0 = .ok (.iconst 0, 1) := by decide +kernel
theorem dX0_letters_1 : decode cX0_letters 1 = .ok (.istore_n 1, 1) := by decide +kernel
theorem dX0_letters_2 : decode cX0_letters 2 = .ok (.iconst 0, 1) := by decide +kernel
theorem dX0_letters_3 : decode cX0_letters 3 = .ok (.istore_n 2, 1) := by decide +kernel
theorem dX0_letters_4 : decode cX0_letters 4 = .ok (.iload_n 2, 1) := by decide +kernel
theorem dX0_letters_5 : decode cX0_letters 5 = .ok (.aload_n 0, 1) := by decide +kernel
theorem dX0_letters_6 : decode cX0_letters 6 = .ok (.getfield 33, 3) := by decide +kernel
theorem dX0_letters_9 : decode cX0_letters 9 = .ok (.if_icmp .ge 18, 3) := by decide +kernel
theorem dX0_letters_12 : decode cX0_letters 12 = .ok (.iload_n 1, 1) := by decide +kernel
theorem dX0_letters_13 : decode cX0_letters 13 = .ok (.aload_n 0, 1) := by decide +kernel
theorem dX0_letters_14 : decode cX0_letters 14 = .ok (.getfield 15, 3) := by decide +kernel
theorem dX0_letters_17 : decode cX0_letters 17 = .ok (.iload_n 2, 1) := by decide +kernel
theorem dX0_letters_18 : decode cX0_letters 18 = .ok (.iaload, 1) := by decide +kernel
theorem dX0_letters_19 : decode cX0_letters 19 = .ok (.iadd, 1) := by decide +kernel
theorem dX0_letters_20 : decode cX0_letters 20 = .ok (.istore_n 1, 1) := by decide +kernel
theorem dX0_letters_21 : decode cX0_letters 21 = .ok (.iinc 2 1, 3) := by decide +kernel
theorem dX0_letters_24 : decode cX0_letters 24 = .ok (.goto (-20), 3) := by decide +kernel
theorem dX0_letters_27 : decode cX0_letters 27 = .ok (.iload_n 1, 1) := by decide +kernel
theorem dX0_letters_28 : decode cX0_letters 28 = .ok (.ireturn, 1) := by decide +kernel
theorem dX0_secondsFor_0 : decode cX0_secondsFor 0 = .ok (.iconst 0, 1) := by decide +kernel
theorem dX0_secondsFor_1 : decode cX0_secondsFor 1 = .ok (.istore_n 2, 1) := by decide +kernel
theorem dX0_secondsFor_2 : decode cX0_secondsFor 2 = .ok (.iconst 0, 1) := by decide +kernel
theorem dX0_secondsFor_3 : decode cX0_secondsFor 3 = .ok (.istore_n 3, 1) := by decide +kernel
theorem dX0_secondsFor_4 : decode cX0_secondsFor 4 = .ok (.iload_n 3, 1) := by decide +kernel
theorem dX0_secondsFor_5 : decode cX0_secondsFor 5 = .ok (.aload_n 0, 1) := by decide +kernel
theorem dX0_secondsFor_6 : decode cX0_secondsFor 6 = .ok (.getfield 33, 3) := by decide +kernel
theorem dX0_secondsFor_9 : decode cX0_secondsFor 9 = .ok (.if_icmp .ge 42, 3) := by decide +kernel
theorem dX0_secondsFor_12 : decode cX0_secondsFor 12 = .ok (.iload_n 1, 1) := by decide +kernel
theorem dX0_secondsFor_13 : decode cX0_secondsFor 13 = .ok (.iload_n 3, 1) := by decide +kernel
theorem dX0_secondsFor_14 : decode cX0_secondsFor 14 = .ok (.invokestatic 58, 3) := by decide +kernel
theorem dX0_secondsFor_17 : decode cX0_secondsFor 17 = .ok (.ifCond .eq 28, 3) := by decide +kernel
theorem dX0_secondsFor_20 : decode cX0_secondsFor 20 = .ok (.iload_n 2, 1) := by decide +kernel
theorem dX0_secondsFor_21 : decode cX0_secondsFor 21 = .ok (.aload_n 0, 1) := by decide +kernel
theorem dX0_secondsFor_22 : decode cX0_secondsFor 22 = .ok (.getfield 15, 3) := by decide +kernel
theorem dX0_secondsFor_25 : decode cX0_secondsFor 25 = .ok (.iload_n 3, 1) := by decide +kernel
theorem dX0_secondsFor_26 : decode cX0_secondsFor 26 = .ok (.iaload, 1) := by decide +kernel
theorem dX0_secondsFor_27 : decode cX0_secondsFor 27 = .ok (.aload_n 0, 1) := by decide +kernel
theorem dX0_secondsFor_28 : decode cX0_secondsFor 28 = .ok (.getfield 9, 3) := by decide +kernel
theorem dX0_secondsFor_31 : decode cX0_secondsFor 31 = .ok (.iload_n 3, 1) := by decide +kernel
theorem dX0_secondsFor_32 : decode cX0_secondsFor 32 = .ok (.iaload, 1) := by decide +kernel
theorem dX0_secondsFor_33 : decode cX0_secondsFor 33 = .ok (.aload_n 0, 1) := by decide +kernel
theorem dX0_secondsFor_34 : decode cX0_secondsFor 34 = .ok (.getfield 18, 3) := by decide +kernel
theorem dX0_secondsFor_37 : decode cX0_secondsFor 37 = .ok (.iload_n 3, 1) := by decide +kernel
theorem dX0_secondsFor_38 : decode cX0_secondsFor 38 = .ok (.iaload, 1) := by decide +kernel
theorem dX0_secondsFor_39 : decode cX0_secondsFor 39 = .ok (.invokestatic 62, 3) := by decide +kernel
theorem dX0_secondsFor_42 : decode cX0_secondsFor 42 = .ok (.imul, 1) := by decide +kernel
theorem dX0_secondsFor_43 : decode cX0_secondsFor 43 = .ok (.iadd, 1) := by decide +kernel
theorem dX0_secondsFor_44 : decode cX0_secondsFor 44 = .ok (.istore_n 2, 1) := by decide +kernel
theorem dX0_secondsFor_45 : decode cX0_secondsFor 45 = .ok (.iinc 3 1, 3) := by decide +kernel
theorem dX0_secondsFor_48 : decode cX0_secondsFor 48 = .ok (.goto (-44), 3) := by decide +kernel
theorem dX0_secondsFor_51 : decode cX0_secondsFor 51 = .ok (.iload_n 2, 1) := by decide +kernel
theorem dX0_secondsFor_52 : decode cX0_secondsFor 52 = .ok (.ireturn, 1) := by decide +kernel
theorem dX0_lettersAlike_0 : decode cX0_lettersAlike 0 = .ok (.iconst 0, 1) := by decide +kernel
theorem dX0_lettersAlike_1 : decode cX0_lettersAlike 1 = .ok (.istore_n 2, 1) := by decide +kernel
theorem dX0_lettersAlike_2 : decode cX0_lettersAlike 2 = .ok (.iconst 0, 1) := by decide +kernel
theorem dX0_lettersAlike_3 : decode cX0_lettersAlike 3 = .ok (.istore_n 3, 1) := by decide +kernel
theorem dX0_lettersAlike_4 : decode cX0_lettersAlike 4 = .ok (.iload_n 3, 1) := by decide +kernel
theorem dX0_lettersAlike_5 : decode cX0_lettersAlike 5 = .ok (.aload_n 0, 1) := by decide +kernel
theorem dX0_lettersAlike_6 : decode cX0_lettersAlike 6 = .ok (.getfield 33, 3) := by decide +kernel
theorem dX0_lettersAlike_9 : decode cX0_lettersAlike 9 = .ok (.if_icmp .ge 42, 3) := by decide +kernel
theorem dX0_lettersAlike_12 : decode cX0_lettersAlike 12 = .ok (.iload_n 3, 1) := by decide +kernel
theorem dX0_lettersAlike_13 : decode cX0_lettersAlike 13 = .ok (.iload_n 1, 1) := by decide +kernel
theorem dX0_lettersAlike_14 : decode cX0_lettersAlike 14 = .ok (.if_icmp .eq 31, 3) := by decide +kernel
theorem dX0_lettersAlike_17 : decode cX0_lettersAlike 17 = .ok (.aload_n 0, 1) := by decide +kernel
theorem dX0_lettersAlike_18 : decode cX0_lettersAlike 18 = .ok (.getfield 9, 3) := by decide +kernel
theorem dX0_lettersAlike_21 : decode cX0_lettersAlike 21 = .ok (.iload_n 3, 1) := by decide +kernel
theorem dX0_lettersAlike_22 : decode cX0_lettersAlike 22 = .ok (.iaload, 1) := by decide +kernel
theorem dX0_lettersAlike_23 : decode cX0_lettersAlike 23 = .ok (.ifCond .ne 22, 3) := by decide +kernel
theorem dX0_lettersAlike_26 : decode cX0_lettersAlike 26 = .ok (.aload_n 0, 1) := by decide +kernel
theorem dX0_lettersAlike_27 : decode cX0_lettersAlike 27 = .ok (.getfield 21, 3) := by decide +kernel
theorem dX0_lettersAlike_30 : decode cX0_lettersAlike 30 = .ok (.iload_n 3, 1) := by decide +kernel
theorem dX0_lettersAlike_31 : decode cX0_lettersAlike 31 = .ok (.iaload, 1) := by decide +kernel
theorem dX0_lettersAlike_32 : decode cX0_lettersAlike 32 = .ok (.iload_n 1, 1) := by decide +kernel
theorem dX0_lettersAlike_33 : decode cX0_lettersAlike 33 = .ok (.if_icmp .ne 12, 3) := by decide +kernel
theorem dX0_lettersAlike_36 : decode cX0_lettersAlike 36 = .ok (.iload_n 2, 1) := by decide +kernel
theorem dX0_lettersAlike_37 : decode cX0_lettersAlike 37 = .ok (.aload_n 0, 1) := by decide +kernel
theorem dX0_lettersAlike_38 : decode cX0_lettersAlike 38 = .ok (.getfield 15, 3) := by decide +kernel
theorem dX0_lettersAlike_41 : decode cX0_lettersAlike 41 = .ok (.iload_n 3, 1) := by decide +kernel
theorem dX0_lettersAlike_42 : decode cX0_lettersAlike 42 = .ok (.iaload, 1) := by decide +kernel
theorem dX0_lettersAlike_43 : decode cX0_lettersAlike 43 = .ok (.iadd, 1) := by decide +kernel
theorem dX0_lettersAlike_44 : decode cX0_lettersAlike 44 = .ok (.istore_n 2, 1) := by decide +kernel
theorem dX0_lettersAlike_45 : decode cX0_lettersAlike 45 = .ok (.iinc 3 1, 3) := by decide +kernel
theorem dX0_lettersAlike_48 : decode cX0_lettersAlike 48 = .ok (.goto (-44), 3) := by decide +kernel
theorem dX0_lettersAlike_51 : decode cX0_lettersAlike 51 = .ok (.iload_n 2, 1) := by decide +kernel
theorem dX0_lettersAlike_52 : decode cX0_lettersAlike 52 = .ok (.ireturn, 1) := by decide +kernel
theorem dX0_firstShort_0 : decode cX0_firstShort 0 = .ok (.iconst 0, 1) := by decide +kernel
theorem dX0_firstShort_1 : decode cX0_firstShort 1 = .ok (.istore_n 3, 1) := by decide +kernel
theorem dX0_firstShort_2 : decode cX0_firstShort 2 = .ok (.iload_n 3, 1) := by decide +kernel
theorem dX0_firstShort_3 : decode cX0_firstShort 3 = .ok (.iload_n 2, 1) := by decide +kernel
theorem dX0_firstShort_4 : decode cX0_firstShort 4 = .ok (.if_icmp .ge 62, 3) := by decide +kernel
theorem dX0_firstShort_7 : decode cX0_firstShort 7 = .ok (.iconst 0, 1) := by decide +kernel
theorem dX0_firstShort_8 : decode cX0_firstShort 8 = .ok (.istore 4, 2) := by decide +kernel
theorem dX0_firstShort_10 : decode cX0_firstShort 10 = .ok (.iconst 0, 1) := by decide +kernel
theorem dX0_firstShort_11 : decode cX0_firstShort 11 = .ok (.istore 5, 2) := by decide +kernel
theorem dX0_firstShort_13 : decode cX0_firstShort 13 = .ok (.iload 5, 2) := by decide +kernel
theorem dX0_firstShort_15 : decode cX0_firstShort 15 = .ok (.iload_n 3, 1) := by decide +kernel
theorem dX0_firstShort_16 : decode cX0_firstShort 16 = .ok (.if_icmp .ge 29, 3) := by decide +kernel
theorem dX0_firstShort_19 : decode cX0_firstShort 19 = .ok (.iload 4, 2) := by decide +kernel
theorem dX0_firstShort_21 : decode cX0_firstShort 21 = .ok (.aload_n 1, 1) := by decide +kernel
theorem dX0_firstShort_22 : decode cX0_firstShort 22 = .ok (.iload 5, 2) := by decide +kernel
theorem dX0_firstShort_24 : decode cX0_firstShort 24 = .ok (.iaload, 1) := by decide +kernel
theorem dX0_firstShort_25 : decode cX0_firstShort 25 = .ok (.aload_n 1, 1) := by decide +kernel
theorem dX0_firstShort_26 : decode cX0_firstShort 26 = .ok (.iload_n 3, 1) := by decide +kernel
theorem dX0_firstShort_27 : decode cX0_firstShort 27 = .ok (.iaload, 1) := by decide +kernel
theorem dX0_firstShort_28 : decode cX0_firstShort 28 = .ok (.if_icmp .ne 7, 3) := by decide +kernel
theorem dX0_firstShort_31 : decode cX0_firstShort 31 = .ok (.iconst 1, 1) := by decide +kernel
theorem dX0_firstShort_32 : decode cX0_firstShort 32 = .ok (.goto 4, 3) := by decide +kernel
theorem dX0_firstShort_35 : decode cX0_firstShort 35 = .ok (.iconst 0, 1) := by decide +kernel
theorem dX0_firstShort_36 : decode cX0_firstShort 36 = .ok (.iadd, 1) := by decide +kernel
theorem dX0_firstShort_37 : decode cX0_firstShort 37 = .ok (.istore 4, 2) := by decide +kernel
theorem dX0_firstShort_39 : decode cX0_firstShort 39 = .ok (.iinc 5 1, 3) := by decide +kernel
theorem dX0_firstShort_42 : decode cX0_firstShort 42 = .ok (.goto (-29), 3) := by decide +kernel
theorem dX0_firstShort_45 : decode cX0_firstShort 45 = .ok (.iload 4, 2) := by decide +kernel
theorem dX0_firstShort_47 : decode cX0_firstShort 47 = .ok (.aload_n 0, 1) := by decide +kernel
theorem dX0_firstShort_48 : decode cX0_firstShort 48 = .ok (.getfield 15, 3) := by decide +kernel
theorem dX0_firstShort_51 : decode cX0_firstShort 51 = .ok (.aload_n 1, 1) := by decide +kernel
theorem dX0_firstShort_52 : decode cX0_firstShort 52 = .ok (.iload_n 3, 1) := by decide +kernel
theorem dX0_firstShort_53 : decode cX0_firstShort 53 = .ok (.iaload, 1) := by decide +kernel
theorem dX0_firstShort_54 : decode cX0_firstShort 54 = .ok (.iaload, 1) := by decide +kernel
theorem dX0_firstShort_55 : decode cX0_firstShort 55 = .ok (.if_icmp .lt 5, 3) := by decide +kernel
theorem dX0_firstShort_58 : decode cX0_firstShort 58 = .ok (.iload_n 3, 1) := by decide +kernel
theorem dX0_firstShort_59 : decode cX0_firstShort 59 = .ok (.ireturn, 1) := by decide +kernel
theorem dX0_firstShort_60 : decode cX0_firstShort 60 = .ok (.iinc 3 1, 3) := by decide +kernel
theorem dX0_firstShort_63 : decode cX0_firstShort 63 = .ok (.goto (-61), 3) := by decide +kernel
theorem dX0_firstShort_66 : decode cX0_firstShort 66 = .ok (.bipush (-9), 2) := by decide +kernel
theorem dX0_firstShort_68 : decode cX0_firstShort 68 = .ok (.ireturn, 1) := by decide +kernel
theorem dX0_heapOf_0 : decode cX0_heapOf 0 = .ok (.aload_n 0, 1) := by decide +kernel
theorem dX0_heapOf_1 : decode cX0_heapOf 1 = .ok (.invokevirtual 40, 3) := by decide +kernel
theorem dX0_heapOf_4 : decode cX0_heapOf 4 = .ok (.istore_n 3, 1) := by decide +kernel
theorem dX0_heapOf_5 : decode cX0_heapOf 5 = .ok (.iconst 0, 1) := by decide +kernel
theorem dX0_heapOf_6 : decode cX0_heapOf 6 = .ok (.istore 4, 2) := by decide +kernel
theorem dX0_heapOf_8 : decode cX0_heapOf 8 = .ok (.iload 4, 2) := by decide +kernel
theorem dX0_heapOf_10 : decode cX0_heapOf 10 = .ok (.aload_n 0, 1) := by decide +kernel
theorem dX0_heapOf_11 : decode cX0_heapOf 11 = .ok (.getfield 37, 3) := by decide +kernel
theorem dX0_heapOf_14 : decode cX0_heapOf 14 = .ok (.if_icmp .ge 54, 3) := by decide +kernel
theorem dX0_heapOf_17 : decode cX0_heapOf 17 = .ok (.iload_n 2, 1) := by decide +kernel
theorem dX0_heapOf_18 : decode cX0_heapOf 18 = .ok (.iload 4, 2) := by decide +kernel
theorem dX0_heapOf_20 : decode cX0_heapOf 20 = .ok (.invokestatic 58, 3) := by decide +kernel
theorem dX0_heapOf_23 : decode cX0_heapOf 23 = .ok (.ifCond .eq 39, 3) := by decide +kernel
theorem dX0_heapOf_26 : decode cX0_heapOf 26 = .ok (.iload_n 3, 1) := by decide +kernel
theorem dX0_heapOf_27 : decode cX0_heapOf 27 = .ok (.aload_n 0, 1) := by decide +kernel
theorem dX0_heapOf_28 : decode cX0_heapOf 28 = .ok (.getfield 24, 3) := by decide +kernel
theorem dX0_heapOf_31 : decode cX0_heapOf 31 = .ok (.iload 4, 2) := by decide +kernel
theorem dX0_heapOf_33 : decode cX0_heapOf 33 = .ok (.iaload, 1) := by decide +kernel
theorem dX0_heapOf_34 : decode cX0_heapOf 34 = .ok (.iload_n 1, 1) := by decide +kernel
theorem dX0_heapOf_35 : decode cX0_heapOf 35 = .ok (.invokestatic 58, 3) := by decide +kernel
theorem dX0_heapOf_38 : decode cX0_heapOf 38 = .ok (.ifCond .eq 13, 3) := by decide +kernel
theorem dX0_heapOf_41 : decode cX0_heapOf 41 = .ok (.aload_n 0, 1) := by decide +kernel
theorem dX0_heapOf_42 : decode cX0_heapOf 42 = .ok (.getfield 24, 3) := by decide +kernel
theorem dX0_heapOf_45 : decode cX0_heapOf 45 = .ok (.iload 4, 2) := by decide +kernel
theorem dX0_heapOf_47 : decode cX0_heapOf 47 = .ok (.iaload, 1) := by decide +kernel
theorem dX0_heapOf_48 : decode cX0_heapOf 48 = .ok (.goto 12, 3) := by decide +kernel
theorem dX0_heapOf_51 : decode cX0_heapOf 51 = .ok (.aload_n 0, 1) := by decide +kernel
theorem dX0_heapOf_52 : decode cX0_heapOf 52 = .ok (.getfield 24, 3) := by decide +kernel
theorem dX0_heapOf_55 : decode cX0_heapOf 55 = .ok (.iload 4, 2) := by decide +kernel
theorem dX0_heapOf_57 : decode cX0_heapOf 57 = .ok (.iaload, 1) := by decide +kernel
theorem dX0_heapOf_58 : decode cX0_heapOf 58 = .ok (.iconst (-1), 1) := by decide +kernel
theorem dX0_heapOf_59 : decode cX0_heapOf 59 = .ok (.ixor, 1) := by decide +kernel
theorem dX0_heapOf_60 : decode cX0_heapOf 60 = .ok (.iand, 1) := by decide +kernel
theorem dX0_heapOf_61 : decode cX0_heapOf 61 = .ok (.istore_n 3, 1) := by decide +kernel
theorem dX0_heapOf_62 : decode cX0_heapOf 62 = .ok (.iinc 4 1, 3) := by decide +kernel
theorem dX0_heapOf_65 : decode cX0_heapOf 65 = .ok (.goto (-57), 3) := by decide +kernel
theorem dX0_heapOf_68 : decode cX0_heapOf 68 = .ok (.iload_n 3, 1) := by decide +kernel
theorem dX0_heapOf_69 : decode cX0_heapOf 69 = .ok (.ireturn, 1) := by decide +kernel
theorem dX0_waiting_0 : decode cX0_waiting 0 = .ok (.iconst 0, 1) := by decide +kernel
theorem dX0_waiting_1 : decode cX0_waiting 1 = .ok (.istore_n 2, 1) := by decide +kernel
theorem dX0_waiting_2 : decode cX0_waiting 2 = .ok (.iconst 0, 1) := by decide +kernel
theorem dX0_waiting_3 : decode cX0_waiting 3 = .ok (.istore_n 3, 1) := by decide +kernel
theorem dX0_waiting_4 : decode cX0_waiting 4 = .ok (.iload_n 3, 1) := by decide +kernel
theorem dX0_waiting_5 : decode cX0_waiting 5 = .ok (.aload_n 0, 1) := by decide +kernel
theorem dX0_waiting_6 : decode cX0_waiting 6 = .ok (.getfield 33, 3) := by decide +kernel
theorem dX0_waiting_9 : decode cX0_waiting 9 = .ok (.if_icmp .ge 27, 3) := by decide +kernel
theorem dX0_waiting_12 : decode cX0_waiting 12 = .ok (.aload_n 0, 1) := by decide +kernel
theorem dX0_waiting_13 : decode cX0_waiting 13 = .ok (.iload_n 3, 1) := by decide +kernel
theorem dX0_waiting_14 : decode cX0_waiting 14 = .ok (.iload_n 1, 1) := by decide +kernel
theorem dX0_waiting_15 : decode cX0_waiting 15 = .ok (.invokevirtual 66, 3) := by decide +kernel
theorem dX0_waiting_18 : decode cX0_waiting 18 = .ok (.iconst 1, 1) := by decide +kernel
theorem dX0_waiting_19 : decode cX0_waiting 19 = .ok (.iload_n 3, 1) := by decide +kernel
theorem dX0_waiting_20 : decode cX0_waiting 20 = .ok (.ishl, 1) := by decide +kernel
theorem dX0_waiting_21 : decode cX0_waiting 21 = .ok (.if_icmp .eq 9, 3) := by decide +kernel
theorem dX0_waiting_24 : decode cX0_waiting 24 = .ok (.iload_n 2, 1) := by decide +kernel
theorem dX0_waiting_25 : decode cX0_waiting 25 = .ok (.iconst 1, 1) := by decide +kernel
theorem dX0_waiting_26 : decode cX0_waiting 26 = .ok (.iload_n 3, 1) := by decide +kernel
theorem dX0_waiting_27 : decode cX0_waiting 27 = .ok (.ishl, 1) := by decide +kernel
theorem dX0_waiting_28 : decode cX0_waiting 28 = .ok (.ior, 1) := by decide +kernel
theorem dX0_waiting_29 : decode cX0_waiting 29 = .ok (.istore_n 2, 1) := by decide +kernel
theorem dX0_waiting_30 : decode cX0_waiting 30 = .ok (.iinc 3 1, 3) := by decide +kernel
theorem dX0_waiting_33 : decode cX0_waiting 33 = .ok (.goto (-29), 3) := by decide +kernel
theorem dX0_waiting_36 : decode cX0_waiting 36 = .ok (.iload_n 2, 1) := by decide +kernel
theorem dX0_waiting_37 : decode cX0_waiting 37 = .ok (.ireturn, 1) := by decide +kernel
theorem dX0_heaps_0 : decode cX0_heaps 0 = .ok (.iconst 0, 1) := by decide +kernel
theorem dX0_heaps_1 : decode cX0_heaps 1 = .ok (.istore_n 2, 1) := by decide +kernel
theorem dX0_heaps_2 : decode cX0_heaps 2 = .ok (.iconst 0, 1) := by decide +kernel
theorem dX0_heaps_3 : decode cX0_heaps 3 = .ok (.istore_n 3, 1) := by decide +kernel
theorem dX0_heaps_4 : decode cX0_heaps 4 = .ok (.iload_n 3, 1) := by decide +kernel
theorem dX0_heaps_5 : decode cX0_heaps 5 = .ok (.aload_n 0, 1) := by decide +kernel
theorem dX0_heaps_6 : decode cX0_heaps 6 = .ok (.getfield 33, 3) := by decide +kernel
theorem dX0_heaps_9 : decode cX0_heaps 9 = .ok (.if_icmp .ge 30, 3) := by decide +kernel
theorem dX0_heaps_12 : decode cX0_heaps 12 = .ok (.iload_n 2, 1) := by decide +kernel
theorem dX0_heaps_13 : decode cX0_heaps 13 = .ok (.aload_n 0, 1) := by decide +kernel
theorem dX0_heaps_14 : decode cX0_heaps 14 = .ok (.iload_n 3, 1) := by decide +kernel
theorem dX0_heaps_15 : decode cX0_heaps 15 = .ok (.iload_n 1, 1) := by decide +kernel
theorem dX0_heaps_16 : decode cX0_heaps 16 = .ok (.invokevirtual 66, 3) := by decide +kernel
theorem dX0_heaps_19 : decode cX0_heaps 19 = .ok (.invokestatic 69, 3) := by decide +kernel
theorem dX0_heaps_22 : decode cX0_heaps 22 = .ok (.iload_n 3, 1) := by decide +kernel
theorem dX0_heaps_23 : decode cX0_heaps 23 = .ok (.if_icmp .ne 7, 3) := by decide +kernel
theorem dX0_heaps_26 : decode cX0_heaps 26 = .ok (.iconst 1, 1) := by decide +kernel
theorem dX0_heaps_27 : decode cX0_heaps 27 = .ok (.goto 4, 3) := by decide +kernel
theorem dX0_heaps_30 : decode cX0_heaps 30 = .ok (.iconst 0, 1) := by decide +kernel
theorem dX0_heaps_31 : decode cX0_heaps 31 = .ok (.iadd, 1) := by decide +kernel
theorem dX0_heaps_32 : decode cX0_heaps 32 = .ok (.istore_n 2, 1) := by decide +kernel
theorem dX0_heaps_33 : decode cX0_heaps 33 = .ok (.iinc 3 1, 3) := by decide +kernel
theorem dX0_heaps_36 : decode cX0_heaps 36 = .ok (.goto (-32), 3) := by decide +kernel
theorem dX0_heaps_39 : decode cX0_heaps 39 = .ok (.iload_n 2, 1) := by decide +kernel
theorem dX0_heaps_40 : decode cX0_heaps 40 = .ok (.ireturn, 1) := by decide +kernel
theorem dX0_note_0 : decode cX0_note 0 = .ok (.aload_n 0, 1) := by decide +kernel
theorem dX0_note_1 : decode cX0_note 1 = .ok (.getfield 27, 3) := by decide +kernel
theorem dX0_note_4 : decode cX0_note 4 = .ok (.aload_n 0, 1) := by decide +kernel
theorem dX0_note_5 : decode cX0_note 5 = .ok (.getfield 48, 3) := by decide +kernel
theorem dX0_note_8 : decode cX0_note 8 = .ok (.iload_n 1, 1) := by decide +kernel
theorem dX0_note_9 : decode cX0_note 9 = .ok (.iastore, 1) := by decide +kernel
theorem dX0_note_10 : decode cX0_note 10 = .ok (.aload_n 0, 1) := by decide +kernel
theorem dX0_note_11 : decode cX0_note 11 = .ok (.getfield 30, 3) := by decide +kernel
theorem dX0_note_14 : decode cX0_note 14 = .ok (.aload_n 0, 1) := by decide +kernel
theorem dX0_note_15 : decode cX0_note 15 = .ok (.getfield 48, 3) := by decide +kernel
theorem dX0_note_18 : decode cX0_note 18 = .ok (.iload_n 2, 1) := by decide +kernel
theorem dX0_note_19 : decode cX0_note 19 = .ok (.iastore, 1) := by decide +kernel
theorem dX0_note_20 : decode cX0_note 20 = .ok (.aload_n 0, 1) := by decide +kernel
theorem dX0_note_21 : decode cX0_note 21 = .ok (.dup, 1) := by decide +kernel
theorem dX0_note_22 : decode cX0_note 22 = .ok (.getfield 48, 3) := by decide +kernel
theorem dX0_note_25 : decode cX0_note 25 = .ok (.iconst 1, 1) := by decide +kernel
theorem dX0_note_26 : decode cX0_note 26 = .ok (.iadd, 1) := by decide +kernel
theorem dX0_note_27 : decode cX0_note 27 = .ok (.putfield 48, 3) := by decide +kernel
theorem dX0_note_30 : decode cX0_note 30 = .ok (.aload_n 0, 1) := by decide +kernel
theorem dX0_note_31 : decode cX0_note 31 = .ok (.getfield 48, 3) := by decide +kernel
theorem dX0_note_34 : decode cX0_note 34 = .ok (.iconst 1, 1) := by decide +kernel
theorem dX0_note_35 : decode cX0_note 35 = .ok (.isub, 1) := by decide +kernel
theorem dX0_note_36 : decode cX0_note 36 = .ok (.ireturn, 1) := by decide +kernel
theorem dX0_readingsHold_0 : decode cX0_readingsHold 0 = .ok (.iconst 0, 1) := by decide +kernel
theorem dX0_readingsHold_1 : decode cX0_readingsHold 1 = .ok (.istore_n 3, 1) := by decide +kernel
theorem dX0_readingsHold_2 : decode cX0_readingsHold 2 = .ok (.iload_n 3, 1) := by decide +kernel
theorem dX0_readingsHold_3 : decode cX0_readingsHold 3 = .ok (.aload_n 0, 1) := by decide +kernel
theorem dX0_readingsHold_4 : decode cX0_readingsHold 4 = .ok (.getfield 48, 3) := by decide +kernel
theorem dX0_readingsHold_7 : decode cX0_readingsHold 7 = .ok (.if_icmp .ge 59, 3) := by decide +kernel
theorem dX0_readingsHold_10 : decode cX0_readingsHold 10 = .ok (.aload_n 0, 1) := by decide +kernel
theorem dX0_readingsHold_11 : decode cX0_readingsHold 11 = .ok (.aload_n 0, 1) := by decide +kernel
theorem dX0_readingsHold_12 : decode cX0_readingsHold 12 = .ok (.getfield 27, 3) := by decide +kernel
theorem dX0_readingsHold_15 : decode cX0_readingsHold 15 = .ok (.iload_n 3, 1) := by decide +kernel
theorem dX0_readingsHold_16 : decode cX0_readingsHold 16 = .ok (.iaload, 1) := by decide +kernel
theorem dX0_readingsHold_17 : decode cX0_readingsHold 17 = .ok (.iconst 1, 1) := by decide +kernel
theorem dX0_readingsHold_18 : decode cX0_readingsHold 18 = .ok (.iload_n 1, 1) := by decide +kernel
theorem dX0_readingsHold_19 : decode cX0_readingsHold 19 = .ok (.ishl, 1) := by decide +kernel
theorem dX0_readingsHold_20 : decode cX0_readingsHold 20 = .ok (.iconst (-1), 1) := by decide +kernel
theorem dX0_readingsHold_21 : decode cX0_readingsHold 21 = .ok (.ixor, 1) := by decide +kernel
theorem dX0_readingsHold_22 : decode cX0_readingsHold 22 = .ok (.iand, 1) := by decide +kernel
theorem dX0_readingsHold_23 : decode cX0_readingsHold 23 = .ok (.invokevirtual 73, 3) := by decide +kernel
theorem dX0_readingsHold_26 : decode cX0_readingsHold 26 = .ok (.istore 4, 2) := by decide +kernel
theorem dX0_readingsHold_28 : decode cX0_readingsHold 28 = .ok (.aload_n 0, 1) := by decide +kernel
theorem dX0_readingsHold_29 : decode cX0_readingsHold 29 = .ok (.getfield 27, 3) := by decide +kernel
theorem dX0_readingsHold_32 : decode cX0_readingsHold 32 = .ok (.iload_n 3, 1) := by decide +kernel
theorem dX0_readingsHold_33 : decode cX0_readingsHold 33 = .ok (.iaload, 1) := by decide +kernel
theorem dX0_readingsHold_34 : decode cX0_readingsHold 34 = .ok (.iload_n 1, 1) := by decide +kernel
theorem dX0_readingsHold_35 : decode cX0_readingsHold 35 = .ok (.invokestatic 58, 3) := by decide +kernel
theorem dX0_readingsHold_38 : decode cX0_readingsHold 38 = .ok (.ifCond .eq 9, 3) := by decide +kernel
theorem dX0_readingsHold_41 : decode cX0_readingsHold 41 = .ok (.iload 4, 2) := by decide +kernel
theorem dX0_readingsHold_43 : decode cX0_readingsHold 43 = .ok (.iload_n 2, 1) := by decide +kernel
theorem dX0_readingsHold_44 : decode cX0_readingsHold 44 = .ok (.iadd, 1) := by decide +kernel
theorem dX0_readingsHold_45 : decode cX0_readingsHold 45 = .ok (.istore 4, 2) := by decide +kernel
theorem dX0_readingsHold_47 : decode cX0_readingsHold 47 = .ok (.iload 4, 2) := by decide +kernel
theorem dX0_readingsHold_49 : decode cX0_readingsHold 49 = .ok (.aload_n 0, 1) := by decide +kernel
theorem dX0_readingsHold_50 : decode cX0_readingsHold 50 = .ok (.getfield 30, 3) := by decide +kernel
theorem dX0_readingsHold_53 : decode cX0_readingsHold 53 = .ok (.iload_n 3, 1) := by decide +kernel
theorem dX0_readingsHold_54 : decode cX0_readingsHold 54 = .ok (.iaload, 1) := by decide +kernel
theorem dX0_readingsHold_55 : decode cX0_readingsHold 55 = .ok (.if_icmp .eq 5, 3) := by decide +kernel
theorem dX0_readingsHold_58 : decode cX0_readingsHold 58 = .ok (.iconst 0, 1) := by decide +kernel
theorem dX0_readingsHold_59 : decode cX0_readingsHold 59 = .ok (.ireturn, 1) := by decide +kernel
theorem dX0_readingsHold_60 : decode cX0_readingsHold 60 = .ok (.iinc 3 1, 3) := by decide +kernel
theorem dX0_readingsHold_63 : decode cX0_readingsHold 63 = .ok (.goto (-61), 3) := by decide +kernel
theorem dX0_readingsHold_66 : decode cX0_readingsHold 66 = .ok (.iconst 1, 1) := by decide +kernel
theorem dX0_readingsHold_67 : decode cX0_readingsHold 67 = .ok (.ireturn, 1) := by decide +kernel
theorem dX1_init_0 : decode cX1_init 0 = .ok (.aload_n 0, 1) := by decide +kernel
theorem dX1_init_1 : decode cX1_init 1 = .ok (.invokespecial 3, 3) := by decide +kernel
theorem dX1_init_4 : decode cX1_init 4 = .ok (.aload_n 0, 1) := by decide +kernel
theorem dX1_init_5 : decode cX1_init 5 = .ok (.bipush 32, 2) := by decide +kernel
theorem dX1_init_7 : decode cX1_init 7 = .ok (.newarray .int, 2) := by decide +kernel
theorem dX1_init_9 : decode cX1_init 9 = .ok (.putfield 9, 3) := by decide +kernel
theorem dX1_init_12 : decode cX1_init 12 = .ok (.aload_n 0, 1) := by decide +kernel
theorem dX1_init_13 : decode cX1_init 13 = .ok (.bipush 64, 2) := by decide +kernel
theorem dX1_init_15 : decode cX1_init 15 = .ok (.newarray .int, 2) := by decide +kernel
theorem dX1_init_17 : decode cX1_init 17 = .ok (.putfield 15, 3) := by decide +kernel
theorem dX1_init_20 : decode cX1_init 20 = .ok (.return_, 1) := by decide +kernel
theorem dX1_weighOrders_0 : decode cX1_weighOrders 0 = .ok (.iconst 1, 1) := by decide +kernel
theorem dX1_weighOrders_1 : decode cX1_weighOrders 1 = .ok (.aload_n 1, 1) := by decide +kernel
theorem dX1_weighOrders_2 : decode cX1_weighOrders 2 = .ok (.getfield 18, 3) := by decide +kernel
theorem dX1_weighOrders_5 : decode cX1_weighOrders 5 = .ok (.ishl, 1) := by decide +kernel
theorem dX1_weighOrders_6 : decode cX1_weighOrders 6 = .ok (.iconst 1, 1) := by decide +kernel
theorem dX1_weighOrders_7 : decode cX1_weighOrders 7 = .ok (.isub, 1) := by decide +kernel
theorem dX1_weighOrders_8 : decode cX1_weighOrders 8 = .ok (.istore_n 2, 1) := by decide +kernel
theorem dX1_weighOrders_9 : decode cX1_weighOrders 9 = .ok (.iload_n 2, 1) := by decide +kernel
theorem dX1_weighOrders_10 : decode cX1_weighOrders 10 = .ok (.ifCond .lt 36, 3) := by decide +kernel
theorem dX1_weighOrders_13 : decode cX1_weighOrders 13 = .ok (.aload_n 1, 1) := by decide +kernel
theorem dX1_weighOrders_14 : decode cX1_weighOrders 14 = .ok (.iload_n 2, 1) := by decide +kernel
theorem dX1_weighOrders_15 : decode cX1_weighOrders 15 = .ok (.invokevirtual 24, 3) := by decide +kernel
theorem dX1_weighOrders_18 : decode cX1_weighOrders 18 = .ok (.istore_n 3, 1) := by decide +kernel
theorem dX1_weighOrders_19 : decode cX1_weighOrders 19 = .ok (.aload_n 0, 1) := by decide +kernel
theorem dX1_weighOrders_20 : decode cX1_weighOrders 20 = .ok (.getfield 9, 3) := by decide +kernel
theorem dX1_weighOrders_23 : decode cX1_weighOrders 23 = .ok (.iload_n 2, 1) := by decide +kernel
theorem dX1_weighOrders_24 : decode cX1_weighOrders 24 = .ok (.iload_n 3, 1) := by decide +kernel
theorem dX1_weighOrders_25 : decode cX1_weighOrders 25 = .ok (.ifCond .ne 7, 3) := by decide +kernel
theorem dX1_weighOrders_28 : decode cX1_weighOrders 28 = .ok (.iconst 0, 1) := by decide +kernel
theorem dX1_weighOrders_29 : decode cX1_weighOrders 29 = .ok (.goto 10, 3) := by decide +kernel
theorem dX1_weighOrders_32 : decode cX1_weighOrders 32 = .ok (.aload_n 0, 1) := by decide +kernel
theorem dX1_weighOrders_33 : decode cX1_weighOrders 33 = .ok (.aload_n 1, 1) := by decide +kernel
theorem dX1_weighOrders_34 : decode cX1_weighOrders 34 = .ok (.iload_n 2, 1) := by decide +kernel
theorem dX1_weighOrders_35 : decode cX1_weighOrders 35 = .ok (.iload_n 3, 1) := by decide +kernel
theorem dX1_weighOrders_36 : decode cX1_weighOrders 36 = .ok (.invokevirtual 28, 3) := by decide +kernel
theorem dX1_weighOrders_39 : decode cX1_weighOrders 39 = .ok (.iastore, 1) := by decide +kernel
theorem dX1_weighOrders_40 : decode cX1_weighOrders 40 = .ok (.iinc 2 (-1), 3) := by decide +kernel
theorem dX1_weighOrders_43 : decode cX1_weighOrders 43 = .ok (.goto (-34), 3) := by decide +kernel
theorem dX1_weighOrders_46 : decode cX1_weighOrders 46 = .ok (.return_, 1) := by decide +kernel
theorem dX1_fewestFrom_0 : decode cX1_fewestFrom 0 = .ok (.bipush (-9), 2) := by decide +kernel
theorem dX1_fewestFrom_2 : decode cX1_fewestFrom 2 = .ok (.istore 4, 2) := by decide +kernel
theorem dX1_fewestFrom_4 : decode cX1_fewestFrom 4 = .ok (.iconst 0, 1) := by decide +kernel
theorem dX1_fewestFrom_5 : decode cX1_fewestFrom 5 = .ok (.istore 5, 2) := by decide +kernel
theorem dX1_fewestFrom_7 : decode cX1_fewestFrom 7 = .ok (.iload 5, 2) := by decide +kernel
theorem dX1_fewestFrom_9 : decode cX1_fewestFrom 9 = .ok (.aload_n 1, 1) := by decide +kernel
theorem dX1_fewestFrom_10 : decode cX1_fewestFrom 10 = .ok (.getfield 18, 3) := by decide +kernel
theorem dX1_fewestFrom_13 : decode cX1_fewestFrom 13 = .ok (.if_icmp .ge 36, 3) := by decide +kernel
theorem dX1_fewestFrom_16 : decode cX1_fewestFrom 16 = .ok (.iload_n 2, 1) := by decide +kernel
theorem dX1_fewestFrom_17 : decode cX1_fewestFrom 17 = .ok (.iload 5, 2) := by decide +kernel
theorem dX1_fewestFrom_19 : decode cX1_fewestFrom 19 = .ok (.invokestatic 32, 3) := by decide +kernel
theorem dX1_fewestFrom_22 : decode cX1_fewestFrom 22 = .ok (.ifCond .ne 21, 3) := by decide +kernel
theorem dX1_fewestFrom_25 : decode cX1_fewestFrom 25 = .ok (.iload 4, 2) := by decide +kernel
theorem dX1_fewestFrom_27 : decode cX1_fewestFrom 27 = .ok (.aload_n 0, 1) := by decide +kernel
theorem dX1_fewestFrom_28 : decode cX1_fewestFrom 28 = .ok (.getfield 9, 3) := by decide +kernel
theorem dX1_fewestFrom_31 : decode cX1_fewestFrom 31 = .ok (.iload_n 2, 1) := by decide +kernel
theorem dX1_fewestFrom_32 : decode cX1_fewestFrom 32 = .ok (.iconst 1, 1) := by decide +kernel
theorem dX1_fewestFrom_33 : decode cX1_fewestFrom 33 = .ok (.iload 5, 2) := by decide +kernel
theorem dX1_fewestFrom_35 : decode cX1_fewestFrom 35 = .ok (.ishl, 1) := by decide +kernel
theorem dX1_fewestFrom_36 : decode cX1_fewestFrom 36 = .ok (.ior, 1) := by decide +kernel
theorem dX1_fewestFrom_37 : decode cX1_fewestFrom 37 = .ok (.iaload, 1) := by decide +kernel
theorem dX1_fewestFrom_38 : decode cX1_fewestFrom 38 = .ok (.invokestatic 36, 3) := by decide +kernel
theorem dX1_fewestFrom_41 : decode cX1_fewestFrom 41 = .ok (.istore 4, 2) := by decide +kernel
theorem dX1_fewestFrom_43 : decode cX1_fewestFrom 43 = .ok (.iinc 5 1, 3) := by decide +kernel
theorem dX1_fewestFrom_46 : decode cX1_fewestFrom 46 = .ok (.goto (-39), 3) := by decide +kernel
theorem dX1_fewestFrom_49 : decode cX1_fewestFrom 49 = .ok (.iload 4, 2) := by decide +kernel
theorem dX1_fewestFrom_51 : decode cX1_fewestFrom 51 = .ok (.bipush (-9), 2) := by decide +kernel
theorem dX1_fewestFrom_53 : decode cX1_fewestFrom 53 = .ok (.if_icmp .ne 8, 3) := by decide +kernel
theorem dX1_fewestFrom_56 : decode cX1_fewestFrom 56 = .ok (.bipush (-9), 2) := by decide +kernel
theorem dX1_fewestFrom_58 : decode cX1_fewestFrom 58 = .ok (.goto 11, 3) := by decide +kernel
theorem dX1_fewestFrom_61 : decode cX1_fewestFrom 61 = .ok (.iload 4, 2) := by decide +kernel
theorem dX1_fewestFrom_63 : decode cX1_fewestFrom 63 = .ok (.aload_n 1, 1) := by decide +kernel
theorem dX1_fewestFrom_64 : decode cX1_fewestFrom 64 = .ok (.iload_n 3, 1) := by decide +kernel
theorem dX1_fewestFrom_65 : decode cX1_fewestFrom 65 = .ok (.invokevirtual 40, 3) := by decide +kernel
theorem dX1_fewestFrom_68 : decode cX1_fewestFrom 68 = .ok (.iadd, 1) := by decide +kernel
theorem dX1_fewestFrom_69 : decode cX1_fewestFrom 69 = .ok (.ireturn, 1) := by decide +kernel
theorem dX1_fewer_0 : decode cX1_fewer 0 = .ok (.iload_n 0, 1) := by decide +kernel
theorem dX1_fewer_1 : decode cX1_fewer 1 = .ok (.bipush (-9), 2) := by decide +kernel
theorem dX1_fewer_3 : decode cX1_fewer 3 = .ok (.if_icmp .ne 5, 3) := by decide +kernel
theorem dX1_fewer_6 : decode cX1_fewer 6 = .ok (.iload_n 1, 1) := by decide +kernel
theorem dX1_fewer_7 : decode cX1_fewer 7 = .ok (.ireturn, 1) := by decide +kernel
theorem dX1_fewer_8 : decode cX1_fewer 8 = .ok (.iload_n 1, 1) := by decide +kernel
theorem dX1_fewer_9 : decode cX1_fewer 9 = .ok (.bipush (-9), 2) := by decide +kernel
theorem dX1_fewer_11 : decode cX1_fewer 11 = .ok (.if_icmp .ne 7, 3) := by decide +kernel
theorem dX1_fewer_14 : decode cX1_fewer 14 = .ok (.iload_n 0, 1) := by decide +kernel
theorem dX1_fewer_15 : decode cX1_fewer 15 = .ok (.goto 8, 3) := by decide +kernel
theorem dX1_fewer_18 : decode cX1_fewer 18 = .ok (.iload_n 0, 1) := by decide +kernel
theorem dX1_fewer_19 : decode cX1_fewer 19 = .ok (.iload_n 1, 1) := by decide +kernel
theorem dX1_fewer_20 : decode cX1_fewer 20 = .ok (.invokestatic 43, 3) := by decide +kernel
theorem dX1_fewer_23 : decode cX1_fewer 23 = .ok (.ireturn, 1) := by decide +kernel
theorem dX1_fewestByOrder_0 : decode cX1_fewestByOrder 0 = .ok (.aload_n 0, 1) := by decide +kernel
theorem dX1_fewestByOrder_1 : decode cX1_fewestByOrder 1 = .ok (.getfield 9, 3) := by decide +kernel
theorem dX1_fewestByOrder_4 : decode cX1_fewestByOrder 4 = .ok (.iconst 0, 1) := by decide +kernel
theorem dX1_fewestByOrder_5 : decode cX1_fewestByOrder 5 = .ok (.iaload, 1) := by decide +kernel
theorem dX1_fewestByOrder_6 : decode cX1_fewestByOrder 6 = .ok (.ireturn, 1) := by decide +kernel
theorem dX1_signOfOrder_0 : decode cX1_signOfOrder 0 = .ok (.iconst 0, 1) := by decide +kernel
theorem dX1_signOfOrder_1 : decode cX1_signOfOrder 1 = .ok (.istore_n 3, 1) := by decide +kernel
theorem dX1_signOfOrder_2 : decode cX1_signOfOrder 2 = .ok (.iconst 0, 1) := by decide +kernel
theorem dX1_signOfOrder_3 : decode cX1_signOfOrder 3 = .ok (.istore 4, 2) := by decide +kernel
theorem dX1_signOfOrder_5 : decode cX1_signOfOrder 5 = .ok (.iload 4, 2) := by decide +kernel
theorem dX1_signOfOrder_7 : decode cX1_signOfOrder 7 = .ok (.iload_n 2, 1) := by decide +kernel
theorem dX1_signOfOrder_8 : decode cX1_signOfOrder 8 = .ok (.if_icmp .ge 34, 3) := by decide +kernel
theorem dX1_signOfOrder_11 : decode cX1_signOfOrder 11 = .ok (.aload_n 0, 1) := by decide +kernel
theorem dX1_signOfOrder_12 : decode cX1_signOfOrder 12 = .ok (.aload_n 1, 1) := by decide +kernel
theorem dX1_signOfOrder_13 : decode cX1_signOfOrder 13 = .ok (.iload_n 3, 1) := by decide +kernel
theorem dX1_signOfOrder_14 : decode cX1_signOfOrder 14 = .ok (.invokevirtual 48, 3) := by decide +kernel
theorem dX1_signOfOrder_17 : decode cX1_signOfOrder 17 = .ok (.istore 5, 2) := by decide +kernel
theorem dX1_signOfOrder_19 : decode cX1_signOfOrder 19 = .ok (.iload 5, 2) := by decide +kernel
theorem dX1_signOfOrder_21 : decode cX1_signOfOrder 21 = .ok (.bipush (-9), 2) := by decide +kernel
theorem dX1_signOfOrder_23 : decode cX1_signOfOrder 23 = .ok (.if_icmp .ne 6, 3) := by decide +kernel
theorem dX1_signOfOrder_26 : decode cX1_signOfOrder 26 = .ok (.bipush (-9), 2) := by decide +kernel
theorem dX1_signOfOrder_28 : decode cX1_signOfOrder 28 = .ok (.ireturn, 1) := by decide +kernel
theorem dX1_signOfOrder_29 : decode cX1_signOfOrder 29 = .ok (.iload_n 3, 1) := by decide +kernel
theorem dX1_signOfOrder_30 : decode cX1_signOfOrder 30 = .ok (.iconst 1, 1) := by decide +kernel
theorem dX1_signOfOrder_31 : decode cX1_signOfOrder 31 = .ok (.iload 5, 2) := by decide +kernel
theorem dX1_signOfOrder_33 : decode cX1_signOfOrder 33 = .ok (.ishl, 1) := by decide +kernel
theorem dX1_signOfOrder_34 : decode cX1_signOfOrder 34 = .ok (.ior, 1) := by decide +kernel
theorem dX1_signOfOrder_35 : decode cX1_signOfOrder 35 = .ok (.istore_n 3, 1) := by decide +kernel
theorem dX1_signOfOrder_36 : decode cX1_signOfOrder 36 = .ok (.iinc 4 1, 3) := by decide +kernel
theorem dX1_signOfOrder_39 : decode cX1_signOfOrder 39 = .ok (.goto (-34), 3) := by decide +kernel
theorem dX1_signOfOrder_42 : decode cX1_signOfOrder 42 = .ok (.aload_n 0, 1) := by decide +kernel
theorem dX1_signOfOrder_43 : decode cX1_signOfOrder 43 = .ok (.aload_n 1, 1) := by decide +kernel
theorem dX1_signOfOrder_44 : decode cX1_signOfOrder 44 = .ok (.iload_n 3, 1) := by decide +kernel
theorem dX1_signOfOrder_45 : decode cX1_signOfOrder 45 = .ok (.invokevirtual 48, 3) := by decide +kernel
theorem dX1_signOfOrder_48 : decode cX1_signOfOrder 48 = .ok (.ireturn, 1) := by decide +kernel
theorem dX1_nextSign_0 : decode cX1_nextSign 0 = .ok (.aload_n 1, 1) := by decide +kernel
theorem dX1_nextSign_1 : decode cX1_nextSign 1 = .ok (.iload_n 2, 1) := by decide +kernel
theorem dX1_nextSign_2 : decode cX1_nextSign 2 = .ok (.invokevirtual 24, 3) := by decide +kernel
theorem dX1_nextSign_5 : decode cX1_nextSign 5 = .ok (.istore_n 3, 1) := by decide +kernel
theorem dX1_nextSign_6 : decode cX1_nextSign 6 = .ok (.aload_n 0, 1) := by decide +kernel
theorem dX1_nextSign_7 : decode cX1_nextSign 7 = .ok (.getfield 9, 3) := by decide +kernel
theorem dX1_nextSign_10 : decode cX1_nextSign 10 = .ok (.iload_n 2, 1) := by decide +kernel
theorem dX1_nextSign_11 : decode cX1_nextSign 11 = .ok (.iaload, 1) := by decide +kernel
theorem dX1_nextSign_12 : decode cX1_nextSign 12 = .ok (.bipush (-9), 2) := by decide +kernel
theorem dX1_nextSign_14 : decode cX1_nextSign 14 = .ok (.if_icmp .eq 7, 3) := by decide +kernel
theorem dX1_nextSign_17 : decode cX1_nextSign 17 = .ok (.iload_n 3, 1) := by decide +kernel
theorem dX1_nextSign_18 : decode cX1_nextSign 18 = .ok (.ifCond .ne 6, 3) := by decide +kernel
theorem dX1_nextSign_21 : decode cX1_nextSign 21 = .ok (.bipush (-9), 2) := by decide +kernel
theorem dX1_nextSign_23 : decode cX1_nextSign 23 = .ok (.ireturn, 1) := by decide +kernel
theorem dX1_nextSign_24 : decode cX1_nextSign 24 = .ok (.aload_n 0, 1) := by decide +kernel
theorem dX1_nextSign_25 : decode cX1_nextSign 25 = .ok (.getfield 9, 3) := by decide +kernel
theorem dX1_nextSign_28 : decode cX1_nextSign 28 = .ok (.iload_n 2, 1) := by decide +kernel
theorem dX1_nextSign_29 : decode cX1_nextSign 29 = .ok (.iaload, 1) := by decide +kernel
theorem dX1_nextSign_30 : decode cX1_nextSign 30 = .ok (.aload_n 1, 1) := by decide +kernel
theorem dX1_nextSign_31 : decode cX1_nextSign 31 = .ok (.iload_n 3, 1) := by decide +kernel
theorem dX1_nextSign_32 : decode cX1_nextSign 32 = .ok (.invokevirtual 40, 3) := by decide +kernel
theorem dX1_nextSign_35 : decode cX1_nextSign 35 = .ok (.isub, 1) := by decide +kernel
theorem dX1_nextSign_36 : decode cX1_nextSign 36 = .ok (.istore 4, 2) := by decide +kernel
theorem dX1_nextSign_38 : decode cX1_nextSign 38 = .ok (.iconst 0, 1) := by decide +kernel
theorem dX1_nextSign_39 : decode cX1_nextSign 39 = .ok (.istore 5, 2) := by decide +kernel
theorem dX1_nextSign_41 : decode cX1_nextSign 41 = .ok (.iload 5, 2) := by decide +kernel
theorem dX1_nextSign_43 : decode cX1_nextSign 43 = .ok (.aload_n 1, 1) := by decide +kernel
theorem dX1_nextSign_44 : decode cX1_nextSign 44 = .ok (.getfield 18, 3) := by decide +kernel
theorem dX1_nextSign_47 : decode cX1_nextSign 47 = .ok (.if_icmp .ge 37, 3) := by decide +kernel
theorem dX1_nextSign_50 : decode cX1_nextSign 50 = .ok (.iload_n 2, 1) := by decide +kernel
theorem dX1_nextSign_51 : decode cX1_nextSign 51 = .ok (.iload 5, 2) := by decide +kernel
theorem dX1_nextSign_53 : decode cX1_nextSign 53 = .ok (.invokestatic 32, 3) := by decide +kernel
theorem dX1_nextSign_56 : decode cX1_nextSign 56 = .ok (.ifCond .ne 22, 3) := by decide +kernel
theorem dX1_nextSign_59 : decode cX1_nextSign 59 = .ok (.aload_n 0, 1) := by decide +kernel
theorem dX1_nextSign_60 : decode cX1_nextSign 60 = .ok (.getfield 9, 3) := by decide +kernel
theorem dX1_nextSign_63 : decode cX1_nextSign 63 = .ok (.iload_n 2, 1) := by decide +kernel
theorem dX1_nextSign_64 : decode cX1_nextSign 64 = .ok (.iconst 1, 1) := by decide +kernel
theorem dX1_nextSign_65 : decode cX1_nextSign 65 = .ok (.iload 5, 2) := by decide +kernel
theorem dX1_nextSign_67 : decode cX1_nextSign 67 = .ok (.ishl, 1) := by decide +kernel
theorem dX1_nextSign_68 : decode cX1_nextSign 68 = .ok (.ior, 1) := by decide +kernel
theorem dX1_nextSign_69 : decode cX1_nextSign 69 = .ok (.iaload, 1) := by decide +kernel
theorem dX1_nextSign_70 : decode cX1_nextSign 70 = .ok (.iload 4, 2) := by decide +kernel
theorem dX1_nextSign_72 : decode cX1_nextSign 72 = .ok (.if_icmp .ne 6, 3) := by decide +kernel
theorem dX1_nextSign_75 : decode cX1_nextSign 75 = .ok (.iload 5, 2) := by decide +kernel
theorem dX1_nextSign_77 : decode cX1_nextSign 77 = .ok (.ireturn, 1) := by decide +kernel
theorem dX1_nextSign_78 : decode cX1_nextSign 78 = .ok (.iinc 5 1, 3) := by decide +kernel
theorem dX1_nextSign_81 : decode cX1_nextSign 81 = .ok (.goto (-40), 3) := by decide +kernel
theorem dX1_nextSign_84 : decode cX1_nextSign 84 = .ok (.bipush (-9), 2) := by decide +kernel
theorem dX1_nextSign_86 : decode cX1_nextSign 86 = .ok (.ireturn, 1) := by decide +kernel
theorem dX1_weighTrees_0 : decode cX1_weighTrees 0 = .ok (.iconst 0, 1) := by decide +kernel
theorem dX1_weighTrees_1 : decode cX1_weighTrees 1 = .ok (.istore_n 2, 1) := by decide +kernel
theorem dX1_weighTrees_2 : decode cX1_weighTrees 2 = .ok (.iload_n 2, 1) := by decide +kernel
theorem dX1_weighTrees_3 : decode cX1_weighTrees 3 = .ok (.aload_n 1, 1) := by decide +kernel
theorem dX1_weighTrees_4 : decode cX1_weighTrees 4 = .ok (.invokevirtual 52, 3) := by decide +kernel
theorem dX1_weighTrees_7 : decode cX1_weighTrees 7 = .ok (.if_icmp .gt 33, 3) := by decide +kernel
theorem dX1_weighTrees_10 : decode cX1_weighTrees 10 = .ok (.aload_n 0, 1) := by decide +kernel
theorem dX1_weighTrees_11 : decode cX1_weighTrees 11 = .ok (.getfield 15, 3) := by decide +kernel
theorem dX1_weighTrees_14 : decode cX1_weighTrees 14 = .ok (.iload_n 2, 1) := by decide +kernel
theorem dX1_weighTrees_15 : decode cX1_weighTrees 15 = .ok (.iload_n 2, 1) := by decide +kernel
theorem dX1_weighTrees_16 : decode cX1_weighTrees 16 = .ok (.invokestatic 56, 3) := by decide +kernel
theorem dX1_weighTrees_19 : decode cX1_weighTrees 19 = .ok (.iconst 2, 1) := by decide +kernel
theorem dX1_weighTrees_20 : decode cX1_weighTrees 20 = .ok (.if_icmp .ge 7, 3) := by decide +kernel
theorem dX1_weighTrees_23 : decode cX1_weighTrees 23 = .ok (.iconst 0, 1) := by decide +kernel
theorem dX1_weighTrees_24 : decode cX1_weighTrees 24 = .ok (.goto 9, 3) := by decide +kernel
theorem dX1_weighTrees_27 : decode cX1_weighTrees 27 = .ok (.aload_n 0, 1) := by decide +kernel
theorem dX1_weighTrees_28 : decode cX1_weighTrees 28 = .ok (.aload_n 1, 1) := by decide +kernel
theorem dX1_weighTrees_29 : decode cX1_weighTrees 29 = .ok (.iload_n 2, 1) := by decide +kernel
theorem dX1_weighTrees_30 : decode cX1_weighTrees 30 = .ok (.invokevirtual 61, 3) := by decide +kernel
theorem dX1_weighTrees_33 : decode cX1_weighTrees 33 = .ok (.iastore, 1) := by decide +kernel
theorem dX1_weighTrees_34 : decode cX1_weighTrees 34 = .ok (.iinc 2 1, 3) := by decide +kernel
theorem dX1_weighTrees_37 : decode cX1_weighTrees 37 = .ok (.goto (-35), 3) := by decide +kernel
theorem dX1_weighTrees_40 : decode cX1_weighTrees 40 = .ok (.return_, 1) := by decide +kernel
theorem dX1_fewestOf_0 : decode cX1_fewestOf 0 = .ok (.bipush (-9), 2) := by decide +kernel
theorem dX1_fewestOf_2 : decode cX1_fewestOf 2 = .ok (.istore_n 3, 1) := by decide +kernel
theorem dX1_fewestOf_3 : decode cX1_fewestOf 3 = .ok (.iconst 0, 1) := by decide +kernel
theorem dX1_fewestOf_4 : decode cX1_fewestOf 4 = .ok (.istore 4, 2) := by decide +kernel
theorem dX1_fewestOf_6 : decode cX1_fewestOf 6 = .ok (.iload 4, 2) := by decide +kernel
theorem dX1_fewestOf_8 : decode cX1_fewestOf 8 = .ok (.aload_n 1, 1) := by decide +kernel
theorem dX1_fewestOf_9 : decode cX1_fewestOf 9 = .ok (.getfield 18, 3) := by decide +kernel
theorem dX1_fewestOf_12 : decode cX1_fewestOf 12 = .ok (.if_icmp .ge 22, 3) := by decide +kernel
theorem dX1_fewestOf_15 : decode cX1_fewestOf 15 = .ok (.iload_n 3, 1) := by decide +kernel
theorem dX1_fewestOf_16 : decode cX1_fewestOf 16 = .ok (.aload_n 0, 1) := by decide +kernel
theorem dX1_fewestOf_17 : decode cX1_fewestOf 17 = .ok (.aload_n 1, 1) := by decide +kernel
theorem dX1_fewestOf_18 : decode cX1_fewestOf 18 = .ok (.iload_n 2, 1) := by decide +kernel
theorem dX1_fewestOf_19 : decode cX1_fewestOf 19 = .ok (.iload 4, 2) := by decide +kernel
theorem dX1_fewestOf_21 : decode cX1_fewestOf 21 = .ok (.invokevirtual 64, 3) := by decide +kernel
theorem dX1_fewestOf_24 : decode cX1_fewestOf 24 = .ok (.invokestatic 36, 3) := by decide +kernel
theorem dX1_fewestOf_27 : decode cX1_fewestOf 27 = .ok (.istore_n 3, 1) := by decide +kernel
theorem dX1_fewestOf_28 : decode cX1_fewestOf 28 = .ok (.iinc 4 1, 3) := by decide +kernel
theorem dX1_fewestOf_31 : decode cX1_fewestOf 31 = .ok (.goto (-25), 3) := by decide +kernel
theorem dX1_fewestOf_34 : decode cX1_fewestOf 34 = .ok (.iload_n 3, 1) := by decide +kernel
theorem dX1_fewestOf_35 : decode cX1_fewestOf 35 = .ok (.bipush (-9), 2) := by decide +kernel
theorem dX1_fewestOf_37 : decode cX1_fewestOf 37 = .ok (.if_icmp .ne 8, 3) := by decide +kernel
theorem dX1_fewestOf_40 : decode cX1_fewestOf 40 = .ok (.bipush (-9), 2) := by decide +kernel
theorem dX1_fewestOf_42 : decode cX1_fewestOf 42 = .ok (.goto 10, 3) := by decide +kernel
theorem dX1_fewestOf_45 : decode cX1_fewestOf 45 = .ok (.iload_n 3, 1) := by decide +kernel
theorem dX1_fewestOf_46 : decode cX1_fewestOf 46 = .ok (.aload_n 1, 1) := by decide +kernel
theorem dX1_fewestOf_47 : decode cX1_fewestOf 47 = .ok (.iload_n 2, 1) := by decide +kernel
theorem dX1_fewestOf_48 : decode cX1_fewestOf 48 = .ok (.invokevirtual 40, 3) := by decide +kernel
theorem dX1_fewestOf_51 : decode cX1_fewestOf 51 = .ok (.iadd, 1) := by decide +kernel
theorem dX1_fewestOf_52 : decode cX1_fewestOf 52 = .ok (.ireturn, 1) := by decide +kernel
theorem dX1_behindParting_0 : decode cX1_behindParting 0 = .ok (.iload_n 2, 1) := by decide +kernel
theorem dX1_behindParting_1 : decode cX1_behindParting 1 = .ok (.aload_n 1, 1) := by decide +kernel
theorem dX1_behindParting_2 : decode cX1_behindParting 2 = .ok (.getfield 67, 3) := by decide +kernel
theorem dX1_behindParting_5 : decode cX1_behindParting 5 = .ok (.iload_n 3, 1) := by decide +kernel
theorem dX1_behindParting_6 : decode cX1_behindParting 6 = .ok (.iaload, 1) := by decide +kernel
theorem dX1_behindParting_7 : decode cX1_behindParting 7 = .ok (.iand, 1) := by decide +kernel
theorem dX1_behindParting_8 : decode cX1_behindParting 8 = .ok (.istore 4, 2) := by decide +kernel
theorem dX1_behindParting_10 : decode cX1_behindParting 10 = .ok (.iload_n 2, 1) := by decide +kernel
theorem dX1_behindParting_11 : decode cX1_behindParting 11 = .ok (.aload_n 1, 1) := by decide +kernel
theorem dX1_behindParting_12 : decode cX1_behindParting 12 = .ok (.getfield 67, 3) := by decide +kernel
theorem dX1_behindParting_15 : decode cX1_behindParting 15 = .ok (.iload_n 3, 1) := by decide +kernel
theorem dX1_behindParting_16 : decode cX1_behindParting 16 = .ok (.iaload, 1) := by decide +kernel
theorem dX1_behindParting_17 : decode cX1_behindParting 17 = .ok (.iconst (-1), 1) := by decide +kernel
theorem dX1_behindParting_18 : decode cX1_behindParting 18 = .ok (.ixor, 1) := by decide +kernel
theorem dX1_behindParting_19 : decode cX1_behindParting 19 = .ok (.iand, 1) := by decide +kernel
theorem dX1_behindParting_20 : decode cX1_behindParting 20 = .ok (.istore 5, 2) := by decide +kernel
theorem dX1_behindParting_22 : decode cX1_behindParting 22 = .ok (.iload 4, 2) := by decide +kernel
theorem dX1_behindParting_24 : decode cX1_behindParting 24 = .ok (.ifCond .eq 32, 3) := by decide +kernel
theorem dX1_behindParting_27 : decode cX1_behindParting 27 = .ok (.iload 5, 2) := by decide +kernel
theorem dX1_behindParting_29 : decode cX1_behindParting 29 = .ok (.ifCond .eq 27, 3) := by decide +kernel
theorem dX1_behindParting_32 : decode cX1_behindParting 32 = .ok (.aload_n 0, 1) := by decide +kernel
theorem dX1_behindParting_33 : decode cX1_behindParting 33 = .ok (.getfield 15, 3) := by decide +kernel
theorem dX1_behindParting_36 : decode cX1_behindParting 36 = .ok (.iload 4, 2) := by decide +kernel
theorem dX1_behindParting_38 : decode cX1_behindParting 38 = .ok (.iaload, 1) := by decide +kernel
theorem dX1_behindParting_39 : decode cX1_behindParting 39 = .ok (.bipush (-9), 2) := by decide +kernel
theorem dX1_behindParting_41 : decode cX1_behindParting 41 = .ok (.if_icmp .eq 15, 3) := by decide +kernel
theorem dX1_behindParting_44 : decode cX1_behindParting 44 = .ok (.aload_n 0, 1) := by decide +kernel
theorem dX1_behindParting_45 : decode cX1_behindParting 45 = .ok (.getfield 15, 3) := by decide +kernel
theorem dX1_behindParting_48 : decode cX1_behindParting 48 = .ok (.iload 5, 2) := by decide +kernel
theorem dX1_behindParting_50 : decode cX1_behindParting 50 = .ok (.iaload, 1) := by decide +kernel
theorem dX1_behindParting_51 : decode cX1_behindParting 51 = .ok (.bipush (-9), 2) := by decide +kernel
theorem dX1_behindParting_53 : decode cX1_behindParting 53 = .ok (.if_icmp .ne 6, 3) := by decide +kernel
theorem dX1_behindParting_56 : decode cX1_behindParting 56 = .ok (.bipush (-9), 2) := by decide +kernel
theorem dX1_behindParting_58 : decode cX1_behindParting 58 = .ok (.ireturn, 1) := by decide +kernel
theorem dX1_behindParting_59 : decode cX1_behindParting 59 = .ok (.aload_n 0, 1) := by decide +kernel
theorem dX1_behindParting_60 : decode cX1_behindParting 60 = .ok (.getfield 15, 3) := by decide +kernel
theorem dX1_behindParting_63 : decode cX1_behindParting 63 = .ok (.iload 4, 2) := by decide +kernel
theorem dX1_behindParting_65 : decode cX1_behindParting 65 = .ok (.iaload, 1) := by decide +kernel
theorem dX1_behindParting_66 : decode cX1_behindParting 66 = .ok (.aload_n 0, 1) := by decide +kernel
theorem dX1_behindParting_67 : decode cX1_behindParting 67 = .ok (.getfield 15, 3) := by decide +kernel
theorem dX1_behindParting_70 : decode cX1_behindParting 70 = .ok (.iload 5, 2) := by decide +kernel
theorem dX1_behindParting_72 : decode cX1_behindParting 72 = .ok (.iaload, 1) := by decide +kernel
theorem dX1_behindParting_73 : decode cX1_behindParting 73 = .ok (.iadd, 1) := by decide +kernel
theorem dX1_behindParting_74 : decode cX1_behindParting 74 = .ok (.ireturn, 1) := by decide +kernel
theorem dX1_fewestByTree_0 : decode cX1_fewestByTree 0 = .ok (.aload_n 0, 1) := by decide +kernel
theorem dX1_fewestByTree_1 : decode cX1_fewestByTree 1 = .ok (.getfield 15, 3) := by decide +kernel
theorem dX1_fewestByTree_4 : decode cX1_fewestByTree 4 = .ok (.aload_n 1, 1) := by decide +kernel
theorem dX1_fewestByTree_5 : decode cX1_fewestByTree 5 = .ok (.invokevirtual 52, 3) := by decide +kernel
theorem dX1_fewestByTree_8 : decode cX1_fewestByTree 8 = .ok (.iaload, 1) := by decide +kernel
theorem dX1_fewestByTree_9 : decode cX1_fewestByTree 9 = .ok (.ireturn, 1) := by decide +kernel
theorem dX1_firstOfTree_0 : decode cX1_firstOfTree 0 = .ok (.aload_n 1, 1) := by decide +kernel
theorem dX1_firstOfTree_1 : decode cX1_firstOfTree 1 = .ok (.invokevirtual 52, 3) := by decide +kernel
theorem dX1_firstOfTree_4 : decode cX1_firstOfTree 4 = .ok (.istore_n 2, 1) := by decide +kernel
theorem dX1_firstOfTree_5 : decode cX1_firstOfTree 5 = .ok (.aload_n 0, 1) := by decide +kernel
theorem dX1_firstOfTree_6 : decode cX1_firstOfTree 6 = .ok (.getfield 15, 3) := by decide +kernel
theorem dX1_firstOfTree_9 : decode cX1_firstOfTree 9 = .ok (.iload_n 2, 1) := by decide +kernel
theorem dX1_firstOfTree_10 : decode cX1_firstOfTree 10 = .ok (.iaload, 1) := by decide +kernel
theorem dX1_firstOfTree_11 : decode cX1_firstOfTree 11 = .ok (.bipush (-9), 2) := by decide +kernel
theorem dX1_firstOfTree_13 : decode cX1_firstOfTree 13 = .ok (.if_icmp .ne 6, 3) := by decide +kernel
theorem dX1_firstOfTree_16 : decode cX1_firstOfTree 16 = .ok (.bipush (-9), 2) := by decide +kernel
theorem dX1_firstOfTree_18 : decode cX1_firstOfTree 18 = .ok (.ireturn, 1) := by decide +kernel
theorem dX1_firstOfTree_19 : decode cX1_firstOfTree 19 = .ok (.aload_n 0, 1) := by decide +kernel
theorem dX1_firstOfTree_20 : decode cX1_firstOfTree 20 = .ok (.getfield 15, 3) := by decide +kernel
theorem dX1_firstOfTree_23 : decode cX1_firstOfTree 23 = .ok (.iload_n 2, 1) := by decide +kernel
theorem dX1_firstOfTree_24 : decode cX1_firstOfTree 24 = .ok (.iaload, 1) := by decide +kernel
theorem dX1_firstOfTree_25 : decode cX1_firstOfTree 25 = .ok (.aload_n 1, 1) := by decide +kernel
theorem dX1_firstOfTree_26 : decode cX1_firstOfTree 26 = .ok (.iload_n 2, 1) := by decide +kernel
theorem dX1_firstOfTree_27 : decode cX1_firstOfTree 27 = .ok (.invokevirtual 40, 3) := by decide +kernel
theorem dX1_firstOfTree_30 : decode cX1_firstOfTree 30 = .ok (.isub, 1) := by decide +kernel
theorem dX1_firstOfTree_31 : decode cX1_firstOfTree 31 = .ok (.istore_n 3, 1) := by decide +kernel
theorem dX1_firstOfTree_32 : decode cX1_firstOfTree 32 = .ok (.iconst 0, 1) := by decide +kernel
theorem dX1_firstOfTree_33 : decode cX1_firstOfTree 33 = .ok (.istore 4, 2) := by decide +kernel
theorem dX1_firstOfTree_35 : decode cX1_firstOfTree 35 = .ok (.iload 4, 2) := by decide +kernel
theorem dX1_firstOfTree_37 : decode cX1_firstOfTree 37 = .ok (.aload_n 1, 1) := by decide +kernel
theorem dX1_firstOfTree_38 : decode cX1_firstOfTree 38 = .ok (.getfield 18, 3) := by decide +kernel
theorem dX1_firstOfTree_41 : decode cX1_firstOfTree 41 = .ok (.if_icmp .ge 24, 3) := by decide +kernel
theorem dX1_firstOfTree_44 : decode cX1_firstOfTree 44 = .ok (.aload_n 0, 1) := by decide +kernel
theorem dX1_firstOfTree_45 : decode cX1_firstOfTree 45 = .ok (.aload_n 1, 1) := by decide +kernel
theorem dX1_firstOfTree_46 : decode cX1_firstOfTree 46 = .ok (.iload_n 2, 1) := by decide +kernel
theorem dX1_firstOfTree_47 : decode cX1_firstOfTree 47 = .ok (.iload 4, 2) := by decide +kernel
theorem dX1_firstOfTree_49 : decode cX1_firstOfTree 49 = .ok (.invokevirtual 64, 3) := by decide +kernel
theorem dX1_firstOfTree_52 : decode cX1_firstOfTree 52 = .ok (.iload_n 3, 1) := by decide +kernel
theorem dX1_firstOfTree_53 : decode cX1_firstOfTree 53 = .ok (.if_icmp .ne 6, 3) := by decide +kernel
theorem dX1_firstOfTree_56 : decode cX1_firstOfTree 56 = .ok (.iload 4, 2) := by decide +kernel
theorem dX1_firstOfTree_58 : decode cX1_firstOfTree 58 = .ok (.ireturn, 1) := by decide +kernel
theorem dX1_firstOfTree_59 : decode cX1_firstOfTree 59 = .ok (.iinc 4 1, 3) := by decide +kernel
theorem dX1_firstOfTree_62 : decode cX1_firstOfTree 62 = .ok (.goto (-27), 3) := by decide +kernel
theorem dX1_firstOfTree_65 : decode cX1_firstOfTree 65 = .ok (.bipush (-9), 2) := by decide +kernel
theorem dX1_firstOfTree_67 : decode cX1_firstOfTree 67 = .ok (.ireturn, 1) := by decide +kernel
theorem dX2_init_0 : decode cX2_init 0 = .ok (.aload_n 0, 1) := by decide +kernel
theorem dX2_init_1 : decode cX2_init 1 = .ok (.invokespecial 3, 3) := by decide +kernel
theorem dX2_init_4 : decode cX2_init 4 = .ok (.aload_n 0, 1) := by decide +kernel
theorem dX2_init_5 : decode cX2_init 5 = .ok (.sipush 240, 3) := by decide +kernel
theorem dX2_init_8 : decode cX2_init 8 = .ok (.newarray .int, 2) := by decide +kernel
theorem dX2_init_10 : decode cX2_init 10 = .ok (.putfield 9, 3) := by decide +kernel
theorem dX2_init_13 : decode cX2_init 13 = .ok (.aload_n 0, 1) := by decide +kernel
theorem dX2_init_14 : decode cX2_init 14 = .ok (.iconst 4, 1) := by decide +kernel
theorem dX2_init_15 : decode cX2_init 15 = .ok (.newarray .int, 2) := by decide +kernel
theorem dX2_init_17 : decode cX2_init 17 = .ok (.putfield 15, 3) := by decide +kernel
theorem dX2_init_20 : decode cX2_init 20 = .ok (.aload_n 0, 1) := by decide +kernel
theorem dX2_init_21 : decode cX2_init 21 = .ok (.iconst 4, 1) := by decide +kernel
theorem dX2_init_22 : decode cX2_init 22 = .ok (.newarray .int, 2) := by decide +kernel
theorem dX2_init_24 : decode cX2_init 24 = .ok (.putfield 18, 3) := by decide +kernel
theorem dX2_init_27 : decode cX2_init 27 = .ok (.iconst 0, 1) := by decide +kernel
theorem dX2_init_28 : decode cX2_init 28 = .ok (.istore_n 1, 1) := by decide +kernel
theorem dX2_init_29 : decode cX2_init 29 = .ok (.iload_n 1, 1) := by decide +kernel
theorem dX2_init_30 : decode cX2_init 30 = .ok (.iconst 4, 1) := by decide +kernel
theorem dX2_init_31 : decode cX2_init 31 = .ok (.if_icmp .ge 17, 3) := by decide +kernel
theorem dX2_init_34 : decode cX2_init 34 = .ok (.aload_n 0, 1) := by decide +kernel
theorem dX2_init_35 : decode cX2_init 35 = .ok (.getfield 18, 3) := by decide +kernel
theorem dX2_init_38 : decode cX2_init 38 = .ok (.iload_n 1, 1) := by decide +kernel
theorem dX2_init_39 : decode cX2_init 39 = .ok (.bipush (-9), 2) := by decide +kernel
theorem dX2_init_41 : decode cX2_init 41 = .ok (.iastore, 1) := by decide +kernel
theorem dX2_init_42 : decode cX2_init 42 = .ok (.iinc 1 1, 3) := by decide +kernel
theorem dX2_init_45 : decode cX2_init 45 = .ok (.goto (-16), 3) := by decide +kernel
theorem dX2_init_48 : decode cX2_init 48 = .ok (.return_, 1) := by decide +kernel
theorem dX2_isSheet_0 : decode cX2_isSheet 0 = .ok (.iload_n 0, 1) := by decide +kernel
theorem dX2_isSheet_1 : decode cX2_isSheet 1 = .ok (.ifCond .lt 12, 3) := by decide +kernel
theorem dX2_isSheet_4 : decode cX2_isSheet 4 = .ok (.iload_n 0, 1) := by decide +kernel
theorem dX2_isSheet_5 : decode cX2_isSheet 5 = .ok (.iconst 4, 1) := by decide +kernel
theorem dX2_isSheet_6 : decode cX2_isSheet 6 = .ok (.if_icmp .ge 7, 3) := by decide +kernel
theorem dX2_isSheet_9 : decode cX2_isSheet 9 = .ok (.iconst 1, 1) := by decide +kernel
theorem dX2_isSheet_10 : decode cX2_isSheet 10 = .ok (.goto 4, 3) := by decide +kernel
theorem dX2_isSheet_13 : decode cX2_isSheet 13 = .ok (.iconst 0, 1) := by decide +kernel
theorem dX2_isSheet_14 : decode cX2_isSheet 14 = .ok (.ireturn, 1) := by decide +kernel
theorem dX2_isLane_0 : decode cX2_isLane 0 = .ok (.iload_n 0, 1) := by decide +kernel
theorem dX2_isLane_1 : decode cX2_isLane 1 = .ok (.ifCond .lt 12, 3) := by decide +kernel
theorem dX2_isLane_4 : decode cX2_isLane 4 = .ok (.iload_n 0, 1) := by decide +kernel
theorem dX2_isLane_5 : decode cX2_isLane 5 = .ok (.iconst 3, 1) := by decide +kernel
theorem dX2_isLane_6 : decode cX2_isLane 6 = .ok (.if_icmp .ge 7, 3) := by decide +kernel
theorem dX2_isLane_9 : decode cX2_isLane 9 = .ok (.iconst 1, 1) := by decide +kernel
theorem dX2_isLane_10 : decode cX2_isLane 10 = .ok (.goto 4, 3) := by decide +kernel
theorem dX2_isLane_13 : decode cX2_isLane 13 = .ok (.iconst 0, 1) := by decide +kernel
theorem dX2_isLane_14 : decode cX2_isLane 14 = .ok (.ireturn, 1) := by decide +kernel
theorem dX2_isEmpty_0 : decode cX2_isEmpty 0 = .ok (.aload_n 0, 1) := by decide +kernel
theorem dX2_isEmpty_1 : decode cX2_isEmpty 1 = .ok (.getfield 18, 3) := by decide +kernel
theorem dX2_isEmpty_4 : decode cX2_isEmpty 4 = .ok (.iload_n 1, 1) := by decide +kernel
theorem dX2_isEmpty_5 : decode cX2_isEmpty 5 = .ok (.iaload, 1) := by decide +kernel
theorem dX2_isEmpty_6 : decode cX2_isEmpty 6 = .ok (.bipush (-9), 2) := by decide +kernel
theorem dX2_isEmpty_8 : decode cX2_isEmpty 8 = .ok (.if_icmp .ne 7, 3) := by decide +kernel
theorem dX2_isEmpty_11 : decode cX2_isEmpty 11 = .ok (.iconst 1, 1) := by decide +kernel
theorem dX2_isEmpty_12 : decode cX2_isEmpty 12 = .ok (.goto 4, 3) := by decide +kernel
theorem dX2_isEmpty_15 : decode cX2_isEmpty 15 = .ok (.iconst 0, 1) := by decide +kernel
theorem dX2_isEmpty_16 : decode cX2_isEmpty 16 = .ok (.ireturn, 1) := by decide +kernel
theorem dX2_faultAsRow_0 : decode cX2_faultAsRow 0 = .ok (.aload_n 0, 1) := by decide +kernel
theorem dX2_faultAsRow_1 : decode cX2_faultAsRow 1 = .ok (.iload_n 1, 1) := by decide +kernel
theorem dX2_faultAsRow_2 : decode cX2_faultAsRow 2 = .ok (.invokevirtual 21, 3) := by decide +kernel
theorem dX2_faultAsRow_5 : decode cX2_faultAsRow 5 = .ok (.ifCond .eq 5, 3) := by decide +kernel
theorem dX2_faultAsRow_8 : decode cX2_faultAsRow 8 = .ok (.iconst 1, 1) := by decide +kernel
theorem dX2_faultAsRow_9 : decode cX2_faultAsRow 9 = .ok (.ireturn, 1) := by decide +kernel
theorem dX2_faultAsRow_10 : decode cX2_faultAsRow 10 = .ok (.aload_n 0, 1) := by decide +kernel
theorem dX2_faultAsRow_11 : decode cX2_faultAsRow 11 = .ok (.getfield 15, 3) := by decide +kernel
theorem dX2_faultAsRow_14 : decode cX2_faultAsRow 14 = .ok (.iload_n 1, 1) := by decide +kernel
theorem dX2_faultAsRow_15 : decode cX2_faultAsRow 15 = .ok (.iaload, 1) := by decide +kernel
theorem dX2_faultAsRow_16 : decode cX2_faultAsRow 16 = .ok (.iload_n 2, 1) := by decide +kernel
theorem dX2_faultAsRow_17 : decode cX2_faultAsRow 17 = .ok (.if_icmp .ne 7, 3) := by decide +kernel
theorem dX2_faultAsRow_20 : decode cX2_faultAsRow 20 = .ok (.iconst 0, 1) := by decide +kernel
theorem dX2_faultAsRow_21 : decode cX2_faultAsRow 21 = .ok (.goto 4, 3) := by decide +kernel
theorem dX2_faultAsRow_24 : decode cX2_faultAsRow 24 = .ok (.iconst 2, 1) := by decide +kernel
theorem dX2_faultAsRow_25 : decode cX2_faultAsRow 25 = .ok (.ireturn, 1) := by decide +kernel
theorem dX2_faultOfPair_0 : decode cX2_faultOfPair 0 = .ok (.aload_n 0, 1) := by decide +kernel
theorem dX2_faultOfPair_1 : decode cX2_faultOfPair 1 = .ok (.iload_n 1, 1) := by decide +kernel
theorem dX2_faultOfPair_2 : decode cX2_faultOfPair 2 = .ok (.invokevirtual 21, 3) := by decide +kernel
theorem dX2_faultOfPair_5 : decode cX2_faultOfPair 5 = .ok (.ifCond .ne 11, 3) := by decide +kernel
theorem dX2_faultOfPair_8 : decode cX2_faultOfPair 8 = .ok (.aload_n 0, 1) := by decide +kernel
theorem dX2_faultOfPair_9 : decode cX2_faultOfPair 9 = .ok (.iload_n 2, 1) := by decide +kernel
theorem dX2_faultOfPair_10 : decode cX2_faultOfPair 10 = .ok (.invokevirtual 21, 3) := by decide +kernel
theorem dX2_faultOfPair_13 : decode cX2_faultOfPair 13 = .ok (.ifCond .eq 5, 3) := by decide +kernel
theorem dX2_faultOfPair_16 : decode cX2_faultOfPair 16 = .ok (.iconst 1, 1) := by decide +kernel
theorem dX2_faultOfPair_17 : decode cX2_faultOfPair 17 = .ok (.ireturn, 1) := by decide +kernel
theorem dX2_faultOfPair_18 : decode cX2_faultOfPair 18 = .ok (.aload_n 0, 1) := by decide +kernel
theorem dX2_faultOfPair_19 : decode cX2_faultOfPair 19 = .ok (.getfield 15, 3) := by decide +kernel
theorem dX2_faultOfPair_22 : decode cX2_faultOfPair 22 = .ok (.iload_n 1, 1) := by decide +kernel
theorem dX2_faultOfPair_23 : decode cX2_faultOfPair 23 = .ok (.iaload, 1) := by decide +kernel
theorem dX2_faultOfPair_24 : decode cX2_faultOfPair 24 = .ok (.aload_n 0, 1) := by decide +kernel
theorem dX2_faultOfPair_25 : decode cX2_faultOfPair 25 = .ok (.getfield 15, 3) := by decide +kernel
theorem dX2_faultOfPair_28 : decode cX2_faultOfPair 28 = .ok (.iload_n 2, 1) := by decide +kernel
theorem dX2_faultOfPair_29 : decode cX2_faultOfPair 29 = .ok (.iaload, 1) := by decide +kernel
theorem dX2_faultOfPair_30 : decode cX2_faultOfPair 30 = .ok (.if_icmp .ne 7, 3) := by decide +kernel
theorem dX2_faultOfPair_33 : decode cX2_faultOfPair 33 = .ok (.iconst 0, 1) := by decide +kernel
theorem dX2_faultOfPair_34 : decode cX2_faultOfPair 34 = .ok (.goto 4, 3) := by decide +kernel
theorem dX2_faultOfPair_37 : decode cX2_faultOfPair 37 = .ok (.iconst 2, 1) := by decide +kernel
theorem dX2_faultOfPair_38 : decode cX2_faultOfPair 38 = .ok (.ireturn, 1) := by decide +kernel
theorem dX2_faultOfCell_0 : decode cX2_faultOfCell 0 = .ok (.aload_n 0, 1) := by decide +kernel
theorem dX2_faultOfCell_1 : decode cX2_faultOfCell 1 = .ok (.iload_n 1, 1) := by decide +kernel
theorem dX2_faultOfCell_2 : decode cX2_faultOfCell 2 = .ok (.invokevirtual 21, 3) := by decide +kernel
theorem dX2_faultOfCell_5 : decode cX2_faultOfCell 5 = .ok (.ifCond .eq 5, 3) := by decide +kernel
theorem dX2_faultOfCell_8 : decode cX2_faultOfCell 8 = .ok (.iconst 1, 1) := by decide +kernel
theorem dX2_faultOfCell_9 : decode cX2_faultOfCell 9 = .ok (.ireturn, 1) := by decide +kernel
theorem dX2_faultOfCell_10 : decode cX2_faultOfCell 10 = .ok (.iload_n 2, 1) := by decide +kernel
theorem dX2_faultOfCell_11 : decode cX2_faultOfCell 11 = .ok (.ifCond .lt 17, 3) := by decide +kernel
theorem dX2_faultOfCell_14 : decode cX2_faultOfCell 14 = .ok (.iload_n 2, 1) := by decide +kernel
theorem dX2_faultOfCell_15 : decode cX2_faultOfCell 15 = .ok (.aload_n 0, 1) := by decide +kernel
theorem dX2_faultOfCell_16 : decode cX2_faultOfCell 16 = .ok (.getfield 18, 3) := by decide +kernel
theorem dX2_faultOfCell_19 : decode cX2_faultOfCell 19 = .ok (.iload_n 1, 1) := by decide +kernel
theorem dX2_faultOfCell_20 : decode cX2_faultOfCell 20 = .ok (.iaload, 1) := by decide +kernel
theorem dX2_faultOfCell_21 : decode cX2_faultOfCell 21 = .ok (.if_icmp .ge 7, 3) := by decide +kernel
theorem dX2_faultOfCell_24 : decode cX2_faultOfCell 24 = .ok (.iconst 0, 1) := by decide +kernel
theorem dX2_faultOfCell_25 : decode cX2_faultOfCell 25 = .ok (.goto 4, 3) := by decide +kernel
theorem dX2_faultOfCell_28 : decode cX2_faultOfCell 28 = .ok (.iconst 3, 1) := by decide +kernel
theorem dX2_faultOfCell_29 : decode cX2_faultOfCell 29 = .ok (.ireturn, 1) := by decide +kernel
theorem dX2_faultOfSpan_0 : decode cX2_faultOfSpan 0 = .ok (.iload_n 2, 1) := by decide +kernel
theorem dX2_faultOfSpan_1 : decode cX2_faultOfSpan 1 = .ok (.ifCond .lt 33, 3) := by decide +kernel
theorem dX2_faultOfSpan_4 : decode cX2_faultOfSpan 4 = .ok (.iload_n 2, 1) := by decide +kernel
theorem dX2_faultOfSpan_5 : decode cX2_faultOfSpan 5 = .ok (.aload_n 0, 1) := by decide +kernel
theorem dX2_faultOfSpan_6 : decode cX2_faultOfSpan 6 = .ok (.getfield 18, 3) := by decide +kernel
theorem dX2_faultOfSpan_9 : decode cX2_faultOfSpan 9 = .ok (.iload_n 1, 1) := by decide +kernel
theorem dX2_faultOfSpan_10 : decode cX2_faultOfSpan 10 = .ok (.iaload, 1) := by decide +kernel
theorem dX2_faultOfSpan_11 : decode cX2_faultOfSpan 11 = .ok (.if_icmp .gt 23, 3) := by decide +kernel
theorem dX2_faultOfSpan_14 : decode cX2_faultOfSpan 14 = .ok (.iload_n 3, 1) := by decide +kernel
theorem dX2_faultOfSpan_15 : decode cX2_faultOfSpan 15 = .ok (.ifCond .lt 19, 3) := by decide +kernel
theorem dX2_faultOfSpan_18 : decode cX2_faultOfSpan 18 = .ok (.iload_n 3, 1) := by decide +kernel
theorem dX2_faultOfSpan_19 : decode cX2_faultOfSpan 19 = .ok (.aload_n 0, 1) := by decide +kernel
theorem dX2_faultOfSpan_20 : decode cX2_faultOfSpan 20 = .ok (.getfield 18, 3) := by decide +kernel
theorem dX2_faultOfSpan_23 : decode cX2_faultOfSpan 23 = .ok (.iload_n 1, 1) := by decide +kernel
theorem dX2_faultOfSpan_24 : decode cX2_faultOfSpan 24 = .ok (.iaload, 1) := by decide +kernel
theorem dX2_faultOfSpan_25 : decode cX2_faultOfSpan 25 = .ok (.iload_n 2, 1) := by decide +kernel
theorem dX2_faultOfSpan_26 : decode cX2_faultOfSpan 26 = .ok (.isub, 1) := by decide +kernel
theorem dX2_faultOfSpan_27 : decode cX2_faultOfSpan 27 = .ok (.if_icmp .gt 7, 3) := by decide +kernel
theorem dX2_faultOfSpan_30 : decode cX2_faultOfSpan 30 = .ok (.iconst 1, 1) := by decide +kernel
theorem dX2_faultOfSpan_31 : decode cX2_faultOfSpan 31 = .ok (.goto 4, 3) := by decide +kernel
theorem dX2_faultOfSpan_34 : decode cX2_faultOfSpan 34 = .ok (.iconst 0, 1) := by decide +kernel
theorem dX2_faultOfSpan_35 : decode cX2_faultOfSpan 35 = .ok (.istore 4, 2) := by decide +kernel
theorem dX2_faultOfSpan_37 : decode cX2_faultOfSpan 37 = .ok (.iload 4, 2) := by decide +kernel
theorem dX2_faultOfSpan_39 : decode cX2_faultOfSpan 39 = .ok (.ifCond .eq 7, 3) := by decide +kernel
theorem dX2_faultOfSpan_42 : decode cX2_faultOfSpan 42 = .ok (.iconst 0, 1) := by decide +kernel
theorem dX2_faultOfSpan_43 : decode cX2_faultOfSpan 43 = .ok (.goto 4, 3) := by decide +kernel
theorem dX2_faultOfSpan_46 : decode cX2_faultOfSpan 46 = .ok (.iconst 3, 1) := by decide +kernel
theorem dX2_faultOfSpan_47 : decode cX2_faultOfSpan 47 = .ok (.ireturn, 1) := by decide +kernel
theorem dX2_renew_0 : decode cX2_renew 0 = .ok (.aload_n 0, 1) := by decide +kernel
theorem dX2_renew_1 : decode cX2_renew 1 = .ok (.getfield 15, 3) := by decide +kernel
theorem dX2_renew_4 : decode cX2_renew 4 = .ok (.iload_n 1, 1) := by decide +kernel
theorem dX2_renew_5 : decode cX2_renew 5 = .ok (.iload_n 2, 1) := by decide +kernel
theorem dX2_renew_6 : decode cX2_renew 6 = .ok (.iastore, 1) := by decide +kernel
theorem dX2_renew_7 : decode cX2_renew 7 = .ok (.aload_n 0, 1) := by decide +kernel
theorem dX2_renew_8 : decode cX2_renew 8 = .ok (.getfield 18, 3) := by decide +kernel
theorem dX2_renew_11 : decode cX2_renew 11 = .ok (.iload_n 1, 1) := by decide +kernel
theorem dX2_renew_12 : decode cX2_renew 12 = .ok (.iload_n 3, 1) := by decide +kernel
theorem dX2_renew_13 : decode cX2_renew 13 = .ok (.iastore, 1) := by decide +kernel
theorem dX2_renew_14 : decode cX2_renew 14 = .ok (.iconst 0, 1) := by decide +kernel
theorem dX2_renew_15 : decode cX2_renew 15 = .ok (.istore 4, 2) := by decide +kernel
theorem dX2_renew_17 : decode cX2_renew 17 = .ok (.iload 4, 2) := by decide +kernel
theorem dX2_renew_19 : decode cX2_renew 19 = .ok (.iload_n 3, 1) := by decide +kernel
theorem dX2_renew_20 : decode cX2_renew 20 = .ok (.if_icmp .ge 22, 3) := by decide +kernel
theorem dX2_renew_23 : decode cX2_renew 23 = .ok (.aload_n 0, 1) := by decide +kernel
theorem dX2_renew_24 : decode cX2_renew 24 = .ok (.getfield 9, 3) := by decide +kernel
theorem dX2_renew_27 : decode cX2_renew 27 = .ok (.iload_n 1, 1) := by decide +kernel
theorem dX2_renew_28 : decode cX2_renew 28 = .ok (.bipush 60, 2) := by decide +kernel
theorem dX2_renew_30 : decode cX2_renew 30 = .ok (.imul, 1) := by decide +kernel
theorem dX2_renew_31 : decode cX2_renew 31 = .ok (.iload 4, 2) := by decide +kernel
theorem dX2_renew_33 : decode cX2_renew 33 = .ok (.iadd, 1) := by decide +kernel
theorem dX2_renew_34 : decode cX2_renew 34 = .ok (.iconst 0, 1) := by decide +kernel
theorem dX2_renew_35 : decode cX2_renew 35 = .ok (.iastore, 1) := by decide +kernel
theorem dX2_renew_36 : decode cX2_renew 36 = .ok (.iinc 4 1, 3) := by decide +kernel
theorem dX2_renew_39 : decode cX2_renew 39 = .ok (.goto (-22), 3) := by decide +kernel
theorem dX2_renew_42 : decode cX2_renew 42 = .ok (.return_, 1) := by decide +kernel
theorem dX2_clear_0 : decode cX2_clear 0 = .ok (.aload_n 0, 1) := by decide +kernel
theorem dX2_clear_1 : decode cX2_clear 1 = .ok (.iload_n 1, 1) := by decide +kernel
theorem dX2_clear_2 : decode cX2_clear 2 = .ok (.invokevirtual 21, 3) := by decide +kernel
theorem dX2_clear_5 : decode cX2_clear 5 = .ok (.ifCond .ne 7, 3) := by decide +kernel
theorem dX2_clear_8 : decode cX2_clear 8 = .ok (.iconst 1, 1) := by decide +kernel
theorem dX2_clear_9 : decode cX2_clear 9 = .ok (.goto 4, 3) := by decide +kernel
theorem dX2_clear_12 : decode cX2_clear 12 = .ok (.iconst 0, 1) := by decide +kernel
theorem dX2_clear_13 : decode cX2_clear 13 = .ok (.istore_n 2, 1) := by decide +kernel
theorem dX2_clear_14 : decode cX2_clear 14 = .ok (.aload_n 0, 1) := by decide +kernel
theorem dX2_clear_15 : decode cX2_clear 15 = .ok (.getfield 18, 3) := by decide +kernel
theorem dX2_clear_18 : decode cX2_clear 18 = .ok (.iload_n 1, 1) := by decide +kernel
theorem dX2_clear_19 : decode cX2_clear 19 = .ok (.bipush (-9), 2) := by decide +kernel
theorem dX2_clear_21 : decode cX2_clear 21 = .ok (.iastore, 1) := by decide +kernel
theorem dX2_clear_22 : decode cX2_clear 22 = .ok (.iload_n 2, 1) := by decide +kernel
theorem dX2_clear_23 : decode cX2_clear 23 = .ok (.ireturn, 1) := by decide +kernel
theorem dX2_read_0 : decode cX2_read 0 = .ok (.aload_n 0, 1) := by decide +kernel
theorem dX2_read_1 : decode cX2_read 1 = .ok (.getfield 9, 3) := by decide +kernel
theorem dX2_read_4 : decode cX2_read 4 = .ok (.iload_n 1, 1) := by decide +kernel
theorem dX2_read_5 : decode cX2_read 5 = .ok (.bipush 60, 2) := by decide +kernel
theorem dX2_read_7 : decode cX2_read 7 = .ok (.imul, 1) := by decide +kernel
theorem dX2_read_8 : decode cX2_read 8 = .ok (.iload_n 2, 1) := by decide +kernel
theorem dX2_read_9 : decode cX2_read 9 = .ok (.iadd, 1) := by decide +kernel
theorem dX2_read_10 : decode cX2_read 10 = .ok (.iaload, 1) := by decide +kernel
theorem dX2_read_11 : decode cX2_read 11 = .ok (.ireturn, 1) := by decide +kernel
theorem dX2_write_0 : decode cX2_write 0 = .ok (.aload_n 0, 1) := by decide +kernel
theorem dX2_write_1 : decode cX2_write 1 = .ok (.getfield 9, 3) := by decide +kernel
theorem dX2_write_4 : decode cX2_write 4 = .ok (.iload_n 1, 1) := by decide +kernel
theorem dX2_write_5 : decode cX2_write 5 = .ok (.bipush 60, 2) := by decide +kernel
theorem dX2_write_7 : decode cX2_write 7 = .ok (.imul, 1) := by decide +kernel
theorem dX2_write_8 : decode cX2_write 8 = .ok (.iload_n 2, 1) := by decide +kernel
theorem dX2_write_9 : decode cX2_write 9 = .ok (.iadd, 1) := by decide +kernel
theorem dX2_write_10 : decode cX2_write 10 = .ok (.iload_n 3, 1) := by decide +kernel
theorem dX2_write_11 : decode cX2_write 11 = .ok (.aload_n 0, 1) := by decide +kernel
theorem dX2_write_12 : decode cX2_write 12 = .ok (.getfield 15, 3) := by decide +kernel
theorem dX2_write_15 : decode cX2_write 15 = .ok (.iload_n 1, 1) := by decide +kernel
theorem dX2_write_16 : decode cX2_write 16 = .ok (.iaload, 1) := by decide +kernel
theorem dX2_write_17 : decode cX2_write 17 = .ok (.invokestatic 25, 3) := by decide +kernel
theorem dX2_write_20 : decode cX2_write 20 = .ok (.iastore, 1) := by decide +kernel
theorem dX2_write_21 : decode cX2_write 21 = .ok (.return_, 1) := by decide +kernel
theorem dX2_cut_0 : decode cX2_cut 0 = .ok (.iload_n 1, 1) := by decide +kernel
theorem dX2_cut_1 : decode cX2_cut 1 = .ok (.lookupswitch 33 #[(0, 27), (1, 30)], 27) := by decide +kernel
theorem dX2_cut_28 : decode cX2_cut 28 = .ok (.iload_n 0, 1) := by decide +kernel
theorem dX2_cut_29 : decode cX2_cut 29 = .ok (.i2b, 1) := by decide +kernel
theorem dX2_cut_30 : decode cX2_cut 30 = .ok (.ireturn, 1) := by decide +kernel
theorem dX2_cut_31 : decode cX2_cut 31 = .ok (.iload_n 0, 1) := by decide +kernel
theorem dX2_cut_32 : decode cX2_cut 32 = .ok (.i2s, 1) := by decide +kernel
theorem dX2_cut_33 : decode cX2_cut 33 = .ok (.ireturn, 1) := by decide +kernel
theorem dX2_cut_34 : decode cX2_cut 34 = .ok (.iload_n 0, 1) := by decide +kernel
theorem dX2_cut_35 : decode cX2_cut 35 = .ok (.ireturn, 1) := by decide +kernel
theorem dX2_move_0 : decode cX2_move 0 = .ok (.aload_n 0, 1) := by decide +kernel
theorem dX2_move_1 : decode cX2_move 1 = .ok (.getfield 9, 3) := by decide +kernel
theorem dX2_move_4 : decode cX2_move 4 = .ok (.iload_n 1, 1) := by decide +kernel
theorem dX2_move_5 : decode cX2_move 5 = .ok (.bipush 60, 2) := by decide +kernel
theorem dX2_move_7 : decode cX2_move 7 = .ok (.imul, 1) := by decide +kernel
theorem dX2_move_8 : decode cX2_move 8 = .ok (.iload_n 2, 1) := by decide +kernel
theorem dX2_move_9 : decode cX2_move 9 = .ok (.iadd, 1) := by decide +kernel
theorem dX2_move_10 : decode cX2_move 10 = .ok (.aload_n 0, 1) := by decide +kernel
theorem dX2_move_11 : decode cX2_move 11 = .ok (.getfield 9, 3) := by decide +kernel
theorem dX2_move_14 : decode cX2_move 14 = .ok (.iload_n 3, 1) := by decide +kernel
theorem dX2_move_15 : decode cX2_move 15 = .ok (.bipush 60, 2) := by decide +kernel
theorem dX2_move_17 : decode cX2_move 17 = .ok (.imul, 1) := by decide +kernel
theorem dX2_move_18 : decode cX2_move 18 = .ok (.iload 4, 2) := by decide +kernel
theorem dX2_move_20 : decode cX2_move 20 = .ok (.iadd, 1) := by decide +kernel
theorem dX2_move_21 : decode cX2_move 21 = .ok (.iload 5, 2) := by decide +kernel
theorem dX2_move_23 : decode cX2_move 23 = .ok (.invokestatic 29, 3) := by decide +kernel
theorem dX2_move_26 : decode cX2_move 26 = .ok (.return_, 1) := by decide +kernel
theorem dX2_take_0 : decode cX2_take 0 = .ok (.aload_n 0, 1) := by decide +kernel
theorem dX2_take_1 : decode cX2_take 1 = .ok (.getfield 9, 3) := by decide +kernel
theorem dX2_take_4 : decode cX2_take 4 = .ok (.iload_n 1, 1) := by decide +kernel
theorem dX2_take_5 : decode cX2_take 5 = .ok (.bipush 60, 2) := by decide +kernel
theorem dX2_take_7 : decode cX2_take 7 = .ok (.imul, 1) := by decide +kernel
theorem dX2_take_8 : decode cX2_take 8 = .ok (.iload_n 2, 1) := by decide +kernel
theorem dX2_take_9 : decode cX2_take 9 = .ok (.iadd, 1) := by decide +kernel
theorem dX2_take_10 : decode cX2_take 10 = .ok (.aload 4, 2) := by decide +kernel
theorem dX2_take_12 : decode cX2_take 12 = .ok (.iconst 0, 1) := by decide +kernel
theorem dX2_take_13 : decode cX2_take 13 = .ok (.iload_n 3, 1) := by decide +kernel
theorem dX2_take_14 : decode cX2_take 14 = .ok (.invokestatic 29, 3) := by decide +kernel
theorem dX2_take_17 : decode cX2_take 17 = .ok (.return_, 1) := by decide +kernel
theorem dX3_init_0 : decode cX3_init 0 = .ok (.aload_n 0, 1) := by decide +kernel
theorem dX3_init_1 : decode cX3_init 1 = .ok (.invokespecial 3, 3) := by decide +kernel
theorem dX3_init_4 : decode cX3_init 4 = .ok (.aload_n 0, 1) := by decide +kernel
theorem dX3_init_5 : decode cX3_init 5 = .ok (.bipush 60, 2) := by decide +kernel
theorem dX3_init_7 : decode cX3_init 7 = .ok (.newarray .int, 2) := by decide +kernel
theorem dX3_init_9 : decode cX3_init 9 = .ok (.putfield 9, 3) := by decide +kernel
theorem dX3_init_12 : decode cX3_init 12 = .ok (.return_, 1) := by decide +kernel
theorem dX3_firstFault_0 : decode cX3_firstFault 0 = .ok (.aload_n 0, 1) := by decide +kernel
theorem dX3_firstFault_1 : decode cX3_firstFault 1 = .ok (.iload_n 1, 1) := by decide +kernel
theorem dX3_firstFault_2 : decode cX3_firstFault 2 = .ok (.putfield 15, 3) := by decide +kernel
theorem dX3_firstFault_5 : decode cX3_firstFault 5 = .ok (.aload_n 0, 1) := by decide +kernel
theorem dX3_firstFault_6 : decode cX3_firstFault 6 = .ok (.iconst 0, 1) := by decide +kernel
theorem dX3_firstFault_7 : decode cX3_firstFault 7 = .ok (.putfield 19, 3) := by decide +kernel
theorem dX3_firstFault_10 : decode cX3_firstFault 10 = .ok (.aload_n 0, 1) := by decide +kernel
theorem dX3_firstFault_11 : decode cX3_firstFault 11 = .ok (.iconst 0, 1) := by decide +kernel
theorem dX3_firstFault_12 : decode cX3_firstFault 12 = .ok (.putfield 22, 3) := by decide +kernel
theorem dX3_firstFault_15 : decode cX3_firstFault 15 = .ok (.aload_n 0, 1) := by decide +kernel
theorem dX3_firstFault_16 : decode cX3_firstFault 16 = .ok (.iconst 0, 1) := by decide +kernel
theorem dX3_firstFault_17 : decode cX3_firstFault 17 = .ok (.putfield 25, 3) := by decide +kernel
theorem dX3_firstFault_20 : decode cX3_firstFault 20 = .ok (.aload_n 0, 1) := by decide +kernel
theorem dX3_firstFault_21 : decode cX3_firstFault 21 = .ok (.bipush 116, 2) := by decide +kernel
theorem dX3_firstFault_23 : decode cX3_firstFault 23 = .ok (.bipush 116, 2) := by decide +kernel
theorem dX3_firstFault_25 : decode cX3_firstFault 25 = .ok (.invokevirtual 28, 3) := by decide +kernel
theorem dX3_firstFault_28 : decode cX3_firstFault 28 = .ok (.ifCond .eq 28, 3) := by decide +kernel
theorem dX3_firstFault_31 : decode cX3_firstFault 31 = .ok (.aload_n 0, 1) := by decide +kernel
theorem dX3_firstFault_32 : decode cX3_firstFault 32 = .ok (.invokevirtual 32, 3) := by decide +kernel
theorem dX3_firstFault_35 : decode cX3_firstFault 35 = .ok (.ifCond .eq 21, 3) := by decide +kernel
theorem dX3_firstFault_38 : decode cX3_firstFault 38 = .ok (.aload_n 0, 1) := by decide +kernel
theorem dX3_firstFault_39 : decode cX3_firstFault 39 = .ok (.invokevirtual 36, 3) := by decide +kernel
theorem dX3_firstFault_42 : decode cX3_firstFault 42 = .ok (.ifCond .eq 14, 3) := by decide +kernel
theorem dX3_firstFault_45 : decode cX3_firstFault 45 = .ok (.aload_n 0, 1) := by decide +kernel
theorem dX3_firstFault_46 : decode cX3_firstFault 46 = .ok (.getfield 19, 3) := by decide +kernel
theorem dX3_firstFault_49 : decode cX3_firstFault 49 = .ok (.aload_n 0, 1) := by decide +kernel
theorem dX3_firstFault_50 : decode cX3_firstFault 50 = .ok (.getfield 15, 3) := by decide +kernel
theorem dX3_firstFault_53 : decode cX3_firstFault 53 = .ok (.if_icmp .ge 8, 3) := by decide +kernel
theorem dX3_firstFault_56 : decode cX3_firstFault 56 = .ok (.aload_n 0, 1) := by decide +kernel
theorem dX3_firstFault_57 : decode cX3_firstFault 57 = .ok (.getfield 19, 3) := by decide +kernel
theorem dX3_firstFault_60 : decode cX3_firstFault 60 = .ok (.ireturn, 1) := by decide +kernel
theorem dX3_firstFault_61 : decode cX3_firstFault 61 = .ok (.bipush (-9), 2) := by decide +kernel
theorem dX3_firstFault_63 : decode cX3_firstFault 63 = .ok (.ireturn, 1) := by decide +kernel
theorem dX3_passes_0 : decode cX3_passes 0 = .ok (.aload_n 0, 1) := by decide +kernel
theorem dX3_passes_1 : decode cX3_passes 1 = .ok (.iload_n 1, 1) := by decide +kernel
theorem dX3_passes_2 : decode cX3_passes 2 = .ok (.iload_n 2, 1) := by decide +kernel
theorem dX3_passes_3 : decode cX3_passes 3 = .ok (.invokevirtual 39, 3) := by decide +kernel
theorem dX3_passes_6 : decode cX3_passes 6 = .ok (.ifCond .ne 5, 3) := by decide +kernel
theorem dX3_passes_9 : decode cX3_passes 9 = .ok (.iconst 0, 1) := by decide +kernel
theorem dX3_passes_10 : decode cX3_passes 10 = .ok (.ireturn, 1) := by decide +kernel
theorem dX3_passes_11 : decode cX3_passes 11 = .ok (.aload_n 0, 1) := by decide +kernel
theorem dX3_passes_12 : decode cX3_passes 12 = .ok (.dup, 1) := by decide +kernel
theorem dX3_passes_13 : decode cX3_passes 13 = .ok (.getfield 19, 3) := by decide +kernel
theorem dX3_passes_16 : decode cX3_passes 16 = .ok (.iconst 1, 1) := by decide +kernel
theorem dX3_passes_17 : decode cX3_passes 17 = .ok (.iadd, 1) := by decide +kernel
theorem dX3_passes_18 : decode cX3_passes 18 = .ok (.putfield 19, 3) := by decide +kernel
theorem dX3_passes_21 : decode cX3_passes 21 = .ok (.iconst 1, 1) := by decide +kernel
theorem dX3_passes_22 : decode cX3_passes 22 = .ok (.ireturn, 1) := by decide +kernel
theorem dX3_isNext_0 : decode cX3_isNext 0 = .ok (.aload_n 0, 1) := by decide +kernel
theorem dX3_isNext_1 : decode cX3_isNext 1 = .ok (.getfield 19, 3) := by decide +kernel
theorem dX3_isNext_4 : decode cX3_isNext 4 = .ok (.aload_n 0, 1) := by decide +kernel
theorem dX3_isNext_5 : decode cX3_isNext 5 = .ok (.getfield 15, 3) := by decide +kernel
theorem dX3_isNext_8 : decode cX3_isNext 8 = .ok (.if_icmp .ge 33, 3) := by decide +kernel
theorem dX3_isNext_11 : decode cX3_isNext 11 = .ok (.aload_n 0, 1) := by decide +kernel
theorem dX3_isNext_12 : decode cX3_isNext 12 = .ok (.getfield 9, 3) := by decide +kernel
theorem dX3_isNext_15 : decode cX3_isNext 15 = .ok (.aload_n 0, 1) := by decide +kernel
theorem dX3_isNext_16 : decode cX3_isNext 16 = .ok (.getfield 19, 3) := by decide +kernel
theorem dX3_isNext_19 : decode cX3_isNext 19 = .ok (.iaload, 1) := by decide +kernel
theorem dX3_isNext_20 : decode cX3_isNext 20 = .ok (.iload_n 1, 1) := by decide +kernel
theorem dX3_isNext_21 : decode cX3_isNext 21 = .ok (.if_icmp .lt 20, 3) := by decide +kernel
theorem dX3_isNext_24 : decode cX3_isNext 24 = .ok (.aload_n 0, 1) := by decide +kernel
theorem dX3_isNext_25 : decode cX3_isNext 25 = .ok (.getfield 9, 3) := by decide +kernel
theorem dX3_isNext_28 : decode cX3_isNext 28 = .ok (.aload_n 0, 1) := by decide +kernel
theorem dX3_isNext_29 : decode cX3_isNext 29 = .ok (.getfield 19, 3) := by decide +kernel
theorem dX3_isNext_32 : decode cX3_isNext 32 = .ok (.iaload, 1) := by decide +kernel
theorem dX3_isNext_33 : decode cX3_isNext 33 = .ok (.iload_n 2, 1) := by decide +kernel
theorem dX3_isNext_34 : decode cX3_isNext 34 = .ok (.if_icmp .gt 7, 3) := by decide +kernel
theorem dX3_isNext_37 : decode cX3_isNext 37 = .ok (.iconst 1, 1) := by decide +kernel
theorem dX3_isNext_38 : decode cX3_isNext 38 = .ok (.goto 4, 3) := by decide +kernel
theorem dX3_isNext_41 : decode cX3_isNext 41 = .ok (.iconst 0, 1) := by decide +kernel
theorem dX3_isNext_42 : decode cX3_isNext 42 = .ok (.ireturn, 1) := by decide +kernel
theorem dX3_passesSorts_0 : decode cX3_passesSorts 0 = .ok (.aload_n 0, 1) := by decide +kernel
theorem dX3_passesSorts_1 : decode cX3_passesSorts 1 = .ok (.getfield 22, 3) := by decide +kernel
theorem dX3_passesSorts_4 : decode cX3_passesSorts 4 = .ok (.bipush 6, 2) := by decide +kernel
theorem dX3_passesSorts_6 : decode cX3_passesSorts 6 = .ok (.if_icmp .ge 36, 3) := by decide +kernel
theorem dX3_passesSorts_9 : decode cX3_passesSorts 9 = .ok (.aload_n 0, 1) := by decide +kernel
theorem dX3_passesSorts_10 : decode cX3_passesSorts 10 = .ok (.bipush 59, 2) := by decide +kernel
theorem dX3_passesSorts_12 : decode cX3_passesSorts 12 = .ok (.bipush 59, 2) := by decide +kernel
theorem dX3_passesSorts_14 : decode cX3_passesSorts 14 = .ok (.invokevirtual 39, 3) := by decide +kernel
theorem dX3_passesSorts_17 : decode cX3_passesSorts 17 = .ok (.ifCond .eq 25, 3) := by decide +kernel
theorem dX3_passesSorts_20 : decode cX3_passesSorts 20 = .ok (.aload_n 0, 1) := by decide +kernel
theorem dX3_passesSorts_21 : decode cX3_passesSorts 21 = .ok (.invokevirtual 42, 3) := by decide +kernel
theorem dX3_passesSorts_24 : decode cX3_passesSorts 24 = .ok (.ifCond .ne 5, 3) := by decide +kernel
theorem dX3_passesSorts_27 : decode cX3_passesSorts 27 = .ok (.iconst 0, 1) := by decide +kernel
theorem dX3_passesSorts_28 : decode cX3_passesSorts 28 = .ok (.ireturn, 1) := by decide +kernel
theorem dX3_passesSorts_29 : decode cX3_passesSorts 29 = .ok (.aload_n 0, 1) := by decide +kernel
theorem dX3_passesSorts_30 : decode cX3_passesSorts 30 = .ok (.dup, 1) := by decide +kernel
theorem dX3_passesSorts_31 : decode cX3_passesSorts 31 = .ok (.getfield 22, 3) := by decide +kernel
theorem dX3_passesSorts_34 : decode cX3_passesSorts 34 = .ok (.iconst 1, 1) := by decide +kernel
theorem dX3_passesSorts_35 : decode cX3_passesSorts 35 = .ok (.iadd, 1) := by decide +kernel
theorem dX3_passesSorts_36 : decode cX3_passesSorts 36 = .ok (.putfield 22, 3) := by decide +kernel
theorem dX3_passesSorts_39 : decode cX3_passesSorts 39 = .ok (.goto (-39), 3) := by decide +kernel
theorem dX3_passesSorts_42 : decode cX3_passesSorts 42 = .ok (.aload_n 0, 1) := by decide +kernel
theorem dX3_passesSorts_43 : decode cX3_passesSorts 43 = .ok (.getfield 22, 3) := by decide +kernel
theorem dX3_passesSorts_46 : decode cX3_passesSorts 46 = .ok (.iconst 2, 1) := by decide +kernel
theorem dX3_passesSorts_47 : decode cX3_passesSorts 47 = .ok (.if_icmp .lt 7, 3) := by decide +kernel
theorem dX3_passesSorts_50 : decode cX3_passesSorts 50 = .ok (.iconst 1, 1) := by decide +kernel
theorem dX3_passesSorts_51 : decode cX3_passesSorts 51 = .ok (.goto 4, 3) := by decide +kernel
theorem dX3_passesSorts_54 : decode cX3_passesSorts 54 = .ok (.iconst 0, 1) := by decide +kernel
theorem dX3_passesSorts_55 : decode cX3_passesSorts 55 = .ok (.ireturn, 1) := by decide +kernel
theorem dX3_passesSort_0 : decode cX3_passesSort 0 = .ok (.aload_n 0, 1) := by decide +kernel
theorem dX3_passesSort_1 : decode cX3_passesSort 1 = .ok (.bipush 59, 2) := by decide +kernel
theorem dX3_passesSort_3 : decode cX3_passesSort 3 = .ok (.bipush 59, 2) := by decide +kernel
theorem dX3_passesSort_5 : decode cX3_passesSort 5 = .ok (.invokevirtual 28, 3) := by decide +kernel
theorem dX3_passesSort_8 : decode cX3_passesSort 8 = .ok (.ifCond .eq 47, 3) := by decide +kernel
theorem dX3_passesSort_11 : decode cX3_passesSort 11 = .ok (.aload_n 0, 1) := by decide +kernel
theorem dX3_passesSort_12 : decode cX3_passesSort 12 = .ok (.invokevirtual 45, 3) := by decide +kernel
theorem dX3_passesSort_15 : decode cX3_passesSort 15 = .ok (.ifCond .eq 40, 3) := by decide +kernel
theorem dX3_passesSort_18 : decode cX3_passesSort 18 = .ok (.aload_n 0, 1) := by decide +kernel
theorem dX3_passesSort_19 : decode cX3_passesSort 19 = .ok (.bipush 48, 2) := by decide +kernel
theorem dX3_passesSort_21 : decode cX3_passesSort 21 = .ok (.bipush 57, 2) := by decide +kernel
theorem dX3_passesSort_23 : decode cX3_passesSort 23 = .ok (.invokevirtual 28, 3) := by decide +kernel
theorem dX3_passesSort_26 : decode cX3_passesSort 26 = .ok (.ifCond .eq 29, 3) := by decide +kernel
theorem dX3_passesSort_29 : decode cX3_passesSort 29 = .ok (.aload_n 0, 1) := by decide +kernel
theorem dX3_passesSort_30 : decode cX3_passesSort 30 = .ok (.bipush 49, 2) := by decide +kernel
theorem dX3_passesSort_32 : decode cX3_passesSort 32 = .ok (.bipush 57, 2) := by decide +kernel
theorem dX3_passesSort_34 : decode cX3_passesSort 34 = .ok (.invokevirtual 28, 3) := by decide +kernel
theorem dX3_passesSort_37 : decode cX3_passesSort 37 = .ok (.ifCond .eq 18, 3) := by decide +kernel
theorem dX3_passesSort_40 : decode cX3_passesSort 40 = .ok (.aload_n 0, 1) := by decide +kernel
theorem dX3_passesSort_41 : decode cX3_passesSort 41 = .ok (.bipush 48, 2) := by decide +kernel
theorem dX3_passesSort_43 : decode cX3_passesSort 43 = .ok (.bipush 53, 2) := by decide +kernel
theorem dX3_passesSort_45 : decode cX3_passesSort 45 = .ok (.invokevirtual 28, 3) := by decide +kernel
theorem dX3_passesSort_48 : decode cX3_passesSort 48 = .ok (.ifCond .eq 7, 3) := by decide +kernel
theorem dX3_passesSort_51 : decode cX3_passesSort 51 = .ok (.iconst 1, 1) := by decide +kernel
theorem dX3_passesSort_52 : decode cX3_passesSort 52 = .ok (.goto 4, 3) := by decide +kernel
theorem dX3_passesSort_55 : decode cX3_passesSort 55 = .ok (.iconst 0, 1) := by decide +kernel
theorem dX3_passesSort_56 : decode cX3_passesSort 56 = .ok (.ireturn, 1) := by decide +kernel
theorem dX3_passesKind_0 : decode cX3_passesKind 0 = .ok (.aload_n 0, 1) := by decide +kernel
theorem dX3_passesKind_1 : decode cX3_passesKind 1 = .ok (.bipush 112, 2) := by decide +kernel
theorem dX3_passesKind_3 : decode cX3_passesKind 3 = .ok (.bipush 112, 2) := by decide +kernel
theorem dX3_passesKind_5 : decode cX3_passesKind 5 = .ok (.invokevirtual 28, 3) := by decide +kernel
theorem dX3_passesKind_8 : decode cX3_passesKind 8 = .ok (.ifCond .ne 25, 3) := by decide +kernel
theorem dX3_passesKind_11 : decode cX3_passesKind 11 = .ok (.aload_n 0, 1) := by decide +kernel
theorem dX3_passesKind_12 : decode cX3_passesKind 12 = .ok (.bipush 115, 2) := by decide +kernel
theorem dX3_passesKind_14 : decode cX3_passesKind 14 = .ok (.bipush 115, 2) := by decide +kernel
theorem dX3_passesKind_16 : decode cX3_passesKind 16 = .ok (.invokevirtual 28, 3) := by decide +kernel
theorem dX3_passesKind_19 : decode cX3_passesKind 19 = .ok (.ifCond .ne 14, 3) := by decide +kernel
theorem dX3_passesKind_22 : decode cX3_passesKind 22 = .ok (.aload_n 0, 1) := by decide +kernel
theorem dX3_passesKind_23 : decode cX3_passesKind 23 = .ok (.bipush 100, 2) := by decide +kernel
theorem dX3_passesKind_25 : decode cX3_passesKind 25 = .ok (.bipush 100, 2) := by decide +kernel
theorem dX3_passesKind_27 : decode cX3_passesKind 27 = .ok (.invokevirtual 28, 3) := by decide +kernel
theorem dX3_passesKind_30 : decode cX3_passesKind 30 = .ok (.ifCond .eq 7, 3) := by decide +kernel
theorem dX3_passesKind_33 : decode cX3_passesKind 33 = .ok (.iconst 1, 1) := by decide +kernel
theorem dX3_passesKind_34 : decode cX3_passesKind 34 = .ok (.goto 4, 3) := by decide +kernel
theorem dX3_passesKind_37 : decode cX3_passesKind 37 = .ok (.iconst 0, 1) := by decide +kernel
theorem dX3_passesKind_38 : decode cX3_passesKind 38 = .ok (.ireturn, 1) := by decide +kernel
theorem dX3_passesSigns_0 : decode cX3_passesSigns 0 = .ok (.aload_n 0, 1) := by decide +kernel
theorem dX3_passesSigns_1 : decode cX3_passesSigns 1 = .ok (.getfield 25, 3) := by decide +kernel
theorem dX3_passesSigns_4 : decode cX3_passesSigns 4 = .ok (.iconst 5, 1) := by decide +kernel
theorem dX3_passesSigns_5 : decode cX3_passesSigns 5 = .ok (.if_icmp .ge 36, 3) := by decide +kernel
theorem dX3_passesSigns_8 : decode cX3_passesSigns 8 = .ok (.aload_n 0, 1) := by decide +kernel
theorem dX3_passesSigns_9 : decode cX3_passesSigns 9 = .ok (.bipush 47, 2) := by decide +kernel
theorem dX3_passesSigns_11 : decode cX3_passesSigns 11 = .ok (.bipush 47, 2) := by decide +kernel
theorem dX3_passesSigns_13 : decode cX3_passesSigns 13 = .ok (.invokevirtual 39, 3) := by decide +kernel
theorem dX3_passesSigns_16 : decode cX3_passesSigns 16 = .ok (.ifCond .eq 25, 3) := by decide +kernel
theorem dX3_passesSigns_19 : decode cX3_passesSigns 19 = .ok (.aload_n 0, 1) := by decide +kernel
theorem dX3_passesSigns_20 : decode cX3_passesSigns 20 = .ok (.invokevirtual 48, 3) := by decide +kernel
theorem dX3_passesSigns_23 : decode cX3_passesSigns 23 = .ok (.ifCond .ne 5, 3) := by decide +kernel
theorem dX3_passesSigns_26 : decode cX3_passesSigns 26 = .ok (.iconst 0, 1) := by decide +kernel
theorem dX3_passesSigns_27 : decode cX3_passesSigns 27 = .ok (.ireturn, 1) := by decide +kernel
theorem dX3_passesSigns_28 : decode cX3_passesSigns 28 = .ok (.aload_n 0, 1) := by decide +kernel
theorem dX3_passesSigns_29 : decode cX3_passesSigns 29 = .ok (.dup, 1) := by decide +kernel
theorem dX3_passesSigns_30 : decode cX3_passesSigns 30 = .ok (.getfield 25, 3) := by decide +kernel
theorem dX3_passesSigns_33 : decode cX3_passesSigns 33 = .ok (.iconst 1, 1) := by decide +kernel
theorem dX3_passesSigns_34 : decode cX3_passesSigns 34 = .ok (.iadd, 1) := by decide +kernel
theorem dX3_passesSigns_35 : decode cX3_passesSigns 35 = .ok (.putfield 25, 3) := by decide +kernel
theorem dX3_passesSigns_38 : decode cX3_passesSigns 38 = .ok (.goto (-38), 3) := by decide +kernel
theorem dX3_passesSigns_41 : decode cX3_passesSigns 41 = .ok (.aload_n 0, 1) := by decide +kernel
theorem dX3_passesSigns_42 : decode cX3_passesSigns 42 = .ok (.getfield 25, 3) := by decide +kernel
theorem dX3_passesSigns_45 : decode cX3_passesSigns 45 = .ok (.iconst 1, 1) := by decide +kernel
theorem dX3_passesSigns_46 : decode cX3_passesSigns 46 = .ok (.if_icmp .lt 7, 3) := by decide +kernel
theorem dX3_passesSigns_49 : decode cX3_passesSigns 49 = .ok (.iconst 1, 1) := by decide +kernel
theorem dX3_passesSigns_50 : decode cX3_passesSigns 50 = .ok (.goto 4, 3) := by decide +kernel
theorem dX3_passesSigns_53 : decode cX3_passesSigns 53 = .ok (.iconst 0, 1) := by decide +kernel
theorem dX3_passesSigns_54 : decode cX3_passesSigns 54 = .ok (.ireturn, 1) := by decide +kernel
theorem dX3_passesSign_0 : decode cX3_passesSign 0 = .ok (.aload_n 0, 1) := by decide +kernel
theorem dX3_passesSign_1 : decode cX3_passesSign 1 = .ok (.bipush 47, 2) := by decide +kernel
theorem dX3_passesSign_3 : decode cX3_passesSign 3 = .ok (.bipush 47, 2) := by decide +kernel
theorem dX3_passesSign_5 : decode cX3_passesSign 5 = .ok (.invokevirtual 28, 3) := by decide +kernel
theorem dX3_passesSign_8 : decode cX3_passesSign 8 = .ok (.ifCond .ne 5, 3) := by decide +kernel
theorem dX3_passesSign_11 : decode cX3_passesSign 11 = .ok (.iconst 0, 1) := by decide +kernel
theorem dX3_passesSign_12 : decode cX3_passesSign 12 = .ok (.ireturn, 1) := by decide +kernel
theorem dX3_passesSign_13 : decode cX3_passesSign 13 = .ok (.aload_n 0, 1) := by decide +kernel
theorem dX3_passesSign_14 : decode cX3_passesSign 14 = .ok (.bipush 54, 2) := by decide +kernel
theorem dX3_passesSign_16 : decode cX3_passesSign 16 = .ok (.bipush 54, 2) := by decide +kernel
theorem dX3_passesSign_18 : decode cX3_passesSign 18 = .ok (.invokevirtual 39, 3) := by decide +kernel
theorem dX3_passesSign_21 : decode cX3_passesSign 21 = .ok (.ifCond .eq 8, 3) := by decide +kernel
theorem dX3_passesSign_24 : decode cX3_passesSign 24 = .ok (.bipush 51, 2) := by decide +kernel
theorem dX3_passesSign_26 : decode cX3_passesSign 26 = .ok (.goto 5, 3) := by decide +kernel
theorem dX3_passesSign_29 : decode cX3_passesSign 29 = .ok (.bipush 57, 2) := by decide +kernel
theorem dX3_passesSign_31 : decode cX3_passesSign 31 = .ok (.istore_n 1, 1) := by decide +kernel
theorem dX3_passesSign_32 : decode cX3_passesSign 32 = .ok (.aload_n 0, 1) := by decide +kernel
theorem dX3_passesSign_33 : decode cX3_passesSign 33 = .ok (.bipush 48, 2) := by decide +kernel
theorem dX3_passesSign_35 : decode cX3_passesSign 35 = .ok (.bipush 54, 2) := by decide +kernel
theorem dX3_passesSign_37 : decode cX3_passesSign 37 = .ok (.invokevirtual 28, 3) := by decide +kernel
theorem dX3_passesSign_40 : decode cX3_passesSign 40 = .ok (.ifCond .eq 17, 3) := by decide +kernel
theorem dX3_passesSign_43 : decode cX3_passesSign 43 = .ok (.aload_n 0, 1) := by decide +kernel
theorem dX3_passesSign_44 : decode cX3_passesSign 44 = .ok (.bipush 48, 2) := by decide +kernel
theorem dX3_passesSign_46 : decode cX3_passesSign 46 = .ok (.iload_n 1, 1) := by decide +kernel
theorem dX3_passesSign_47 : decode cX3_passesSign 47 = .ok (.invokevirtual 28, 3) := by decide +kernel
theorem dX3_passesSign_50 : decode cX3_passesSign 50 = .ok (.ifCond .eq 7, 3) := by decide +kernel
theorem dX3_passesSign_53 : decode cX3_passesSign 53 = .ok (.iconst 1, 1) := by decide +kernel
theorem dX3_passesSign_54 : decode cX3_passesSign 54 = .ok (.goto 4, 3) := by decide +kernel
theorem dX3_passesSign_57 : decode cX3_passesSign 57 = .ok (.iconst 0, 1) := by decide +kernel
theorem dX3_passesSign_58 : decode cX3_passesSign 58 = .ok (.ireturn, 1) := by decide +kernel
theorem dX4_init_0 : decode cX4_init 0 = .ok (.aload_n 0, 1) := by decide +kernel
theorem dX4_init_1 : decode cX4_init 1 = .ok (.invokespecial 3, 3) := by decide +kernel
theorem dX4_init_4 : decode cX4_init 4 = .ok (.aload_n 0, 1) := by decide +kernel
theorem dX4_init_5 : decode cX4_init 5 = .ok (.bipush 6, 2) := by decide +kernel
theorem dX4_init_7 : decode cX4_init 7 = .ok (.newarray .int, 2) := by decide +kernel
theorem dX4_init_9 : decode cX4_init 9 = .ok (.putfield 9, 3) := by decide +kernel
theorem dX4_init_12 : decode cX4_init 12 = .ok (.return_, 1) := by decide +kernel
theorem dX4_go_0 : decode cX4_go 0 = .ok (.aload_n 0, 1) := by decide +kernel
theorem dX4_go_1 : decode cX4_go 1 = .ok (.iconst 0, 1) := by decide +kernel
theorem dX4_go_2 : decode cX4_go 2 = .ok (.putfield 15, 3) := by decide +kernel
theorem dX4_go_5 : decode cX4_go 5 = .ok (.aload_n 0, 1) := by decide +kernel
theorem dX4_go_6 : decode cX4_go 6 = .ok (.bipush (-9), 2) := by decide +kernel
theorem dX4_go_8 : decode cX4_go 8 = .ok (.putfield 19, 3) := by decide +kernel
theorem dX4_go_11 : decode cX4_go 11 = .ok (.aload_n 0, 1) := by decide +kernel
theorem dX4_go_12 : decode cX4_go 12 = .ok (.iconst 0, 1) := by decide +kernel
theorem dX4_go_13 : decode cX4_go 13 = .ok (.putfield 22, 3) := by decide +kernel
theorem dX4_go_16 : decode cX4_go 16 = .ok (.iconst 0, 1) := by decide +kernel
theorem dX4_go_17 : decode cX4_go 17 = .ok (.istore 4, 2) := by decide +kernel
theorem dX4_go_19 : decode cX4_go 19 = .ok (.iload 4, 2) := by decide +kernel
theorem dX4_go_21 : decode cX4_go 21 = .ok (.bipush 6, 2) := by decide +kernel
theorem dX4_go_23 : decode cX4_go 23 = .ok (.if_icmp .ge 18, 3) := by decide +kernel
theorem dX4_go_26 : decode cX4_go 26 = .ok (.aload_n 0, 1) := by decide +kernel
theorem dX4_go_27 : decode cX4_go 27 = .ok (.getfield 9, 3) := by decide +kernel
theorem dX4_go_30 : decode cX4_go 30 = .ok (.iload 4, 2) := by decide +kernel
theorem dX4_go_32 : decode cX4_go 32 = .ok (.bipush (-9), 2) := by decide +kernel
theorem dX4_go_34 : decode cX4_go 34 = .ok (.iastore, 1) := by decide +kernel
theorem dX4_go_35 : decode cX4_go 35 = .ok (.iinc 4 1, 3) := by decide +kernel
theorem dX4_go_38 : decode cX4_go 38 = .ok (.goto (-19), 3) := by decide +kernel
theorem dX4_go_41 : decode cX4_go 41 = .ok (.iconst 0, 1) := by decide +kernel
theorem dX4_go_42 : decode cX4_go 42 = .ok (.istore 4, 2) := by decide +kernel
theorem dX4_go_44 : decode cX4_go 44 = .ok (.iload 4, 2) := by decide +kernel
theorem dX4_go_46 : decode cX4_go 46 = .ok (.iload_n 3, 1) := by decide +kernel
theorem dX4_go_47 : decode cX4_go 47 = .ok (.if_icmp .ge 20, 3) := by decide +kernel
theorem dX4_go_50 : decode cX4_go 50 = .ok (.aload_n 0, 1) := by decide +kernel
theorem dX4_go_51 : decode cX4_go 51 = .ok (.aload_n 1, 1) := by decide +kernel
theorem dX4_go_52 : decode cX4_go 52 = .ok (.aload_n 2, 1) := by decide +kernel
theorem dX4_go_53 : decode cX4_go 53 = .ok (.iload 4, 2) := by decide +kernel
theorem dX4_go_55 : decode cX4_go 55 = .ok (.iaload, 1) := by decide +kernel
theorem dX4_go_56 : decode cX4_go 56 = .ok (.iload 4, 2) := by decide +kernel
theorem dX4_go_58 : decode cX4_go 58 = .ok (.invokevirtual 25, 3) := by decide +kernel
theorem dX4_go_61 : decode cX4_go 61 = .ok (.iinc 4 1, 3) := by decide +kernel
theorem dX4_go_64 : decode cX4_go 64 = .ok (.goto (-20), 3) := by decide +kernel
theorem dX4_go_67 : decode cX4_go 67 = .ok (.return_, 1) := by decide +kernel
theorem dX4_passBy_0 : decode cX4_passBy 0 = .ok (.aload_n 0, 1) := by decide +kernel
theorem dX4_passBy_1 : decode cX4_passBy 1 = .ok (.getfield 22, 3) := by decide +kernel
theorem dX4_passBy_4 : decode cX4_passBy 4 = .ok (.iconst 1, 1) := by decide +kernel
theorem dX4_passBy_5 : decode cX4_passBy 5 = .ok (.iload_n 2, 1) := by decide +kernel
theorem dX4_passBy_6 : decode cX4_passBy 6 = .ok (.ishl, 1) := by decide +kernel
theorem dX4_passBy_7 : decode cX4_passBy 7 = .ok (.ior, 1) := by decide +kernel
theorem dX4_passBy_8 : decode cX4_passBy 8 = .ok (.istore 4, 2) := by decide +kernel
theorem dX4_passBy_10 : decode cX4_passBy 10 = .ok (.aload_n 1, 1) := by decide +kernel
theorem dX4_passBy_11 : decode cX4_passBy 11 = .ok (.aload_n 0, 1) := by decide +kernel
theorem dX4_passBy_12 : decode cX4_passBy 12 = .ok (.getfield 22, 3) := by decide +kernel
theorem dX4_passBy_15 : decode cX4_passBy 15 = .ok (.invokevirtual 29, 3) := by decide +kernel
theorem dX4_passBy_18 : decode cX4_passBy 18 = .ok (.istore 5, 2) := by decide +kernel
theorem dX4_passBy_20 : decode cX4_passBy 20 = .ok (.aload_n 0, 1) := by decide +kernel
theorem dX4_passBy_21 : decode cX4_passBy 21 = .ok (.dup, 1) := by decide +kernel
theorem dX4_passBy_22 : decode cX4_passBy 22 = .ok (.getfield 15, 3) := by decide +kernel
theorem dX4_passBy_25 : decode cX4_passBy 25 = .ok (.aload_n 1, 1) := by decide +kernel
theorem dX4_passBy_26 : decode cX4_passBy 26 = .ok (.iload 5, 2) := by decide +kernel
theorem dX4_passBy_28 : decode cX4_passBy 28 = .ok (.invokevirtual 35, 3) := by decide +kernel
theorem dX4_passBy_31 : decode cX4_passBy 31 = .ok (.iadd, 1) := by decide +kernel
theorem dX4_passBy_32 : decode cX4_passBy 32 = .ok (.putfield 15, 3) := by decide +kernel
theorem dX4_passBy_35 : decode cX4_passBy 35 = .ok (.aload_n 0, 1) := by decide +kernel
theorem dX4_passBy_36 : decode cX4_passBy 36 = .ok (.getfield 19, 3) := by decide +kernel
theorem dX4_passBy_39 : decode cX4_passBy 39 = .ok (.bipush (-9), 2) := by decide +kernel
theorem dX4_passBy_41 : decode cX4_passBy 41 = .ok (.if_icmp .ne 25, 3) := by decide +kernel
theorem dX4_passBy_44 : decode cX4_passBy 44 = .ok (.aload_n 1, 1) := by decide +kernel
theorem dX4_passBy_45 : decode cX4_passBy 45 = .ok (.iload 4, 2) := by decide +kernel
theorem dX4_passBy_47 : decode cX4_passBy 47 = .ok (.invokevirtual 38, 3) := by decide +kernel
theorem dX4_passBy_50 : decode cX4_passBy 50 = .ok (.aload_n 1, 1) := by decide +kernel
theorem dX4_passBy_51 : decode cX4_passBy 51 = .ok (.aload_n 0, 1) := by decide +kernel
theorem dX4_passBy_52 : decode cX4_passBy 52 = .ok (.getfield 22, 3) := by decide +kernel
theorem dX4_passBy_55 : decode cX4_passBy 55 = .ok (.invokevirtual 38, 3) := by decide +kernel
theorem dX4_passBy_58 : decode cX4_passBy 58 = .ok (.if_icmp .ne 8, 3) := by decide +kernel
theorem dX4_passBy_61 : decode cX4_passBy 61 = .ok (.aload_n 0, 1) := by decide +kernel
theorem dX4_passBy_62 : decode cX4_passBy 62 = .ok (.iload_n 3, 1) := by decide +kernel
theorem dX4_passBy_63 : decode cX4_passBy 63 = .ok (.putfield 19, 3) := by decide +kernel
theorem dX4_passBy_66 : decode cX4_passBy 66 = .ok (.aload_n 0, 1) := by decide +kernel
theorem dX4_passBy_67 : decode cX4_passBy 67 = .ok (.iload 5, 2) := by decide +kernel
theorem dX4_passBy_69 : decode cX4_passBy 69 = .ok (.aload_n 1, 1) := by decide +kernel
theorem dX4_passBy_70 : decode cX4_passBy 70 = .ok (.iload 4, 2) := by decide +kernel
theorem dX4_passBy_72 : decode cX4_passBy 72 = .ok (.invokevirtual 29, 3) := by decide +kernel
theorem dX4_passBy_75 : decode cX4_passBy 75 = .ok (.iconst (-1), 1) := by decide +kernel
theorem dX4_passBy_76 : decode cX4_passBy 76 = .ok (.ixor, 1) := by decide +kernel
theorem dX4_passBy_77 : decode cX4_passBy 77 = .ok (.iand, 1) := by decide +kernel
theorem dX4_passBy_78 : decode cX4_passBy 78 = .ok (.invokevirtual 41, 3) := by decide +kernel
theorem dX4_passBy_81 : decode cX4_passBy 81 = .ok (.aload_n 0, 1) := by decide +kernel
theorem dX4_passBy_82 : decode cX4_passBy 82 = .ok (.iload 4, 2) := by decide +kernel
theorem dX4_passBy_84 : decode cX4_passBy 84 = .ok (.putfield 22, 3) := by decide +kernel
theorem dX4_passBy_87 : decode cX4_passBy 87 = .ok (.return_, 1) := by decide +kernel
theorem dX4_noteReady_0 : decode cX4_noteReady 0 = .ok (.iconst 0, 1) := by decide +kernel
theorem dX4_noteReady_1 : decode cX4_noteReady 1 = .ok (.istore_n 2, 1) := by decide +kernel
theorem dX4_noteReady_2 : decode cX4_noteReady 2 = .ok (.iload_n 2, 1) := by decide +kernel
theorem dX4_noteReady_3 : decode cX4_noteReady 3 = .ok (.bipush 6, 2) := by decide +kernel
theorem dX4_noteReady_5 : decode cX4_noteReady 5 = .ok (.if_icmp .ge 27, 3) := by decide +kernel
theorem dX4_noteReady_8 : decode cX4_noteReady 8 = .ok (.iload_n 1, 1) := by decide +kernel
theorem dX4_noteReady_9 : decode cX4_noteReady 9 = .ok (.iload_n 2, 1) := by decide +kernel
theorem dX4_noteReady_10 : decode cX4_noteReady 10 = .ok (.invokestatic 45, 3) := by decide +kernel
theorem dX4_noteReady_13 : decode cX4_noteReady 13 = .ok (.ifCond .eq 13, 3) := by decide +kernel
theorem dX4_noteReady_16 : decode cX4_noteReady 16 = .ok (.aload_n 0, 1) := by decide +kernel
theorem dX4_noteReady_17 : decode cX4_noteReady 17 = .ok (.getfield 9, 3) := by decide +kernel
theorem dX4_noteReady_20 : decode cX4_noteReady 20 = .ok (.iload_n 2, 1) := by decide +kernel
theorem dX4_noteReady_21 : decode cX4_noteReady 21 = .ok (.aload_n 0, 1) := by decide +kernel
theorem dX4_noteReady_22 : decode cX4_noteReady 22 = .ok (.getfield 15, 3) := by decide +kernel
theorem dX4_noteReady_25 : decode cX4_noteReady 25 = .ok (.iastore, 1) := by decide +kernel
theorem dX4_noteReady_26 : decode cX4_noteReady 26 = .ok (.iinc 2 1, 3) := by decide +kernel
theorem dX4_noteReady_29 : decode cX4_noteReady 29 = .ok (.goto (-27), 3) := by decide +kernel
theorem dX4_noteReady_32 : decode cX4_noteReady 32 = .ok (.return_, 1) := by decide +kernel
theorem dX4_allReadyBehind_0 : decode cX4_allReadyBehind 0 = .ok (.iconst 0, 1) := by decide +kernel
theorem dX4_allReadyBehind_1 : decode cX4_allReadyBehind 1 = .ok (.istore_n 2, 1) := by decide +kernel
theorem dX4_allReadyBehind_2 : decode cX4_allReadyBehind 2 = .ok (.iconst 0, 1) := by decide +kernel
theorem dX4_allReadyBehind_3 : decode cX4_allReadyBehind 3 = .ok (.istore_n 3, 1) := by decide +kernel
theorem dX4_allReadyBehind_4 : decode cX4_allReadyBehind 4 = .ok (.iload_n 3, 1) := by decide +kernel
theorem dX4_allReadyBehind_5 : decode cX4_allReadyBehind 5 = .ok (.bipush 6, 2) := by decide +kernel
theorem dX4_allReadyBehind_7 : decode cX4_allReadyBehind 7 = .ok (.if_icmp .ge 42, 3) := by decide +kernel
theorem dX4_allReadyBehind_10 : decode cX4_allReadyBehind 10 = .ok (.iload_n 1, 1) := by decide +kernel
theorem dX4_allReadyBehind_11 : decode cX4_allReadyBehind 11 = .ok (.iload_n 3, 1) := by decide +kernel
theorem dX4_allReadyBehind_12 : decode cX4_allReadyBehind 12 = .ok (.invokestatic 45, 3) := by decide +kernel
theorem dX4_allReadyBehind_15 : decode cX4_allReadyBehind 15 = .ok (.ifCond .eq 28, 3) := by decide +kernel
theorem dX4_allReadyBehind_18 : decode cX4_allReadyBehind 18 = .ok (.aload_n 0, 1) := by decide +kernel
theorem dX4_allReadyBehind_19 : decode cX4_allReadyBehind 19 = .ok (.getfield 9, 3) := by decide +kernel
theorem dX4_allReadyBehind_22 : decode cX4_allReadyBehind 22 = .ok (.iload_n 3, 1) := by decide +kernel
theorem dX4_allReadyBehind_23 : decode cX4_allReadyBehind 23 = .ok (.iaload, 1) := by decide +kernel
theorem dX4_allReadyBehind_24 : decode cX4_allReadyBehind 24 = .ok (.bipush (-9), 2) := by decide +kernel
theorem dX4_allReadyBehind_26 : decode cX4_allReadyBehind 26 = .ok (.if_icmp .ne 6, 3) := by decide +kernel
theorem dX4_allReadyBehind_29 : decode cX4_allReadyBehind 29 = .ok (.bipush (-9), 2) := by decide +kernel
theorem dX4_allReadyBehind_31 : decode cX4_allReadyBehind 31 = .ok (.ireturn, 1) := by decide +kernel
theorem dX4_allReadyBehind_32 : decode cX4_allReadyBehind 32 = .ok (.iload_n 2, 1) := by decide +kernel
theorem dX4_allReadyBehind_33 : decode cX4_allReadyBehind 33 = .ok (.aload_n 0, 1) := by decide +kernel
theorem dX4_allReadyBehind_34 : decode cX4_allReadyBehind 34 = .ok (.getfield 9, 3) := by decide +kernel
theorem dX4_allReadyBehind_37 : decode cX4_allReadyBehind 37 = .ok (.iload_n 3, 1) := by decide +kernel
theorem dX4_allReadyBehind_38 : decode cX4_allReadyBehind 38 = .ok (.iaload, 1) := by decide +kernel
theorem dX4_allReadyBehind_39 : decode cX4_allReadyBehind 39 = .ok (.invokestatic 49, 3) := by decide +kernel
theorem dX4_allReadyBehind_42 : decode cX4_allReadyBehind 42 = .ok (.istore_n 2, 1) := by decide +kernel
theorem dX4_allReadyBehind_43 : decode cX4_allReadyBehind 43 = .ok (.iinc 3 1, 3) := by decide +kernel
theorem dX4_allReadyBehind_46 : decode cX4_allReadyBehind 46 = .ok (.goto (-42), 3) := by decide +kernel
theorem dX4_allReadyBehind_49 : decode cX4_allReadyBehind 49 = .ok (.iload_n 2, 1) := by decide +kernel
theorem dX4_allReadyBehind_50 : decode cX4_allReadyBehind 50 = .ok (.ireturn, 1) := by decide +kernel
theorem dX5_init_0 : decode cX5_init 0 = .ok (.aload_n 0, 1) := by decide +kernel
theorem dX5_init_1 : decode cX5_init 1 = .ok (.invokespecial 3, 3) := by decide +kernel
theorem dX5_init_4 : decode cX5_init 4 = .ok (.aload_n 0, 1) := by decide +kernel
theorem dX5_init_5 : decode cX5_init 5 = .ok (.new 9, 3) := by decide +kernel
theorem dX5_init_8 : decode cX5_init 8 = .ok (.dup, 1) := by decide +kernel
theorem dX5_init_9 : decode cX5_init 9 = .ok (.invokespecial 11, 3) := by decide +kernel
theorem dX5_init_12 : decode cX5_init 12 = .ok (.putfield 12, 3) := by decide +kernel
theorem dX5_init_15 : decode cX5_init 15 = .ok (.aload_n 0, 1) := by decide +kernel
theorem dX5_init_16 : decode cX5_init 16 = .ok (.new 18, 3) := by decide +kernel
theorem dX5_init_19 : decode cX5_init 19 = .ok (.dup, 1) := by decide +kernel
theorem dX5_init_20 : decode cX5_init 20 = .ok (.invokespecial 20, 3) := by decide +kernel
theorem dX5_init_23 : decode cX5_init 23 = .ok (.putfield 21, 3) := by decide +kernel
theorem dX5_init_26 : decode cX5_init 26 = .ok (.aload_n 0, 1) := by decide +kernel
theorem dX5_init_27 : decode cX5_init 27 = .ok (.new 25, 3) := by decide +kernel
theorem dX5_init_30 : decode cX5_init 30 = .ok (.dup, 1) := by decide +kernel
theorem dX5_init_31 : decode cX5_init 31 = .ok (.invokespecial 27, 3) := by decide +kernel
theorem dX5_init_34 : decode cX5_init 34 = .ok (.putfield 28, 3) := by decide +kernel
theorem dX5_init_37 : decode cX5_init 37 = .ok (.aload_n 0, 1) := by decide +kernel
theorem dX5_init_38 : decode cX5_init 38 = .ok (.new 32, 3) := by decide +kernel
theorem dX5_init_41 : decode cX5_init 41 = .ok (.dup, 1) := by decide +kernel
theorem dX5_init_42 : decode cX5_init 42 = .ok (.invokespecial 34, 3) := by decide +kernel
theorem dX5_init_45 : decode cX5_init 45 = .ok (.putfield 35, 3) := by decide +kernel
theorem dX5_init_48 : decode cX5_init 48 = .ok (.aload_n 0, 1) := by decide +kernel
theorem dX5_init_49 : decode cX5_init 49 = .ok (.new 39, 3) := by decide +kernel
theorem dX5_init_52 : decode cX5_init 52 = .ok (.dup, 1) := by decide +kernel
theorem dX5_init_53 : decode cX5_init 53 = .ok (.invokespecial 41, 3) := by decide +kernel
theorem dX5_init_56 : decode cX5_init 56 = .ok (.putfield 42, 3) := by decide +kernel
theorem dX5_init_59 : decode cX5_init 59 = .ok (.aload_n 0, 1) := by decide +kernel
theorem dX5_init_60 : decode cX5_init 60 = .ok (.bipush 60, 2) := by decide +kernel
theorem dX5_init_62 : decode cX5_init 62 = .ok (.newarray .int, 2) := by decide +kernel
theorem dX5_init_64 : decode cX5_init 64 = .ok (.putfield 46, 3) := by decide +kernel
theorem dX5_init_67 : decode cX5_init 67 = .ok (.return_, 1) := by decide +kernel
theorem dX5_floor_0 : decode cX5_floor 0 = .ok (.aload_n 0, 1) := by decide +kernel
theorem dX5_floor_1 : decode cX5_floor 1 = .ok (.iconst 0, 1) := by decide +kernel
theorem dX5_floor_2 : decode cX5_floor 2 = .ok (.putfield 50, 3) := by decide +kernel
theorem dX5_floor_5 : decode cX5_floor 5 = .ok (.iload_n 1, 1) := by decide +kernel
theorem dX5_floor_6 : decode cX5_floor 6 = .ok (.invokestatic 54, 3) := by decide +kernel
theorem dX5_floor_9 : decode cX5_floor 9 = .ok (.ifCond .ne 5, 3) := by decide +kernel
theorem dX5_floor_12 : decode cX5_floor 12 = .ok (.iconst (-1), 1) := by decide +kernel
theorem dX5_floor_13 : decode cX5_floor 13 = .ok (.ireturn, 1) := by decide +kernel
theorem dX5_floor_14 : decode cX5_floor 14 = .ok (.iload_n 2, 1) := by decide +kernel
theorem dX5_floor_15 : decode cX5_floor 15 = .ok (.invokestatic 58, 3) := by decide +kernel
theorem dX5_floor_18 : decode cX5_floor 18 = .ok (.ifCond .ne 6, 3) := by decide +kernel
theorem dX5_floor_21 : decode cX5_floor 21 = .ok (.bipush (-2), 2) := by decide +kernel
theorem dX5_floor_23 : decode cX5_floor 23 = .ok (.ireturn, 1) := by decide +kernel
theorem dX5_floor_24 : decode cX5_floor 24 = .ok (.aload_n 0, 1) := by decide +kernel
theorem dX5_floor_25 : decode cX5_floor 25 = .ok (.getfield 12, 3) := by decide +kernel
theorem dX5_floor_28 : decode cX5_floor 28 = .ok (.iload_n 1, 1) := by decide +kernel
theorem dX5_floor_29 : decode cX5_floor 29 = .ok (.iload_n 2, 1) := by decide +kernel
theorem dX5_floor_30 : decode cX5_floor 30 = .ok (.invokevirtual 61, 3) := by decide +kernel
theorem dX5_floor_33 : decode cX5_floor 33 = .ok (.istore 5, 2) := by decide +kernel
theorem dX5_floor_35 : decode cX5_floor 35 = .ok (.iload 5, 2) := by decide +kernel
theorem dX5_floor_37 : decode cX5_floor 37 = .ok (.ifCond .ne 11, 3) := by decide +kernel
theorem dX5_floor_40 : decode cX5_floor 40 = .ok (.iload 4, 2) := by decide +kernel
theorem dX5_floor_42 : decode cX5_floor 42 = .ok (.ifCond .ge 6, 3) := by decide +kernel
theorem dX5_floor_45 : decode cX5_floor 45 = .ok (.iconst 4, 1) := by decide +kernel
theorem dX5_floor_46 : decode cX5_floor 46 = .ok (.istore 5, 2) := by decide +kernel
theorem dX5_floor_48 : decode cX5_floor 48 = .ok (.iload 5, 2) := by decide +kernel
theorem dX5_floor_50 : decode cX5_floor 50 = .ok (.ifCond .ne 16, 3) := by decide +kernel
theorem dX5_floor_53 : decode cX5_floor 53 = .ok (.aload_n 0, 1) := by decide +kernel
theorem dX5_floor_54 : decode cX5_floor 54 = .ok (.getfield 12, 3) := by decide +kernel
theorem dX5_floor_57 : decode cX5_floor 57 = .ok (.iload_n 1, 1) := by decide +kernel
theorem dX5_floor_58 : decode cX5_floor 58 = .ok (.iload_n 3, 1) := by decide +kernel
theorem dX5_floor_59 : decode cX5_floor 59 = .ok (.iload 4, 2) := by decide +kernel
theorem dX5_floor_61 : decode cX5_floor 61 = .ok (.invokevirtual 65, 3) := by decide +kernel
theorem dX5_floor_64 : decode cX5_floor 64 = .ok (.istore 5, 2) := by decide +kernel
theorem dX5_floor_66 : decode cX5_floor 66 = .ok (.iload 5, 2) := by decide +kernel
theorem dX5_floor_68 : decode cX5_floor 68 = .ok (.ifCond .eq 10, 3) := by decide +kernel
theorem dX5_floor_71 : decode cX5_floor 71 = .ok (.aload_n 0, 1) := by decide +kernel
theorem dX5_floor_72 : decode cX5_floor 72 = .ok (.iload 5, 2) := by decide +kernel
theorem dX5_floor_74 : decode cX5_floor 74 = .ok (.invokevirtual 69, 3) := by decide +kernel
theorem dX5_floor_77 : decode cX5_floor 77 = .ok (.ireturn, 1) := by decide +kernel
theorem dX5_floor_78 : decode cX5_floor 78 = .ok (.aload_n 0, 1) := by decide +kernel
theorem dX5_floor_79 : decode cX5_floor 79 = .ok (.getfield 12, 3) := by decide +kernel
theorem dX5_floor_82 : decode cX5_floor 82 = .ok (.iload_n 1, 1) := by decide +kernel
theorem dX5_floor_83 : decode cX5_floor 83 = .ok (.iload_n 3, 1) := by decide +kernel
theorem dX5_floor_84 : decode cX5_floor 84 = .ok (.iload 4, 2) := by decide +kernel
theorem dX5_floor_86 : decode cX5_floor 86 = .ok (.aload_n 0, 1) := by decide +kernel
theorem dX5_floor_87 : decode cX5_floor 87 = .ok (.getfield 28, 3) := by decide +kernel
theorem dX5_floor_90 : decode cX5_floor 90 = .ok (.getfield 73, 3) := by decide +kernel
theorem dX5_floor_93 : decode cX5_floor 93 = .ok (.invokevirtual 76, 3) := by decide +kernel
theorem dX5_floor_96 : decode cX5_floor 96 = .ok (.aload_n 0, 1) := by decide +kernel
theorem dX5_floor_97 : decode cX5_floor 97 = .ok (.getfield 28, 3) := by decide +kernel
theorem dX5_floor_100 : decode cX5_floor 100 = .ok (.iload 4, 2) := by decide +kernel
theorem dX5_floor_102 : decode cX5_floor 102 = .ok (.invokevirtual 80, 3) := by decide +kernel
theorem dX5_floor_105 : decode cX5_floor 105 = .ok (.istore 6, 2) := by decide +kernel
theorem dX5_floor_107 : decode cX5_floor 107 = .ok (.iload 6, 2) := by decide +kernel
theorem dX5_floor_109 : decode cX5_floor 109 = .ok (.bipush (-9), 2) := by decide +kernel
theorem dX5_floor_111 : decode cX5_floor 111 = .ok (.if_icmp .eq 9, 3) := by decide +kernel
theorem dX5_floor_114 : decode cX5_floor 114 = .ok (.bipush (-100), 2) := by decide +kernel
theorem dX5_floor_116 : decode cX5_floor 116 = .ok (.iload 6, 2) := by decide +kernel
theorem dX5_floor_118 : decode cX5_floor 118 = .ok (.isub, 1) := by decide +kernel
theorem dX5_floor_119 : decode cX5_floor 119 = .ok (.ireturn, 1) := by decide +kernel
theorem dX5_floor_120 : decode cX5_floor 120 = .ok (.aload_n 0, 1) := by decide +kernel
theorem dX5_floor_121 : decode cX5_floor 121 = .ok (.getfield 21, 3) := by decide +kernel
theorem dX5_floor_124 : decode cX5_floor 124 = .ok (.aload_n 0, 1) := by decide +kernel
theorem dX5_floor_125 : decode cX5_floor 125 = .ok (.getfield 28, 3) := by decide +kernel
theorem dX5_floor_128 : decode cX5_floor 128 = .ok (.invokevirtual 83, 3) := by decide +kernel
theorem dX5_floor_131 : decode cX5_floor 131 = .ok (.aload_n 0, 1) := by decide +kernel
theorem dX5_floor_132 : decode cX5_floor 132 = .ok (.getfield 21, 3) := by decide +kernel
theorem dX5_floor_135 : decode cX5_floor 135 = .ok (.getfield 87, 3) := by decide +kernel
theorem dX5_floor_138 : decode cX5_floor 138 = .ok (.ireturn, 1) := by decide +kernel
theorem dX5_ofSort_0 : decode cX5_ofSort 0 = .ok (.aload_n 0, 1) := by decide +kernel
theorem dX5_ofSort_1 : decode cX5_ofSort 1 = .ok (.getfield 21, 3) := by decide +kernel
theorem dX5_ofSort_4 : decode cX5_ofSort 4 = .ok (.iload_n 1, 1) := by decide +kernel
theorem dX5_ofSort_5 : decode cX5_ofSort 5 = .ok (.invokevirtual 90, 3) := by decide +kernel
theorem dX5_ofSort_8 : decode cX5_ofSort 8 = .ok (.ifCond .ne 5, 3) := by decide +kernel
theorem dX5_ofSort_11 : decode cX5_ofSort 11 = .ok (.iconst (-1), 1) := by decide +kernel
theorem dX5_ofSort_12 : decode cX5_ofSort 12 = .ok (.ireturn, 1) := by decide +kernel
theorem dX5_ofSort_13 : decode cX5_ofSort 13 = .ok (.iload_n 2, 1) := by decide +kernel
theorem dX5_ofSort_14 : decode cX5_ofSort 14 = .ok (.tableswitch 96 0 4 #[34, 44, 54, 64, 74], 34) := by decide +kernel
theorem dX5_ofSort_48 : decode cX5_ofSort 48 = .ok (.aload_n 0, 1) := by decide +kernel
theorem dX5_ofSort_49 : decode cX5_ofSort 49 = .ok (.getfield 21, 3) := by decide +kernel
theorem dX5_ofSort_52 : decode cX5_ofSort 52 = .ok (.getfield 93, 3) := by decide +kernel
theorem dX5_ofSort_55 : decode cX5_ofSort 55 = .ok (.iload_n 1, 1) := by decide +kernel
theorem dX5_ofSort_56 : decode cX5_ofSort 56 = .ok (.iaload, 1) := by decide +kernel
theorem dX5_ofSort_57 : decode cX5_ofSort 57 = .ok (.ireturn, 1) := by decide +kernel
theorem dX5_ofSort_58 : decode cX5_ofSort 58 = .ok (.aload_n 0, 1) := by decide +kernel
theorem dX5_ofSort_59 : decode cX5_ofSort 59 = .ok (.getfield 21, 3) := by decide +kernel
theorem dX5_ofSort_62 : decode cX5_ofSort 62 = .ok (.getfield 96, 3) := by decide +kernel
theorem dX5_ofSort_65 : decode cX5_ofSort 65 = .ok (.iload_n 1, 1) := by decide +kernel
theorem dX5_ofSort_66 : decode cX5_ofSort 66 = .ok (.iaload, 1) := by decide +kernel
theorem dX5_ofSort_67 : decode cX5_ofSort 67 = .ok (.ireturn, 1) := by decide +kernel
theorem dX5_ofSort_68 : decode cX5_ofSort 68 = .ok (.aload_n 0, 1) := by decide +kernel
theorem dX5_ofSort_69 : decode cX5_ofSort 69 = .ok (.getfield 21, 3) := by decide +kernel
theorem dX5_ofSort_72 : decode cX5_ofSort 72 = .ok (.getfield 99, 3) := by decide +kernel
theorem dX5_ofSort_75 : decode cX5_ofSort 75 = .ok (.iload_n 1, 1) := by decide +kernel
theorem dX5_ofSort_76 : decode cX5_ofSort 76 = .ok (.iaload, 1) := by decide +kernel
theorem dX5_ofSort_77 : decode cX5_ofSort 77 = .ok (.ireturn, 1) := by decide +kernel
theorem dX5_ofSort_78 : decode cX5_ofSort 78 = .ok (.aload_n 0, 1) := by decide +kernel
theorem dX5_ofSort_79 : decode cX5_ofSort 79 = .ok (.getfield 21, 3) := by decide +kernel
theorem dX5_ofSort_82 : decode cX5_ofSort 82 = .ok (.getfield 102, 3) := by decide +kernel
theorem dX5_ofSort_85 : decode cX5_ofSort 85 = .ok (.iload_n 1, 1) := by decide +kernel
theorem dX5_ofSort_86 : decode cX5_ofSort 86 = .ok (.iaload, 1) := by decide +kernel
theorem dX5_ofSort_87 : decode cX5_ofSort 87 = .ok (.ireturn, 1) := by decide +kernel
theorem dX5_ofSort_88 : decode cX5_ofSort 88 = .ok (.aload_n 0, 1) := by decide +kernel
theorem dX5_ofSort_89 : decode cX5_ofSort 89 = .ok (.getfield 21, 3) := by decide +kernel
theorem dX5_ofSort_92 : decode cX5_ofSort 92 = .ok (.getfield 93, 3) := by decide +kernel
theorem dX5_ofSort_95 : decode cX5_ofSort 95 = .ok (.iload_n 1, 1) := by decide +kernel
theorem dX5_ofSort_96 : decode cX5_ofSort 96 = .ok (.iaload, 1) := by decide +kernel
theorem dX5_ofSort_97 : decode cX5_ofSort 97 = .ok (.aload_n 0, 1) := by decide +kernel
theorem dX5_ofSort_98 : decode cX5_ofSort 98 = .ok (.getfield 21, 3) := by decide +kernel
theorem dX5_ofSort_101 : decode cX5_ofSort 101 = .ok (.getfield 99, 3) := by decide +kernel
theorem dX5_ofSort_104 : decode cX5_ofSort 104 = .ok (.iload_n 1, 1) := by decide +kernel
theorem dX5_ofSort_105 : decode cX5_ofSort 105 = .ok (.iaload, 1) := by decide +kernel
theorem dX5_ofSort_106 : decode cX5_ofSort 106 = .ok (.invokestatic 105, 3) := by decide +kernel
theorem dX5_ofSort_109 : decode cX5_ofSort 109 = .ok (.ireturn, 1) := by decide +kernel
theorem dX5_ofSort_110 : decode cX5_ofSort 110 = .ok (.bipush (-2), 2) := by decide +kernel
theorem dX5_ofSort_112 : decode cX5_ofSort 112 = .ok (.ireturn, 1) := by decide +kernel
theorem dX5_ofSign_0 : decode cX5_ofSign 0 = .ok (.aload_n 0, 1) := by decide +kernel
theorem dX5_ofSign_1 : decode cX5_ofSign 1 = .ok (.getfield 21, 3) := by decide +kernel
theorem dX5_ofSign_4 : decode cX5_ofSign 4 = .ok (.iload_n 1, 1) := by decide +kernel
theorem dX5_ofSign_5 : decode cX5_ofSign 5 = .ok (.invokevirtual 108, 3) := by decide +kernel
theorem dX5_ofSign_8 : decode cX5_ofSign 8 = .ok (.ifCond .eq 15, 3) := by decide +kernel
theorem dX5_ofSign_11 : decode cX5_ofSign 11 = .ok (.aload_n 0, 1) := by decide +kernel
theorem dX5_ofSign_12 : decode cX5_ofSign 12 = .ok (.getfield 21, 3) := by decide +kernel
theorem dX5_ofSign_15 : decode cX5_ofSign 15 = .ok (.getfield 111, 3) := by decide +kernel
theorem dX5_ofSign_18 : decode cX5_ofSign 18 = .ok (.iload_n 1, 1) := by decide +kernel
theorem dX5_ofSign_19 : decode cX5_ofSign 19 = .ok (.iaload, 1) := by decide +kernel
theorem dX5_ofSign_20 : decode cX5_ofSign 20 = .ok (.goto 4, 3) := by decide +kernel
theorem dX5_ofSign_23 : decode cX5_ofSign 23 = .ok (.iconst (-1), 1) := by decide +kernel
theorem dX5_ofSign_24 : decode cX5_ofSign 24 = .ok (.ireturn, 1) := by decide +kernel
theorem dX5_lay_0 : decode cX5_lay 0 = .ok (.aload_n 0, 1) := by decide +kernel
theorem dX5_lay_1 : decode cX5_lay 1 = .ok (.getfield 21, 3) := by decide +kernel
theorem dX5_lay_4 : decode cX5_lay 4 = .ok (.iload_n 1, 1) := by decide +kernel
theorem dX5_lay_5 : decode cX5_lay 5 = .ok (.invokevirtual 90, 3) := by decide +kernel
theorem dX5_lay_8 : decode cX5_lay 8 = .ok (.ifCond .ne 5, 3) := by decide +kernel
theorem dX5_lay_11 : decode cX5_lay 11 = .ok (.iconst (-1), 1) := by decide +kernel
theorem dX5_lay_12 : decode cX5_lay 12 = .ok (.ireturn, 1) := by decide +kernel
theorem dX5_lay_13 : decode cX5_lay 13 = .ok (.iload_n 2, 1) := by decide +kernel
theorem dX5_lay_14 : decode cX5_lay 14 = .ok (.ifCond .lt 9, 3) := by decide +kernel
theorem dX5_lay_17 : decode cX5_lay 17 = .ok (.iload_n 2, 1) := by decide +kernel
theorem dX5_lay_18 : decode cX5_lay 18 = .ok (.bipush 9, 2) := by decide +kernel
theorem dX5_lay_20 : decode cX5_lay 20 = .ok (.if_icmp .le 6, 3) := by decide +kernel
theorem dX5_lay_23 : decode cX5_lay 23 = .ok (.bipush (-2), 2) := by decide +kernel
theorem dX5_lay_25 : decode cX5_lay 25 = .ok (.ireturn, 1) := by decide +kernel
theorem dX5_lay_26 : decode cX5_lay 26 = .ok (.aload_n 0, 1) := by decide +kernel
theorem dX5_lay_27 : decode cX5_lay 27 = .ok (.getfield 21, 3) := by decide +kernel
theorem dX5_lay_30 : decode cX5_lay 30 = .ok (.getfield 96, 3) := by decide +kernel
theorem dX5_lay_33 : decode cX5_lay 33 = .ok (.iload_n 1, 1) := by decide +kernel
theorem dX5_lay_34 : decode cX5_lay 34 = .ok (.iaload, 1) := by decide +kernel
theorem dX5_lay_35 : decode cX5_lay 35 = .ok (.istore_n 3, 1) := by decide +kernel
theorem dX5_lay_36 : decode cX5_lay 36 = .ok (.aload_n 0, 1) := by decide +kernel
theorem dX5_lay_37 : decode cX5_lay 37 = .ok (.getfield 21, 3) := by decide +kernel
theorem dX5_lay_40 : decode cX5_lay 40 = .ok (.getfield 96, 3) := by decide +kernel
theorem dX5_lay_43 : decode cX5_lay 43 = .ok (.iload_n 1, 1) := by decide +kernel
theorem dX5_lay_44 : decode cX5_lay 44 = .ok (.iload_n 2, 1) := by decide +kernel
theorem dX5_lay_45 : decode cX5_lay 45 = .ok (.iastore, 1) := by decide +kernel
theorem dX5_lay_46 : decode cX5_lay 46 = .ok (.iload_n 3, 1) := by decide +kernel
theorem dX5_lay_47 : decode cX5_lay 47 = .ok (.ireturn, 1) := by decide +kernel
theorem dX5_sign_0 : decode cX5_sign 0 = .ok (.aload_n 0, 1) := by decide +kernel
theorem dX5_sign_1 : decode cX5_sign 1 = .ok (.getfield 21, 3) := by decide +kernel
theorem dX5_sign_4 : decode cX5_sign 4 = .ok (.iload_n 1, 1) := by decide +kernel
theorem dX5_sign_5 : decode cX5_sign 5 = .ok (.invokevirtual 108, 3) := by decide +kernel
theorem dX5_sign_8 : decode cX5_sign 8 = .ok (.ifCond .ne 5, 3) := by decide +kernel
theorem dX5_sign_11 : decode cX5_sign 11 = .ok (.iconst (-1), 1) := by decide +kernel
theorem dX5_sign_12 : decode cX5_sign 12 = .ok (.ireturn, 1) := by decide +kernel
theorem dX5_sign_13 : decode cX5_sign 13 = .ok (.iload_n 2, 1) := by decide +kernel
theorem dX5_sign_14 : decode cX5_sign 14 = .ok (.ifCond .lt 9, 3) := by decide +kernel
theorem dX5_sign_17 : decode cX5_sign 17 = .ok (.iload_n 2, 1) := by decide +kernel
theorem dX5_sign_18 : decode cX5_sign 18 = .ok (.bipush 63, 2) := by decide +kernel
theorem dX5_sign_20 : decode cX5_sign 20 = .ok (.if_icmp .le 6, 3) := by decide +kernel
theorem dX5_sign_23 : decode cX5_sign 23 = .ok (.bipush (-2), 2) := by decide +kernel
theorem dX5_sign_25 : decode cX5_sign 25 = .ok (.ireturn, 1) := by decide +kernel
theorem dX5_sign_26 : decode cX5_sign 26 = .ok (.aload_n 0, 1) := by decide +kernel
theorem dX5_sign_27 : decode cX5_sign 27 = .ok (.getfield 21, 3) := by decide +kernel
theorem dX5_sign_30 : decode cX5_sign 30 = .ok (.getfield 111, 3) := by decide +kernel
theorem dX5_sign_33 : decode cX5_sign 33 = .ok (.iload_n 1, 1) := by decide +kernel
theorem dX5_sign_34 : decode cX5_sign 34 = .ok (.iaload, 1) := by decide +kernel
theorem dX5_sign_35 : decode cX5_sign 35 = .ok (.istore_n 3, 1) := by decide +kernel
theorem dX5_sign_36 : decode cX5_sign 36 = .ok (.aload_n 0, 1) := by decide +kernel
theorem dX5_sign_37 : decode cX5_sign 37 = .ok (.getfield 21, 3) := by decide +kernel
theorem dX5_sign_40 : decode cX5_sign 40 = .ok (.getfield 111, 3) := by decide +kernel
theorem dX5_sign_43 : decode cX5_sign 43 = .ok (.iload_n 1, 1) := by decide +kernel
theorem dX5_sign_44 : decode cX5_sign 44 = .ok (.iload_n 2, 1) := by decide +kernel
theorem dX5_sign_45 : decode cX5_sign 45 = .ok (.aload_n 0, 1) := by decide +kernel
theorem dX5_sign_46 : decode cX5_sign 46 = .ok (.getfield 21, 3) := by decide +kernel
theorem dX5_sign_49 : decode cX5_sign 49 = .ok (.invokevirtual 114, 3) := by decide +kernel
theorem dX5_sign_52 : decode cX5_sign 52 = .ok (.iand, 1) := by decide +kernel
theorem dX5_sign_53 : decode cX5_sign 53 = .ok (.iastore, 1) := by decide +kernel
theorem dX5_sign_54 : decode cX5_sign 54 = .ok (.iload_n 3, 1) := by decide +kernel
theorem dX5_sign_55 : decode cX5_sign 55 = .ok (.ireturn, 1) := by decide +kernel
theorem dX5_plan_0 : decode cX5_plan 0 = .ok (.aload_n 0, 1) := by decide +kernel
theorem dX5_plan_1 : decode cX5_plan 1 = .ok (.iconst 0, 1) := by decide +kernel
theorem dX5_plan_2 : decode cX5_plan 2 = .ok (.putfield 50, 3) := by decide +kernel
theorem dX5_plan_5 : decode cX5_plan 5 = .ok (.iload_n 1, 1) := by decide +kernel
theorem dX5_plan_6 : decode cX5_plan 6 = .ok (.invokestatic 54, 3) := by decide +kernel
theorem dX5_plan_9 : decode cX5_plan 9 = .ok (.ifCond .eq 14, 3) := by decide +kernel
theorem dX5_plan_12 : decode cX5_plan 12 = .ok (.iload 5, 2) := by decide +kernel
theorem dX5_plan_14 : decode cX5_plan 14 = .ok (.invokestatic 118, 3) := by decide +kernel
theorem dX5_plan_17 : decode cX5_plan 17 = .ok (.ifCond .ne 6, 3) := by decide +kernel
theorem dX5_plan_20 : decode cX5_plan 20 = .ok (.bipush (-2), 2) := by decide +kernel
theorem dX5_plan_22 : decode cX5_plan 22 = .ok (.ireturn, 1) := by decide +kernel
theorem dX5_plan_23 : decode cX5_plan 23 = .ok (.aload_n 0, 1) := by decide +kernel
theorem dX5_plan_24 : decode cX5_plan 24 = .ok (.iload_n 1, 1) := by decide +kernel
theorem dX5_plan_25 : decode cX5_plan 25 = .ok (.iload_n 2, 1) := by decide +kernel
theorem dX5_plan_26 : decode cX5_plan 26 = .ok (.iload 4, 2) := by decide +kernel
theorem dX5_plan_28 : decode cX5_plan 28 = .ok (.bipush 20, 2) := by decide +kernel
theorem dX5_plan_30 : decode cX5_plan 30 = .ok (.invokevirtual 121, 3) := by decide +kernel
theorem dX5_plan_33 : decode cX5_plan 33 = .ok (.istore 6, 2) := by decide +kernel
theorem dX5_plan_35 : decode cX5_plan 35 = .ok (.iload 6, 2) := by decide +kernel
theorem dX5_plan_37 : decode cX5_plan 37 = .ok (.ifCond .ne 21, 3) := by decide +kernel
theorem dX5_plan_40 : decode cX5_plan 40 = .ok (.aload_n 0, 1) := by decide +kernel
theorem dX5_plan_41 : decode cX5_plan 41 = .ok (.iload_n 1, 1) := by decide +kernel
theorem dX5_plan_42 : decode cX5_plan 42 = .ok (.iload_n 2, 1) := by decide +kernel
theorem dX5_plan_43 : decode cX5_plan 43 = .ok (.iload_n 3, 1) := by decide +kernel
theorem dX5_plan_44 : decode cX5_plan 44 = .ok (.iload 4, 2) := by decide +kernel
theorem dX5_plan_46 : decode cX5_plan 46 = .ok (.aload_n 0, 1) := by decide +kernel
theorem dX5_plan_47 : decode cX5_plan 47 = .ok (.getfield 21, 3) := by decide +kernel
theorem dX5_plan_50 : decode cX5_plan 50 = .ok (.getfield 125, 3) := by decide +kernel
theorem dX5_plan_53 : decode cX5_plan 53 = .ok (.invokevirtual 128, 3) := by decide +kernel
theorem dX5_plan_56 : decode cX5_plan 56 = .ok (.istore 6, 2) := by decide +kernel
theorem dX5_plan_58 : decode cX5_plan 58 = .ok (.iload 6, 2) := by decide +kernel
theorem dX5_plan_60 : decode cX5_plan 60 = .ok (.ifCond .eq 6, 3) := by decide +kernel
theorem dX5_plan_63 : decode cX5_plan 63 = .ok (.iload 6, 2) := by decide +kernel
theorem dX5_plan_65 : decode cX5_plan 65 = .ok (.ireturn, 1) := by decide +kernel
theorem dX5_plan_66 : decode cX5_plan 66 = .ok (.aload_n 0, 1) := by decide +kernel
theorem dX5_plan_67 : decode cX5_plan 67 = .ok (.getfield 35, 3) := by decide +kernel
theorem dX5_plan_70 : decode cX5_plan 70 = .ok (.aload_n 0, 1) := by decide +kernel
theorem dX5_plan_71 : decode cX5_plan 71 = .ok (.getfield 21, 3) := by decide +kernel
theorem dX5_plan_74 : decode cX5_plan 74 = .ok (.aload_n 0, 1) := by decide +kernel
theorem dX5_plan_75 : decode cX5_plan 75 = .ok (.getfield 46, 3) := by decide +kernel
theorem dX5_plan_78 : decode cX5_plan 78 = .ok (.iload 4, 2) := by decide +kernel
theorem dX5_plan_80 : decode cX5_plan 80 = .ok (.invokevirtual 132, 3) := by decide +kernel
theorem dX5_plan_83 : decode cX5_plan 83 = .ok (.iload 5, 2) := by decide +kernel
theorem dX5_plan_85 : decode cX5_plan 85 = .ok (.tableswitch 87 0 3 #[31, 39, 47, 62], 31) := by decide +kernel
theorem dX5_plan_116 : decode cX5_plan 116 = .ok (.aload_n 0, 1) := by decide +kernel
theorem dX5_plan_117 : decode cX5_plan 117 = .ok (.getfield 35, 3) := by decide +kernel
theorem dX5_plan_120 : decode cX5_plan 120 = .ok (.getfield 136, 3) := by decide +kernel
theorem dX5_plan_123 : decode cX5_plan 123 = .ok (.ireturn, 1) := by decide +kernel
theorem dX5_plan_124 : decode cX5_plan 124 = .ok (.aload_n 0, 1) := by decide +kernel
theorem dX5_plan_125 : decode cX5_plan 125 = .ok (.getfield 35, 3) := by decide +kernel
theorem dX5_plan_128 : decode cX5_plan 128 = .ok (.getfield 138, 3) := by decide +kernel
theorem dX5_plan_131 : decode cX5_plan 131 = .ok (.ireturn, 1) := by decide +kernel
theorem dX5_plan_132 : decode cX5_plan 132 = .ok (.aload_n 0, 1) := by decide +kernel
theorem dX5_plan_133 : decode cX5_plan 133 = .ok (.getfield 21, 3) := by decide +kernel
theorem dX5_plan_136 : decode cX5_plan 136 = .ok (.aload_n 0, 1) := by decide +kernel
theorem dX5_plan_137 : decode cX5_plan 137 = .ok (.getfield 35, 3) := by decide +kernel
theorem dX5_plan_140 : decode cX5_plan 140 = .ok (.getfield 141, 3) := by decide +kernel
theorem dX5_plan_143 : decode cX5_plan 143 = .ok (.invokevirtual 144, 3) := by decide +kernel
theorem dX5_plan_146 : decode cX5_plan 146 = .ok (.ireturn, 1) := by decide +kernel
theorem dX5_plan_147 : decode cX5_plan 147 = .ok (.aload_n 0, 1) := by decide +kernel
theorem dX5_plan_148 : decode cX5_plan 148 = .ok (.getfield 21, 3) := by decide +kernel
theorem dX5_plan_151 : decode cX5_plan 151 = .ok (.invokevirtual 114, 3) := by decide +kernel
theorem dX5_plan_154 : decode cX5_plan 154 = .ok (.aload_n 0, 1) := by decide +kernel
theorem dX5_plan_155 : decode cX5_plan 155 = .ok (.getfield 21, 3) := by decide +kernel
theorem dX5_plan_158 : decode cX5_plan 158 = .ok (.aload_n 0, 1) := by decide +kernel
theorem dX5_plan_159 : decode cX5_plan 159 = .ok (.getfield 35, 3) := by decide +kernel
theorem dX5_plan_162 : decode cX5_plan 162 = .ok (.getfield 141, 3) := by decide +kernel
theorem dX5_plan_165 : decode cX5_plan 165 = .ok (.invokevirtual 147, 3) := by decide +kernel
theorem dX5_plan_168 : decode cX5_plan 168 = .ok (.iconst (-1), 1) := by decide +kernel
theorem dX5_plan_169 : decode cX5_plan 169 = .ok (.ixor, 1) := by decide +kernel
theorem dX5_plan_170 : decode cX5_plan 170 = .ok (.iand, 1) := by decide +kernel
theorem dX5_plan_171 : decode cX5_plan 171 = .ok (.ireturn, 1) := by decide +kernel
theorem dX5_plan_172 : decode cX5_plan 172 = .ok (.iload 5, 2) := by decide +kernel
theorem dX5_plan_174 : decode cX5_plan 174 = .ok (.bipush 20, 2) := by decide +kernel
theorem dX5_plan_176 : decode cX5_plan 176 = .ok (.if_icmp .ge 15, 3) := by decide +kernel
theorem dX5_plan_179 : decode cX5_plan 179 = .ok (.aload_n 0, 1) := by decide +kernel
theorem dX5_plan_180 : decode cX5_plan 180 = .ok (.iload 5, 2) := by decide +kernel
theorem dX5_plan_182 : decode cX5_plan 182 = .ok (.bipush 10, 2) := by decide +kernel
theorem dX5_plan_184 : decode cX5_plan 184 = .ok (.isub, 1) := by decide +kernel
theorem dX5_plan_185 : decode cX5_plan 185 = .ok (.invokevirtual 150, 3) := by decide +kernel
theorem dX5_plan_188 : decode cX5_plan 188 = .ok (.goto 12, 3) := by decide +kernel
theorem dX5_plan_191 : decode cX5_plan 191 = .ok (.aload_n 0, 1) := by decide +kernel
theorem dX5_plan_192 : decode cX5_plan 192 = .ok (.iload 5, 2) := by decide +kernel
theorem dX5_plan_194 : decode cX5_plan 194 = .ok (.bipush 20, 2) := by decide +kernel
theorem dX5_plan_196 : decode cX5_plan 196 = .ok (.isub, 1) := by decide +kernel
theorem dX5_plan_197 : decode cX5_plan 197 = .ok (.invokevirtual 153, 3) := by decide +kernel
theorem dX5_plan_200 : decode cX5_plan 200 = .ok (.ireturn, 1) := by decide +kernel
theorem dX5_line_0 : decode cX5_line 0 = .ok (.aload_n 0, 1) := by decide +kernel
theorem dX5_line_1 : decode cX5_line 1 = .ok (.iconst 0, 1) := by decide +kernel
theorem dX5_line_2 : decode cX5_line 2 = .ok (.putfield 50, 3) := by decide +kernel
theorem dX5_line_5 : decode cX5_line 5 = .ok (.aload_n 0, 1) := by decide +kernel
theorem dX5_line_6 : decode cX5_line 6 = .ok (.iload_n 1, 1) := by decide +kernel
theorem dX5_line_7 : decode cX5_line 7 = .ok (.iload_n 2, 1) := by decide +kernel
theorem dX5_line_8 : decode cX5_line 8 = .ok (.iload 4, 2) := by decide +kernel
theorem dX5_line_10 : decode cX5_line 10 = .ok (.bipush 60, 2) := by decide +kernel
theorem dX5_line_12 : decode cX5_line 12 = .ok (.invokevirtual 121, 3) := by decide +kernel
theorem dX5_line_15 : decode cX5_line 15 = .ok (.istore 5, 2) := by decide +kernel
theorem dX5_line_17 : decode cX5_line 17 = .ok (.iload 5, 2) := by decide +kernel
theorem dX5_line_19 : decode cX5_line 19 = .ok (.ifCond .ne 21, 3) := by decide +kernel
theorem dX5_line_22 : decode cX5_line 22 = .ok (.aload_n 0, 1) := by decide +kernel
theorem dX5_line_23 : decode cX5_line 23 = .ok (.iload_n 1, 1) := by decide +kernel
theorem dX5_line_24 : decode cX5_line 24 = .ok (.iload_n 2, 1) := by decide +kernel
theorem dX5_line_25 : decode cX5_line 25 = .ok (.iload_n 3, 1) := by decide +kernel
theorem dX5_line_26 : decode cX5_line 26 = .ok (.iload 4, 2) := by decide +kernel
theorem dX5_line_28 : decode cX5_line 28 = .ok (.aload_n 0, 1) := by decide +kernel
theorem dX5_line_29 : decode cX5_line 29 = .ok (.getfield 21, 3) := by decide +kernel
theorem dX5_line_32 : decode cX5_line 32 = .ok (.getfield 87, 3) := by decide +kernel
theorem dX5_line_35 : decode cX5_line 35 = .ok (.invokevirtual 128, 3) := by decide +kernel
theorem dX5_line_38 : decode cX5_line 38 = .ok (.istore 5, 2) := by decide +kernel
theorem dX5_line_40 : decode cX5_line 40 = .ok (.iload 5, 2) := by decide +kernel
theorem dX5_line_42 : decode cX5_line 42 = .ok (.ifCond .ne 19, 3) := by decide +kernel
theorem dX5_line_45 : decode cX5_line 45 = .ok (.aload_n 0, 1) := by decide +kernel
theorem dX5_line_46 : decode cX5_line 46 = .ok (.getfield 21, 3) := by decide +kernel
theorem dX5_line_49 : decode cX5_line 49 = .ok (.aload_n 0, 1) := by decide +kernel
theorem dX5_line_50 : decode cX5_line 50 = .ok (.getfield 46, 3) := by decide +kernel
theorem dX5_line_53 : decode cX5_line 53 = .ok (.iload 4, 2) := by decide +kernel
theorem dX5_line_55 : decode cX5_line 55 = .ok (.invokevirtual 156, 3) := by decide +kernel
theorem dX5_line_58 : decode cX5_line 58 = .ok (.goto 5, 3) := by decide +kernel
theorem dX5_line_61 : decode cX5_line 61 = .ok (.iload 5, 2) := by decide +kernel
theorem dX5_line_63 : decode cX5_line 63 = .ok (.ireturn, 1) := by decide +kernel
theorem dX5_soon_0 : decode cX5_soon 0 = .ok (.aload_n 0, 1) := by decide +kernel
theorem dX5_soon_1 : decode cX5_soon 1 = .ok (.iconst 0, 1) := by decide +kernel
theorem dX5_soon_2 : decode cX5_soon 2 = .ok (.putfield 50, 3) := by decide +kernel
theorem dX5_soon_5 : decode cX5_soon 5 = .ok (.aload_n 0, 1) := by decide +kernel
theorem dX5_soon_6 : decode cX5_soon 6 = .ok (.iload_n 2, 1) := by decide +kernel
theorem dX5_soon_7 : decode cX5_soon 7 = .ok (.iload_n 3, 1) := by decide +kernel
theorem dX5_soon_8 : decode cX5_soon 8 = .ok (.iload 5, 2) := by decide +kernel
theorem dX5_soon_10 : decode cX5_soon 10 = .ok (.bipush 20, 2) := by decide +kernel
theorem dX5_soon_12 : decode cX5_soon 12 = .ok (.invokevirtual 121, 3) := by decide +kernel
theorem dX5_soon_15 : decode cX5_soon 15 = .ok (.istore 6, 2) := by decide +kernel
theorem dX5_soon_17 : decode cX5_soon 17 = .ok (.iload 6, 2) := by decide +kernel
theorem dX5_soon_19 : decode cX5_soon 19 = .ok (.ifCond .ne 18, 3) := by decide +kernel
theorem dX5_soon_22 : decode cX5_soon 22 = .ok (.aload_n 0, 1) := by decide +kernel
theorem dX5_soon_23 : decode cX5_soon 23 = .ok (.getfield 21, 3) := by decide +kernel
theorem dX5_soon_26 : decode cX5_soon 26 = .ok (.iload_n 1, 1) := by decide +kernel
theorem dX5_soon_27 : decode cX5_soon 27 = .ok (.invokevirtual 160, 3) := by decide +kernel
theorem dX5_soon_30 : decode cX5_soon 30 = .ok (.ifCond .ne 7, 3) := by decide +kernel
theorem dX5_soon_33 : decode cX5_soon 33 = .ok (.bipush (-2), 2) := by decide +kernel
theorem dX5_soon_35 : decode cX5_soon 35 = .ok (.istore 6, 2) := by decide +kernel
theorem dX5_soon_37 : decode cX5_soon 37 = .ok (.iload 6, 2) := by decide +kernel
theorem dX5_soon_39 : decode cX5_soon 39 = .ok (.ifCond .ne 22, 3) := by decide +kernel
theorem dX5_soon_42 : decode cX5_soon 42 = .ok (.aload_n 0, 1) := by decide +kernel
theorem dX5_soon_43 : decode cX5_soon 43 = .ok (.iload_n 2, 1) := by decide +kernel
theorem dX5_soon_44 : decode cX5_soon 44 = .ok (.iload_n 3, 1) := by decide +kernel
theorem dX5_soon_45 : decode cX5_soon 45 = .ok (.iload 4, 2) := by decide +kernel
theorem dX5_soon_47 : decode cX5_soon 47 = .ok (.iload 5, 2) := by decide +kernel
theorem dX5_soon_49 : decode cX5_soon 49 = .ok (.aload_n 0, 1) := by decide +kernel
theorem dX5_soon_50 : decode cX5_soon 50 = .ok (.getfield 21, 3) := by decide +kernel
theorem dX5_soon_53 : decode cX5_soon 53 = .ok (.getfield 125, 3) := by decide +kernel
theorem dX5_soon_56 : decode cX5_soon 56 = .ok (.invokevirtual 128, 3) := by decide +kernel
theorem dX5_soon_59 : decode cX5_soon 59 = .ok (.istore 6, 2) := by decide +kernel
theorem dX5_soon_61 : decode cX5_soon 61 = .ok (.iload 6, 2) := by decide +kernel
theorem dX5_soon_63 : decode cX5_soon 63 = .ok (.ifCond .eq 6, 3) := by decide +kernel
theorem dX5_soon_66 : decode cX5_soon 66 = .ok (.iload 6, 2) := by decide +kernel
theorem dX5_soon_68 : decode cX5_soon 68 = .ok (.ireturn, 1) := by decide +kernel
theorem dX5_soon_69 : decode cX5_soon 69 = .ok (.aload_n 0, 1) := by decide +kernel
theorem dX5_soon_70 : decode cX5_soon 70 = .ok (.getfield 35, 3) := by decide +kernel
theorem dX5_soon_73 : decode cX5_soon 73 = .ok (.aload_n 0, 1) := by decide +kernel
theorem dX5_soon_74 : decode cX5_soon 74 = .ok (.getfield 21, 3) := by decide +kernel
theorem dX5_soon_77 : decode cX5_soon 77 = .ok (.aload_n 0, 1) := by decide +kernel
theorem dX5_soon_78 : decode cX5_soon 78 = .ok (.getfield 46, 3) := by decide +kernel
theorem dX5_soon_81 : decode cX5_soon 81 = .ok (.iload 5, 2) := by decide +kernel
theorem dX5_soon_83 : decode cX5_soon 83 = .ok (.invokevirtual 132, 3) := by decide +kernel
theorem dX5_soon_86 : decode cX5_soon 86 = .ok (.aload_n 0, 1) := by decide +kernel
theorem dX5_soon_87 : decode cX5_soon 87 = .ok (.getfield 35, 3) := by decide +kernel
theorem dX5_soon_90 : decode cX5_soon 90 = .ok (.iload_n 1, 1) := by decide +kernel
theorem dX5_soon_91 : decode cX5_soon 91 = .ok (.invokevirtual 163, 3) := by decide +kernel
theorem dX5_soon_94 : decode cX5_soon 94 = .ok (.ireturn, 1) := by decide +kernel
theorem dX5_order_0 : decode cX5_order 0 = .ok (.iload_n 1, 1) := by decide +kernel
theorem dX5_order_1 : decode cX5_order 1 = .ok (.iconst (-1), 1) := by decide +kernel
theorem dX5_order_2 : decode cX5_order 2 = .ok (.if_icmp .lt 8, 3) := by decide +kernel
theorem dX5_order_5 : decode cX5_order 5 = .ok (.iload_n 1, 1) := by decide +kernel
theorem dX5_order_6 : decode cX5_order 6 = .ok (.iconst 5, 1) := by decide +kernel
theorem dX5_order_7 : decode cX5_order 7 = .ok (.if_icmp .lt 6, 3) := by decide +kernel
theorem dX5_order_10 : decode cX5_order 10 = .ok (.bipush (-2), 2) := by decide +kernel
theorem dX5_order_12 : decode cX5_order 12 = .ok (.ireturn, 1) := by decide +kernel
theorem dX5_order_13 : decode cX5_order 13 = .ok (.aload_n 0, 1) := by decide +kernel
theorem dX5_order_14 : decode cX5_order 14 = .ok (.getfield 21, 3) := by decide +kernel
end
section
theorem dX5_order_17 : decode cX5_order 17 = .ok (.invokevirtual 166, 3) := by decide +kernel
theorem dX5_order_20 : decode cX5_order 20 = .ok (.ifCond .ne 6, 3) := by decide +kernel
theorem dX5_order_23 : decode cX5_order 23 = .ok (.bipush (-3), 2) := by decide +kernel
theorem dX5_order_25 : decode cX5_order 25 = .ok (.ireturn, 1) := by decide +kernel
theorem dX5_order_26 : decode cX5_order 26 = .ok (.aload_n 0, 1) := by decide +kernel
theorem dX5_order_27 : decode cX5_order 27 = .ok (.getfield 42, 3) := by decide +kernel
theorem dX5_order_30 : decode cX5_order 30 = .ok (.aload_n 0, 1) := by decide +kernel
theorem dX5_order_31 : decode cX5_order 31 = .ok (.getfield 21, 3) := by decide +kernel
theorem dX5_order_34 : decode cX5_order 34 = .ok (.invokevirtual 170, 3) := by decide +kernel
theorem dX5_order_37 : decode cX5_order 37 = .ok (.iload_n 1, 1) := by decide +kernel
theorem dX5_order_38 : decode cX5_order 38 = .ok (.ifCond .ge 13, 3) := by decide +kernel
theorem dX5_order_41 : decode cX5_order 41 = .ok (.aload_n 0, 1) := by decide +kernel
theorem dX5_order_42 : decode cX5_order 42 = .ok (.getfield 42, 3) := by decide +kernel
theorem dX5_order_45 : decode cX5_order 45 = .ok (.invokevirtual 174, 3) := by decide +kernel
theorem dX5_order_48 : decode cX5_order 48 = .ok (.goto 15, 3) := by decide +kernel
theorem dX5_order_51 : decode cX5_order 51 = .ok (.aload_n 0, 1) := by decide +kernel
theorem dX5_order_52 : decode cX5_order 52 = .ok (.getfield 42, 3) := by decide +kernel
theorem dX5_order_55 : decode cX5_order 55 = .ok (.aload_n 0, 1) := by decide +kernel
theorem dX5_order_56 : decode cX5_order 56 = .ok (.getfield 21, 3) := by decide +kernel
theorem dX5_order_59 : decode cX5_order 59 = .ok (.iload_n 1, 1) := by decide +kernel
theorem dX5_order_60 : decode cX5_order 60 = .ok (.invokevirtual 177, 3) := by decide +kernel
theorem dX5_order_63 : decode cX5_order 63 = .ok (.ireturn, 1) := by decide +kernel
theorem dX5_tree_0 : decode cX5_tree 0 = .ok (.iload_n 1, 1) := by decide +kernel
theorem dX5_tree_1 : decode cX5_tree 1 = .ok (.ifCond .lt 8, 3) := by decide +kernel
theorem dX5_tree_4 : decode cX5_tree 4 = .ok (.iload_n 1, 1) := by decide +kernel
theorem dX5_tree_5 : decode cX5_tree 5 = .ok (.iconst 1, 1) := by decide +kernel
theorem dX5_tree_6 : decode cX5_tree 6 = .ok (.if_icmp .le 6, 3) := by decide +kernel
theorem dX5_tree_9 : decode cX5_tree 9 = .ok (.bipush (-2), 2) := by decide +kernel
theorem dX5_tree_11 : decode cX5_tree 11 = .ok (.ireturn, 1) := by decide +kernel
theorem dX5_tree_12 : decode cX5_tree 12 = .ok (.aload_n 0, 1) := by decide +kernel
theorem dX5_tree_13 : decode cX5_tree 13 = .ok (.getfield 21, 3) := by decide +kernel
theorem dX5_tree_16 : decode cX5_tree 16 = .ok (.invokevirtual 166, 3) := by decide +kernel
theorem dX5_tree_19 : decode cX5_tree 19 = .ok (.ifCond .ne 6, 3) := by decide +kernel
theorem dX5_tree_22 : decode cX5_tree 22 = .ok (.bipush (-3), 2) := by decide +kernel
theorem dX5_tree_24 : decode cX5_tree 24 = .ok (.ireturn, 1) := by decide +kernel
theorem dX5_tree_25 : decode cX5_tree 25 = .ok (.aload_n 0, 1) := by decide +kernel
theorem dX5_tree_26 : decode cX5_tree 26 = .ok (.getfield 42, 3) := by decide +kernel
theorem dX5_tree_29 : decode cX5_tree 29 = .ok (.aload_n 0, 1) := by decide +kernel
theorem dX5_tree_30 : decode cX5_tree 30 = .ok (.getfield 21, 3) := by decide +kernel
theorem dX5_tree_33 : decode cX5_tree 33 = .ok (.invokevirtual 181, 3) := by decide +kernel
theorem dX5_tree_36 : decode cX5_tree 36 = .ok (.iload_n 1, 1) := by decide +kernel
theorem dX5_tree_37 : decode cX5_tree 37 = .ok (.ifCond .ne 17, 3) := by decide +kernel
theorem dX5_tree_40 : decode cX5_tree 40 = .ok (.aload_n 0, 1) := by decide +kernel
theorem dX5_tree_41 : decode cX5_tree 41 = .ok (.getfield 42, 3) := by decide +kernel
theorem dX5_tree_44 : decode cX5_tree 44 = .ok (.aload_n 0, 1) := by decide +kernel
theorem dX5_tree_45 : decode cX5_tree 45 = .ok (.getfield 21, 3) := by decide +kernel
theorem dX5_tree_48 : decode cX5_tree 48 = .ok (.invokevirtual 184, 3) := by decide +kernel
theorem dX5_tree_51 : decode cX5_tree 51 = .ok (.goto 14, 3) := by decide +kernel
theorem dX5_tree_54 : decode cX5_tree 54 = .ok (.aload_n 0, 1) := by decide +kernel
theorem dX5_tree_55 : decode cX5_tree 55 = .ok (.getfield 42, 3) := by decide +kernel
theorem dX5_tree_58 : decode cX5_tree 58 = .ok (.aload_n 0, 1) := by decide +kernel
theorem dX5_tree_59 : decode cX5_tree 59 = .ok (.getfield 21, 3) := by decide +kernel
theorem dX5_tree_62 : decode cX5_tree 62 = .ok (.invokevirtual 188, 3) := by decide +kernel
theorem dX5_tree_65 : decode cX5_tree 65 = .ok (.ireturn, 1) := by decide +kernel
theorem dX5_odds_0 : decode cX5_odds 0 = .ok (.aload_n 0, 1) := by decide +kernel
theorem dX5_odds_1 : decode cX5_odds 1 = .ok (.getfield 21, 3) := by decide +kernel
theorem dX5_odds_4 : decode cX5_odds 4 = .ok (.iload_n 1, 1) := by decide +kernel
theorem dX5_odds_5 : decode cX5_odds 5 = .ok (.invokevirtual 90, 3) := by decide +kernel
theorem dX5_odds_8 : decode cX5_odds 8 = .ok (.ifCond .eq 22, 3) := by decide +kernel
theorem dX5_odds_11 : decode cX5_odds 11 = .ok (.iload_n 2, 1) := by decide +kernel
theorem dX5_odds_12 : decode cX5_odds 12 = .ok (.ifCond .lt 18, 3) := by decide +kernel
theorem dX5_odds_15 : decode cX5_odds 15 = .ok (.iload_n 2, 1) := by decide +kernel
theorem dX5_odds_16 : decode cX5_odds 16 = .ok (.bipush 99, 2) := by decide +kernel
theorem dX5_odds_18 : decode cX5_odds 18 = .ok (.if_icmp .gt 12, 3) := by decide +kernel
theorem dX5_odds_21 : decode cX5_odds 21 = .ok (.iload_n 3, 1) := by decide +kernel
theorem dX5_odds_22 : decode cX5_odds 22 = .ok (.ifCond .lt 8, 3) := by decide +kernel
theorem dX5_odds_25 : decode cX5_odds 25 = .ok (.iload_n 3, 1) := by decide +kernel
theorem dX5_odds_26 : decode cX5_odds 26 = .ok (.iconst 1, 1) := by decide +kernel
theorem dX5_odds_27 : decode cX5_odds 27 = .ok (.if_icmp .le 7, 3) := by decide +kernel
theorem dX5_odds_30 : decode cX5_odds 30 = .ok (.ldc2_w 191, 3) := by decide +kernel
theorem dX5_odds_33 : decode cX5_odds 33 = .ok (.lreturn, 1) := by decide +kernel
theorem dX5_odds_34 : decode cX5_odds 34 = .ok (.aload_n 0, 1) := by decide +kernel
theorem dX5_odds_35 : decode cX5_odds 35 = .ok (.getfield 21, 3) := by decide +kernel
theorem dX5_odds_38 : decode cX5_odds 38 = .ok (.iload_n 1, 1) := by decide +kernel
theorem dX5_odds_39 : decode cX5_odds 39 = .ok (.invokevirtual 193, 3) := by decide +kernel
theorem dX5_odds_42 : decode cX5_odds 42 = .ok (.istore 4, 2) := by decide +kernel
theorem dX5_odds_44 : decode cX5_odds 44 = .ok (.iload 4, 2) := by decide +kernel
theorem dX5_odds_46 : decode cX5_odds 46 = .ok (.iload_n 2, 1) := by decide +kernel
theorem dX5_odds_47 : decode cX5_odds 47 = .ok (.invokestatic 196, 3) := by decide +kernel
theorem dX5_odds_50 : decode cX5_odds 50 = .ok (.lstore 5, 2) := by decide +kernel
theorem dX5_odds_52 : decode cX5_odds 52 = .ok (.lconst 1, 1) := by decide +kernel
theorem dX5_odds_53 : decode cX5_odds 53 = .ok (.iload 4, 2) := by decide +kernel
theorem dX5_odds_55 : decode cX5_odds 55 = .ok (.lshl, 1) := by decide +kernel
theorem dX5_odds_56 : decode cX5_odds 56 = .ok (.lstore 7, 2) := by decide +kernel
theorem dX5_odds_58 : decode cX5_odds 58 = .ok (.iconst 0, 1) := by decide +kernel
theorem dX5_odds_59 : decode cX5_odds 59 = .ok (.istore 9, 2) := by decide +kernel
theorem dX5_odds_61 : decode cX5_odds 61 = .ok (.iload 9, 2) := by decide +kernel
theorem dX5_odds_63 : decode cX5_odds 63 = .ok (.iload 4, 2) := by decide +kernel
theorem dX5_odds_65 : decode cX5_odds 65 = .ok (.if_icmp .ge 30, 3) := by decide +kernel
theorem dX5_odds_68 : decode cX5_odds 68 = .ok (.lload 5, 2) := by decide +kernel
theorem dX5_odds_70 : decode cX5_odds 70 = .ok (.lconst 1, 1) := by decide +kernel
theorem dX5_odds_71 : decode cX5_odds 71 = .ok (.land, 1) := by decide +kernel
theorem dX5_odds_72 : decode cX5_odds 72 = .ok (.lconst 0, 1) := by decide +kernel
theorem dX5_odds_73 : decode cX5_odds 73 = .ok (.lcmp, 1) := by decide +kernel
theorem dX5_odds_74 : decode cX5_odds 74 = .ok (.ifCond .ne 21, 3) := by decide +kernel
theorem dX5_odds_77 : decode cX5_odds 77 = .ok (.lload 5, 2) := by decide +kernel
theorem dX5_odds_79 : decode cX5_odds 79 = .ok (.iconst 1, 1) := by decide +kernel
theorem dX5_odds_80 : decode cX5_odds 80 = .ok (.lshr, 1) := by decide +kernel
theorem dX5_odds_81 : decode cX5_odds 81 = .ok (.lstore 5, 2) := by decide +kernel
theorem dX5_odds_83 : decode cX5_odds 83 = .ok (.lload 7, 2) := by decide +kernel
theorem dX5_odds_85 : decode cX5_odds 85 = .ok (.iconst 1, 1) := by decide +kernel
theorem dX5_odds_86 : decode cX5_odds 86 = .ok (.lshr, 1) := by decide +kernel
theorem dX5_odds_87 : decode cX5_odds 87 = .ok (.lstore 7, 2) := by decide +kernel
theorem dX5_odds_89 : decode cX5_odds 89 = .ok (.iinc 9 1, 3) := by decide +kernel
theorem dX5_odds_92 : decode cX5_odds 92 = .ok (.goto (-31), 3) := by decide +kernel
theorem dX5_odds_95 : decode cX5_odds 95 = .ok (.iload_n 3, 1) := by decide +kernel
theorem dX5_odds_96 : decode cX5_odds 96 = .ok (.ifCond .ne 8, 3) := by decide +kernel
theorem dX5_odds_99 : decode cX5_odds 99 = .ok (.lload 5, 2) := by decide +kernel
theorem dX5_odds_101 : decode cX5_odds 101 = .ok (.goto 5, 3) := by decide +kernel
theorem dX5_odds_104 : decode cX5_odds 104 = .ok (.lload 7, 2) := by decide +kernel
theorem dX5_odds_106 : decode cX5_odds 106 = .ok (.lreturn, 1) := by decide +kernel
theorem dX5_reading_0 : decode cX5_reading 0 = .ok (.aload_n 0, 1) := by decide +kernel
theorem dX5_reading_1 : decode cX5_reading 1 = .ok (.getfield 21, 3) := by decide +kernel
theorem dX5_reading_4 : decode cX5_reading 4 = .ok (.invokevirtual 166, 3) := by decide +kernel
theorem dX5_reading_7 : decode cX5_reading 7 = .ok (.ifCond .ne 6, 3) := by decide +kernel
theorem dX5_reading_10 : decode cX5_reading 10 = .ok (.bipush (-3), 2) := by decide +kernel
theorem dX5_reading_12 : decode cX5_reading 12 = .ok (.ireturn, 1) := by decide +kernel
theorem dX5_reading_13 : decode cX5_reading 13 = .ok (.aload_n 0, 1) := by decide +kernel
theorem dX5_reading_14 : decode cX5_reading 14 = .ok (.getfield 21, 3) := by decide +kernel
theorem dX5_reading_17 : decode cX5_reading 17 = .ok (.iload_n 1, 1) := by decide +kernel
theorem dX5_reading_18 : decode cX5_reading 18 = .ok (.invokevirtual 160, 3) := by decide +kernel
theorem dX5_reading_21 : decode cX5_reading 21 = .ok (.ifCond .eq 14, 3) := by decide +kernel
theorem dX5_reading_24 : decode cX5_reading 24 = .ok (.iload_n 2, 1) := by decide +kernel
theorem dX5_reading_25 : decode cX5_reading 25 = .ok (.ifCond .lt 10, 3) := by decide +kernel
theorem dX5_reading_28 : decode cX5_reading 28 = .ok (.iload_n 2, 1) := by decide +kernel
theorem dX5_reading_29 : decode cX5_reading 29 = .ok (.sipush 9999, 3) := by decide +kernel
theorem dX5_reading_32 : decode cX5_reading 32 = .ok (.if_icmp .le 6, 3) := by decide +kernel
theorem dX5_reading_35 : decode cX5_reading 35 = .ok (.bipush (-2), 2) := by decide +kernel
theorem dX5_reading_37 : decode cX5_reading 37 = .ok (.ireturn, 1) := by decide +kernel
theorem dX5_reading_38 : decode cX5_reading 38 = .ok (.aload_n 0, 1) := by decide +kernel
theorem dX5_reading_39 : decode cX5_reading 39 = .ok (.getfield 21, 3) := by decide +kernel
theorem dX5_reading_42 : decode cX5_reading 42 = .ok (.getfield 200, 3) := by decide +kernel
theorem dX5_reading_45 : decode cX5_reading 45 = .ok (.bipush 8, 2) := by decide +kernel
theorem dX5_reading_47 : decode cX5_reading 47 = .ok (.if_icmp .ge 15, 3) := by decide +kernel
theorem dX5_reading_50 : decode cX5_reading 50 = .ok (.aload_n 0, 1) := by decide +kernel
theorem dX5_reading_51 : decode cX5_reading 51 = .ok (.getfield 21, 3) := by decide +kernel
theorem dX5_reading_54 : decode cX5_reading 54 = .ok (.iload_n 1, 1) := by decide +kernel
theorem dX5_reading_55 : decode cX5_reading 55 = .ok (.iload_n 2, 1) := by decide +kernel
theorem dX5_reading_56 : decode cX5_reading 56 = .ok (.invokevirtual 203, 3) := by decide +kernel
theorem dX5_reading_59 : decode cX5_reading 59 = .ok (.goto 5, 3) := by decide +kernel
theorem dX5_reading_62 : decode cX5_reading 62 = .ok (.bipush (-4), 2) := by decide +kernel
theorem dX5_reading_64 : decode cX5_reading 64 = .ok (.ireturn, 1) := by decide +kernel
theorem dX5_back_0 : decode cX5_back 0 = .ok (.iload_n 1, 1) := by decide +kernel
theorem dX5_back_1 : decode cX5_back 1 = .ok (.ifCond .lt 14, 3) := by decide +kernel
theorem dX5_back_4 : decode cX5_back 4 = .ok (.iload_n 1, 1) := by decide +kernel
theorem dX5_back_5 : decode cX5_back 5 = .ok (.aload_n 0, 1) := by decide +kernel
theorem dX5_back_6 : decode cX5_back 6 = .ok (.getfield 21, 3) := by decide +kernel
theorem dX5_back_9 : decode cX5_back 9 = .ok (.getfield 200, 3) := by decide +kernel
theorem dX5_back_12 : decode cX5_back 12 = .ok (.if_icmp .le 6, 3) := by decide +kernel
theorem dX5_back_15 : decode cX5_back 15 = .ok (.bipush (-2), 2) := by decide +kernel
theorem dX5_back_17 : decode cX5_back 17 = .ok (.ireturn, 1) := by decide +kernel
theorem dX5_back_18 : decode cX5_back 18 = .ok (.aload_n 0, 1) := by decide +kernel
theorem dX5_back_19 : decode cX5_back 19 = .ok (.getfield 21, 3) := by decide +kernel
theorem dX5_back_22 : decode cX5_back 22 = .ok (.dup, 1) := by decide +kernel
theorem dX5_back_23 : decode cX5_back 23 = .ok (.getfield 200, 3) := by decide +kernel
theorem dX5_back_26 : decode cX5_back 26 = .ok (.iload_n 1, 1) := by decide +kernel
theorem dX5_back_27 : decode cX5_back 27 = .ok (.isub, 1) := by decide +kernel
theorem dX5_back_28 : decode cX5_back 28 = .ok (.putfield 200, 3) := by decide +kernel
theorem dX5_back_31 : decode cX5_back 31 = .ok (.aload_n 0, 1) := by decide +kernel
theorem dX5_back_32 : decode cX5_back 32 = .ok (.getfield 21, 3) := by decide +kernel
theorem dX5_back_35 : decode cX5_back 35 = .ok (.getfield 200, 3) := by decide +kernel
theorem dX5_back_38 : decode cX5_back 38 = .ok (.ireturn, 1) := by decide +kernel
theorem dX5_counts_0 : decode cX5_counts 0 = .ok (.aload_n 0, 1) := by decide +kernel
theorem dX5_counts_1 : decode cX5_counts 1 = .ok (.getfield 21, 3) := by decide +kernel
theorem dX5_counts_4 : decode cX5_counts 4 = .ok (.iload_n 1, 1) := by decide +kernel
theorem dX5_counts_5 : decode cX5_counts 5 = .ok (.invokevirtual 90, 3) := by decide +kernel
theorem dX5_counts_8 : decode cX5_counts 8 = .ok (.ifCond .ne 5, 3) := by decide +kernel
theorem dX5_counts_11 : decode cX5_counts 11 = .ok (.iconst (-1), 1) := by decide +kernel
theorem dX5_counts_12 : decode cX5_counts 12 = .ok (.ireturn, 1) := by decide +kernel
theorem dX5_counts_13 : decode cX5_counts 13 = .ok (.iconst 0, 1) := by decide +kernel
theorem dX5_counts_14 : decode cX5_counts 14 = .ok (.istore_n 2, 1) := by decide +kernel
theorem dX5_counts_15 : decode cX5_counts 15 = .ok (.iconst 0, 1) := by decide +kernel
theorem dX5_counts_16 : decode cX5_counts 16 = .ok (.istore_n 3, 1) := by decide +kernel
theorem dX5_counts_17 : decode cX5_counts 17 = .ok (.iload_n 3, 1) := by decide +kernel
theorem dX5_counts_18 : decode cX5_counts 18 = .ok (.bipush 9, 2) := by decide +kernel
theorem dX5_counts_20 : decode cX5_counts 20 = .ok (.if_icmp .gt 49, 3) := by decide +kernel
theorem dX5_counts_23 : decode cX5_counts 23 = .ok (.aload_n 0, 1) := by decide +kernel
theorem dX5_counts_24 : decode cX5_counts 24 = .ok (.getfield 21, 3) := by decide +kernel
theorem dX5_counts_27 : decode cX5_counts 27 = .ok (.iload_n 1, 1) := by decide +kernel
theorem dX5_counts_28 : decode cX5_counts 28 = .ok (.iload_n 3, 1) := by decide +kernel
theorem dX5_counts_29 : decode cX5_counts 29 = .ok (.aload_n 0, 1) := by decide +kernel
theorem dX5_counts_30 : decode cX5_counts 30 = .ok (.getfield 21, 3) := by decide +kernel
theorem dX5_counts_33 : decode cX5_counts 33 = .ok (.getfield 93, 3) := by decide +kernel
theorem dX5_counts_36 : decode cX5_counts 36 = .ok (.iload_n 1, 1) := by decide +kernel
theorem dX5_counts_37 : decode cX5_counts 37 = .ok (.iaload, 1) := by decide +kernel
theorem dX5_counts_38 : decode cX5_counts 38 = .ok (.aload_n 0, 1) := by decide +kernel
theorem dX5_counts_39 : decode cX5_counts 39 = .ok (.getfield 21, 3) := by decide +kernel
theorem dX5_counts_42 : decode cX5_counts 42 = .ok (.getfield 99, 3) := by decide +kernel
theorem dX5_counts_45 : decode cX5_counts 45 = .ok (.iload_n 1, 1) := by decide +kernel
theorem dX5_counts_46 : decode cX5_counts 46 = .ok (.iaload, 1) := by decide +kernel
theorem dX5_counts_47 : decode cX5_counts 47 = .ok (.invokestatic 105, 3) := by decide +kernel
theorem dX5_counts_50 : decode cX5_counts 50 = .ok (.imul, 1) := by decide +kernel
theorem dX5_counts_51 : decode cX5_counts 51 = .ok (.invokevirtual 206, 3) := by decide +kernel
theorem dX5_counts_54 : decode cX5_counts 54 = .ok (.ifCond .eq 9, 3) := by decide +kernel
theorem dX5_counts_57 : decode cX5_counts 57 = .ok (.iload_n 2, 1) := by decide +kernel
theorem dX5_counts_58 : decode cX5_counts 58 = .ok (.iconst 1, 1) := by decide +kernel
theorem dX5_counts_59 : decode cX5_counts 59 = .ok (.iload_n 3, 1) := by decide +kernel
theorem dX5_counts_60 : decode cX5_counts 60 = .ok (.ishl, 1) := by decide +kernel
theorem dX5_counts_61 : decode cX5_counts 61 = .ok (.ior, 1) := by decide +kernel
theorem dX5_counts_62 : decode cX5_counts 62 = .ok (.istore_n 2, 1) := by decide +kernel
theorem dX5_counts_63 : decode cX5_counts 63 = .ok (.iinc 3 1, 3) := by decide +kernel
theorem dX5_counts_66 : decode cX5_counts 66 = .ok (.goto (-49), 3) := by decide +kernel
theorem dX5_counts_69 : decode cX5_counts 69 = .ok (.iload_n 2, 1) := by decide +kernel
theorem dX5_counts_70 : decode cX5_counts 70 = .ok (.ireturn, 1) := by decide +kernel
theorem dX5_kinds_0 : decode cX5_kinds 0 = .ok (.aload_n 0, 1) := by decide +kernel
theorem dX5_kinds_1 : decode cX5_kinds 1 = .ok (.getfield 21, 3) := by decide +kernel
theorem dX5_kinds_4 : decode cX5_kinds 4 = .ok (.iload_n 1, 1) := by decide +kernel
theorem dX5_kinds_5 : decode cX5_kinds 5 = .ok (.invokevirtual 90, 3) := by decide +kernel
theorem dX5_kinds_8 : decode cX5_kinds 8 = .ok (.ifCond .ne 5, 3) := by decide +kernel
theorem dX5_kinds_11 : decode cX5_kinds 11 = .ok (.iconst (-1), 1) := by decide +kernel
theorem dX5_kinds_12 : decode cX5_kinds 12 = .ok (.ireturn, 1) := by decide +kernel
theorem dX5_kinds_13 : decode cX5_kinds 13 = .ok (.iconst 0, 1) := by decide +kernel
theorem dX5_kinds_14 : decode cX5_kinds 14 = .ok (.istore_n 2, 1) := by decide +kernel
theorem dX5_kinds_15 : decode cX5_kinds 15 = .ok (.iconst 0, 1) := by decide +kernel
theorem dX5_kinds_16 : decode cX5_kinds 16 = .ok (.istore_n 3, 1) := by decide +kernel
theorem dX5_kinds_17 : decode cX5_kinds 17 = .ok (.iload_n 3, 1) := by decide +kernel
theorem dX5_kinds_18 : decode cX5_kinds 18 = .ok (.iconst 2, 1) := by decide +kernel
theorem dX5_kinds_19 : decode cX5_kinds 19 = .ok (.if_icmp .gt 49, 3) := by decide +kernel
theorem dX5_kinds_22 : decode cX5_kinds 22 = .ok (.aload_n 0, 1) := by decide +kernel
theorem dX5_kinds_23 : decode cX5_kinds 23 = .ok (.getfield 21, 3) := by decide +kernel
theorem dX5_kinds_26 : decode cX5_kinds 26 = .ok (.iload_n 1, 1) := by decide +kernel
theorem dX5_kinds_27 : decode cX5_kinds 27 = .ok (.aload_n 0, 1) := by decide +kernel
theorem dX5_kinds_28 : decode cX5_kinds 28 = .ok (.getfield 21, 3) := by decide +kernel
theorem dX5_kinds_31 : decode cX5_kinds 31 = .ok (.getfield 96, 3) := by decide +kernel
theorem dX5_kinds_34 : decode cX5_kinds 34 = .ok (.iload_n 1, 1) := by decide +kernel
theorem dX5_kinds_35 : decode cX5_kinds 35 = .ok (.iaload, 1) := by decide +kernel
theorem dX5_kinds_36 : decode cX5_kinds 36 = .ok (.iload_n 3, 1) := by decide +kernel
theorem dX5_kinds_37 : decode cX5_kinds 37 = .ok (.aload_n 0, 1) := by decide +kernel
theorem dX5_kinds_38 : decode cX5_kinds 38 = .ok (.getfield 21, 3) := by decide +kernel
theorem dX5_kinds_41 : decode cX5_kinds 41 = .ok (.getfield 99, 3) := by decide +kernel
theorem dX5_kinds_44 : decode cX5_kinds 44 = .ok (.iload_n 1, 1) := by decide +kernel
theorem dX5_kinds_45 : decode cX5_kinds 45 = .ok (.iaload, 1) := by decide +kernel
theorem dX5_kinds_46 : decode cX5_kinds 46 = .ok (.invokestatic 105, 3) := by decide +kernel
theorem dX5_kinds_49 : decode cX5_kinds 49 = .ok (.imul, 1) := by decide +kernel
theorem dX5_kinds_50 : decode cX5_kinds 50 = .ok (.invokevirtual 206, 3) := by decide +kernel
theorem dX5_kinds_53 : decode cX5_kinds 53 = .ok (.ifCond .eq 9, 3) := by decide +kernel
theorem dX5_kinds_56 : decode cX5_kinds 56 = .ok (.iload_n 2, 1) := by decide +kernel
theorem dX5_kinds_57 : decode cX5_kinds 57 = .ok (.iconst 1, 1) := by decide +kernel
theorem dX5_kinds_58 : decode cX5_kinds 58 = .ok (.iload_n 3, 1) := by decide +kernel
theorem dX5_kinds_59 : decode cX5_kinds 59 = .ok (.ishl, 1) := by decide +kernel
theorem dX5_kinds_60 : decode cX5_kinds 60 = .ok (.ior, 1) := by decide +kernel
theorem dX5_kinds_61 : decode cX5_kinds 61 = .ok (.istore_n 2, 1) := by decide +kernel
theorem dX5_kinds_62 : decode cX5_kinds 62 = .ok (.iinc 3 1, 3) := by decide +kernel
theorem dX5_kinds_65 : decode cX5_kinds 65 = .ok (.goto (-48), 3) := by decide +kernel
theorem dX5_kinds_68 : decode cX5_kinds 68 = .ok (.iload_n 2, 1) := by decide +kernel
theorem dX5_kinds_69 : decode cX5_kinds 69 = .ok (.ireturn, 1) := by decide +kernel
theorem dX5_speeds_0 : decode cX5_speeds 0 = .ok (.aload_n 0, 1) := by decide +kernel
theorem dX5_speeds_1 : decode cX5_speeds 1 = .ok (.getfield 21, 3) := by decide +kernel
theorem dX5_speeds_4 : decode cX5_speeds 4 = .ok (.iload_n 1, 1) := by decide +kernel
theorem dX5_speeds_5 : decode cX5_speeds 5 = .ok (.invokevirtual 90, 3) := by decide +kernel
theorem dX5_speeds_8 : decode cX5_speeds 8 = .ok (.ifCond .ne 5, 3) := by decide +kernel
theorem dX5_speeds_11 : decode cX5_speeds 11 = .ok (.iconst (-1), 1) := by decide +kernel
theorem dX5_speeds_12 : decode cX5_speeds 12 = .ok (.ireturn, 1) := by decide +kernel
theorem dX5_speeds_13 : decode cX5_speeds 13 = .ok (.iconst 0, 1) := by decide +kernel
theorem dX5_speeds_14 : decode cX5_speeds 14 = .ok (.istore_n 2, 1) := by decide +kernel
theorem dX5_speeds_15 : decode cX5_speeds 15 = .ok (.iconst 1, 1) := by decide +kernel
theorem dX5_speeds_16 : decode cX5_speeds 16 = .ok (.istore_n 3, 1) := by decide +kernel
theorem dX5_speeds_17 : decode cX5_speeds 17 = .ok (.iload_n 3, 1) := by decide +kernel
theorem dX5_speeds_18 : decode cX5_speeds 18 = .ok (.bipush 9, 2) := by decide +kernel
theorem dX5_speeds_20 : decode cX5_speeds 20 = .ok (.if_icmp .gt 49, 3) := by decide +kernel
theorem dX5_speeds_23 : decode cX5_speeds 23 = .ok (.aload_n 0, 1) := by decide +kernel
theorem dX5_speeds_24 : decode cX5_speeds 24 = .ok (.getfield 21, 3) := by decide +kernel
theorem dX5_speeds_27 : decode cX5_speeds 27 = .ok (.iload_n 1, 1) := by decide +kernel
theorem dX5_speeds_28 : decode cX5_speeds 28 = .ok (.aload_n 0, 1) := by decide +kernel
theorem dX5_speeds_29 : decode cX5_speeds 29 = .ok (.getfield 21, 3) := by decide +kernel
theorem dX5_speeds_32 : decode cX5_speeds 32 = .ok (.getfield 96, 3) := by decide +kernel
theorem dX5_speeds_35 : decode cX5_speeds 35 = .ok (.iload_n 1, 1) := by decide +kernel
theorem dX5_speeds_36 : decode cX5_speeds 36 = .ok (.iaload, 1) := by decide +kernel
theorem dX5_speeds_37 : decode cX5_speeds 37 = .ok (.aload_n 0, 1) := by decide +kernel
theorem dX5_speeds_38 : decode cX5_speeds 38 = .ok (.getfield 21, 3) := by decide +kernel
theorem dX5_speeds_41 : decode cX5_speeds 41 = .ok (.getfield 93, 3) := by decide +kernel
theorem dX5_speeds_44 : decode cX5_speeds 44 = .ok (.iload_n 1, 1) := by decide +kernel
theorem dX5_speeds_45 : decode cX5_speeds 45 = .ok (.iaload, 1) := by decide +kernel
theorem dX5_speeds_46 : decode cX5_speeds 46 = .ok (.iload_n 3, 1) := by decide +kernel
theorem dX5_speeds_47 : decode cX5_speeds 47 = .ok (.invokestatic 105, 3) := by decide +kernel
theorem dX5_speeds_50 : decode cX5_speeds 50 = .ok (.imul, 1) := by decide +kernel
theorem dX5_speeds_51 : decode cX5_speeds 51 = .ok (.invokevirtual 206, 3) := by decide +kernel
theorem dX5_speeds_54 : decode cX5_speeds 54 = .ok (.ifCond .eq 9, 3) := by decide +kernel
theorem dX5_speeds_57 : decode cX5_speeds 57 = .ok (.iload_n 2, 1) := by decide +kernel
theorem dX5_speeds_58 : decode cX5_speeds 58 = .ok (.iconst 1, 1) := by decide +kernel
theorem dX5_speeds_59 : decode cX5_speeds 59 = .ok (.iload_n 3, 1) := by decide +kernel
theorem dX5_speeds_60 : decode cX5_speeds 60 = .ok (.ishl, 1) := by decide +kernel
theorem dX5_speeds_61 : decode cX5_speeds 61 = .ok (.ior, 1) := by decide +kernel
theorem dX5_speeds_62 : decode cX5_speeds 62 = .ok (.istore_n 2, 1) := by decide +kernel
theorem dX5_speeds_63 : decode cX5_speeds 63 = .ok (.iinc 3 1, 3) := by decide +kernel
theorem dX5_speeds_66 : decode cX5_speeds 66 = .ok (.goto (-49), 3) := by decide +kernel
theorem dX5_speeds_69 : decode cX5_speeds 69 = .ok (.iload_n 2, 1) := by decide +kernel
theorem dX5_speeds_70 : decode cX5_speeds 70 = .ok (.ireturn, 1) := by decide +kernel
theorem dX5_sheet_0 : decode cX5_sheet 0 = .ok (.aload_n 0, 1) := by decide +kernel
theorem dX5_sheet_1 : decode cX5_sheet 1 = .ok (.iconst 0, 1) := by decide +kernel
theorem dX5_sheet_2 : decode cX5_sheet 2 = .ok (.putfield 50, 3) := by decide +kernel
theorem dX5_sheet_5 : decode cX5_sheet 5 = .ok (.iload_n 1, 1) := by decide +kernel
theorem dX5_sheet_6 : decode cX5_sheet 6 = .ok (.invokestatic 54, 3) := by decide +kernel
theorem dX5_sheet_9 : decode cX5_sheet 9 = .ok (.ifCond .ne 5, 3) := by decide +kernel
theorem dX5_sheet_12 : decode cX5_sheet 12 = .ok (.iconst (-1), 1) := by decide +kernel
theorem dX5_sheet_13 : decode cX5_sheet 13 = .ok (.ireturn, 1) := by decide +kernel
theorem dX5_sheet_14 : decode cX5_sheet 14 = .ok (.iload_n 2, 1) := by decide +kernel
theorem dX5_sheet_15 : decode cX5_sheet 15 = .ok (.invokestatic 58, 3) := by decide +kernel
theorem dX5_sheet_18 : decode cX5_sheet 18 = .ok (.ifCond .eq 9, 3) := by decide +kernel
theorem dX5_sheet_21 : decode cX5_sheet 21 = .ok (.iload_n 3, 1) := by decide +kernel
theorem dX5_sheet_22 : decode cX5_sheet 22 = .ok (.bipush 60, 2) := by decide +kernel
theorem dX5_sheet_24 : decode cX5_sheet 24 = .ok (.if_icmp .le 6, 3) := by decide +kernel
theorem dX5_sheet_27 : decode cX5_sheet 27 = .ok (.bipush (-2), 2) := by decide +kernel
theorem dX5_sheet_29 : decode cX5_sheet 29 = .ok (.ireturn, 1) := by decide +kernel
theorem dX5_sheet_30 : decode cX5_sheet 30 = .ok (.iload_n 3, 1) := by decide +kernel
theorem dX5_sheet_31 : decode cX5_sheet 31 = .ok (.ifCond .ge 9, 3) := by decide +kernel
theorem dX5_sheet_34 : decode cX5_sheet 34 = .ok (.aload_n 0, 1) := by decide +kernel
theorem dX5_sheet_35 : decode cX5_sheet 35 = .ok (.iconst 4, 1) := by decide +kernel
theorem dX5_sheet_36 : decode cX5_sheet 36 = .ok (.invokevirtual 69, 3) := by decide +kernel
theorem dX5_sheet_39 : decode cX5_sheet 39 = .ok (.ireturn, 1) := by decide +kernel
theorem dX5_sheet_40 : decode cX5_sheet 40 = .ok (.aload_n 0, 1) := by decide +kernel
theorem dX5_sheet_41 : decode cX5_sheet 41 = .ok (.getfield 12, 3) := by decide +kernel
theorem dX5_sheet_44 : decode cX5_sheet 44 = .ok (.iload_n 1, 1) := by decide +kernel
theorem dX5_sheet_45 : decode cX5_sheet 45 = .ok (.iload_n 2, 1) := by decide +kernel
theorem dX5_sheet_46 : decode cX5_sheet 46 = .ok (.iload_n 3, 1) := by decide +kernel
theorem dX5_sheet_47 : decode cX5_sheet 47 = .ok (.invokevirtual 210, 3) := by decide +kernel
theorem dX5_sheet_50 : decode cX5_sheet 50 = .ok (.iconst 1, 1) := by decide +kernel
theorem dX5_sheet_51 : decode cX5_sheet 51 = .ok (.ireturn, 1) := by decide +kernel
theorem dX5_lose_0 : decode cX5_lose 0 = .ok (.iload_n 1, 1) := by decide +kernel
theorem dX5_lose_1 : decode cX5_lose 1 = .ok (.invokestatic 54, 3) := by decide +kernel
theorem dX5_lose_4 : decode cX5_lose 4 = .ok (.ifCond .ne 5, 3) := by decide +kernel
theorem dX5_lose_7 : decode cX5_lose 7 = .ok (.iconst (-1), 1) := by decide +kernel
theorem dX5_lose_8 : decode cX5_lose 8 = .ok (.ireturn, 1) := by decide +kernel
theorem dX5_lose_9 : decode cX5_lose 9 = .ok (.aload_n 0, 1) := by decide +kernel
theorem dX5_lose_10 : decode cX5_lose 10 = .ok (.getfield 12, 3) := by decide +kernel
theorem dX5_lose_13 : decode cX5_lose 13 = .ok (.iload_n 1, 1) := by decide +kernel
theorem dX5_lose_14 : decode cX5_lose 14 = .ok (.invokevirtual 214, 3) := by decide +kernel
theorem dX5_lose_17 : decode cX5_lose 17 = .ok (.ifCond .eq 7, 3) := by decide +kernel
theorem dX5_lose_20 : decode cX5_lose 20 = .ok (.iconst 1, 1) := by decide +kernel
theorem dX5_lose_21 : decode cX5_lose 21 = .ok (.goto 4, 3) := by decide +kernel
theorem dX5_lose_24 : decode cX5_lose 24 = .ok (.iconst 0, 1) := by decide +kernel
theorem dX5_lose_25 : decode cX5_lose 25 = .ok (.ireturn, 1) := by decide +kernel
theorem dX5_put_0 : decode cX5_put 0 = .ok (.aload_n 0, 1) := by decide +kernel
theorem dX5_put_1 : decode cX5_put 1 = .ok (.iconst 0, 1) := by decide +kernel
theorem dX5_put_2 : decode cX5_put 2 = .ok (.putfield 50, 3) := by decide +kernel
theorem dX5_put_5 : decode cX5_put 5 = .ok (.iload_n 1, 1) := by decide +kernel
theorem dX5_put_6 : decode cX5_put 6 = .ok (.invokestatic 54, 3) := by decide +kernel
theorem dX5_put_9 : decode cX5_put 9 = .ok (.ifCond .ne 5, 3) := by decide +kernel
theorem dX5_put_12 : decode cX5_put 12 = .ok (.iconst (-1), 1) := by decide +kernel
theorem dX5_put_13 : decode cX5_put 13 = .ok (.ireturn, 1) := by decide +kernel
theorem dX5_put_14 : decode cX5_put 14 = .ok (.aload_n 0, 1) := by decide +kernel
theorem dX5_put_15 : decode cX5_put 15 = .ok (.getfield 12, 3) := by decide +kernel
theorem dX5_put_18 : decode cX5_put 18 = .ok (.iload_n 1, 1) := by decide +kernel
theorem dX5_put_19 : decode cX5_put 19 = .ok (.iload_n 2, 1) := by decide +kernel
theorem dX5_put_20 : decode cX5_put 20 = .ok (.invokevirtual 217, 3) := by decide +kernel
theorem dX5_put_23 : decode cX5_put 23 = .ok (.istore 4, 2) := by decide +kernel
theorem dX5_put_25 : decode cX5_put 25 = .ok (.iload 4, 2) := by decide +kernel
theorem dX5_put_27 : decode cX5_put 27 = .ok (.ifCond .eq 10, 3) := by decide +kernel
theorem dX5_put_30 : decode cX5_put 30 = .ok (.aload_n 0, 1) := by decide +kernel
theorem dX5_put_31 : decode cX5_put 31 = .ok (.iload 4, 2) := by decide +kernel
theorem dX5_put_33 : decode cX5_put 33 = .ok (.invokevirtual 69, 3) := by decide +kernel
theorem dX5_put_36 : decode cX5_put 36 = .ok (.ireturn, 1) := by decide +kernel
theorem dX5_put_37 : decode cX5_put 37 = .ok (.aload_n 0, 1) := by decide +kernel
theorem dX5_put_38 : decode cX5_put 38 = .ok (.getfield 12, 3) := by decide +kernel
theorem dX5_put_41 : decode cX5_put 41 = .ok (.iload_n 1, 1) := by decide +kernel
theorem dX5_put_42 : decode cX5_put 42 = .ok (.iload_n 2, 1) := by decide +kernel
theorem dX5_put_43 : decode cX5_put 43 = .ok (.iload_n 3, 1) := by decide +kernel
theorem dX5_put_44 : decode cX5_put 44 = .ok (.invokevirtual 220, 3) := by decide +kernel
theorem dX5_put_47 : decode cX5_put 47 = .ok (.iconst 1, 1) := by decide +kernel
theorem dX5_put_48 : decode cX5_put 48 = .ok (.ireturn, 1) := by decide +kernel
theorem dX5_cell_0 : decode cX5_cell 0 = .ok (.aload_n 0, 1) := by decide +kernel
theorem dX5_cell_1 : decode cX5_cell 1 = .ok (.iconst 0, 1) := by decide +kernel
theorem dX5_cell_2 : decode cX5_cell 2 = .ok (.putfield 50, 3) := by decide +kernel
theorem dX5_cell_5 : decode cX5_cell 5 = .ok (.iload_n 1, 1) := by decide +kernel
theorem dX5_cell_6 : decode cX5_cell 6 = .ok (.invokestatic 54, 3) := by decide +kernel
theorem dX5_cell_9 : decode cX5_cell 9 = .ok (.ifCond .eq 10, 3) := by decide +kernel
theorem dX5_cell_12 : decode cX5_cell 12 = .ok (.iload_n 3, 1) := by decide +kernel
theorem dX5_cell_13 : decode cX5_cell 13 = .ok (.invokestatic 58, 3) := by decide +kernel
theorem dX5_cell_16 : decode cX5_cell 16 = .ok (.ifCond .ne 7, 3) := by decide +kernel
theorem dX5_cell_19 : decode cX5_cell 19 = .ok (.ldc2_w 191, 3) := by decide +kernel
theorem dX5_cell_22 : decode cX5_cell 22 = .ok (.lreturn, 1) := by decide +kernel
theorem dX5_cell_23 : decode cX5_cell 23 = .ok (.aload_n 0, 1) := by decide +kernel
theorem dX5_cell_24 : decode cX5_cell 24 = .ok (.aload_n 0, 1) := by decide +kernel
theorem dX5_cell_25 : decode cX5_cell 25 = .ok (.getfield 12, 3) := by decide +kernel
theorem dX5_cell_28 : decode cX5_cell 28 = .ok (.iload_n 1, 1) := by decide +kernel
theorem dX5_cell_29 : decode cX5_cell 29 = .ok (.iload_n 3, 1) := by decide +kernel
theorem dX5_cell_30 : decode cX5_cell 30 = .ok (.invokevirtual 61, 3) := by decide +kernel
theorem dX5_cell_33 : decode cX5_cell 33 = .ok (.putfield 50, 3) := by decide +kernel
theorem dX5_cell_36 : decode cX5_cell 36 = .ok (.aload_n 0, 1) := by decide +kernel
theorem dX5_cell_37 : decode cX5_cell 37 = .ok (.getfield 50, 3) := by decide +kernel
theorem dX5_cell_40 : decode cX5_cell 40 = .ok (.ifCond .ne 16, 3) := by decide +kernel
theorem dX5_cell_43 : decode cX5_cell 43 = .ok (.aload_n 0, 1) := by decide +kernel
theorem dX5_cell_44 : decode cX5_cell 44 = .ok (.aload_n 0, 1) := by decide +kernel
theorem dX5_cell_45 : decode cX5_cell 45 = .ok (.getfield 12, 3) := by decide +kernel
theorem dX5_cell_48 : decode cX5_cell 48 = .ok (.iload_n 1, 1) := by decide +kernel
theorem dX5_cell_49 : decode cX5_cell 49 = .ok (.iload_n 2, 1) := by decide +kernel
theorem dX5_cell_50 : decode cX5_cell 50 = .ok (.invokevirtual 217, 3) := by decide +kernel
theorem dX5_cell_53 : decode cX5_cell 53 = .ok (.putfield 50, 3) := by decide +kernel
theorem dX5_cell_56 : decode cX5_cell 56 = .ok (.aload_n 0, 1) := by decide +kernel
theorem dX5_cell_57 : decode cX5_cell 57 = .ok (.getfield 50, 3) := by decide +kernel
theorem dX5_cell_60 : decode cX5_cell 60 = .ok (.ifCond .ne 16, 3) := by decide +kernel
theorem dX5_cell_63 : decode cX5_cell 63 = .ok (.aload_n 0, 1) := by decide +kernel
theorem dX5_cell_64 : decode cX5_cell 64 = .ok (.getfield 12, 3) := by decide +kernel
theorem dX5_cell_67 : decode cX5_cell 67 = .ok (.iload_n 1, 1) := by decide +kernel
theorem dX5_cell_68 : decode cX5_cell 68 = .ok (.iload_n 2, 1) := by decide +kernel
theorem dX5_cell_69 : decode cX5_cell 69 = .ok (.invokevirtual 223, 3) := by decide +kernel
theorem dX5_cell_72 : decode cX5_cell 72 = .ok (.i2l, 1) := by decide +kernel
theorem dX5_cell_73 : decode cX5_cell 73 = .ok (.goto 6, 3) := by decide +kernel
theorem dX5_cell_76 : decode cX5_cell 76 = .ok (.ldc2_w 191, 3) := by decide +kernel
theorem dX5_cell_79 : decode cX5_cell 79 = .ok (.lreturn, 1) := by decide +kernel
theorem dX5_copy_0 : decode cX5_copy 0 = .ok (.aload_n 0, 1) := by decide +kernel
theorem dX5_copy_1 : decode cX5_copy 1 = .ok (.iconst 0, 1) := by decide +kernel
theorem dX5_copy_2 : decode cX5_copy 2 = .ok (.putfield 50, 3) := by decide +kernel
theorem dX5_copy_5 : decode cX5_copy 5 = .ok (.iload_n 1, 1) := by decide +kernel
theorem dX5_copy_6 : decode cX5_copy 6 = .ok (.invokestatic 54, 3) := by decide +kernel
theorem dX5_copy_9 : decode cX5_copy 9 = .ok (.ifCond .eq 10, 3) := by decide +kernel
theorem dX5_copy_12 : decode cX5_copy 12 = .ok (.iload_n 3, 1) := by decide +kernel
theorem dX5_copy_13 : decode cX5_copy 13 = .ok (.invokestatic 54, 3) := by decide +kernel
theorem dX5_copy_16 : decode cX5_copy 16 = .ok (.ifCond .ne 5, 3) := by decide +kernel
theorem dX5_copy_19 : decode cX5_copy 19 = .ok (.iconst (-1), 1) := by decide +kernel
theorem dX5_copy_20 : decode cX5_copy 20 = .ok (.ireturn, 1) := by decide +kernel
theorem dX5_copy_21 : decode cX5_copy 21 = .ok (.aload_n 0, 1) := by decide +kernel
theorem dX5_copy_22 : decode cX5_copy 22 = .ok (.getfield 12, 3) := by decide +kernel
theorem dX5_copy_25 : decode cX5_copy 25 = .ok (.iload_n 1, 1) := by decide +kernel
theorem dX5_copy_26 : decode cX5_copy 26 = .ok (.iload_n 3, 1) := by decide +kernel
theorem dX5_copy_27 : decode cX5_copy 27 = .ok (.invokevirtual 226, 3) := by decide +kernel
theorem dX5_copy_30 : decode cX5_copy 30 = .ok (.istore 6, 2) := by decide +kernel
theorem dX5_copy_32 : decode cX5_copy 32 = .ok (.iload 6, 2) := by decide +kernel
theorem dX5_copy_34 : decode cX5_copy 34 = .ok (.ifCond .ne 16, 3) := by decide +kernel
theorem dX5_copy_37 : decode cX5_copy 37 = .ok (.aload_n 0, 1) := by decide +kernel
theorem dX5_copy_38 : decode cX5_copy 38 = .ok (.getfield 12, 3) := by decide +kernel
theorem dX5_copy_41 : decode cX5_copy 41 = .ok (.iload_n 1, 1) := by decide +kernel
theorem dX5_copy_42 : decode cX5_copy 42 = .ok (.iload_n 2, 1) := by decide +kernel
theorem dX5_copy_43 : decode cX5_copy 43 = .ok (.iload 5, 2) := by decide +kernel
theorem dX5_copy_45 : decode cX5_copy 45 = .ok (.invokevirtual 65, 3) := by decide +kernel
theorem dX5_copy_48 : decode cX5_copy 48 = .ok (.istore 6, 2) := by decide +kernel
theorem dX5_copy_50 : decode cX5_copy 50 = .ok (.iload 6, 2) := by decide +kernel
theorem dX5_copy_52 : decode cX5_copy 52 = .ok (.ifCond .ne 17, 3) := by decide +kernel
theorem dX5_copy_55 : decode cX5_copy 55 = .ok (.aload_n 0, 1) := by decide +kernel
theorem dX5_copy_56 : decode cX5_copy 56 = .ok (.getfield 12, 3) := by decide +kernel
theorem dX5_copy_59 : decode cX5_copy 59 = .ok (.iload_n 3, 1) := by decide +kernel
theorem dX5_copy_60 : decode cX5_copy 60 = .ok (.iload 4, 2) := by decide +kernel
theorem dX5_copy_62 : decode cX5_copy 62 = .ok (.iload 5, 2) := by decide +kernel
theorem dX5_copy_64 : decode cX5_copy 64 = .ok (.invokevirtual 65, 3) := by decide +kernel
theorem dX5_copy_67 : decode cX5_copy 67 = .ok (.istore 6, 2) := by decide +kernel
theorem dX5_copy_69 : decode cX5_copy 69 = .ok (.iload 6, 2) := by decide +kernel
theorem dX5_copy_71 : decode cX5_copy 71 = .ok (.ifCond .eq 10, 3) := by decide +kernel
theorem dX5_copy_74 : decode cX5_copy 74 = .ok (.aload_n 0, 1) := by decide +kernel
theorem dX5_copy_75 : decode cX5_copy 75 = .ok (.iload 6, 2) := by decide +kernel
theorem dX5_copy_77 : decode cX5_copy 77 = .ok (.invokevirtual 69, 3) := by decide +kernel
theorem dX5_copy_80 : decode cX5_copy 80 = .ok (.ireturn, 1) := by decide +kernel
theorem dX5_copy_81 : decode cX5_copy 81 = .ok (.aload_n 0, 1) := by decide +kernel
theorem dX5_copy_82 : decode cX5_copy 82 = .ok (.getfield 12, 3) := by decide +kernel
theorem dX5_copy_85 : decode cX5_copy 85 = .ok (.iload_n 1, 1) := by decide +kernel
theorem dX5_copy_86 : decode cX5_copy 86 = .ok (.iload_n 2, 1) := by decide +kernel
theorem dX5_copy_87 : decode cX5_copy 87 = .ok (.iload_n 3, 1) := by decide +kernel
theorem dX5_copy_88 : decode cX5_copy 88 = .ok (.iload 4, 2) := by decide +kernel
theorem dX5_copy_90 : decode cX5_copy 90 = .ok (.iload 5, 2) := by decide +kernel
theorem dX5_copy_92 : decode cX5_copy 92 = .ok (.invokevirtual 229, 3) := by decide +kernel
theorem dX5_copy_95 : decode cX5_copy 95 = .ok (.iload 5, 2) := by decide +kernel
theorem dX5_copy_97 : decode cX5_copy 97 = .ok (.ireturn, 1) := by decide +kernel
theorem dX5_tell_0 : decode cX5_tell 0 = .ok (.aload_n 0, 1) := by decide +kernel
theorem dX5_tell_1 : decode cX5_tell 1 = .ok (.getfield 21, 3) := by decide +kernel
theorem dX5_tell_4 : decode cX5_tell 4 = .ok (.iload_n 1, 1) := by decide +kernel
theorem dX5_tell_5 : decode cX5_tell 5 = .ok (.invokevirtual 90, 3) := by decide +kernel
theorem dX5_tell_8 : decode cX5_tell 8 = .ok (.ifCond .ne 5, 3) := by decide +kernel
theorem dX5_tell_11 : decode cX5_tell 11 = .ok (.iconst (-1), 1) := by decide +kernel
theorem dX5_tell_12 : decode cX5_tell 12 = .ok (.ireturn, 1) := by decide +kernel
theorem dX5_tell_13 : decode cX5_tell 13 = .ok (.aload_n 0, 1) := by decide +kernel
theorem dX5_tell_14 : decode cX5_tell 14 = .ok (.getfield 21, 3) := by decide +kernel
theorem dX5_tell_17 : decode cX5_tell 17 = .ok (.getfield 93, 3) := by decide +kernel
theorem dX5_tell_20 : decode cX5_tell 20 = .ok (.iload_n 1, 1) := by decide +kernel
theorem dX5_tell_21 : decode cX5_tell 21 = .ok (.iaload, 1) := by decide +kernel
theorem dX5_tell_22 : decode cX5_tell 22 = .ok (.lookupswitch 38 #[(1, 32), (2, 26)], 26) := by decide +kernel
theorem dX5_tell_48 : decode cX5_tell 48 = .ok (.aload_n 0, 1) := by decide +kernel
theorem dX5_tell_49 : decode cX5_tell 49 = .ok (.iload_n 1, 1) := by decide +kernel
theorem dX5_tell_50 : decode cX5_tell 50 = .ok (.invokevirtual 233, 3) := by decide +kernel
theorem dX5_tell_53 : decode cX5_tell 53 = .ok (.ireturn, 1) := by decide +kernel
theorem dX5_tell_54 : decode cX5_tell 54 = .ok (.aload_n 0, 1) := by decide +kernel
theorem dX5_tell_55 : decode cX5_tell 55 = .ok (.iload_n 1, 1) := by decide +kernel
theorem dX5_tell_56 : decode cX5_tell 56 = .ok (.invokevirtual 236, 3) := by decide +kernel
theorem dX5_tell_59 : decode cX5_tell 59 = .ok (.ireturn, 1) := by decide +kernel
theorem dX5_tell_60 : decode cX5_tell 60 = .ok (.aload_n 0, 1) := by decide +kernel
theorem dX5_tell_61 : decode cX5_tell 61 = .ok (.iload_n 1, 1) := by decide +kernel
theorem dX5_tell_62 : decode cX5_tell 62 = .ok (.invokevirtual 239, 3) := by decide +kernel
theorem dX5_tell_65 : decode cX5_tell 65 = .ok (.ireturn, 1) := by decide +kernel
theorem dX5_drop_0 : decode cX5_drop 0 = .ok (.aload_n 0, 1) := by decide +kernel
theorem dX5_drop_1 : decode cX5_drop 1 = .ok (.getfield 21, 3) := by decide +kernel
theorem dX5_drop_4 : decode cX5_drop 4 = .ok (.iload_n 1, 1) := by decide +kernel
theorem dX5_drop_5 : decode cX5_drop 5 = .ok (.invokevirtual 90, 3) := by decide +kernel
theorem dX5_drop_8 : decode cX5_drop 8 = .ok (.ifCond .ne 5, 3) := by decide +kernel
theorem dX5_drop_11 : decode cX5_drop 11 = .ok (.iconst (-1), 1) := by decide +kernel
theorem dX5_drop_12 : decode cX5_drop 12 = .ok (.ireturn, 1) := by decide +kernel
theorem dX5_drop_13 : decode cX5_drop 13 = .ok (.aload_n 0, 1) := by decide +kernel
theorem dX5_drop_14 : decode cX5_drop 14 = .ok (.getfield 21, 3) := by decide +kernel
theorem dX5_drop_17 : decode cX5_drop 17 = .ok (.getfield 93, 3) := by decide +kernel
theorem dX5_drop_20 : decode cX5_drop 20 = .ok (.iload_n 1, 1) := by decide +kernel
theorem dX5_drop_21 : decode cX5_drop 21 = .ok (.iaload, 1) := by decide +kernel
theorem dX5_drop_22 : decode cX5_drop 22 = .ok (.iconst 2, 1) := by decide +kernel
theorem dX5_drop_23 : decode cX5_drop 23 = .ok (.if_icmp .ne 10, 3) := by decide +kernel
theorem dX5_drop_26 : decode cX5_drop 26 = .ok (.aload_n 0, 1) := by decide +kernel
theorem dX5_drop_27 : decode cX5_drop 27 = .ok (.invokevirtual 242, 3) := by decide +kernel
theorem dX5_drop_30 : decode cX5_drop 30 = .ok (.goto 8, 3) := by decide +kernel
theorem dX5_drop_33 : decode cX5_drop 33 = .ok (.aload_n 0, 1) := by decide +kernel
theorem dX5_drop_34 : decode cX5_drop 34 = .ok (.iload_n 1, 1) := by decide +kernel
theorem dX5_drop_35 : decode cX5_drop 35 = .ok (.invokevirtual 245, 3) := by decide +kernel
theorem dX5_drop_38 : decode cX5_drop 38 = .ok (.ireturn, 1) := by decide +kernel
theorem dX5_as_0 : decode cX5_as 0 = .ok (.aload_n 0, 1) := by decide +kernel
theorem dX5_as_1 : decode cX5_as 1 = .ok (.iconst 0, 1) := by decide +kernel
theorem dX5_as_2 : decode cX5_as 2 = .ok (.putfield 50, 3) := by decide +kernel
theorem dX5_as_5 : decode cX5_as 5 = .ok (.aload_n 0, 1) := by decide +kernel
theorem dX5_as_6 : decode cX5_as 6 = .ok (.getfield 21, 3) := by decide +kernel
theorem dX5_as_9 : decode cX5_as 9 = .ok (.iload_n 1, 1) := by decide +kernel
theorem dX5_as_10 : decode cX5_as 10 = .ok (.invokevirtual 90, 3) := by decide +kernel
theorem dX5_as_13 : decode cX5_as 13 = .ok (.ifCond .ne 5, 3) := by decide +kernel
theorem dX5_as_16 : decode cX5_as 16 = .ok (.iconst (-1), 1) := by decide +kernel
theorem dX5_as_17 : decode cX5_as 17 = .ok (.ireturn, 1) := by decide +kernel
theorem dX5_as_18 : decode cX5_as 18 = .ok (.iload_n 2, 1) := by decide +kernel
theorem dX5_as_19 : decode cX5_as 19 = .ok (.ifCond .lt 8, 3) := by decide +kernel
theorem dX5_as_22 : decode cX5_as 22 = .ok (.iload_n 2, 1) := by decide +kernel
theorem dX5_as_23 : decode cX5_as 23 = .ok (.iconst 2, 1) := by decide +kernel
theorem dX5_as_24 : decode cX5_as 24 = .ok (.if_icmp .le 6, 3) := by decide +kernel
theorem dX5_as_27 : decode cX5_as 27 = .ok (.bipush (-2), 2) := by decide +kernel
theorem dX5_as_29 : decode cX5_as 29 = .ok (.ireturn, 1) := by decide +kernel
theorem dX5_as_30 : decode cX5_as 30 = .ok (.aload_n 0, 1) := by decide +kernel
theorem dX5_as_31 : decode cX5_as 31 = .ok (.getfield 21, 3) := by decide +kernel
theorem dX5_as_34 : decode cX5_as 34 = .ok (.getfield 93, 3) := by decide +kernel
theorem dX5_as_37 : decode cX5_as 37 = .ok (.iload_n 1, 1) := by decide +kernel
theorem dX5_as_38 : decode cX5_as 38 = .ok (.iaload, 1) := by decide +kernel
theorem dX5_as_39 : decode cX5_as 39 = .ok (.iload_n 2, 1) := by decide +kernel
theorem dX5_as_40 : decode cX5_as 40 = .ok (.if_icmp .lt 7, 3) := by decide +kernel
theorem dX5_as_43 : decode cX5_as 43 = .ok (.iconst 1, 1) := by decide +kernel
theorem dX5_as_44 : decode cX5_as 44 = .ok (.goto 8, 3) := by decide +kernel
theorem dX5_as_47 : decode cX5_as 47 = .ok (.aload_n 0, 1) := by decide +kernel
theorem dX5_as_48 : decode cX5_as 48 = .ok (.iconst 2, 1) := by decide +kernel
theorem dX5_as_49 : decode cX5_as 49 = .ok (.invokevirtual 69, 3) := by decide +kernel
theorem dX5_as_52 : decode cX5_as 52 = .ok (.ireturn, 1) := by decide +kernel
theorem dX5_trace_0 : decode cX5_trace 0 = .ok (.aload_n 0, 1) := by decide +kernel
theorem dX5_trace_1 : decode cX5_trace 1 = .ok (.getfield 248, 3) := by decide +kernel
theorem dX5_trace_4 : decode cX5_trace 4 = .ok (.ireturn, 1) := by decide +kernel
theorem dX5_fault_0 : decode cX5_fault 0 = .ok (.aload_n 0, 1) := by decide +kernel
theorem dX5_fault_1 : decode cX5_fault 1 = .ok (.getfield 50, 3) := by decide +kernel
theorem dX5_fault_4 : decode cX5_fault 4 = .ok (.ireturn, 1) := by decide +kernel
theorem dX5_many_0 : decode cX5_many 0 = .ok (.iload_n 1, 1) := by decide +kernel
theorem dX5_many_1 : decode cX5_many 1 = .ok (.tableswitch 63 0 3 #[31, 39, 47, 55], 31) := by decide +kernel
theorem dX5_many_32 : decode cX5_many 32 = .ok (.aload_n 0, 1) := by decide +kernel
theorem dX5_many_33 : decode cX5_many 33 = .ok (.getfield 21, 3) := by decide +kernel
theorem dX5_many_36 : decode cX5_many 36 = .ok (.getfield 87, 3) := by decide +kernel
theorem dX5_many_39 : decode cX5_many 39 = .ok (.ireturn, 1) := by decide +kernel
theorem dX5_many_40 : decode cX5_many 40 = .ok (.aload_n 0, 1) := by decide +kernel
theorem dX5_many_41 : decode cX5_many 41 = .ok (.getfield 21, 3) := by decide +kernel
theorem dX5_many_44 : decode cX5_many 44 = .ok (.getfield 125, 3) := by decide +kernel
theorem dX5_many_47 : decode cX5_many 47 = .ok (.ireturn, 1) := by decide +kernel
theorem dX5_many_48 : decode cX5_many 48 = .ok (.aload_n 0, 1) := by decide +kernel
theorem dX5_many_49 : decode cX5_many 49 = .ok (.getfield 21, 3) := by decide +kernel
theorem dX5_many_52 : decode cX5_many 52 = .ok (.invokevirtual 251, 3) := by decide +kernel
theorem dX5_many_55 : decode cX5_many 55 = .ok (.ireturn, 1) := by decide +kernel
theorem dX5_many_56 : decode cX5_many 56 = .ok (.aload_n 0, 1) := by decide +kernel
theorem dX5_many_57 : decode cX5_many 57 = .ok (.getfield 21, 3) := by decide +kernel
theorem dX5_many_60 : decode cX5_many 60 = .ok (.getfield 200, 3) := by decide +kernel
theorem dX5_many_63 : decode cX5_many 63 = .ok (.ireturn, 1) := by decide +kernel
theorem dX5_many_64 : decode cX5_many 64 = .ok (.bipush (-2), 2) := by decide +kernel
theorem dX5_many_66 : decode cX5_many 66 = .ok (.ireturn, 1) := by decide +kernel
theorem dX5_failed_0 : decode cX5_failed 0 = .ok (.aload_n 0, 1) := by decide +kernel
theorem dX5_failed_1 : decode cX5_failed 1 = .ok (.iload_n 1, 1) := by decide +kernel
theorem dX5_failed_2 : decode cX5_failed 2 = .ok (.putfield 50, 3) := by decide +kernel
theorem dX5_failed_5 : decode cX5_failed 5 = .ok (.bipush (-10), 2) := by decide +kernel
theorem dX5_failed_7 : decode cX5_failed 7 = .ok (.iload_n 1, 1) := by decide +kernel
theorem dX5_failed_8 : decode cX5_failed 8 = .ok (.isub, 1) := by decide +kernel
theorem dX5_failed_9 : decode cX5_failed 9 = .ok (.ireturn, 1) := by decide +kernel
theorem dX5_refusalOfRow_0 : decode cX5_refusalOfRow 0 = .ok (.iload_n 1, 1) := by decide +kernel
theorem dX5_refusalOfRow_1 : decode cX5_refusalOfRow 1 = .ok (.invokestatic 54, 3) := by decide +kernel
theorem dX5_refusalOfRow_4 : decode cX5_refusalOfRow 4 = .ok (.ifCond .ne 5, 3) := by decide +kernel
theorem dX5_refusalOfRow_7 : decode cX5_refusalOfRow 7 = .ok (.iconst (-1), 1) := by decide +kernel
theorem dX5_refusalOfRow_8 : decode cX5_refusalOfRow 8 = .ok (.ireturn, 1) := by decide +kernel
theorem dX5_refusalOfRow_9 : decode cX5_refusalOfRow 9 = .ok (.iload_n 2, 1) := by decide +kernel
theorem dX5_refusalOfRow_10 : decode cX5_refusalOfRow 10 = .ok (.invokestatic 58, 3) := by decide +kernel
theorem dX5_refusalOfRow_13 : decode cX5_refusalOfRow 13 = .ok (.ifCond .eq 13, 3) := by decide +kernel
theorem dX5_refusalOfRow_16 : decode cX5_refusalOfRow 16 = .ok (.iload_n 3, 1) := by decide +kernel
theorem dX5_refusalOfRow_17 : decode cX5_refusalOfRow 17 = .ok (.ifCond .lt 9, 3) := by decide +kernel
theorem dX5_refusalOfRow_20 : decode cX5_refusalOfRow 20 = .ok (.iload_n 3, 1) := by decide +kernel
theorem dX5_refusalOfRow_21 : decode cX5_refusalOfRow 21 = .ok (.iload 4, 2) := by decide +kernel
theorem dX5_refusalOfRow_23 : decode cX5_refusalOfRow 23 = .ok (.if_icmp .le 6, 3) := by decide +kernel
theorem dX5_refusalOfRow_26 : decode cX5_refusalOfRow 26 = .ok (.bipush (-2), 2) := by decide +kernel
theorem dX5_refusalOfRow_28 : decode cX5_refusalOfRow 28 = .ok (.ireturn, 1) := by decide +kernel
theorem dX5_refusalOfRow_29 : decode cX5_refusalOfRow 29 = .ok (.aload_n 0, 1) := by decide +kernel
theorem dX5_refusalOfRow_30 : decode cX5_refusalOfRow 30 = .ok (.getfield 21, 3) := by decide +kernel
theorem dX5_refusalOfRow_33 : decode cX5_refusalOfRow 33 = .ok (.invokevirtual 166, 3) := by decide +kernel
theorem dX5_refusalOfRow_36 : decode cX5_refusalOfRow 36 = .ok (.ifCond .eq 7, 3) := by decide +kernel
theorem dX5_refusalOfRow_39 : decode cX5_refusalOfRow 39 = .ok (.iconst 0, 1) := by decide +kernel
theorem dX5_refusalOfRow_40 : decode cX5_refusalOfRow 40 = .ok (.goto 5, 3) := by decide +kernel
theorem dX5_refusalOfRow_43 : decode cX5_refusalOfRow 43 = .ok (.bipush (-3), 2) := by decide +kernel
theorem dX5_refusalOfRow_45 : decode cX5_refusalOfRow 45 = .ok (.ireturn, 1) := by decide +kernel
theorem dX5_takeNumbers_0 : decode cX5_takeNumbers 0 = .ok (.aload_n 0, 1) := by decide +kernel
theorem dX5_takeNumbers_1 : decode cX5_takeNumbers 1 = .ok (.getfield 12, 3) := by decide +kernel
theorem dX5_takeNumbers_4 : decode cX5_takeNumbers 4 = .ok (.iload_n 1, 1) := by decide +kernel
theorem dX5_takeNumbers_5 : decode cX5_takeNumbers 5 = .ok (.iload_n 2, 1) := by decide +kernel
theorem dX5_takeNumbers_6 : decode cX5_takeNumbers 6 = .ok (.invokevirtual 61, 3) := by decide +kernel
theorem dX5_takeNumbers_9 : decode cX5_takeNumbers 9 = .ok (.istore 6, 2) := by decide +kernel
theorem dX5_takeNumbers_11 : decode cX5_takeNumbers 11 = .ok (.iload 6, 2) := by decide +kernel
theorem dX5_takeNumbers_13 : decode cX5_takeNumbers 13 = .ok (.ifCond .ne 16, 3) := by decide +kernel
theorem dX5_takeNumbers_16 : decode cX5_takeNumbers 16 = .ok (.aload_n 0, 1) := by decide +kernel
theorem dX5_takeNumbers_17 : decode cX5_takeNumbers 17 = .ok (.getfield 12, 3) := by decide +kernel
theorem dX5_takeNumbers_20 : decode cX5_takeNumbers 20 = .ok (.iload_n 1, 1) := by decide +kernel
theorem dX5_takeNumbers_21 : decode cX5_takeNumbers 21 = .ok (.iload_n 3, 1) := by decide +kernel
theorem dX5_takeNumbers_22 : decode cX5_takeNumbers 22 = .ok (.iload 4, 2) := by decide +kernel
theorem dX5_takeNumbers_24 : decode cX5_takeNumbers 24 = .ok (.invokevirtual 65, 3) := by decide +kernel
theorem dX5_takeNumbers_27 : decode cX5_takeNumbers 27 = .ok (.istore 6, 2) := by decide +kernel
theorem dX5_takeNumbers_29 : decode cX5_takeNumbers 29 = .ok (.iload 6, 2) := by decide +kernel
theorem dX5_takeNumbers_31 : decode cX5_takeNumbers 31 = .ok (.ifCond .eq 10, 3) := by decide +kernel
theorem dX5_takeNumbers_34 : decode cX5_takeNumbers 34 = .ok (.aload_n 0, 1) := by decide +kernel
theorem dX5_takeNumbers_35 : decode cX5_takeNumbers 35 = .ok (.iload 6, 2) := by decide +kernel
theorem dX5_takeNumbers_37 : decode cX5_takeNumbers 37 = .ok (.invokevirtual 69, 3) := by decide +kernel
theorem dX5_takeNumbers_40 : decode cX5_takeNumbers 40 = .ok (.ireturn, 1) := by decide +kernel
theorem dX5_takeNumbers_41 : decode cX5_takeNumbers 41 = .ok (.aload_n 0, 1) := by decide +kernel
theorem dX5_takeNumbers_42 : decode cX5_takeNumbers 42 = .ok (.getfield 12, 3) := by decide +kernel
theorem dX5_takeNumbers_45 : decode cX5_takeNumbers 45 = .ok (.iload_n 1, 1) := by decide +kernel
theorem dX5_takeNumbers_46 : decode cX5_takeNumbers 46 = .ok (.iload_n 3, 1) := by decide +kernel
theorem dX5_takeNumbers_47 : decode cX5_takeNumbers 47 = .ok (.iload 4, 2) := by decide +kernel
theorem dX5_takeNumbers_49 : decode cX5_takeNumbers 49 = .ok (.aload_n 0, 1) := by decide +kernel
theorem dX5_takeNumbers_50 : decode cX5_takeNumbers 50 = .ok (.getfield 46, 3) := by decide +kernel
theorem dX5_takeNumbers_53 : decode cX5_takeNumbers 53 = .ok (.invokevirtual 76, 3) := by decide +kernel
theorem dX5_takeNumbers_56 : decode cX5_takeNumbers 56 = .ok (.iconst 0, 1) := by decide +kernel
theorem dX5_takeNumbers_57 : decode cX5_takeNumbers 57 = .ok (.istore 7, 2) := by decide +kernel
theorem dX5_takeNumbers_59 : decode cX5_takeNumbers 59 = .ok (.iload 7, 2) := by decide +kernel
theorem dX5_takeNumbers_61 : decode cX5_takeNumbers 61 = .ok (.iload 4, 2) := by decide +kernel
theorem dX5_takeNumbers_63 : decode cX5_takeNumbers 63 = .ok (.if_icmp .ge 33, 3) := by decide +kernel
theorem dX5_takeNumbers_66 : decode cX5_takeNumbers 66 = .ok (.aload_n 0, 1) := by decide +kernel
theorem dX5_takeNumbers_67 : decode cX5_takeNumbers 67 = .ok (.getfield 46, 3) := by decide +kernel
theorem dX5_takeNumbers_70 : decode cX5_takeNumbers 70 = .ok (.iload 7, 2) := by decide +kernel
theorem dX5_takeNumbers_72 : decode cX5_takeNumbers 72 = .ok (.iaload, 1) := by decide +kernel
theorem dX5_takeNumbers_73 : decode cX5_takeNumbers 73 = .ok (.ifCond .lt 15, 3) := by decide +kernel
theorem dX5_takeNumbers_76 : decode cX5_takeNumbers 76 = .ok (.aload_n 0, 1) := by decide +kernel
theorem dX5_takeNumbers_77 : decode cX5_takeNumbers 77 = .ok (.getfield 46, 3) := by decide +kernel
theorem dX5_takeNumbers_80 : decode cX5_takeNumbers 80 = .ok (.iload 7, 2) := by decide +kernel
theorem dX5_takeNumbers_82 : decode cX5_takeNumbers 82 = .ok (.iaload, 1) := by decide +kernel
theorem dX5_takeNumbers_83 : decode cX5_takeNumbers 83 = .ok (.iload 5, 2) := by decide +kernel
theorem dX5_takeNumbers_85 : decode cX5_takeNumbers 85 = .ok (.if_icmp .lt 5, 3) := by decide +kernel
theorem dX5_takeNumbers_88 : decode cX5_takeNumbers 88 = .ok (.iconst (-1), 1) := by decide +kernel
theorem dX5_takeNumbers_89 : decode cX5_takeNumbers 89 = .ok (.ireturn, 1) := by decide +kernel
theorem dX5_takeNumbers_90 : decode cX5_takeNumbers 90 = .ok (.iinc 7 1, 3) := by decide +kernel
theorem dX5_takeNumbers_93 : decode cX5_takeNumbers 93 = .ok (.goto (-34), 3) := by decide +kernel
theorem dX5_takeNumbers_96 : decode cX5_takeNumbers 96 = .ok (.iconst 0, 1) := by decide +kernel
theorem dX5_takeNumbers_97 : decode cX5_takeNumbers 97 = .ok (.ireturn, 1) := by decide +kernel
theorem dX5_isOfPlans_0 : decode cX5_isOfPlans 0 = .ok (.iload_n 0, 1) := by decide +kernel
theorem dX5_isOfPlans_1 : decode cX5_isOfPlans 1 = .ok (.ifCond .lt 8, 3) := by decide +kernel
theorem dX5_isOfPlans_4 : decode cX5_isOfPlans 4 = .ok (.iload_n 0, 1) := by decide +kernel
theorem dX5_isOfPlans_5 : decode cX5_isOfPlans 5 = .ok (.iconst 3, 1) := by decide +kernel
theorem dX5_isOfPlans_6 : decode cX5_isOfPlans 6 = .ok (.if_icmp .le 27, 3) := by decide +kernel
theorem dX5_isOfPlans_9 : decode cX5_isOfPlans 9 = .ok (.iload_n 0, 1) := by decide +kernel
theorem dX5_isOfPlans_10 : decode cX5_isOfPlans 10 = .ok (.bipush 10, 2) := by decide +kernel
theorem dX5_isOfPlans_12 : decode cX5_isOfPlans 12 = .ok (.if_icmp .lt 9, 3) := by decide +kernel
theorem dX5_isOfPlans_15 : decode cX5_isOfPlans 15 = .ok (.iload_n 0, 1) := by decide +kernel
theorem dX5_isOfPlans_16 : decode cX5_isOfPlans 16 = .ok (.bipush 15, 2) := by decide +kernel
theorem dX5_isOfPlans_18 : decode cX5_isOfPlans 18 = .ok (.if_icmp .le 15, 3) := by decide +kernel
theorem dX5_isOfPlans_21 : decode cX5_isOfPlans 21 = .ok (.iload_n 0, 1) := by decide +kernel
theorem dX5_isOfPlans_22 : decode cX5_isOfPlans 22 = .ok (.bipush 20, 2) := by decide +kernel
theorem dX5_isOfPlans_24 : decode cX5_isOfPlans 24 = .ok (.if_icmp .lt 13, 3) := by decide +kernel
theorem dX5_isOfPlans_27 : decode cX5_isOfPlans 27 = .ok (.iload_n 0, 1) := by decide +kernel
theorem dX5_isOfPlans_28 : decode cX5_isOfPlans 28 = .ok (.bipush 25, 2) := by decide +kernel
theorem dX5_isOfPlans_30 : decode cX5_isOfPlans 30 = .ok (.if_icmp .gt 7, 3) := by decide +kernel
theorem dX5_isOfPlans_33 : decode cX5_isOfPlans 33 = .ok (.iconst 1, 1) := by decide +kernel
theorem dX5_isOfPlans_34 : decode cX5_isOfPlans 34 = .ok (.goto 4, 3) := by decide +kernel
theorem dX5_isOfPlans_37 : decode cX5_isOfPlans 37 = .ok (.iconst 0, 1) := by decide +kernel
theorem dX5_isOfPlans_38 : decode cX5_isOfPlans 38 = .ok (.ireturn, 1) := by decide +kernel
theorem dX5_readyBehind_0 : decode cX5_readyBehind 0 = .ok (.aload_n 0, 1) := by decide +kernel
theorem dX5_readyBehind_1 : decode cX5_readyBehind 1 = .ok (.getfield 21, 3) := by decide +kernel
theorem dX5_readyBehind_4 : decode cX5_readyBehind 4 = .ok (.iload_n 1, 1) := by decide +kernel
theorem dX5_readyBehind_5 : decode cX5_readyBehind 5 = .ok (.invokevirtual 90, 3) := by decide +kernel
theorem dX5_readyBehind_8 : decode cX5_readyBehind 8 = .ok (.ifCond .eq 15, 3) := by decide +kernel
theorem dX5_readyBehind_11 : decode cX5_readyBehind 11 = .ok (.aload_n 0, 1) := by decide +kernel
theorem dX5_readyBehind_12 : decode cX5_readyBehind 12 = .ok (.getfield 35, 3) := by decide +kernel
theorem dX5_readyBehind_15 : decode cX5_readyBehind 15 = .ok (.getfield 254, 3) := by decide +kernel
theorem dX5_readyBehind_18 : decode cX5_readyBehind 18 = .ok (.iload_n 1, 1) := by decide +kernel
theorem dX5_readyBehind_19 : decode cX5_readyBehind 19 = .ok (.iaload, 1) := by decide +kernel
theorem dX5_readyBehind_20 : decode cX5_readyBehind 20 = .ok (.goto 5, 3) := by decide +kernel
theorem dX5_readyBehind_23 : decode cX5_readyBehind 23 = .ok (.bipush (-9), 2) := by decide +kernel
theorem dX5_readyBehind_25 : decode cX5_readyBehind 25 = .ok (.ireturn, 1) := by decide +kernel
theorem dX5_leastBeside_0 : decode cX5_leastBeside 0 = .ok (.aload_n 0, 1) := by decide +kernel
theorem dX5_leastBeside_1 : decode cX5_leastBeside 1 = .ok (.getfield 21, 3) := by decide +kernel
theorem dX5_leastBeside_4 : decode cX5_leastBeside 4 = .ok (.iload_n 1, 1) := by decide +kernel
theorem dX5_leastBeside_5 : decode cX5_leastBeside 5 = .ok (.invokevirtual 90, 3) := by decide +kernel
theorem dX5_leastBeside_8 : decode cX5_leastBeside 8 = .ok (.ifCond .eq 24, 3) := by decide +kernel
theorem dX5_leastBeside_11 : decode cX5_leastBeside 11 = .ok (.aload_n 0, 1) := by decide +kernel
theorem dX5_leastBeside_12 : decode cX5_leastBeside 12 = .ok (.getfield 21, 3) := by decide +kernel
theorem dX5_leastBeside_15 : decode cX5_leastBeside 15 = .ok (.iload_n 1, 1) := by decide +kernel
theorem dX5_leastBeside_16 : decode cX5_leastBeside 16 = .ok (.aload_n 0, 1) := by decide +kernel
theorem dX5_leastBeside_17 : decode cX5_leastBeside 17 = .ok (.getfield 35, 3) := by decide +kernel
theorem dX5_leastBeside_20 : decode cX5_leastBeside 20 = .ok (.getfield 141, 3) := by decide +kernel
theorem dX5_leastBeside_23 : decode cX5_leastBeside 23 = .ok (.invokevirtual 257, 3) := by decide +kernel
theorem dX5_leastBeside_26 : decode cX5_leastBeside 26 = .ok (.invokestatic 260, 3) := by decide +kernel
theorem dX5_leastBeside_29 : decode cX5_leastBeside 29 = .ok (.goto 5, 3) := by decide +kernel
theorem dX5_leastBeside_32 : decode cX5_leastBeside 32 = .ok (.bipush (-9), 2) := by decide +kernel
theorem dX5_leastBeside_34 : decode cX5_leastBeside 34 = .ok (.ireturn, 1) := by decide +kernel
theorem dX5_least_0 : decode cX5_least 0 = .ok (.iconst 0, 1) := by decide +kernel
theorem dX5_least_1 : decode cX5_least 1 = .ok (.istore_n 1, 1) := by decide +kernel
theorem dX5_least_2 : decode cX5_least 2 = .ok (.iload_n 1, 1) := by decide +kernel
theorem dX5_least_3 : decode cX5_least 3 = .ok (.bipush 6, 2) := by decide +kernel
theorem dX5_least_5 : decode cX5_least 5 = .ok (.if_icmp .ge 19, 3) := by decide +kernel
theorem dX5_least_8 : decode cX5_least 8 = .ok (.iload_n 0, 1) := by decide +kernel
theorem dX5_least_9 : decode cX5_least 9 = .ok (.iload_n 1, 1) := by decide +kernel
theorem dX5_least_10 : decode cX5_least 10 = .ok (.invokestatic 263, 3) := by decide +kernel
theorem dX5_least_13 : decode cX5_least 13 = .ok (.ifCond .eq 5, 3) := by decide +kernel
theorem dX5_least_16 : decode cX5_least 16 = .ok (.iload_n 1, 1) := by decide +kernel
theorem dX5_least_17 : decode cX5_least 17 = .ok (.ireturn, 1) := by decide +kernel
theorem dX5_least_18 : decode cX5_least 18 = .ok (.iinc 1 1, 3) := by decide +kernel
theorem dX5_least_21 : decode cX5_least 21 = .ok (.goto (-19), 3) := by decide +kernel
theorem dX5_least_24 : decode cX5_least 24 = .ok (.bipush (-9), 2) := by decide +kernel
theorem dX5_least_26 : decode cX5_least 26 = .ok (.ireturn, 1) := by decide +kernel
theorem dX5_holds_0 : decode cX5_holds 0 = .ok (.iload_n 0, 1) := by decide +kernel
theorem dX5_holds_1 : decode cX5_holds 1 = .ok (.iload_n 1, 1) := by decide +kernel
theorem dX5_holds_2 : decode cX5_holds 2 = .ok (.ishr, 1) := by decide +kernel
theorem dX5_holds_3 : decode cX5_holds 3 = .ok (.iconst 1, 1) := by decide +kernel
theorem dX5_holds_4 : decode cX5_holds 4 = .ok (.iand, 1) := by decide +kernel
theorem dX5_holds_5 : decode cX5_holds 5 = .ok (.ifCond .eq 7, 3) := by decide +kernel
theorem dX5_holds_8 : decode cX5_holds 8 = .ok (.iconst 1, 1) := by decide +kernel
theorem dX5_holds_9 : decode cX5_holds 9 = .ok (.goto 4, 3) := by decide +kernel
theorem dX5_holds_12 : decode cX5_holds 12 = .ok (.iconst 0, 1) := by decide +kernel
theorem dX5_holds_13 : decode cX5_holds 13 = .ok (.ireturn, 1) := by decide +kernel
theorem dX5_look_0 : decode cX5_look 0 = .ok (.iload_n 0, 1) := by decide +kernel
theorem dX5_look_1 : decode cX5_look 1 = .ok (.lookupswitch 37 #[(1, 33), (2, 27)], 27) := by decide +kernel
theorem dX5_look_28 : decode cX5_look 28 = .ok (.iconst 2, 1) := by decide +kernel
theorem dX5_look_29 : decode cX5_look 29 = .ok (.iload_n 1, 1) := by decide +kernel
theorem dX5_look_30 : decode cX5_look 30 = .ok (.iconst 1, 1) := by decide +kernel
theorem dX5_look_31 : decode cX5_look 31 = .ok (.iadd, 1) := by decide +kernel
theorem dX5_look_32 : decode cX5_look 32 = .ok (.imul, 1) := by decide +kernel
theorem dX5_look_33 : decode cX5_look 33 = .ok (.ireturn, 1) := by decide +kernel
theorem dX5_look_34 : decode cX5_look 34 = .ok (.iload_n 1, 1) := by decide +kernel
theorem dX5_look_35 : decode cX5_look 35 = .ok (.iconst 1, 1) := by decide +kernel
theorem dX5_look_36 : decode cX5_look 36 = .ok (.iadd, 1) := by decide +kernel
theorem dX5_look_37 : decode cX5_look 37 = .ok (.ireturn, 1) := by decide +kernel
theorem dX5_look_38 : decode cX5_look 38 = .ok (.iload_n 1, 1) := by decide +kernel
theorem dX5_look_39 : decode cX5_look 39 = .ok (.ireturn, 1) := by decide +kernel
theorem dX5_waysOfAtLeast_0 : decode cX5_waysOfAtLeast 0 = .ok (.lconst 1, 1) := by decide +kernel
theorem dX5_waysOfAtLeast_1 : decode cX5_waysOfAtLeast 1 = .ok (.lstore_n 2, 1) := by decide +kernel
theorem dX5_waysOfAtLeast_2 : decode cX5_waysOfAtLeast 2 = .ok (.lconst 0, 1) := by decide +kernel
theorem dX5_waysOfAtLeast_3 : decode cX5_waysOfAtLeast 3 = .ok (.lstore 4, 2) := by decide +kernel
theorem dX5_waysOfAtLeast_5 : decode cX5_waysOfAtLeast 5 = .ok (.iconst 0, 1) := by decide +kernel
theorem dX5_waysOfAtLeast_6 : decode cX5_waysOfAtLeast 6 = .ok (.istore 6, 2) := by decide +kernel
theorem dX5_waysOfAtLeast_8 : decode cX5_waysOfAtLeast 8 = .ok (.iload 6, 2) := by decide +kernel
theorem dX5_waysOfAtLeast_10 : decode cX5_waysOfAtLeast 10 = .ok (.iload_n 0, 1) := by decide +kernel
theorem dX5_waysOfAtLeast_11 : decode cX5_waysOfAtLeast 11 = .ok (.if_icmp .gt 35, 3) := by decide +kernel
theorem dX5_waysOfAtLeast_14 : decode cX5_waysOfAtLeast 14 = .ok (.iload 6, 2) := by decide +kernel
theorem dX5_waysOfAtLeast_16 : decode cX5_waysOfAtLeast 16 = .ok (.iload_n 1, 1) := by decide +kernel
theorem dX5_waysOfAtLeast_17 : decode cX5_waysOfAtLeast 17 = .ok (.if_icmp .lt 9, 3) := by decide +kernel
theorem dX5_waysOfAtLeast_20 : decode cX5_waysOfAtLeast 20 = .ok (.lload 4, 2) := by decide +kernel
theorem dX5_waysOfAtLeast_22 : decode cX5_waysOfAtLeast 22 = .ok (.lload_n 2, 1) := by decide +kernel
theorem dX5_waysOfAtLeast_23 : decode cX5_waysOfAtLeast 23 = .ok (.ladd, 1) := by decide +kernel
theorem dX5_waysOfAtLeast_24 : decode cX5_waysOfAtLeast 24 = .ok (.lstore 4, 2) := by decide +kernel
theorem dX5_waysOfAtLeast_26 : decode cX5_waysOfAtLeast 26 = .ok (.lload_n 2, 1) := by decide +kernel
theorem dX5_waysOfAtLeast_27 : decode cX5_waysOfAtLeast 27 = .ok (.iload_n 0, 1) := by decide +kernel
theorem dX5_waysOfAtLeast_28 : decode cX5_waysOfAtLeast 28 = .ok (.iload 6, 2) := by decide +kernel
theorem dX5_waysOfAtLeast_30 : decode cX5_waysOfAtLeast 30 = .ok (.isub, 1) := by decide +kernel
theorem dX5_waysOfAtLeast_31 : decode cX5_waysOfAtLeast 31 = .ok (.i2l, 1) := by decide +kernel
theorem dX5_waysOfAtLeast_32 : decode cX5_waysOfAtLeast 32 = .ok (.lmul, 1) := by decide +kernel
theorem dX5_waysOfAtLeast_33 : decode cX5_waysOfAtLeast 33 = .ok (.iload 6, 2) := by decide +kernel
theorem dX5_waysOfAtLeast_35 : decode cX5_waysOfAtLeast 35 = .ok (.iconst 1, 1) := by decide +kernel
theorem dX5_waysOfAtLeast_36 : decode cX5_waysOfAtLeast 36 = .ok (.iadd, 1) := by decide +kernel
theorem dX5_waysOfAtLeast_37 : decode cX5_waysOfAtLeast 37 = .ok (.i2l, 1) := by decide +kernel
theorem dX5_waysOfAtLeast_38 : decode cX5_waysOfAtLeast 38 = .ok (.ldiv, 1) := by decide +kernel
theorem dX5_waysOfAtLeast_39 : decode cX5_waysOfAtLeast 39 = .ok (.lstore_n 2, 1) := by decide +kernel
theorem dX5_waysOfAtLeast_40 : decode cX5_waysOfAtLeast 40 = .ok (.iinc 6 1, 3) := by decide +kernel
theorem dX5_waysOfAtLeast_43 : decode cX5_waysOfAtLeast 43 = .ok (.goto (-35), 3) := by decide +kernel
theorem dX5_waysOfAtLeast_46 : decode cX5_waysOfAtLeast 46 = .ok (.lload 4, 2) := by decide +kernel
theorem dX5_waysOfAtLeast_48 : decode cX5_waysOfAtLeast 48 = .ok (.lreturn, 1) := by decide +kernel
theorem dX5_leave_0 : decode cX5_leave 0 = .ok (.aload_n 0, 1) := by decide +kernel
theorem dX5_leave_1 : decode cX5_leave 1 = .ok (.bipush 31, 2) := by decide +kernel
theorem dX5_leave_3 : decode cX5_leave 3 = .ok (.aload_n 0, 1) := by decide +kernel
theorem dX5_leave_4 : decode cX5_leave 4 = .ok (.getfield 248, 3) := by decide +kernel
theorem dX5_leave_7 : decode cX5_leave 7 = .ok (.imul, 1) := by decide +kernel
theorem dX5_leave_8 : decode cX5_leave 8 = .ok (.iload_n 1, 1) := by decide +kernel
theorem dX5_leave_9 : decode cX5_leave 9 = .ok (.iadd, 1) := by decide +kernel
theorem dX5_leave_10 : decode cX5_leave 10 = .ok (.putfield 248, 3) := by decide +kernel
theorem dX5_leave_13 : decode cX5_leave 13 = .ok (.return_, 1) := by decide +kernel
theorem dX5_tellPicking_0 : decode cX5_tellPicking 0 = .ok (.aload_n 0, 1) := by decide +kernel
theorem dX5_tellPicking_1 : decode cX5_tellPicking 1 = .ok (.iconst 1, 1) := by decide +kernel
theorem dX5_tellPicking_2 : decode cX5_tellPicking 2 = .ok (.invokevirtual 266, 3) := by decide +kernel
theorem dX5_tellPicking_5 : decode cX5_tellPicking 5 = .ok (.aload_n 0, 1) := by decide +kernel
theorem dX5_tellPicking_6 : decode cX5_tellPicking 6 = .ok (.getfield 21, 3) := by decide +kernel
theorem dX5_tellPicking_9 : decode cX5_tellPicking 9 = .ok (.getfield 99, 3) := by decide +kernel
theorem dX5_tellPicking_12 : decode cX5_tellPicking 12 = .ok (.iload_n 1, 1) := by decide +kernel
theorem dX5_tellPicking_13 : decode cX5_tellPicking 13 = .ok (.iaload, 1) := by decide +kernel
theorem dX5_tellPicking_14 : decode cX5_tellPicking 14 = .ok (.ireturn, 1) := by decide +kernel
theorem dX5_tellSure_0 : decode cX5_tellSure 0 = .ok (.aload_n 0, 1) := by decide +kernel
theorem dX5_tellSure_1 : decode cX5_tellSure 1 = .ok (.iconst 2, 1) := by decide +kernel
theorem dX5_tellSure_2 : decode cX5_tellSure 2 = .ok (.invokevirtual 266, 3) := by decide +kernel
theorem dX5_tellSure_5 : decode cX5_tellSure 5 = .ok (.aload_n 0, 1) := by decide +kernel
theorem dX5_tellSure_6 : decode cX5_tellSure 6 = .ok (.iload_n 1, 1) := by decide +kernel
theorem dX5_tellSure_7 : decode cX5_tellSure 7 = .ok (.invokevirtual 239, 3) := by decide +kernel
theorem dX5_tellSure_10 : decode cX5_tellSure 10 = .ok (.bipush 100, 2) := by decide +kernel
theorem dX5_tellSure_12 : decode cX5_tellSure 12 = .ok (.iadd, 1) := by decide +kernel
theorem dX5_tellSure_13 : decode cX5_tellSure 13 = .ok (.ireturn, 1) := by decide +kernel
theorem dX5_tellDoubtful_0 : decode cX5_tellDoubtful 0 = .ok (.aload_n 0, 1) := by decide +kernel
theorem dX5_tellDoubtful_1 : decode cX5_tellDoubtful 1 = .ok (.iconst 3, 1) := by decide +kernel
theorem dX5_tellDoubtful_2 : decode cX5_tellDoubtful 2 = .ok (.invokevirtual 266, 3) := by decide +kernel
theorem dX5_tellDoubtful_5 : decode cX5_tellDoubtful 5 = .ok (.aload_n 0, 1) := by decide +kernel
theorem dX5_tellDoubtful_6 : decode cX5_tellDoubtful 6 = .ok (.iload_n 1, 1) := by decide +kernel
theorem dX5_tellDoubtful_7 : decode cX5_tellDoubtful 7 = .ok (.invokevirtual 236, 3) := by decide +kernel
theorem dX5_tellDoubtful_10 : decode cX5_tellDoubtful 10 = .ok (.aload_n 0, 1) := by decide +kernel
theorem dX5_tellDoubtful_11 : decode cX5_tellDoubtful 11 = .ok (.iload_n 1, 1) := by decide +kernel
theorem dX5_tellDoubtful_12 : decode cX5_tellDoubtful 12 = .ok (.invokevirtual 239, 3) := by decide +kernel
theorem dX5_tellDoubtful_15 : decode cX5_tellDoubtful 15 = .ok (.iadd, 1) := by decide +kernel
theorem dX5_tellDoubtful_16 : decode cX5_tellDoubtful 16 = .ok (.ireturn, 1) := by decide +kernel
theorem dX5_dropByLent_0 : decode cX5_dropByLent 0 = .ok (.aload_n 0, 1) := by decide +kernel
theorem dX5_dropByLent_1 : decode cX5_dropByLent 1 = .ok (.iconst 4, 1) := by decide +kernel
theorem dX5_dropByLent_2 : decode cX5_dropByLent 2 = .ok (.invokevirtual 266, 3) := by decide +kernel
theorem dX5_dropByLent_5 : decode cX5_dropByLent 5 = .ok (.iload_n 1, 1) := by decide +kernel
theorem dX5_dropByLent_6 : decode cX5_dropByLent 6 = .ok (.ireturn, 1) := by decide +kernel
theorem dX5_dropByOwn_0 : decode cX5_dropByOwn 0 = .ok (.aload_n 0, 1) := by decide +kernel
theorem dX5_dropByOwn_1 : decode cX5_dropByOwn 1 = .ok (.iconst 5, 1) := by decide +kernel
theorem dX5_dropByOwn_2 : decode cX5_dropByOwn 2 = .ok (.invokevirtual 266, 3) := by decide +kernel
theorem dX5_dropByOwn_5 : decode cX5_dropByOwn 5 = .ok (.bipush 70, 2) := by decide +kernel
theorem dX5_dropByOwn_7 : decode cX5_dropByOwn 7 = .ok (.ireturn, 1) := by decide +kernel
theorem dX6_init_0 : decode cX6_init 0 = .ok (.aload_n 0, 1) := by decide +kernel
theorem dX6_init_1 : decode cX6_init 1 = .ok (.invokespecial 1, 3) := by decide +kernel
theorem dX6_init_4 : decode cX6_init 4 = .ok (.aload_n 0, 1) := by decide +kernel
theorem dX6_init_5 : decode cX6_init 5 = .ok (.bipush 6, 2) := by decide +kernel
theorem dX6_init_7 : decode cX6_init 7 = .ok (.newarray .int, 2) := by decide +kernel
theorem dX6_init_9 : decode cX6_init 9 = .ok (.putfield 7, 3) := by decide +kernel
theorem dX6_init_12 : decode cX6_init 12 = .ok (.aload_n 0, 1) := by decide +kernel
theorem dX6_init_13 : decode cX6_init 13 = .ok (.bipush 6, 2) := by decide +kernel
theorem dX6_init_15 : decode cX6_init 15 = .ok (.newarray .int, 2) := by decide +kernel
theorem dX6_init_17 : decode cX6_init 17 = .ok (.putfield 13, 3) := by decide +kernel
theorem dX6_init_20 : decode cX6_init 20 = .ok (.aload_n 0, 1) := by decide +kernel
theorem dX6_init_21 : decode cX6_init 21 = .ok (.bipush 6, 2) := by decide +kernel
theorem dX6_init_23 : decode cX6_init 23 = .ok (.newarray .int, 2) := by decide +kernel
theorem dX6_init_25 : decode cX6_init 25 = .ok (.putfield 16, 3) := by decide +kernel
theorem dX6_init_28 : decode cX6_init 28 = .ok (.aload_n 0, 1) := by decide +kernel
theorem dX6_init_29 : decode cX6_init 29 = .ok (.bipush 6, 2) := by decide +kernel
theorem dX6_init_31 : decode cX6_init 31 = .ok (.newarray .int, 2) := by decide +kernel
theorem dX6_init_33 : decode cX6_init 33 = .ok (.putfield 19, 3) := by decide +kernel
theorem dX6_init_36 : decode cX6_init 36 = .ok (.aload_n 0, 1) := by decide +kernel
theorem dX6_init_37 : decode cX6_init 37 = .ok (.iconst 5, 1) := by decide +kernel
theorem dX6_init_38 : decode cX6_init 38 = .ok (.newarray .int, 2) := by decide +kernel
theorem dX6_init_40 : decode cX6_init 40 = .ok (.putfield 22, 3) := by decide +kernel
theorem dX6_init_43 : decode cX6_init 43 = .ok (.aload_n 0, 1) := by decide +kernel
theorem dX6_init_44 : decode cX6_init 44 = .ok (.bipush 6, 2) := by decide +kernel
theorem dX6_init_46 : decode cX6_init 46 = .ok (.newarray .int, 2) := by decide +kernel
theorem dX6_init_48 : decode cX6_init 48 = .ok (.putfield 25, 3) := by decide +kernel
theorem dX6_init_51 : decode cX6_init 51 = .ok (.aload_n 0, 1) := by decide +kernel
theorem dX6_init_52 : decode cX6_init 52 = .ok (.bipush 6, 2) := by decide +kernel
theorem dX6_init_54 : decode cX6_init 54 = .ok (.newarray .int, 2) := by decide +kernel
theorem dX6_init_56 : decode cX6_init 56 = .ok (.putfield 28, 3) := by decide +kernel
theorem dX6_init_59 : decode cX6_init 59 = .ok (.aload_n 0, 1) := by decide +kernel
theorem dX6_init_60 : decode cX6_init 60 = .ok (.bipush 6, 2) := by decide +kernel
theorem dX6_init_62 : decode cX6_init 62 = .ok (.newarray .int, 2) := by decide +kernel
theorem dX6_init_64 : decode cX6_init 64 = .ok (.putfield 31, 3) := by decide +kernel
theorem dX6_init_67 : decode cX6_init 67 = .ok (.aload_n 0, 1) := by decide +kernel
theorem dX6_init_68 : decode cX6_init 68 = .ok (.bipush 6, 2) := by decide +kernel
theorem dX6_init_70 : decode cX6_init 70 = .ok (.newarray .int, 2) := by decide +kernel
theorem dX6_init_72 : decode cX6_init 72 = .ok (.putfield 34, 3) := by decide +kernel
theorem dX6_init_75 : decode cX6_init 75 = .ok (.aload_n 0, 1) := by decide +kernel
theorem dX6_init_76 : decode cX6_init 76 = .ok (.iconst 5, 1) := by decide +kernel
theorem dX6_init_77 : decode cX6_init 77 = .ok (.newarray .int, 2) := by decide +kernel
theorem dX6_init_79 : decode cX6_init 79 = .ok (.putfield 37, 3) := by decide +kernel
theorem dX6_init_82 : decode cX6_init 82 = .ok (.aload_n 0, 1) := by decide +kernel
theorem dX6_init_83 : decode cX6_init 83 = .ok (.bipush 6, 2) := by decide +kernel
theorem dX6_init_85 : decode cX6_init 85 = .ok (.newarray .int, 2) := by decide +kernel
theorem dX6_init_87 : decode cX6_init 87 = .ok (.putfield 40, 3) := by decide +kernel
theorem dX6_init_90 : decode cX6_init 90 = .ok (.aload_n 0, 1) := by decide +kernel
theorem dX6_init_91 : decode cX6_init 91 = .ok (.bipush 6, 2) := by decide +kernel
theorem dX6_init_93 : decode cX6_init 93 = .ok (.newarray .int, 2) := by decide +kernel
theorem dX6_init_95 : decode cX6_init 95 = .ok (.putfield 43, 3) := by decide +kernel
theorem dX6_init_98 : decode cX6_init 98 = .ok (.aload_n 0, 1) := by decide +kernel
theorem dX6_init_99 : decode cX6_init 99 = .ok (.bipush 6, 2) := by decide +kernel
theorem dX6_init_101 : decode cX6_init 101 = .ok (.newarray .int, 2) := by decide +kernel
theorem dX6_init_103 : decode cX6_init 103 = .ok (.putfield 46, 3) := by decide +kernel
theorem dX6_init_106 : decode cX6_init 106 = .ok (.aload_n 0, 1) := by decide +kernel
theorem dX6_init_107 : decode cX6_init 107 = .ok (.iconst 5, 1) := by decide +kernel
theorem dX6_init_108 : decode cX6_init 108 = .ok (.newarray .int, 2) := by decide +kernel
theorem dX6_init_110 : decode cX6_init 110 = .ok (.putfield 49, 3) := by decide +kernel
theorem dX6_init_113 : decode cX6_init 113 = .ok (.aload_n 0, 1) := by decide +kernel
theorem dX6_init_114 : decode cX6_init 114 = .ok (.bipush 64, 2) := by decide +kernel
theorem dX6_init_116 : decode cX6_init 116 = .ok (.newarray .int, 2) := by decide +kernel
theorem dX6_init_118 : decode cX6_init 118 = .ok (.putfield 52, 3) := by decide +kernel
theorem dX6_init_121 : decode cX6_init 121 = .ok (.aload_n 0, 1) := by decide +kernel
theorem dX6_init_122 : decode cX6_init 122 = .ok (.bipush 64, 2) := by decide +kernel
theorem dX6_init_124 : decode cX6_init 124 = .ok (.newarray .int, 2) := by decide +kernel
theorem dX6_init_126 : decode cX6_init 126 = .ok (.putfield 55, 3) := by decide +kernel
theorem dX6_init_129 : decode cX6_init 129 = .ok (.aload_n 0, 1) := by decide +kernel
theorem dX6_init_130 : decode cX6_init 130 = .ok (.bipush 8, 2) := by decide +kernel
theorem dX6_init_132 : decode cX6_init 132 = .ok (.newarray .int, 2) := by decide +kernel
theorem dX6_init_134 : decode cX6_init 134 = .ok (.putfield 58, 3) := by decide +kernel
theorem dX6_init_137 : decode cX6_init 137 = .ok (.aload_n 0, 1) := by decide +kernel
theorem dX6_init_138 : decode cX6_init 138 = .ok (.bipush 8, 2) := by decide +kernel
theorem dX6_init_140 : decode cX6_init 140 = .ok (.newarray .int, 2) := by decide +kernel
theorem dX6_init_142 : decode cX6_init 142 = .ok (.putfield 61, 3) := by decide +kernel
theorem dX6_init_145 : decode cX6_init 145 = .ok (.aload_n 0, 1) := by decide +kernel
theorem dX6_init_146 : decode cX6_init 146 = .ok (.iconst 4, 1) := by decide +kernel
theorem dX6_init_147 : decode cX6_init 147 = .ok (.newarray .int, 2) := by decide +kernel
theorem dX6_init_149 : decode cX6_init 149 = .ok (.putfield 64, 3) := by decide +kernel
theorem dX6_init_152 : decode cX6_init 152 = .ok (.aload_n 0, 1) := by decide +kernel
theorem dX6_init_153 : decode cX6_init 153 = .ok (.iconst 4, 1) := by decide +kernel
theorem dX6_init_154 : decode cX6_init 154 = .ok (.newarray .int, 2) := by decide +kernel
theorem dX6_init_156 : decode cX6_init 156 = .ok (.putfield 67, 3) := by decide +kernel
theorem dX6_init_159 : decode cX6_init 159 = .ok (.aload_n 0, 1) := by decide +kernel
theorem dX6_init_160 : decode cX6_init 160 = .ok (.sipush 240, 3) := by decide +kernel
theorem dX6_init_163 : decode cX6_init 163 = .ok (.newarray .int, 2) := by decide +kernel
theorem dX6_init_165 : decode cX6_init 165 = .ok (.putfield 70, 3) := by decide +kernel
theorem dX6_init_168 : decode cX6_init 168 = .ok (.aload_n 0, 1) := by decide +kernel
theorem dX6_init_169 : decode cX6_init 169 = .ok (.bipush 60, 2) := by decide +kernel
theorem dX6_init_171 : decode cX6_init 171 = .ok (.newarray .int, 2) := by decide +kernel
theorem dX6_init_173 : decode cX6_init 173 = .ok (.putfield 73, 3) := by decide +kernel
theorem dX6_init_176 : decode cX6_init 176 = .ok (.iconst 0, 1) := by decide +kernel
theorem dX6_init_177 : decode cX6_init 177 = .ok (.istore_n 1, 1) := by decide +kernel
theorem dX6_init_178 : decode cX6_init 178 = .ok (.iload_n 1, 1) := by decide +kernel
theorem dX6_init_179 : decode cX6_init 179 = .ok (.iconst 4, 1) := by decide +kernel
theorem dX6_init_180 : decode cX6_init 180 = .ok (.if_icmp .ge 16, 3) := by decide +kernel
theorem dX6_init_183 : decode cX6_init 183 = .ok (.aload_n 0, 1) := by decide +kernel
theorem dX6_init_184 : decode cX6_init 184 = .ok (.getfield 64, 3) := by decide +kernel
theorem dX6_init_187 : decode cX6_init 187 = .ok (.iload_n 1, 1) := by decide +kernel
theorem dX6_init_188 : decode cX6_init 188 = .ok (.iconst (-1), 1) := by decide +kernel
theorem dX6_init_189 : decode cX6_init 189 = .ok (.iastore, 1) := by decide +kernel
theorem dX6_init_190 : decode cX6_init 190 = .ok (.iinc 1 1, 3) := by decide +kernel
theorem dX6_init_193 : decode cX6_init 193 = .ok (.goto (-15), 3) := by decide +kernel
theorem dX6_init_196 : decode cX6_init 196 = .ok (.return_, 1) := by decide +kernel
theorem dX6_in_0 : decode cX6_in 0 = .ok (.lload_n 0, 1) := by decide +kernel
theorem dX6_in_1 : decode cX6_in 1 = .ok (.lload_n 2, 1) := by decide +kernel
theorem dX6_in_2 : decode cX6_in 2 = .ok (.lcmp, 1) := by decide +kernel
theorem dX6_in_3 : decode cX6_in 3 = .ok (.ifCond .lt 14, 3) := by decide +kernel
theorem dX6_in_6 : decode cX6_in 6 = .ok (.lload_n 0, 1) := by decide +kernel
theorem dX6_in_7 : decode cX6_in 7 = .ok (.lload 4, 2) := by decide +kernel
theorem dX6_in_9 : decode cX6_in 9 = .ok (.lcmp, 1) := by decide +kernel
theorem dX6_in_10 : decode cX6_in 10 = .ok (.ifCond .gt 7, 3) := by decide +kernel
theorem dX6_in_13 : decode cX6_in 13 = .ok (.iconst 1, 1) := by decide +kernel
theorem dX6_in_14 : decode cX6_in 14 = .ok (.goto 4, 3) := by decide +kernel
theorem dX6_in_17 : decode cX6_in 17 = .ok (.iconst 0, 1) := by decide +kernel
theorem dX6_in_18 : decode cX6_in 18 = .ok (.ireturn, 1) := by decide +kernel
theorem dX6_lost_0 : decode cX6_lost 0 = .ok (.ldc2_w 76, 3) := by decide +kernel
theorem dX6_lost_3 : decode cX6_lost 3 = .ok (.lreturn, 1) := by decide +kernel
theorem dX6_isIn_0 : decode cX6_isIn 0 = .ok (.iload_n 0, 1) := by decide +kernel
theorem dX6_isIn_1 : decode cX6_isIn 1 = .ok (.iload_n 1, 1) := by decide +kernel
theorem dX6_isIn_2 : decode cX6_isIn 2 = .ok (.ishr, 1) := by decide +kernel
theorem dX6_isIn_3 : decode cX6_isIn 3 = .ok (.iconst 1, 1) := by decide +kernel
theorem dX6_isIn_4 : decode cX6_isIn 4 = .ok (.iand, 1) := by decide +kernel
theorem dX6_isIn_5 : decode cX6_isIn 5 = .ok (.iconst 1, 1) := by decide +kernel
theorem dX6_isIn_6 : decode cX6_isIn 6 = .ok (.if_icmp .ne 7, 3) := by decide +kernel
theorem dX6_isIn_9 : decode cX6_isIn 9 = .ok (.iconst 1, 1) := by decide +kernel
theorem dX6_isIn_10 : decode cX6_isIn 10 = .ok (.goto 4, 3) := by decide +kernel
theorem dX6_isIn_13 : decode cX6_isIn 13 = .ok (.iconst 0, 1) := by decide +kernel
theorem dX6_isIn_14 : decode cX6_isIn 14 = .ok (.ireturn, 1) := by decide +kernel
theorem dX6_share_0 : decode cX6_share 0 = .ok (.lload_n 0, 1) := by decide +kernel
theorem dX6_share_1 : decode cX6_share 1 = .ok (.lstore 5, 2) := by decide +kernel
theorem dX6_share_3 : decode cX6_share 3 = .ok (.lload_n 2, 1) := by decide +kernel
theorem dX6_share_4 : decode cX6_share 4 = .ok (.lstore 7, 2) := by decide +kernel
theorem dX6_share_6 : decode cX6_share 6 = .ok (.lload 7, 2) := by decide +kernel
theorem dX6_share_8 : decode cX6_share 8 = .ok (.lconst 0, 1) := by decide +kernel
theorem dX6_share_9 : decode cX6_share 9 = .ok (.lcmp, 1) := by decide +kernel
theorem dX6_share_10 : decode cX6_share 10 = .ok (.ifCond .eq 21, 3) := by decide +kernel
theorem dX6_share_13 : decode cX6_share 13 = .ok (.lload 5, 2) := by decide +kernel
theorem dX6_share_15 : decode cX6_share 15 = .ok (.lload 7, 2) := by decide +kernel
theorem dX6_share_17 : decode cX6_share 17 = .ok (.lrem, 1) := by decide +kernel
theorem dX6_share_18 : decode cX6_share 18 = .ok (.lstore 9, 2) := by decide +kernel
theorem dX6_share_20 : decode cX6_share 20 = .ok (.lload 7, 2) := by decide +kernel
theorem dX6_share_22 : decode cX6_share 22 = .ok (.lstore 5, 2) := by decide +kernel
theorem dX6_share_24 : decode cX6_share 24 = .ok (.lload 9, 2) := by decide +kernel
theorem dX6_share_26 : decode cX6_share 26 = .ok (.lstore 7, 2) := by decide +kernel
theorem dX6_share_28 : decode cX6_share 28 = .ok (.goto (-22), 3) := by decide +kernel
theorem dX6_share_31 : decode cX6_share 31 = .ok (.iload 4, 2) := by decide +kernel
theorem dX6_share_33 : decode cX6_share 33 = .ok (.ifCond .ne 7, 3) := by decide +kernel
theorem dX6_share_36 : decode cX6_share 36 = .ok (.lload_n 0, 1) := by decide +kernel
theorem dX6_share_37 : decode cX6_share 37 = .ok (.goto 4, 3) := by decide +kernel
theorem dX6_share_40 : decode cX6_share 40 = .ok (.lload_n 2, 1) := by decide +kernel
theorem dX6_share_41 : decode cX6_share 41 = .ok (.lload 5, 2) := by decide +kernel
theorem dX6_share_43 : decode cX6_share 43 = .ok (.ldiv, 1) := by decide +kernel
theorem dX6_share_44 : decode cX6_share 44 = .ok (.lreturn, 1) := by decide +kernel
theorem dX6_refused_0 : decode cX6_refused 0 = .ok (.aload_n 0, 1) := by decide +kernel
theorem dX6_refused_1 : decode cX6_refused 1 = .ok (.iconst 0, 1) := by decide +kernel
theorem dX6_refused_2 : decode cX6_refused 2 = .ok (.putfield 78, 3) := by decide +kernel
theorem dX6_refused_5 : decode cX6_refused 5 = .ok (.iload_n 1, 1) := by decide +kernel
theorem dX6_refused_6 : decode cX6_refused 6 = .ok (.ireturn, 1) := by decide +kernel
theorem dX6_failed_0 : decode cX6_failed 0 = .ok (.aload_n 0, 1) := by decide +kernel
theorem dX6_failed_1 : decode cX6_failed 1 = .ok (.iload_n 1, 1) := by decide +kernel
theorem dX6_failed_2 : decode cX6_failed 2 = .ok (.putfield 78, 3) := by decide +kernel
theorem dX6_failed_5 : decode cX6_failed 5 = .ok (.bipush (-10), 2) := by decide +kernel
theorem dX6_failed_7 : decode cX6_failed 7 = .ok (.iload_n 1, 1) := by decide +kernel
theorem dX6_failed_8 : decode cX6_failed 8 = .ok (.isub, 1) := by decide +kernel
theorem dX6_failed_9 : decode cX6_failed 9 = .ok (.ireturn, 1) := by decide +kernel
theorem dX6_failedLong_0 : decode cX6_failedLong 0 = .ok (.aload_n 0, 1) := by decide +kernel
theorem dX6_failedLong_1 : decode cX6_failedLong 1 = .ok (.iload_n 1, 1) := by decide +kernel
theorem dX6_failedLong_2 : decode cX6_failedLong 2 = .ok (.putfield 78, 3) := by decide +kernel
theorem dX6_failedLong_5 : decode cX6_failedLong 5 = .ok (.invokestatic 82, 3) := by decide +kernel
theorem dX6_failedLong_8 : decode cX6_failedLong 8 = .ok (.lreturn, 1) := by decide +kernel
theorem dX6_noSort_0 : decode cX6_noSort 0 = .ok (.iload_n 1, 1) := by decide +kernel
theorem dX6_noSort_1 : decode cX6_noSort 1 = .ok (.i2l, 1) := by decide +kernel
theorem dX6_noSort_2 : decode cX6_noSort 2 = .ok (.lconst 0, 1) := by decide +kernel
theorem dX6_noSort_3 : decode cX6_noSort 3 = .ok (.aload_n 0, 1) := by decide +kernel
theorem dX6_noSort_4 : decode cX6_noSort 4 = .ok (.getfield 86, 3) := by decide +kernel
theorem dX6_noSort_7 : decode cX6_noSort 7 = .ok (.i2l, 1) := by decide +kernel
theorem dX6_noSort_8 : decode cX6_noSort 8 = .ok (.lconst 1, 1) := by decide +kernel
theorem dX6_noSort_9 : decode cX6_noSort 9 = .ok (.lsub, 1) := by decide +kernel
theorem dX6_noSort_10 : decode cX6_noSort 10 = .ok (.invokestatic 89, 3) := by decide +kernel
theorem dX6_noSort_13 : decode cX6_noSort 13 = .ok (.ifCond .ne 7, 3) := by decide +kernel
theorem dX6_noSort_16 : decode cX6_noSort 16 = .ok (.iconst 1, 1) := by decide +kernel
theorem dX6_noSort_17 : decode cX6_noSort 17 = .ok (.goto 4, 3) := by decide +kernel
theorem dX6_noSort_20 : decode cX6_noSort 20 = .ok (.iconst 0, 1) := by decide +kernel
theorem dX6_noSort_21 : decode cX6_noSort 21 = .ok (.ireturn, 1) := by decide +kernel
theorem dX6_noSign_0 : decode cX6_noSign 0 = .ok (.iload_n 1, 1) := by decide +kernel
theorem dX6_noSign_1 : decode cX6_noSign 1 = .ok (.i2l, 1) := by decide +kernel
theorem dX6_noSign_2 : decode cX6_noSign 2 = .ok (.lconst 0, 1) := by decide +kernel
theorem dX6_noSign_3 : decode cX6_noSign 3 = .ok (.aload_n 0, 1) := by decide +kernel
theorem dX6_noSign_4 : decode cX6_noSign 4 = .ok (.getfield 93, 3) := by decide +kernel
theorem dX6_noSign_7 : decode cX6_noSign 7 = .ok (.i2l, 1) := by decide +kernel
theorem dX6_noSign_8 : decode cX6_noSign 8 = .ok (.lconst 1, 1) := by decide +kernel
theorem dX6_noSign_9 : decode cX6_noSign 9 = .ok (.lsub, 1) := by decide +kernel
theorem dX6_noSign_10 : decode cX6_noSign 10 = .ok (.invokestatic 89, 3) := by decide +kernel
theorem dX6_noSign_13 : decode cX6_noSign 13 = .ok (.ifCond .ne 7, 3) := by decide +kernel
theorem dX6_noSign_16 : decode cX6_noSign 16 = .ok (.iconst 1, 1) := by decide +kernel
theorem dX6_noSign_17 : decode cX6_noSign 17 = .ok (.goto 4, 3) := by decide +kernel
theorem dX6_noSign_20 : decode cX6_noSign 20 = .ok (.iconst 0, 1) := by decide +kernel
theorem dX6_noSign_21 : decode cX6_noSign 21 = .ok (.ireturn, 1) := by decide +kernel
theorem dX6_all_0 : decode cX6_all 0 = .ok (.iconst 1, 1) := by decide +kernel
theorem dX6_all_1 : decode cX6_all 1 = .ok (.aload_n 0, 1) := by decide +kernel
theorem dX6_all_2 : decode cX6_all 2 = .ok (.getfield 86, 3) := by decide +kernel
theorem dX6_all_5 : decode cX6_all 5 = .ok (.ishl, 1) := by decide +kernel
theorem dX6_all_6 : decode cX6_all 6 = .ok (.iconst 1, 1) := by decide +kernel
theorem dX6_all_7 : decode cX6_all 7 = .ok (.isub, 1) := by decide +kernel
theorem dX6_all_8 : decode cX6_all 8 = .ok (.ireturn, 1) := by decide +kernel
theorem dX6_codeAt_0 : decode cX6_codeAt 0 = .ok (.aload_n 0, 1) := by decide +kernel
theorem dX6_codeAt_1 : decode cX6_codeAt 1 = .ok (.getfield 96, 3) := by decide +kernel
theorem dX6_codeAt_4 : decode cX6_codeAt 4 = .ok (.iload_n 2, 1) := by decide +kernel
theorem dX6_codeAt_5 : decode cX6_codeAt 5 = .ok (.if_icmp .ge 17, 3) := by decide +kernel
theorem dX6_codeAt_8 : decode cX6_codeAt 8 = .ok (.aload_n 0, 1) := by decide +kernel
theorem dX6_codeAt_9 : decode cX6_codeAt 9 = .ok (.getfield 70, 3) := by decide +kernel
theorem dX6_codeAt_12 : decode cX6_codeAt 12 = .ok (.iload_n 1, 1) := by decide +kernel
theorem dX6_codeAt_13 : decode cX6_codeAt 13 = .ok (.aload_n 0, 1) := by decide +kernel
theorem dX6_codeAt_14 : decode cX6_codeAt 14 = .ok (.getfield 96, 3) := by decide +kernel
theorem dX6_codeAt_17 : decode cX6_codeAt 17 = .ok (.iadd, 1) := by decide +kernel
theorem dX6_codeAt_18 : decode cX6_codeAt 18 = .ok (.iaload, 1) := by decide +kernel
theorem dX6_codeAt_19 : decode cX6_codeAt 19 = .ok (.goto 5, 3) := by decide +kernel
theorem dX6_codeAt_22 : decode cX6_codeAt 22 = .ok (.bipush (-9), 2) := by decide +kernel
theorem dX6_codeAt_24 : decode cX6_codeAt 24 = .ok (.ireturn, 1) := by decide +kernel
theorem dX6_figure_0 : decode cX6_figure 0 = .ok (.aload_n 0, 1) := by decide +kernel
theorem dX6_figure_1 : decode cX6_figure 1 = .ok (.iload_n 1, 1) := by decide +kernel
theorem dX6_figure_2 : decode cX6_figure 2 = .ok (.iload_n 2, 1) := by decide +kernel
theorem dX6_figure_3 : decode cX6_figure 3 = .ok (.invokevirtual 99, 3) := by decide +kernel
theorem dX6_figure_6 : decode cX6_figure 6 = .ok (.bipush 48, 2) := by decide +kernel
theorem dX6_figure_8 : decode cX6_figure 8 = .ok (.isub, 1) := by decide +kernel
theorem dX6_figure_9 : decode cX6_figure 9 = .ok (.istore 5, 2) := by decide +kernel
theorem dX6_figure_11 : decode cX6_figure 11 = .ok (.iload 5, 2) := by decide +kernel
theorem dX6_figure_13 : decode cX6_figure 13 = .ok (.i2l, 1) := by decide +kernel
theorem dX6_figure_14 : decode cX6_figure 14 = .ok (.iload_n 3, 1) := by decide +kernel
theorem dX6_figure_15 : decode cX6_figure 15 = .ok (.i2l, 1) := by decide +kernel
theorem dX6_figure_16 : decode cX6_figure 16 = .ok (.iload 4, 2) := by decide +kernel
theorem dX6_figure_18 : decode cX6_figure 18 = .ok (.i2l, 1) := by decide +kernel
theorem dX6_figure_19 : decode cX6_figure 19 = .ok (.invokestatic 89, 3) := by decide +kernel
theorem dX6_figure_22 : decode cX6_figure 22 = .ok (.istore 6, 2) := by decide +kernel
theorem dX6_figure_24 : decode cX6_figure 24 = .ok (.aload_n 0, 1) := by decide +kernel
theorem dX6_figure_25 : decode cX6_figure 25 = .ok (.dup, 1) := by decide +kernel
theorem dX6_figure_26 : decode cX6_figure 26 = .ok (.getfield 96, 3) := by decide +kernel
theorem dX6_figure_29 : decode cX6_figure 29 = .ok (.iload 6, 2) := by decide +kernel
theorem dX6_figure_31 : decode cX6_figure 31 = .ok (.ifCond .eq 7, 3) := by decide +kernel
theorem dX6_figure_34 : decode cX6_figure 34 = .ok (.iconst 1, 1) := by decide +kernel
theorem dX6_figure_35 : decode cX6_figure 35 = .ok (.goto 4, 3) := by decide +kernel
theorem dX6_figure_38 : decode cX6_figure 38 = .ok (.iconst 0, 1) := by decide +kernel
theorem dX6_figure_39 : decode cX6_figure 39 = .ok (.iadd, 1) := by decide +kernel
theorem dX6_figure_40 : decode cX6_figure 40 = .ok (.putfield 96, 3) := by decide +kernel
theorem dX6_figure_43 : decode cX6_figure 43 = .ok (.iload 6, 2) := by decide +kernel
theorem dX6_figure_45 : decode cX6_figure 45 = .ok (.ifCond .eq 8, 3) := by decide +kernel
theorem dX6_figure_48 : decode cX6_figure 48 = .ok (.iload 5, 2) := by decide +kernel
theorem dX6_figure_50 : decode cX6_figure 50 = .ok (.goto 5, 3) := by decide +kernel
theorem dX6_figure_53 : decode cX6_figure 53 = .ok (.bipush (-9), 2) := by decide +kernel
theorem dX6_figure_55 : decode cX6_figure 55 = .ok (.ireturn, 1) := by decide +kernel
theorem dX6_readsSort_0 : decode cX6_readsSort 0 = .ok (.aload_n 0, 1) := by decide +kernel
theorem dX6_readsSort_1 : decode cX6_readsSort 1 = .ok (.getfield 103, 3) := by decide +kernel
theorem dX6_readsSort_4 : decode cX6_readsSort 4 = .ok (.bipush 6, 2) := by decide +kernel
theorem dX6_readsSort_6 : decode cX6_readsSort 6 = .ok (.if_icmp .eq 14, 3) := by decide +kernel
theorem dX6_readsSort_9 : decode cX6_readsSort 9 = .ok (.aload_n 0, 1) := by decide +kernel
theorem dX6_readsSort_10 : decode cX6_readsSort 10 = .ok (.iload_n 1, 1) := by decide +kernel
theorem dX6_readsSort_11 : decode cX6_readsSort 11 = .ok (.iload_n 2, 1) := by decide +kernel
theorem dX6_readsSort_12 : decode cX6_readsSort 12 = .ok (.invokevirtual 99, 3) := by decide +kernel
theorem dX6_readsSort_15 : decode cX6_readsSort 15 = .ok (.bipush 59, 2) := by decide +kernel
theorem dX6_readsSort_17 : decode cX6_readsSort 17 = .ok (.if_icmp .eq 5, 3) := by decide +kernel
theorem dX6_readsSort_20 : decode cX6_readsSort 20 = .ok (.iconst 0, 1) := by decide +kernel
theorem dX6_readsSort_21 : decode cX6_readsSort 21 = .ok (.ireturn, 1) := by decide +kernel
theorem dX6_readsSort_22 : decode cX6_readsSort 22 = .ok (.aload_n 0, 1) := by decide +kernel
theorem dX6_readsSort_23 : decode cX6_readsSort 23 = .ok (.dup, 1) := by decide +kernel
theorem dX6_readsSort_24 : decode cX6_readsSort 24 = .ok (.getfield 96, 3) := by decide +kernel
theorem dX6_readsSort_27 : decode cX6_readsSort 27 = .ok (.iconst 1, 1) := by decide +kernel
theorem dX6_readsSort_28 : decode cX6_readsSort 28 = .ok (.iadd, 1) := by decide +kernel
theorem dX6_readsSort_29 : decode cX6_readsSort 29 = .ok (.putfield 96, 3) := by decide +kernel
theorem dX6_readsSort_32 : decode cX6_readsSort 32 = .ok (.aload_n 0, 1) := by decide +kernel
theorem dX6_readsSort_33 : decode cX6_readsSort 33 = .ok (.iload_n 1, 1) := by decide +kernel
theorem dX6_readsSort_34 : decode cX6_readsSort 34 = .ok (.iload_n 2, 1) := by decide +kernel
theorem dX6_readsSort_35 : decode cX6_readsSort 35 = .ok (.invokevirtual 99, 3) := by decide +kernel
theorem dX6_readsSort_38 : decode cX6_readsSort 38 = .ok (.istore_n 3, 1) := by decide +kernel
theorem dX6_readsSort_39 : decode cX6_readsSort 39 = .ok (.iload_n 3, 1) := by decide +kernel
theorem dX6_readsSort_40 : decode cX6_readsSort 40 = .ok (.bipush 112, 2) := by decide +kernel
theorem dX6_readsSort_42 : decode cX6_readsSort 42 = .ok (.if_icmp .eq 17, 3) := by decide +kernel
theorem dX6_readsSort_45 : decode cX6_readsSort 45 = .ok (.iload_n 3, 1) := by decide +kernel
theorem dX6_readsSort_46 : decode cX6_readsSort 46 = .ok (.bipush 115, 2) := by decide +kernel
theorem dX6_readsSort_48 : decode cX6_readsSort 48 = .ok (.if_icmp .eq 11, 3) := by decide +kernel
theorem dX6_readsSort_51 : decode cX6_readsSort 51 = .ok (.iload_n 3, 1) := by decide +kernel
theorem dX6_readsSort_52 : decode cX6_readsSort 52 = .ok (.bipush 100, 2) := by decide +kernel
theorem dX6_readsSort_54 : decode cX6_readsSort 54 = .ok (.if_icmp .eq 5, 3) := by decide +kernel
theorem dX6_readsSort_57 : decode cX6_readsSort 57 = .ok (.iconst 0, 1) := by decide +kernel
theorem dX6_readsSort_58 : decode cX6_readsSort 58 = .ok (.ireturn, 1) := by decide +kernel
theorem dX6_readsSort_59 : decode cX6_readsSort 59 = .ok (.aload_n 0, 1) := by decide +kernel
theorem dX6_readsSort_60 : decode cX6_readsSort 60 = .ok (.dup, 1) := by decide +kernel
theorem dX6_readsSort_61 : decode cX6_readsSort 61 = .ok (.getfield 96, 3) := by decide +kernel
theorem dX6_readsSort_64 : decode cX6_readsSort 64 = .ok (.iconst 1, 1) := by decide +kernel
theorem dX6_readsSort_65 : decode cX6_readsSort 65 = .ok (.iadd, 1) := by decide +kernel
theorem dX6_readsSort_66 : decode cX6_readsSort 66 = .ok (.putfield 96, 3) := by decide +kernel
theorem dX6_readsSort_69 : decode cX6_readsSort 69 = .ok (.aload_n 0, 1) := by decide +kernel
theorem dX6_readsSort_70 : decode cX6_readsSort 70 = .ok (.iload_n 1, 1) := by decide +kernel
theorem dX6_readsSort_71 : decode cX6_readsSort 71 = .ok (.iload_n 2, 1) := by decide +kernel
theorem dX6_readsSort_72 : decode cX6_readsSort 72 = .ok (.iconst 0, 1) := by decide +kernel
theorem dX6_readsSort_73 : decode cX6_readsSort 73 = .ok (.bipush 9, 2) := by decide +kernel
theorem dX6_readsSort_75 : decode cX6_readsSort 75 = .ok (.invokevirtual 106, 3) := by decide +kernel
theorem dX6_readsSort_78 : decode cX6_readsSort 78 = .ok (.istore 4, 2) := by decide +kernel
theorem dX6_readsSort_80 : decode cX6_readsSort 80 = .ok (.iload 4, 2) := by decide +kernel
theorem dX6_readsSort_82 : decode cX6_readsSort 82 = .ok (.ifCond .ge 8, 3) := by decide +kernel
theorem dX6_readsSort_85 : decode cX6_readsSort 85 = .ok (.bipush (-9), 2) := by decide +kernel
theorem dX6_readsSort_87 : decode cX6_readsSort 87 = .ok (.goto 12, 3) := by decide +kernel
theorem dX6_readsSort_90 : decode cX6_readsSort 90 = .ok (.aload_n 0, 1) := by decide +kernel
theorem dX6_readsSort_91 : decode cX6_readsSort 91 = .ok (.iload_n 1, 1) := by decide +kernel
theorem dX6_readsSort_92 : decode cX6_readsSort 92 = .ok (.iload_n 2, 1) := by decide +kernel
theorem dX6_readsSort_93 : decode cX6_readsSort 93 = .ok (.iconst 1, 1) := by decide +kernel
theorem dX6_readsSort_94 : decode cX6_readsSort 94 = .ok (.bipush 9, 2) := by decide +kernel
theorem dX6_readsSort_96 : decode cX6_readsSort 96 = .ok (.invokevirtual 106, 3) := by decide +kernel
theorem dX6_readsSort_99 : decode cX6_readsSort 99 = .ok (.istore 5, 2) := by decide +kernel
theorem dX6_readsSort_101 : decode cX6_readsSort 101 = .ok (.iload 5, 2) := by decide +kernel
theorem dX6_readsSort_103 : decode cX6_readsSort 103 = .ok (.ifCond .ge 8, 3) := by decide +kernel
theorem dX6_readsSort_106 : decode cX6_readsSort 106 = .ok (.bipush (-9), 2) := by decide +kernel
theorem dX6_readsSort_108 : decode cX6_readsSort 108 = .ok (.goto 11, 3) := by decide +kernel
theorem dX6_readsSort_111 : decode cX6_readsSort 111 = .ok (.aload_n 0, 1) := by decide +kernel
theorem dX6_readsSort_112 : decode cX6_readsSort 112 = .ok (.iload_n 1, 1) := by decide +kernel
theorem dX6_readsSort_113 : decode cX6_readsSort 113 = .ok (.iload_n 2, 1) := by decide +kernel
theorem dX6_readsSort_114 : decode cX6_readsSort 114 = .ok (.iconst 0, 1) := by decide +kernel
theorem dX6_readsSort_115 : decode cX6_readsSort 115 = .ok (.iconst 5, 1) := by decide +kernel
theorem dX6_readsSort_116 : decode cX6_readsSort 116 = .ok (.invokevirtual 106, 3) := by decide +kernel
theorem dX6_readsSort_119 : decode cX6_readsSort 119 = .ok (.istore 6, 2) := by decide +kernel
theorem dX6_readsSort_121 : decode cX6_readsSort 121 = .ok (.iload 6, 2) := by decide +kernel
theorem dX6_readsSort_123 : decode cX6_readsSort 123 = .ok (.ifCond .ge 5, 3) := by decide +kernel
theorem dX6_readsSort_126 : decode cX6_readsSort 126 = .ok (.iconst 0, 1) := by decide +kernel
theorem dX6_readsSort_127 : decode cX6_readsSort 127 = .ok (.ireturn, 1) := by decide +kernel
theorem dX6_readsSort_128 : decode cX6_readsSort 128 = .ok (.aload_n 0, 1) := by decide +kernel
theorem dX6_readsSort_129 : decode cX6_readsSort 129 = .ok (.getfield 25, 3) := by decide +kernel
theorem dX6_readsSort_132 : decode cX6_readsSort 132 = .ok (.aload_n 0, 1) := by decide +kernel
theorem dX6_readsSort_133 : decode cX6_readsSort 133 = .ok (.getfield 103, 3) := by decide +kernel
theorem dX6_readsSort_136 : decode cX6_readsSort 136 = .ok (.iload_n 3, 1) := by decide +kernel
theorem dX6_readsSort_137 : decode cX6_readsSort 137 = .ok (.bipush 112, 2) := by decide +kernel
theorem dX6_readsSort_139 : decode cX6_readsSort 139 = .ok (.if_icmp .ne 7, 3) := by decide +kernel
theorem dX6_readsSort_142 : decode cX6_readsSort 142 = .ok (.iconst 0, 1) := by decide +kernel
theorem dX6_readsSort_143 : decode cX6_readsSort 143 = .ok (.goto 14, 3) := by decide +kernel
theorem dX6_readsSort_146 : decode cX6_readsSort 146 = .ok (.iload_n 3, 1) := by decide +kernel
theorem dX6_readsSort_147 : decode cX6_readsSort 147 = .ok (.bipush 115, 2) := by decide +kernel
theorem dX6_readsSort_149 : decode cX6_readsSort 149 = .ok (.if_icmp .ne 7, 3) := by decide +kernel
theorem dX6_readsSort_152 : decode cX6_readsSort 152 = .ok (.iconst 1, 1) := by decide +kernel
theorem dX6_readsSort_153 : decode cX6_readsSort 153 = .ok (.goto 4, 3) := by decide +kernel
theorem dX6_readsSort_156 : decode cX6_readsSort 156 = .ok (.iconst 2, 1) := by decide +kernel
theorem dX6_readsSort_157 : decode cX6_readsSort 157 = .ok (.iastore, 1) := by decide +kernel
theorem dX6_readsSort_158 : decode cX6_readsSort 158 = .ok (.aload_n 0, 1) := by decide +kernel
theorem dX6_readsSort_159 : decode cX6_readsSort 159 = .ok (.getfield 28, 3) := by decide +kernel
theorem dX6_readsSort_162 : decode cX6_readsSort 162 = .ok (.aload_n 0, 1) := by decide +kernel
theorem dX6_readsSort_163 : decode cX6_readsSort 163 = .ok (.getfield 103, 3) := by decide +kernel
theorem dX6_readsSort_166 : decode cX6_readsSort 166 = .ok (.iload 4, 2) := by decide +kernel
theorem dX6_readsSort_168 : decode cX6_readsSort 168 = .ok (.iastore, 1) := by decide +kernel
theorem dX6_readsSort_169 : decode cX6_readsSort 169 = .ok (.aload_n 0, 1) := by decide +kernel
theorem dX6_readsSort_170 : decode cX6_readsSort 170 = .ok (.getfield 31, 3) := by decide +kernel
theorem dX6_readsSort_173 : decode cX6_readsSort 173 = .ok (.aload_n 0, 1) := by decide +kernel
theorem dX6_readsSort_174 : decode cX6_readsSort 174 = .ok (.getfield 103, 3) := by decide +kernel
theorem dX6_readsSort_177 : decode cX6_readsSort 177 = .ok (.iload 5, 2) := by decide +kernel
theorem dX6_readsSort_179 : decode cX6_readsSort 179 = .ok (.iastore, 1) := by decide +kernel
theorem dX6_readsSort_180 : decode cX6_readsSort 180 = .ok (.aload_n 0, 1) := by decide +kernel
theorem dX6_readsSort_181 : decode cX6_readsSort 181 = .ok (.getfield 34, 3) := by decide +kernel
theorem dX6_readsSort_184 : decode cX6_readsSort 184 = .ok (.aload_n 0, 1) := by decide +kernel
theorem dX6_readsSort_185 : decode cX6_readsSort 185 = .ok (.getfield 103, 3) := by decide +kernel
theorem dX6_readsSort_188 : decode cX6_readsSort 188 = .ok (.iload 6, 2) := by decide +kernel
theorem dX6_readsSort_190 : decode cX6_readsSort 190 = .ok (.iastore, 1) := by decide +kernel
theorem dX6_readsSort_191 : decode cX6_readsSort 191 = .ok (.aload_n 0, 1) := by decide +kernel
theorem dX6_readsSort_192 : decode cX6_readsSort 192 = .ok (.dup, 1) := by decide +kernel
theorem dX6_readsSort_193 : decode cX6_readsSort 193 = .ok (.getfield 103, 3) := by decide +kernel
theorem dX6_readsSort_196 : decode cX6_readsSort 196 = .ok (.iconst 1, 1) := by decide +kernel
theorem dX6_readsSort_197 : decode cX6_readsSort 197 = .ok (.iadd, 1) := by decide +kernel
theorem dX6_readsSort_198 : decode cX6_readsSort 198 = .ok (.putfield 103, 3) := by decide +kernel
theorem dX6_readsSort_201 : decode cX6_readsSort 201 = .ok (.iconst 1, 1) := by decide +kernel
theorem dX6_readsSort_202 : decode cX6_readsSort 202 = .ok (.ireturn, 1) := by decide +kernel
theorem dX6_readsSign_0 : decode cX6_readsSign 0 = .ok (.aload_n 0, 1) := by decide +kernel
theorem dX6_readsSign_1 : decode cX6_readsSign 1 = .ok (.getfield 110, 3) := by decide +kernel
theorem dX6_readsSign_4 : decode cX6_readsSign 4 = .ok (.iconst 5, 1) := by decide +kernel
theorem dX6_readsSign_5 : decode cX6_readsSign 5 = .ok (.if_icmp .eq 14, 3) := by decide +kernel
theorem dX6_readsSign_8 : decode cX6_readsSign 8 = .ok (.aload_n 0, 1) := by decide +kernel
theorem dX6_readsSign_9 : decode cX6_readsSign 9 = .ok (.iload_n 1, 1) := by decide +kernel
theorem dX6_readsSign_10 : decode cX6_readsSign 10 = .ok (.iload_n 2, 1) := by decide +kernel
theorem dX6_readsSign_11 : decode cX6_readsSign 11 = .ok (.invokevirtual 99, 3) := by decide +kernel
theorem dX6_readsSign_14 : decode cX6_readsSign 14 = .ok (.bipush 47, 2) := by decide +kernel
theorem dX6_readsSign_16 : decode cX6_readsSign 16 = .ok (.if_icmp .eq 5, 3) := by decide +kernel
theorem dX6_readsSign_19 : decode cX6_readsSign 19 = .ok (.iconst 0, 1) := by decide +kernel
theorem dX6_readsSign_20 : decode cX6_readsSign 20 = .ok (.ireturn, 1) := by decide +kernel
theorem dX6_readsSign_21 : decode cX6_readsSign 21 = .ok (.aload_n 0, 1) := by decide +kernel
theorem dX6_readsSign_22 : decode cX6_readsSign 22 = .ok (.dup, 1) := by decide +kernel
theorem dX6_readsSign_23 : decode cX6_readsSign 23 = .ok (.getfield 96, 3) := by decide +kernel
theorem dX6_readsSign_26 : decode cX6_readsSign 26 = .ok (.iconst 1, 1) := by decide +kernel
theorem dX6_readsSign_27 : decode cX6_readsSign 27 = .ok (.iadd, 1) := by decide +kernel
theorem dX6_readsSign_28 : decode cX6_readsSign 28 = .ok (.putfield 96, 3) := by decide +kernel
theorem dX6_readsSign_31 : decode cX6_readsSign 31 = .ok (.aload_n 0, 1) := by decide +kernel
theorem dX6_readsSign_32 : decode cX6_readsSign 32 = .ok (.iload_n 1, 1) := by decide +kernel
theorem dX6_readsSign_33 : decode cX6_readsSign 33 = .ok (.iload_n 2, 1) := by decide +kernel
theorem dX6_readsSign_34 : decode cX6_readsSign 34 = .ok (.iconst 0, 1) := by decide +kernel
theorem dX6_readsSign_35 : decode cX6_readsSign 35 = .ok (.bipush 6, 2) := by decide +kernel
theorem dX6_readsSign_37 : decode cX6_readsSign 37 = .ok (.invokevirtual 106, 3) := by decide +kernel
theorem dX6_readsSign_40 : decode cX6_readsSign 40 = .ok (.istore_n 3, 1) := by decide +kernel
theorem dX6_readsSign_41 : decode cX6_readsSign 41 = .ok (.iload_n 3, 1) := by decide +kernel
theorem dX6_readsSign_42 : decode cX6_readsSign 42 = .ok (.ifCond .ge 8, 3) := by decide +kernel
theorem dX6_readsSign_45 : decode cX6_readsSign 45 = .ok (.bipush (-9), 2) := by decide +kernel
theorem dX6_readsSign_47 : decode cX6_readsSign 47 = .ok (.goto 22, 3) := by decide +kernel
theorem dX6_readsSign_50 : decode cX6_readsSign 50 = .ok (.aload_n 0, 1) := by decide +kernel
theorem dX6_readsSign_51 : decode cX6_readsSign 51 = .ok (.iload_n 1, 1) := by decide +kernel
theorem dX6_readsSign_52 : decode cX6_readsSign 52 = .ok (.iload_n 2, 1) := by decide +kernel
theorem dX6_readsSign_53 : decode cX6_readsSign 53 = .ok (.iconst 0, 1) := by decide +kernel
theorem dX6_readsSign_54 : decode cX6_readsSign 54 = .ok (.iload_n 3, 1) := by decide +kernel
theorem dX6_readsSign_55 : decode cX6_readsSign 55 = .ok (.bipush 6, 2) := by decide +kernel
theorem dX6_readsSign_57 : decode cX6_readsSign 57 = .ok (.if_icmp .ne 7, 3) := by decide +kernel
theorem dX6_readsSign_60 : decode cX6_readsSign 60 = .ok (.iconst 3, 1) := by decide +kernel
theorem dX6_readsSign_61 : decode cX6_readsSign 61 = .ok (.goto 5, 3) := by decide +kernel
theorem dX6_readsSign_64 : decode cX6_readsSign 64 = .ok (.bipush 9, 2) := by decide +kernel
theorem dX6_readsSign_66 : decode cX6_readsSign 66 = .ok (.invokevirtual 106, 3) := by decide +kernel
theorem dX6_readsSign_69 : decode cX6_readsSign 69 = .ok (.istore 4, 2) := by decide +kernel
theorem dX6_readsSign_71 : decode cX6_readsSign 71 = .ok (.iload 4, 2) := by decide +kernel
theorem dX6_readsSign_73 : decode cX6_readsSign 73 = .ok (.ifCond .ge 5, 3) := by decide +kernel
theorem dX6_readsSign_76 : decode cX6_readsSign 76 = .ok (.iconst 0, 1) := by decide +kernel
theorem dX6_readsSign_77 : decode cX6_readsSign 77 = .ok (.ireturn, 1) := by decide +kernel
theorem dX6_readsSign_78 : decode cX6_readsSign 78 = .ok (.aload_n 0, 1) := by decide +kernel
theorem dX6_readsSign_79 : decode cX6_readsSign 79 = .ok (.getfield 37, 3) := by decide +kernel
theorem dX6_readsSign_82 : decode cX6_readsSign 82 = .ok (.aload_n 0, 1) := by decide +kernel
theorem dX6_readsSign_83 : decode cX6_readsSign 83 = .ok (.getfield 110, 3) := by decide +kernel
theorem dX6_readsSign_86 : decode cX6_readsSign 86 = .ok (.bipush 10, 2) := by decide +kernel
theorem dX6_readsSign_88 : decode cX6_readsSign 88 = .ok (.iload_n 3, 1) := by decide +kernel
theorem dX6_readsSign_89 : decode cX6_readsSign 89 = .ok (.imul, 1) := by decide +kernel
theorem dX6_readsSign_90 : decode cX6_readsSign 90 = .ok (.iload 4, 2) := by decide +kernel
theorem dX6_readsSign_92 : decode cX6_readsSign 92 = .ok (.iadd, 1) := by decide +kernel
theorem dX6_readsSign_93 : decode cX6_readsSign 93 = .ok (.iastore, 1) := by decide +kernel
theorem dX6_readsSign_94 : decode cX6_readsSign 94 = .ok (.aload_n 0, 1) := by decide +kernel
theorem dX6_readsSign_95 : decode cX6_readsSign 95 = .ok (.dup, 1) := by decide +kernel
theorem dX6_readsSign_96 : decode cX6_readsSign 96 = .ok (.getfield 110, 3) := by decide +kernel
theorem dX6_readsSign_99 : decode cX6_readsSign 99 = .ok (.iconst 1, 1) := by decide +kernel
theorem dX6_readsSign_100 : decode cX6_readsSign 100 = .ok (.iadd, 1) := by decide +kernel
theorem dX6_readsSign_101 : decode cX6_readsSign 101 = .ok (.putfield 110, 3) := by decide +kernel
theorem dX6_readsSign_104 : decode cX6_readsSign 104 = .ok (.iconst 1, 1) := by decide +kernel
theorem dX6_readsSign_105 : decode cX6_readsSign 105 = .ok (.ireturn, 1) := by decide +kernel
theorem dX6_readsFloor_0 : decode cX6_readsFloor 0 = .ok (.aload_n 0, 1) := by decide +kernel
theorem dX6_readsFloor_1 : decode cX6_readsFloor 1 = .ok (.iconst 0, 1) := by decide +kernel
theorem dX6_readsFloor_2 : decode cX6_readsFloor 2 = .ok (.putfield 96, 3) := by decide +kernel
theorem dX6_readsFloor_5 : decode cX6_readsFloor 5 = .ok (.aload_n 0, 1) := by decide +kernel
theorem dX6_readsFloor_6 : decode cX6_readsFloor 6 = .ok (.iconst 0, 1) := by decide +kernel
theorem dX6_readsFloor_7 : decode cX6_readsFloor 7 = .ok (.putfield 103, 3) := by decide +kernel
theorem dX6_readsFloor_10 : decode cX6_readsFloor 10 = .ok (.aload_n 0, 1) := by decide +kernel
theorem dX6_readsFloor_11 : decode cX6_readsFloor 11 = .ok (.iconst 0, 1) := by decide +kernel
theorem dX6_readsFloor_12 : decode cX6_readsFloor 12 = .ok (.putfield 110, 3) := by decide +kernel
theorem dX6_readsFloor_15 : decode cX6_readsFloor 15 = .ok (.aload_n 0, 1) := by decide +kernel
theorem dX6_readsFloor_16 : decode cX6_readsFloor 16 = .ok (.iload_n 1, 1) := by decide +kernel
theorem dX6_readsFloor_17 : decode cX6_readsFloor 17 = .ok (.iload_n 2, 1) := by decide +kernel
theorem dX6_readsFloor_18 : decode cX6_readsFloor 18 = .ok (.invokevirtual 99, 3) := by decide +kernel
theorem dX6_readsFloor_21 : decode cX6_readsFloor 21 = .ok (.bipush 116, 2) := by decide +kernel
theorem dX6_readsFloor_23 : decode cX6_readsFloor 23 = .ok (.if_icmp .ne 7, 3) := by decide +kernel
theorem dX6_readsFloor_26 : decode cX6_readsFloor 26 = .ok (.iconst 1, 1) := by decide +kernel
theorem dX6_readsFloor_27 : decode cX6_readsFloor 27 = .ok (.goto 4, 3) := by decide +kernel
theorem dX6_readsFloor_30 : decode cX6_readsFloor 30 = .ok (.iconst 0, 1) := by decide +kernel
theorem dX6_readsFloor_31 : decode cX6_readsFloor 31 = .ok (.istore_n 3, 1) := by decide +kernel
theorem dX6_readsFloor_32 : decode cX6_readsFloor 32 = .ok (.aload_n 0, 1) := by decide +kernel
theorem dX6_readsFloor_33 : decode cX6_readsFloor 33 = .ok (.dup, 1) := by decide +kernel
theorem dX6_readsFloor_34 : decode cX6_readsFloor 34 = .ok (.getfield 96, 3) := by decide +kernel
theorem dX6_readsFloor_37 : decode cX6_readsFloor 37 = .ok (.iload_n 3, 1) := by decide +kernel
theorem dX6_readsFloor_38 : decode cX6_readsFloor 38 = .ok (.ifCond .eq 7, 3) := by decide +kernel
theorem dX6_readsFloor_41 : decode cX6_readsFloor 41 = .ok (.iconst 1, 1) := by decide +kernel
theorem dX6_readsFloor_42 : decode cX6_readsFloor 42 = .ok (.goto 4, 3) := by decide +kernel
theorem dX6_readsFloor_45 : decode cX6_readsFloor 45 = .ok (.iconst 0, 1) := by decide +kernel
theorem dX6_readsFloor_46 : decode cX6_readsFloor 46 = .ok (.iadd, 1) := by decide +kernel
theorem dX6_readsFloor_47 : decode cX6_readsFloor 47 = .ok (.putfield 96, 3) := by decide +kernel
theorem dX6_readsFloor_50 : decode cX6_readsFloor 50 = .ok (.iload_n 3, 1) := by decide +kernel
theorem dX6_readsFloor_51 : decode cX6_readsFloor 51 = .ok (.ifCond .eq 32, 3) := by decide +kernel
theorem dX6_readsFloor_54 : decode cX6_readsFloor 54 = .ok (.aload_n 0, 1) := by decide +kernel
theorem dX6_readsFloor_55 : decode cX6_readsFloor 55 = .ok (.getfield 103, 3) := by decide +kernel
theorem dX6_readsFloor_58 : decode cX6_readsFloor 58 = .ok (.iconst 2, 1) := by decide +kernel
theorem dX6_readsFloor_59 : decode cX6_readsFloor 59 = .ok (.if_icmp .lt 14, 3) := by decide +kernel
theorem dX6_readsFloor_62 : decode cX6_readsFloor 62 = .ok (.aload_n 0, 1) := by decide +kernel
theorem dX6_readsFloor_63 : decode cX6_readsFloor 63 = .ok (.iload_n 1, 1) := by decide +kernel
theorem dX6_readsFloor_64 : decode cX6_readsFloor 64 = .ok (.iload_n 2, 1) := by decide +kernel
theorem dX6_readsFloor_65 : decode cX6_readsFloor 65 = .ok (.invokevirtual 99, 3) := by decide +kernel
theorem dX6_readsFloor_68 : decode cX6_readsFloor 68 = .ok (.bipush 59, 2) := by decide +kernel
theorem dX6_readsFloor_70 : decode cX6_readsFloor 70 = .ok (.if_icmp .ne 13, 3) := by decide +kernel
theorem dX6_readsFloor_73 : decode cX6_readsFloor 73 = .ok (.aload_n 0, 1) := by decide +kernel
theorem dX6_readsFloor_74 : decode cX6_readsFloor 74 = .ok (.iload_n 1, 1) := by decide +kernel
theorem dX6_readsFloor_75 : decode cX6_readsFloor 75 = .ok (.iload_n 2, 1) := by decide +kernel
theorem dX6_readsFloor_76 : decode cX6_readsFloor 76 = .ok (.invokevirtual 113, 3) := by decide +kernel
theorem dX6_readsFloor_79 : decode cX6_readsFloor 79 = .ok (.istore_n 3, 1) := by decide +kernel
theorem dX6_readsFloor_80 : decode cX6_readsFloor 80 = .ok (.goto (-30), 3) := by decide +kernel
theorem dX6_readsFloor_83 : decode cX6_readsFloor 83 = .ok (.iload_n 3, 1) := by decide +kernel
theorem dX6_readsFloor_84 : decode cX6_readsFloor 84 = .ok (.ifCond .eq 28, 3) := by decide +kernel
theorem dX6_readsFloor_87 : decode cX6_readsFloor 87 = .ok (.aload_n 0, 1) := by decide +kernel
theorem dX6_readsFloor_88 : decode cX6_readsFloor 88 = .ok (.getfield 110, 3) := by decide +kernel
theorem dX6_readsFloor_91 : decode cX6_readsFloor 91 = .ok (.ifCond .eq 11, 3) := by decide +kernel
theorem dX6_readsFloor_94 : decode cX6_readsFloor 94 = .ok (.aload_n 0, 1) := by decide +kernel
theorem dX6_readsFloor_95 : decode cX6_readsFloor 95 = .ok (.getfield 96, 3) := by decide +kernel
theorem dX6_readsFloor_98 : decode cX6_readsFloor 98 = .ok (.iload_n 2, 1) := by decide +kernel
theorem dX6_readsFloor_99 : decode cX6_readsFloor 99 = .ok (.if_icmp .ge 13, 3) := by decide +kernel
theorem dX6_readsFloor_102 : decode cX6_readsFloor 102 = .ok (.aload_n 0, 1) := by decide +kernel
theorem dX6_readsFloor_103 : decode cX6_readsFloor 103 = .ok (.iload_n 1, 1) := by decide +kernel
theorem dX6_readsFloor_104 : decode cX6_readsFloor 104 = .ok (.iload_n 2, 1) := by decide +kernel
theorem dX6_readsFloor_105 : decode cX6_readsFloor 105 = .ok (.invokevirtual 117, 3) := by decide +kernel
theorem dX6_readsFloor_108 : decode cX6_readsFloor 108 = .ok (.istore_n 3, 1) := by decide +kernel
theorem dX6_readsFloor_109 : decode cX6_readsFloor 109 = .ok (.goto (-26), 3) := by decide +kernel
theorem dX6_readsFloor_112 : decode cX6_readsFloor 112 = .ok (.iload_n 3, 1) := by decide +kernel
theorem dX6_readsFloor_113 : decode cX6_readsFloor 113 = .ok (.ireturn, 1) := by decide +kernel
theorem dX6_cellsBarred_0 : decode cX6_cellsBarred 0 = .ok (.aload_n 0, 1) := by decide +kernel
theorem dX6_cellsBarred_1 : decode cX6_cellsBarred 1 = .ok (.getfield 64, 3) := by decide +kernel
theorem dX6_cellsBarred_4 : decode cX6_cellsBarred 4 = .ok (.iload_n 1, 1) := by decide +kernel
theorem dX6_cellsBarred_5 : decode cX6_cellsBarred 5 = .ok (.iaload, 1) := by decide +kernel
theorem dX6_cellsBarred_6 : decode cX6_cellsBarred 6 = .ok (.ifCond .lt 19, 3) := by decide +kernel
theorem dX6_cellsBarred_9 : decode cX6_cellsBarred 9 = .ok (.aload_n 0, 1) := by decide +kernel
theorem dX6_cellsBarred_10 : decode cX6_cellsBarred 10 = .ok (.getfield 67, 3) := by decide +kernel
theorem dX6_cellsBarred_13 : decode cX6_cellsBarred 13 = .ok (.iload_n 1, 1) := by decide +kernel
theorem dX6_cellsBarred_14 : decode cX6_cellsBarred 14 = .ok (.iaload, 1) := by decide +kernel
theorem dX6_cellsBarred_15 : decode cX6_cellsBarred 15 = .ok (.iload_n 2, 1) := by decide +kernel
theorem dX6_cellsBarred_16 : decode cX6_cellsBarred 16 = .ok (.if_icmp .eq 9, 3) := by decide +kernel
theorem dX6_cellsBarred_19 : decode cX6_cellsBarred 19 = .ok (.aload_n 0, 1) := by decide +kernel
theorem dX6_cellsBarred_20 : decode cX6_cellsBarred 20 = .ok (.iconst 2, 1) := by decide +kernel
theorem dX6_cellsBarred_21 : decode cX6_cellsBarred 21 = .ok (.invokevirtual 120, 3) := by decide +kernel
theorem dX6_cellsBarred_24 : decode cX6_cellsBarred 24 = .ok (.ireturn, 1) := by decide +kernel
theorem dX6_cellsBarred_25 : decode cX6_cellsBarred 25 = .ok (.aload_n 0, 1) := by decide +kernel
theorem dX6_cellsBarred_26 : decode cX6_cellsBarred 26 = .ok (.getfield 64, 3) := by decide +kernel
theorem dX6_cellsBarred_29 : decode cX6_cellsBarred 29 = .ok (.iload_n 1, 1) := by decide +kernel
theorem dX6_cellsBarred_30 : decode cX6_cellsBarred 30 = .ok (.iaload, 1) := by decide +kernel
theorem dX6_cellsBarred_31 : decode cX6_cellsBarred 31 = .ok (.ifCond .ge 9, 3) := by decide +kernel
theorem dX6_cellsBarred_34 : decode cX6_cellsBarred 34 = .ok (.aload_n 0, 1) := by decide +kernel
theorem dX6_cellsBarred_35 : decode cX6_cellsBarred 35 = .ok (.iconst 1, 1) := by decide +kernel
theorem dX6_cellsBarred_36 : decode cX6_cellsBarred 36 = .ok (.invokevirtual 120, 3) := by decide +kernel
theorem dX6_cellsBarred_39 : decode cX6_cellsBarred 39 = .ok (.ireturn, 1) := by decide +kernel
theorem dX6_cellsBarred_40 : decode cX6_cellsBarred 40 = .ok (.lload 4, 2) := by decide +kernel
theorem dX6_cellsBarred_42 : decode cX6_cellsBarred 42 = .ok (.lconst 0, 1) := by decide +kernel
theorem dX6_cellsBarred_43 : decode cX6_cellsBarred 43 = .ok (.lcmp, 1) := by decide +kernel
theorem dX6_cellsBarred_44 : decode cX6_cellsBarred 44 = .ok (.ifCond .ge 9, 3) := by decide +kernel
theorem dX6_cellsBarred_47 : decode cX6_cellsBarred 47 = .ok (.aload_n 0, 1) := by decide +kernel
theorem dX6_cellsBarred_48 : decode cX6_cellsBarred 48 = .ok (.iconst 4, 1) := by decide +kernel
theorem dX6_cellsBarred_49 : decode cX6_cellsBarred 49 = .ok (.invokevirtual 120, 3) := by decide +kernel
theorem dX6_cellsBarred_52 : decode cX6_cellsBarred 52 = .ok (.ireturn, 1) := by decide +kernel
theorem dX6_cellsBarred_53 : decode cX6_cellsBarred 53 = .ok (.iload_n 3, 1) := by decide +kernel
theorem dX6_cellsBarred_54 : decode cX6_cellsBarred 54 = .ok (.lload 4, 2) := by decide +kernel
theorem dX6_cellsBarred_56 : decode cX6_cellsBarred 56 = .ok (.aload_n 0, 1) := by decide +kernel
theorem dX6_cellsBarred_57 : decode cX6_cellsBarred 57 = .ok (.getfield 64, 3) := by decide +kernel
theorem dX6_cellsBarred_60 : decode cX6_cellsBarred 60 = .ok (.iload_n 1, 1) := by decide +kernel
theorem dX6_cellsBarred_61 : decode cX6_cellsBarred 61 = .ok (.iaload, 1) := by decide +kernel
theorem dX6_cellsBarred_62 : decode cX6_cellsBarred 62 = .ok (.invokestatic 124, 3) := by decide +kernel
theorem dX6_cellsBarred_65 : decode cX6_cellsBarred 65 = .ok (.ifCond .eq 11, 3) := by decide +kernel
theorem dX6_cellsBarred_68 : decode cX6_cellsBarred 68 = .ok (.aload_n 0, 1) := by decide +kernel
theorem dX6_cellsBarred_69 : decode cX6_cellsBarred 69 = .ok (.iconst 3, 1) := by decide +kernel
theorem dX6_cellsBarred_70 : decode cX6_cellsBarred 70 = .ok (.invokevirtual 120, 3) := by decide +kernel
theorem dX6_cellsBarred_73 : decode cX6_cellsBarred 73 = .ok (.goto 4, 3) := by decide +kernel
theorem dX6_cellsBarred_76 : decode cX6_cellsBarred 76 = .ok (.iconst 0, 1) := by decide +kernel
theorem dX6_cellsBarred_77 : decode cX6_cellsBarred 77 = .ok (.ireturn, 1) := by decide +kernel
theorem dX6_floor_0 : decode cX6_floor 0 = .ok (.iload_n 1, 1) := by decide +kernel
theorem dX6_floor_1 : decode cX6_floor 1 = .ok (.invokestatic 128, 3) := by decide +kernel
theorem dX6_floor_4 : decode cX6_floor 4 = .ok (.ifCond .eq 9, 3) := by decide +kernel
theorem dX6_floor_7 : decode cX6_floor 7 = .ok (.aload_n 0, 1) := by decide +kernel
theorem dX6_floor_8 : decode cX6_floor 8 = .ok (.iconst (-1), 1) := by decide +kernel
theorem dX6_floor_9 : decode cX6_floor 9 = .ok (.invokevirtual 132, 3) := by decide +kernel
theorem dX6_floor_12 : decode cX6_floor 12 = .ok (.ireturn, 1) := by decide +kernel
theorem dX6_floor_13 : decode cX6_floor 13 = .ok (.iload_n 2, 1) := by decide +kernel
theorem dX6_floor_14 : decode cX6_floor 14 = .ok (.i2l, 1) := by decide +kernel
theorem dX6_floor_15 : decode cX6_floor 15 = .ok (.lconst 0, 1) := by decide +kernel
theorem dX6_floor_16 : decode cX6_floor 16 = .ok (.ldc2_w 135, 3) := by decide +kernel
theorem dX6_floor_19 : decode cX6_floor 19 = .ok (.invokestatic 89, 3) := by decide +kernel
theorem dX6_floor_22 : decode cX6_floor 22 = .ok (.ifCond .ne 10, 3) := by decide +kernel
theorem dX6_floor_25 : decode cX6_floor 25 = .ok (.aload_n 0, 1) := by decide +kernel
theorem dX6_floor_26 : decode cX6_floor 26 = .ok (.bipush (-2), 2) := by decide +kernel
theorem dX6_floor_28 : decode cX6_floor 28 = .ok (.invokevirtual 132, 3) := by decide +kernel
theorem dX6_floor_31 : decode cX6_floor 31 = .ok (.ireturn, 1) := by decide +kernel
theorem dX6_floor_32 : decode cX6_floor 32 = .ok (.aload_n 0, 1) := by decide +kernel
theorem dX6_floor_33 : decode cX6_floor 33 = .ok (.iload_n 1, 1) := by decide +kernel
theorem dX6_floor_34 : decode cX6_floor 34 = .ok (.iload_n 2, 1) := by decide +kernel
theorem dX6_floor_35 : decode cX6_floor 35 = .ok (.iload_n 3, 1) := by decide +kernel
theorem dX6_floor_36 : decode cX6_floor 36 = .ok (.iload 4, 2) := by decide +kernel
theorem dX6_floor_38 : decode cX6_floor 38 = .ok (.i2l, 1) := by decide +kernel
theorem dX6_floor_39 : decode cX6_floor 39 = .ok (.invokevirtual 137, 3) := by decide +kernel
theorem dX6_floor_42 : decode cX6_floor 42 = .ok (.istore 5, 2) := by decide +kernel
theorem dX6_floor_44 : decode cX6_floor 44 = .ok (.iload 5, 2) := by decide +kernel
theorem dX6_floor_46 : decode cX6_floor 46 = .ok (.ifCond .ge 6, 3) := by decide +kernel
theorem dX6_floor_49 : decode cX6_floor 49 = .ok (.iload 5, 2) := by decide +kernel
theorem dX6_floor_51 : decode cX6_floor 51 = .ok (.ireturn, 1) := by decide +kernel
theorem dX6_floor_52 : decode cX6_floor 52 = .ok (.aload_n 0, 1) := by decide +kernel
theorem dX6_floor_53 : decode cX6_floor 53 = .ok (.bipush 60, 2) := by decide +kernel
theorem dX6_floor_55 : decode cX6_floor 55 = .ok (.iload_n 1, 1) := by decide +kernel
theorem dX6_floor_56 : decode cX6_floor 56 = .ok (.imul, 1) := by decide +kernel
theorem dX6_floor_57 : decode cX6_floor 57 = .ok (.iload_n 3, 1) := by decide +kernel
theorem dX6_floor_58 : decode cX6_floor 58 = .ok (.iadd, 1) := by decide +kernel
theorem dX6_floor_59 : decode cX6_floor 59 = .ok (.iload 4, 2) := by decide +kernel
theorem dX6_floor_61 : decode cX6_floor 61 = .ok (.invokevirtual 141, 3) := by decide +kernel
theorem dX6_floor_64 : decode cX6_floor 64 = .ok (.ifCond .ne 15, 3) := by decide +kernel
theorem dX6_floor_67 : decode cX6_floor 67 = .ok (.aload_n 0, 1) := by decide +kernel
theorem dX6_floor_68 : decode cX6_floor 68 = .ok (.bipush (-100), 2) := by decide +kernel
theorem dX6_floor_70 : decode cX6_floor 70 = .ok (.aload_n 0, 1) := by decide +kernel
theorem dX6_floor_71 : decode cX6_floor 71 = .ok (.getfield 96, 3) := by decide +kernel
theorem dX6_floor_74 : decode cX6_floor 74 = .ok (.isub, 1) := by decide +kernel
theorem dX6_floor_75 : decode cX6_floor 75 = .ok (.invokevirtual 132, 3) := by decide +kernel
theorem dX6_floor_78 : decode cX6_floor 78 = .ok (.ireturn, 1) := by decide +kernel
theorem dX6_floor_79 : decode cX6_floor 79 = .ok (.aload_n 0, 1) := by decide +kernel
theorem dX6_floor_80 : decode cX6_floor 80 = .ok (.aload_n 0, 1) := by decide +kernel
theorem dX6_floor_81 : decode cX6_floor 81 = .ok (.getfield 103, 3) := by decide +kernel
theorem dX6_floor_84 : decode cX6_floor 84 = .ok (.putfield 86, 3) := by decide +kernel
theorem dX6_floor_87 : decode cX6_floor 87 = .ok (.aload_n 0, 1) := by decide +kernel
theorem dX6_floor_88 : decode cX6_floor 88 = .ok (.aload_n 0, 1) := by decide +kernel
theorem dX6_floor_89 : decode cX6_floor 89 = .ok (.getfield 110, 3) := by decide +kernel
theorem dX6_floor_92 : decode cX6_floor 92 = .ok (.putfield 93, 3) := by decide +kernel
theorem dX6_floor_95 : decode cX6_floor 95 = .ok (.iconst 0, 1) := by decide +kernel
theorem dX6_floor_96 : decode cX6_floor 96 = .ok (.istore 6, 2) := by decide +kernel
theorem dX6_floor_98 : decode cX6_floor 98 = .ok (.iload 6, 2) := by decide +kernel
theorem dX6_floor_100 : decode cX6_floor 100 = .ok (.aload_n 0, 1) := by decide +kernel
theorem dX6_floor_101 : decode cX6_floor 101 = .ok (.getfield 86, 3) := by decide +kernel
theorem dX6_floor_104 : decode cX6_floor 104 = .ok (.if_icmp .ge 65, 3) := by decide +kernel
theorem dX6_floor_107 : decode cX6_floor 107 = .ok (.aload_n 0, 1) := by decide +kernel
theorem dX6_floor_108 : decode cX6_floor 108 = .ok (.getfield 7, 3) := by decide +kernel
theorem dX6_floor_111 : decode cX6_floor 111 = .ok (.iload 6, 2) := by decide +kernel
theorem dX6_floor_113 : decode cX6_floor 113 = .ok (.aload_n 0, 1) := by decide +kernel
theorem dX6_floor_114 : decode cX6_floor 114 = .ok (.getfield 25, 3) := by decide +kernel
theorem dX6_floor_117 : decode cX6_floor 117 = .ok (.iload 6, 2) := by decide +kernel
theorem dX6_floor_119 : decode cX6_floor 119 = .ok (.iaload, 1) := by decide +kernel
theorem dX6_floor_120 : decode cX6_floor 120 = .ok (.iastore, 1) := by decide +kernel
theorem dX6_floor_121 : decode cX6_floor 121 = .ok (.aload_n 0, 1) := by decide +kernel
theorem dX6_floor_122 : decode cX6_floor 122 = .ok (.getfield 13, 3) := by decide +kernel
theorem dX6_floor_125 : decode cX6_floor 125 = .ok (.iload 6, 2) := by decide +kernel
theorem dX6_floor_127 : decode cX6_floor 127 = .ok (.aload_n 0, 1) := by decide +kernel
theorem dX6_floor_128 : decode cX6_floor 128 = .ok (.getfield 28, 3) := by decide +kernel
theorem dX6_floor_131 : decode cX6_floor 131 = .ok (.iload 6, 2) := by decide +kernel
theorem dX6_floor_133 : decode cX6_floor 133 = .ok (.iaload, 1) := by decide +kernel
theorem dX6_floor_134 : decode cX6_floor 134 = .ok (.iastore, 1) := by decide +kernel
theorem dX6_floor_135 : decode cX6_floor 135 = .ok (.aload_n 0, 1) := by decide +kernel
theorem dX6_floor_136 : decode cX6_floor 136 = .ok (.getfield 16, 3) := by decide +kernel
theorem dX6_floor_139 : decode cX6_floor 139 = .ok (.iload 6, 2) := by decide +kernel
theorem dX6_floor_141 : decode cX6_floor 141 = .ok (.aload_n 0, 1) := by decide +kernel
theorem dX6_floor_142 : decode cX6_floor 142 = .ok (.getfield 31, 3) := by decide +kernel
theorem dX6_floor_145 : decode cX6_floor 145 = .ok (.iload 6, 2) := by decide +kernel
theorem dX6_floor_147 : decode cX6_floor 147 = .ok (.iaload, 1) := by decide +kernel
theorem dX6_floor_148 : decode cX6_floor 148 = .ok (.iastore, 1) := by decide +kernel
theorem dX6_floor_149 : decode cX6_floor 149 = .ok (.aload_n 0, 1) := by decide +kernel
theorem dX6_floor_150 : decode cX6_floor 150 = .ok (.getfield 19, 3) := by decide +kernel
theorem dX6_floor_153 : decode cX6_floor 153 = .ok (.iload 6, 2) := by decide +kernel
theorem dX6_floor_155 : decode cX6_floor 155 = .ok (.aload_n 0, 1) := by decide +kernel
theorem dX6_floor_156 : decode cX6_floor 156 = .ok (.getfield 34, 3) := by decide +kernel
theorem dX6_floor_159 : decode cX6_floor 159 = .ok (.iload 6, 2) := by decide +kernel
theorem dX6_floor_161 : decode cX6_floor 161 = .ok (.iaload, 1) := by decide +kernel
theorem dX6_floor_162 : decode cX6_floor 162 = .ok (.iastore, 1) := by decide +kernel
theorem dX6_floor_163 : decode cX6_floor 163 = .ok (.iinc 6 1, 3) := by decide +kernel
theorem dX6_floor_166 : decode cX6_floor 166 = .ok (.goto (-68), 3) := by decide +kernel
theorem dX6_floor_169 : decode cX6_floor 169 = .ok (.iconst 0, 1) := by decide +kernel
theorem dX6_floor_170 : decode cX6_floor 170 = .ok (.istore 6, 2) := by decide +kernel
theorem dX6_floor_172 : decode cX6_floor 172 = .ok (.iload 6, 2) := by decide +kernel
theorem dX6_floor_174 : decode cX6_floor 174 = .ok (.aload_n 0, 1) := by decide +kernel
theorem dX6_floor_175 : decode cX6_floor 175 = .ok (.getfield 93, 3) := by decide +kernel
theorem dX6_floor_178 : decode cX6_floor 178 = .ok (.if_icmp .ge 23, 3) := by decide +kernel
theorem dX6_floor_181 : decode cX6_floor 181 = .ok (.aload_n 0, 1) := by decide +kernel
theorem dX6_floor_182 : decode cX6_floor 182 = .ok (.getfield 22, 3) := by decide +kernel
theorem dX6_floor_185 : decode cX6_floor 185 = .ok (.iload 6, 2) := by decide +kernel
theorem dX6_floor_187 : decode cX6_floor 187 = .ok (.aload_n 0, 1) := by decide +kernel
theorem dX6_floor_188 : decode cX6_floor 188 = .ok (.getfield 37, 3) := by decide +kernel
theorem dX6_floor_191 : decode cX6_floor 191 = .ok (.iload 6, 2) := by decide +kernel
theorem dX6_floor_193 : decode cX6_floor 193 = .ok (.iaload, 1) := by decide +kernel
theorem dX6_floor_194 : decode cX6_floor 194 = .ok (.iastore, 1) := by decide +kernel
theorem dX6_floor_195 : decode cX6_floor 195 = .ok (.iinc 6 1, 3) := by decide +kernel
theorem dX6_floor_198 : decode cX6_floor 198 = .ok (.goto (-26), 3) := by decide +kernel
theorem dX6_floor_201 : decode cX6_floor 201 = .ok (.aload_n 0, 1) := by decide +kernel
theorem dX6_floor_202 : decode cX6_floor 202 = .ok (.iconst 0, 1) := by decide +kernel
theorem dX6_floor_203 : decode cX6_floor 203 = .ok (.putfield 144, 3) := by decide +kernel
theorem dX6_floor_206 : decode cX6_floor 206 = .ok (.aload_n 0, 1) := by decide +kernel
theorem dX6_floor_207 : decode cX6_floor 207 = .ok (.aload_n 0, 1) := by decide +kernel
theorem dX6_floor_208 : decode cX6_floor 208 = .ok (.getfield 86, 3) := by decide +kernel
theorem dX6_floor_211 : decode cX6_floor 211 = .ok (.invokevirtual 132, 3) := by decide +kernel
theorem dX6_floor_214 : decode cX6_floor 214 = .ok (.ireturn, 1) := by decide +kernel
theorem dX6_lookOf_0 : decode cX6_lookOf 0 = .ok (.aload_n 0, 1) := by decide +kernel
theorem dX6_lookOf_1 : decode cX6_lookOf 1 = .ok (.getfield 16, 3) := by decide +kernel
theorem dX6_lookOf_4 : decode cX6_lookOf 4 = .ok (.iload_n 1, 1) := by decide +kernel
theorem dX6_lookOf_5 : decode cX6_lookOf 5 = .ok (.iaload, 1) := by decide +kernel
theorem dX6_lookOf_6 : decode cX6_lookOf 6 = .ok (.istore_n 2, 1) := by decide +kernel
theorem dX6_lookOf_7 : decode cX6_lookOf 7 = .ok (.aload_n 0, 1) := by decide +kernel
theorem dX6_lookOf_8 : decode cX6_lookOf 8 = .ok (.getfield 7, 3) := by decide +kernel
theorem dX6_lookOf_11 : decode cX6_lookOf 11 = .ok (.iload_n 1, 1) := by decide +kernel
theorem dX6_lookOf_12 : decode cX6_lookOf 12 = .ok (.iaload, 1) := by decide +kernel
theorem dX6_lookOf_13 : decode cX6_lookOf 13 = .ok (.ifCond .ne 7, 3) := by decide +kernel
theorem dX6_lookOf_16 : decode cX6_lookOf 16 = .ok (.iload_n 2, 1) := by decide +kernel
theorem dX6_lookOf_17 : decode cX6_lookOf 17 = .ok (.goto 24, 3) := by decide +kernel
theorem dX6_lookOf_20 : decode cX6_lookOf 20 = .ok (.aload_n 0, 1) := by decide +kernel
theorem dX6_lookOf_21 : decode cX6_lookOf 21 = .ok (.getfield 7, 3) := by decide +kernel
theorem dX6_lookOf_24 : decode cX6_lookOf 24 = .ok (.iload_n 1, 1) := by decide +kernel
theorem dX6_lookOf_25 : decode cX6_lookOf 25 = .ok (.iaload, 1) := by decide +kernel
theorem dX6_lookOf_26 : decode cX6_lookOf 26 = .ok (.iconst 1, 1) := by decide +kernel
theorem dX6_lookOf_27 : decode cX6_lookOf 27 = .ok (.if_icmp .ne 9, 3) := by decide +kernel
theorem dX6_lookOf_30 : decode cX6_lookOf 30 = .ok (.iload_n 2, 1) := by decide +kernel
theorem dX6_lookOf_31 : decode cX6_lookOf 31 = .ok (.iconst 1, 1) := by decide +kernel
theorem dX6_lookOf_32 : decode cX6_lookOf 32 = .ok (.iadd, 1) := by decide +kernel
theorem dX6_lookOf_33 : decode cX6_lookOf 33 = .ok (.goto 8, 3) := by decide +kernel
theorem dX6_lookOf_36 : decode cX6_lookOf 36 = .ok (.iconst 2, 1) := by decide +kernel
theorem dX6_lookOf_37 : decode cX6_lookOf 37 = .ok (.iload_n 2, 1) := by decide +kernel
theorem dX6_lookOf_38 : decode cX6_lookOf 38 = .ok (.iconst 1, 1) := by decide +kernel
theorem dX6_lookOf_39 : decode cX6_lookOf 39 = .ok (.iadd, 1) := by decide +kernel
theorem dX6_lookOf_40 : decode cX6_lookOf 40 = .ok (.imul, 1) := by decide +kernel
theorem dX6_lookOf_41 : decode cX6_lookOf 41 = .ok (.ireturn, 1) := by decide +kernel
theorem dX6_looksOf_0 : decode cX6_looksOf 0 = .ok (.iconst 0, 1) := by decide +kernel
theorem dX6_looksOf_1 : decode cX6_looksOf 1 = .ok (.istore_n 2, 1) := by decide +kernel
theorem dX6_looksOf_2 : decode cX6_looksOf 2 = .ok (.iconst 0, 1) := by decide +kernel
theorem dX6_looksOf_3 : decode cX6_looksOf 3 = .ok (.istore_n 3, 1) := by decide +kernel
theorem dX6_looksOf_4 : decode cX6_looksOf 4 = .ok (.iload_n 3, 1) := by decide +kernel
theorem dX6_looksOf_5 : decode cX6_looksOf 5 = .ok (.aload_n 0, 1) := by decide +kernel
theorem dX6_looksOf_6 : decode cX6_looksOf 6 = .ok (.getfield 86, 3) := by decide +kernel
theorem dX6_looksOf_9 : decode cX6_looksOf 9 = .ok (.if_icmp .ge 36, 3) := by decide +kernel
theorem dX6_looksOf_12 : decode cX6_looksOf 12 = .ok (.iload_n 2, 1) := by decide +kernel
theorem dX6_looksOf_13 : decode cX6_looksOf 13 = .ok (.iload_n 1, 1) := by decide +kernel
theorem dX6_looksOf_14 : decode cX6_looksOf 14 = .ok (.iload_n 3, 1) := by decide +kernel
theorem dX6_looksOf_15 : decode cX6_looksOf 15 = .ok (.invokestatic 147, 3) := by decide +kernel
theorem dX6_looksOf_18 : decode cX6_looksOf 18 = .ok (.ifCond .eq 18, 3) := by decide +kernel
theorem dX6_looksOf_21 : decode cX6_looksOf 21 = .ok (.aload_n 0, 1) := by decide +kernel
theorem dX6_looksOf_22 : decode cX6_looksOf 22 = .ok (.getfield 13, 3) := by decide +kernel
theorem dX6_looksOf_25 : decode cX6_looksOf 25 = .ok (.iload_n 3, 1) := by decide +kernel
theorem dX6_looksOf_26 : decode cX6_looksOf 26 = .ok (.iaload, 1) := by decide +kernel
theorem dX6_looksOf_27 : decode cX6_looksOf 27 = .ok (.aload_n 0, 1) := by decide +kernel
theorem dX6_looksOf_28 : decode cX6_looksOf 28 = .ok (.iload_n 3, 1) := by decide +kernel
theorem dX6_looksOf_29 : decode cX6_looksOf 29 = .ok (.invokevirtual 150, 3) := by decide +kernel
theorem dX6_looksOf_32 : decode cX6_looksOf 32 = .ok (.imul, 1) := by decide +kernel
theorem dX6_looksOf_33 : decode cX6_looksOf 33 = .ok (.goto 4, 3) := by decide +kernel
theorem dX6_looksOf_36 : decode cX6_looksOf 36 = .ok (.iconst 0, 1) := by decide +kernel
theorem dX6_looksOf_37 : decode cX6_looksOf 37 = .ok (.iadd, 1) := by decide +kernel
theorem dX6_looksOf_38 : decode cX6_looksOf 38 = .ok (.istore_n 2, 1) := by decide +kernel
theorem dX6_looksOf_39 : decode cX6_looksOf 39 = .ok (.iinc 3 1, 3) := by decide +kernel
theorem dX6_looksOf_42 : decode cX6_looksOf 42 = .ok (.goto (-38), 3) := by decide +kernel
theorem dX6_looksOf_45 : decode cX6_looksOf 45 = .ok (.iload_n 2, 1) := by decide +kernel
theorem dX6_looksOf_46 : decode cX6_looksOf 46 = .ok (.ireturn, 1) := by decide +kernel
theorem dX6_ofSort_0 : decode cX6_ofSort 0 = .ok (.aload_n 0, 1) := by decide +kernel
theorem dX6_ofSort_1 : decode cX6_ofSort 1 = .ok (.iload_n 1, 1) := by decide +kernel
theorem dX6_ofSort_2 : decode cX6_ofSort 2 = .ok (.invokevirtual 153, 3) := by decide +kernel
theorem dX6_ofSort_5 : decode cX6_ofSort 5 = .ok (.ifCond .eq 5, 3) := by decide +kernel
theorem dX6_ofSort_8 : decode cX6_ofSort 8 = .ok (.iconst (-1), 1) := by decide +kernel
theorem dX6_ofSort_9 : decode cX6_ofSort 9 = .ok (.ireturn, 1) := by decide +kernel
theorem dX6_ofSort_10 : decode cX6_ofSort 10 = .ok (.iload_n 2, 1) := by decide +kernel
theorem dX6_ofSort_11 : decode cX6_ofSort 11 = .ok (.tableswitch 67 0 4 #[33, 40, 47, 54, 61], 33) := by decide +kernel
theorem dX6_ofSort_44 : decode cX6_ofSort 44 = .ok (.aload_n 0, 1) := by decide +kernel
theorem dX6_ofSort_45 : decode cX6_ofSort 45 = .ok (.getfield 7, 3) := by decide +kernel
theorem dX6_ofSort_48 : decode cX6_ofSort 48 = .ok (.iload_n 1, 1) := by decide +kernel
theorem dX6_ofSort_49 : decode cX6_ofSort 49 = .ok (.iaload, 1) := by decide +kernel
theorem dX6_ofSort_50 : decode cX6_ofSort 50 = .ok (.ireturn, 1) := by decide +kernel
theorem dX6_ofSort_51 : decode cX6_ofSort 51 = .ok (.aload_n 0, 1) := by decide +kernel
theorem dX6_ofSort_52 : decode cX6_ofSort 52 = .ok (.getfield 13, 3) := by decide +kernel
theorem dX6_ofSort_55 : decode cX6_ofSort 55 = .ok (.iload_n 1, 1) := by decide +kernel
theorem dX6_ofSort_56 : decode cX6_ofSort 56 = .ok (.iaload, 1) := by decide +kernel
theorem dX6_ofSort_57 : decode cX6_ofSort 57 = .ok (.ireturn, 1) := by decide +kernel
theorem dX6_ofSort_58 : decode cX6_ofSort 58 = .ok (.aload_n 0, 1) := by decide +kernel
theorem dX6_ofSort_59 : decode cX6_ofSort 59 = .ok (.getfield 16, 3) := by decide +kernel
theorem dX6_ofSort_62 : decode cX6_ofSort 62 = .ok (.iload_n 1, 1) := by decide +kernel
theorem dX6_ofSort_63 : decode cX6_ofSort 63 = .ok (.iaload, 1) := by decide +kernel
theorem dX6_ofSort_64 : decode cX6_ofSort 64 = .ok (.ireturn, 1) := by decide +kernel
theorem dX6_ofSort_65 : decode cX6_ofSort 65 = .ok (.aload_n 0, 1) := by decide +kernel
theorem dX6_ofSort_66 : decode cX6_ofSort 66 = .ok (.getfield 19, 3) := by decide +kernel
theorem dX6_ofSort_69 : decode cX6_ofSort 69 = .ok (.iload_n 1, 1) := by decide +kernel
theorem dX6_ofSort_70 : decode cX6_ofSort 70 = .ok (.iaload, 1) := by decide +kernel
theorem dX6_ofSort_71 : decode cX6_ofSort 71 = .ok (.ireturn, 1) := by decide +kernel
theorem dX6_ofSort_72 : decode cX6_ofSort 72 = .ok (.aload_n 0, 1) := by decide +kernel
theorem dX6_ofSort_73 : decode cX6_ofSort 73 = .ok (.iload_n 1, 1) := by decide +kernel
theorem dX6_ofSort_74 : decode cX6_ofSort 74 = .ok (.invokevirtual 150, 3) := by decide +kernel
theorem dX6_ofSort_77 : decode cX6_ofSort 77 = .ok (.ireturn, 1) := by decide +kernel
theorem dX6_ofSort_78 : decode cX6_ofSort 78 = .ok (.bipush (-2), 2) := by decide +kernel
theorem dX6_ofSort_80 : decode cX6_ofSort 80 = .ok (.ireturn, 1) := by decide +kernel
theorem dX6_ofSign_0 : decode cX6_ofSign 0 = .ok (.aload_n 0, 1) := by decide +kernel
theorem dX6_ofSign_1 : decode cX6_ofSign 1 = .ok (.iload_n 1, 1) := by decide +kernel
theorem dX6_ofSign_2 : decode cX6_ofSign 2 = .ok (.invokevirtual 156, 3) := by decide +kernel
theorem dX6_ofSign_5 : decode cX6_ofSign 5 = .ok (.ifCond .eq 7, 3) := by decide +kernel
theorem dX6_ofSign_8 : decode cX6_ofSign 8 = .ok (.iconst (-1), 1) := by decide +kernel
theorem dX6_ofSign_9 : decode cX6_ofSign 9 = .ok (.goto 14, 3) := by decide +kernel
theorem dX6_ofSign_12 : decode cX6_ofSign 12 = .ok (.aload_n 0, 1) := by decide +kernel
theorem dX6_ofSign_13 : decode cX6_ofSign 13 = .ok (.getfield 22, 3) := by decide +kernel
theorem dX6_ofSign_16 : decode cX6_ofSign 16 = .ok (.iload_n 1, 1) := by decide +kernel
theorem dX6_ofSign_17 : decode cX6_ofSign 17 = .ok (.iaload, 1) := by decide +kernel
theorem dX6_ofSign_18 : decode cX6_ofSign 18 = .ok (.aload_n 0, 1) := by decide +kernel
theorem dX6_ofSign_19 : decode cX6_ofSign 19 = .ok (.invokevirtual 159, 3) := by decide +kernel
theorem dX6_ofSign_22 : decode cX6_ofSign 22 = .ok (.iand, 1) := by decide +kernel
theorem dX6_ofSign_23 : decode cX6_ofSign 23 = .ok (.ireturn, 1) := by decide +kernel
theorem dX6_lay_0 : decode cX6_lay 0 = .ok (.aload_n 0, 1) := by decide +kernel
theorem dX6_lay_1 : decode cX6_lay 1 = .ok (.iload_n 1, 1) := by decide +kernel
theorem dX6_lay_2 : decode cX6_lay 2 = .ok (.invokevirtual 153, 3) := by decide +kernel
theorem dX6_lay_5 : decode cX6_lay 5 = .ok (.ifCond .eq 5, 3) := by decide +kernel
theorem dX6_lay_8 : decode cX6_lay 8 = .ok (.iconst (-1), 1) := by decide +kernel
theorem dX6_lay_9 : decode cX6_lay 9 = .ok (.ireturn, 1) := by decide +kernel
theorem dX6_lay_10 : decode cX6_lay 10 = .ok (.iload_n 2, 1) := by decide +kernel
theorem dX6_lay_11 : decode cX6_lay 11 = .ok (.i2l, 1) := by decide +kernel
theorem dX6_lay_12 : decode cX6_lay 12 = .ok (.lconst 0, 1) := by decide +kernel
theorem dX6_lay_13 : decode cX6_lay 13 = .ok (.ldc2_w 163, 3) := by decide +kernel
theorem dX6_lay_16 : decode cX6_lay 16 = .ok (.invokestatic 89, 3) := by decide +kernel
theorem dX6_lay_19 : decode cX6_lay 19 = .ok (.ifCond .ne 6, 3) := by decide +kernel
theorem dX6_lay_22 : decode cX6_lay 22 = .ok (.bipush (-2), 2) := by decide +kernel
theorem dX6_lay_24 : decode cX6_lay 24 = .ok (.ireturn, 1) := by decide +kernel
theorem dX6_lay_25 : decode cX6_lay 25 = .ok (.aload_n 0, 1) := by decide +kernel
theorem dX6_lay_26 : decode cX6_lay 26 = .ok (.getfield 13, 3) := by decide +kernel
theorem dX6_lay_29 : decode cX6_lay 29 = .ok (.iload_n 1, 1) := by decide +kernel
theorem dX6_lay_30 : decode cX6_lay 30 = .ok (.iaload, 1) := by decide +kernel
theorem dX6_lay_31 : decode cX6_lay 31 = .ok (.istore_n 3, 1) := by decide +kernel
theorem dX6_lay_32 : decode cX6_lay 32 = .ok (.aload_n 0, 1) := by decide +kernel
theorem dX6_lay_33 : decode cX6_lay 33 = .ok (.getfield 13, 3) := by decide +kernel
theorem dX6_lay_36 : decode cX6_lay 36 = .ok (.iload_n 1, 1) := by decide +kernel
theorem dX6_lay_37 : decode cX6_lay 37 = .ok (.iload_n 2, 1) := by decide +kernel
theorem dX6_lay_38 : decode cX6_lay 38 = .ok (.iastore, 1) := by decide +kernel
theorem dX6_lay_39 : decode cX6_lay 39 = .ok (.iload_n 3, 1) := by decide +kernel
theorem dX6_lay_40 : decode cX6_lay 40 = .ok (.ireturn, 1) := by decide +kernel
theorem dX6_sign_0 : decode cX6_sign 0 = .ok (.aload_n 0, 1) := by decide +kernel
theorem dX6_sign_1 : decode cX6_sign 1 = .ok (.iload_n 1, 1) := by decide +kernel
theorem dX6_sign_2 : decode cX6_sign 2 = .ok (.invokevirtual 156, 3) := by decide +kernel
theorem dX6_sign_5 : decode cX6_sign 5 = .ok (.ifCond .eq 5, 3) := by decide +kernel
theorem dX6_sign_8 : decode cX6_sign 8 = .ok (.iconst (-1), 1) := by decide +kernel
theorem dX6_sign_9 : decode cX6_sign 9 = .ok (.ireturn, 1) := by decide +kernel
theorem dX6_sign_10 : decode cX6_sign 10 = .ok (.iload_n 2, 1) := by decide +kernel
theorem dX6_sign_11 : decode cX6_sign 11 = .ok (.i2l, 1) := by decide +kernel
theorem dX6_sign_12 : decode cX6_sign 12 = .ok (.lconst 0, 1) := by decide +kernel
theorem dX6_sign_13 : decode cX6_sign 13 = .ok (.ldc2_w 165, 3) := by decide +kernel
theorem dX6_sign_16 : decode cX6_sign 16 = .ok (.invokestatic 89, 3) := by decide +kernel
theorem dX6_sign_19 : decode cX6_sign 19 = .ok (.ifCond .ne 6, 3) := by decide +kernel
theorem dX6_sign_22 : decode cX6_sign 22 = .ok (.bipush (-2), 2) := by decide +kernel
theorem dX6_sign_24 : decode cX6_sign 24 = .ok (.ireturn, 1) := by decide +kernel
theorem dX6_sign_25 : decode cX6_sign 25 = .ok (.aload_n 0, 1) := by decide +kernel
theorem dX6_sign_26 : decode cX6_sign 26 = .ok (.getfield 22, 3) := by decide +kernel
theorem dX6_sign_29 : decode cX6_sign 29 = .ok (.iload_n 1, 1) := by decide +kernel
theorem dX6_sign_30 : decode cX6_sign 30 = .ok (.iaload, 1) := by decide +kernel
theorem dX6_sign_31 : decode cX6_sign 31 = .ok (.aload_n 0, 1) := by decide +kernel
theorem dX6_sign_32 : decode cX6_sign 32 = .ok (.invokevirtual 159, 3) := by decide +kernel
theorem dX6_sign_35 : decode cX6_sign 35 = .ok (.iand, 1) := by decide +kernel
theorem dX6_sign_36 : decode cX6_sign 36 = .ok (.istore_n 3, 1) := by decide +kernel
theorem dX6_sign_37 : decode cX6_sign 37 = .ok (.aload_n 0, 1) := by decide +kernel
theorem dX6_sign_38 : decode cX6_sign 38 = .ok (.getfield 22, 3) := by decide +kernel
theorem dX6_sign_41 : decode cX6_sign 41 = .ok (.iload_n 1, 1) := by decide +kernel
theorem dX6_sign_42 : decode cX6_sign 42 = .ok (.iload_n 2, 1) := by decide +kernel
theorem dX6_sign_43 : decode cX6_sign 43 = .ok (.iastore, 1) := by decide +kernel
theorem dX6_sign_44 : decode cX6_sign 44 = .ok (.iload_n 3, 1) := by decide +kernel
theorem dX6_sign_45 : decode cX6_sign 45 = .ok (.ireturn, 1) := by decide +kernel
theorem dX6_begin_0 : decode cX6_begin 0 = .ok (.iconst 0, 1) := by decide +kernel
theorem dX6_begin_1 : decode cX6_begin 1 = .ok (.istore_n 1, 1) := by decide +kernel
theorem dX6_begin_2 : decode cX6_begin 2 = .ok (.iload_n 1, 1) := by decide +kernel
theorem dX6_begin_3 : decode cX6_begin 3 = .ok (.aload_n 0, 1) := by decide +kernel
theorem dX6_begin_4 : decode cX6_begin 4 = .ok (.getfield 86, 3) := by decide +kernel
theorem dX6_begin_7 : decode cX6_begin 7 = .ok (.if_icmp .ge 27, 3) := by decide +kernel
theorem dX6_begin_10 : decode cX6_begin 10 = .ok (.aload_n 0, 1) := by decide +kernel
theorem dX6_begin_11 : decode cX6_begin 11 = .ok (.getfield 40, 3) := by decide +kernel
theorem dX6_begin_14 : decode cX6_begin 14 = .ok (.iload_n 1, 1) := by decide +kernel
theorem dX6_begin_15 : decode cX6_begin 15 = .ok (.aload_n 0, 1) := by decide +kernel
theorem dX6_begin_16 : decode cX6_begin 16 = .ok (.invokevirtual 159, 3) := by decide +kernel
theorem dX6_begin_19 : decode cX6_begin 19 = .ok (.iastore, 1) := by decide +kernel
theorem dX6_begin_20 : decode cX6_begin 20 = .ok (.aload_n 0, 1) := by decide +kernel
theorem dX6_begin_21 : decode cX6_begin 21 = .ok (.getfield 43, 3) := by decide +kernel
theorem dX6_begin_24 : decode cX6_begin 24 = .ok (.iload_n 1, 1) := by decide +kernel
theorem dX6_begin_25 : decode cX6_begin 25 = .ok (.bipush (-9), 2) := by decide +kernel
theorem dX6_begin_27 : decode cX6_begin 27 = .ok (.iastore, 1) := by decide +kernel
theorem dX6_begin_28 : decode cX6_begin 28 = .ok (.iinc 1 1, 3) := by decide +kernel
theorem dX6_begin_31 : decode cX6_begin 31 = .ok (.goto (-29), 3) := by decide +kernel
theorem dX6_begin_34 : decode cX6_begin 34 = .ok (.aload_n 0, 1) := by decide +kernel
theorem dX6_begin_35 : decode cX6_begin 35 = .ok (.iconst 0, 1) := by decide +kernel
theorem dX6_begin_36 : decode cX6_begin 36 = .ok (.putfield 167, 3) := by decide +kernel
theorem dX6_begin_39 : decode cX6_begin 39 = .ok (.aload_n 0, 1) := by decide +kernel
theorem dX6_begin_40 : decode cX6_begin 40 = .ok (.bipush (-9), 2) := by decide +kernel
theorem dX6_begin_42 : decode cX6_begin 42 = .ok (.putfield 170, 3) := by decide +kernel
theorem dX6_begin_45 : decode cX6_begin 45 = .ok (.return_, 1) := by decide +kernel
theorem dX6_isAlone_0 : decode cX6_isAlone 0 = .ok (.aload_n 0, 1) := by decide +kernel
theorem dX6_isAlone_1 : decode cX6_isAlone 1 = .ok (.getfield 40, 3) := by decide +kernel
theorem dX6_isAlone_4 : decode cX6_isAlone 4 = .ok (.iload_n 1, 1) := by decide +kernel
theorem dX6_isAlone_5 : decode cX6_isAlone 5 = .ok (.iaload, 1) := by decide +kernel
theorem dX6_isAlone_6 : decode cX6_isAlone 6 = .ok (.iconst 1, 1) := by decide +kernel
theorem dX6_isAlone_7 : decode cX6_isAlone 7 = .ok (.iload_n 1, 1) := by decide +kernel
theorem dX6_isAlone_8 : decode cX6_isAlone 8 = .ok (.ishl, 1) := by decide +kernel
theorem dX6_isAlone_9 : decode cX6_isAlone 9 = .ok (.if_icmp .ne 7, 3) := by decide +kernel
theorem dX6_isAlone_12 : decode cX6_isAlone 12 = .ok (.iconst 1, 1) := by decide +kernel
theorem dX6_isAlone_13 : decode cX6_isAlone 13 = .ok (.goto 4, 3) := by decide +kernel
theorem dX6_isAlone_16 : decode cX6_isAlone 16 = .ok (.iconst 0, 1) := by decide +kernel
theorem dX6_isAlone_17 : decode cX6_isAlone 17 = .ok (.ireturn, 1) := by decide +kernel
theorem dX6_goPass_0 : decode cX6_goPass 0 = .ok (.iconst 0, 1) := by decide +kernel
theorem dX6_goPass_1 : decode cX6_goPass 1 = .ok (.istore_n 3, 1) := by decide +kernel
theorem dX6_goPass_2 : decode cX6_goPass 2 = .ok (.iconst 0, 1) := by decide +kernel
theorem dX6_goPass_3 : decode cX6_goPass 3 = .ok (.istore 4, 2) := by decide +kernel
theorem dX6_goPass_5 : decode cX6_goPass 5 = .ok (.iconst 0, 1) := by decide +kernel
theorem dX6_goPass_6 : decode cX6_goPass 6 = .ok (.istore 5, 2) := by decide +kernel
theorem dX6_goPass_8 : decode cX6_goPass 8 = .ok (.iload 5, 2) := by decide +kernel
theorem dX6_goPass_10 : decode cX6_goPass 10 = .ok (.aload_n 0, 1) := by decide +kernel
theorem dX6_goPass_11 : decode cX6_goPass 11 = .ok (.getfield 86, 3) := by decide +kernel
theorem dX6_goPass_14 : decode cX6_goPass 14 = .ok (.if_icmp .ge 31, 3) := by decide +kernel
theorem dX6_goPass_17 : decode cX6_goPass 17 = .ok (.iload 4, 2) := by decide +kernel
theorem dX6_goPass_19 : decode cX6_goPass 19 = .ok (.aload_n 0, 1) := by decide +kernel
theorem dX6_goPass_20 : decode cX6_goPass 20 = .ok (.iload 5, 2) := by decide +kernel
theorem dX6_goPass_22 : decode cX6_goPass 22 = .ok (.invokevirtual 173, 3) := by decide +kernel
theorem dX6_goPass_25 : decode cX6_goPass 25 = .ok (.ifCond .eq 7, 3) := by decide +kernel
theorem dX6_goPass_28 : decode cX6_goPass 28 = .ok (.iconst 0, 1) := by decide +kernel
theorem dX6_goPass_29 : decode cX6_goPass 29 = .ok (.goto 7, 3) := by decide +kernel
theorem dX6_goPass_32 : decode cX6_goPass 32 = .ok (.iconst 1, 1) := by decide +kernel
theorem dX6_goPass_33 : decode cX6_goPass 33 = .ok (.iload 5, 2) := by decide +kernel
theorem dX6_goPass_35 : decode cX6_goPass 35 = .ok (.ishl, 1) := by decide +kernel
theorem dX6_goPass_36 : decode cX6_goPass 36 = .ok (.ior, 1) := by decide +kernel
theorem dX6_goPass_37 : decode cX6_goPass 37 = .ok (.istore 4, 2) := by decide +kernel
theorem dX6_goPass_39 : decode cX6_goPass 39 = .ok (.iinc 5 1, 3) := by decide +kernel
theorem dX6_goPass_42 : decode cX6_goPass 42 = .ok (.goto (-34), 3) := by decide +kernel
theorem dX6_goPass_45 : decode cX6_goPass 45 = .ok (.iconst 0, 1) := by decide +kernel
theorem dX6_goPass_46 : decode cX6_goPass 46 = .ok (.istore 5, 2) := by decide +kernel
theorem dX6_goPass_48 : decode cX6_goPass 48 = .ok (.iload 5, 2) := by decide +kernel
theorem dX6_goPass_50 : decode cX6_goPass 50 = .ok (.aload_n 0, 1) := by decide +kernel
theorem dX6_goPass_51 : decode cX6_goPass 51 = .ok (.getfield 86, 3) := by decide +kernel
theorem dX6_goPass_54 : decode cX6_goPass 54 = .ok (.if_icmp .ge 89, 3) := by decide +kernel
theorem dX6_goPass_57 : decode cX6_goPass 57 = .ok (.aload_n 0, 1) := by decide +kernel
theorem dX6_goPass_58 : decode cX6_goPass 58 = .ok (.getfield 22, 3) := by decide +kernel
theorem dX6_goPass_61 : decode cX6_goPass 61 = .ok (.iload_n 1, 1) := by decide +kernel
theorem dX6_goPass_62 : decode cX6_goPass 62 = .ok (.iaload, 1) := by decide +kernel
theorem dX6_goPass_63 : decode cX6_goPass 63 = .ok (.iload 5, 2) := by decide +kernel
theorem dX6_goPass_65 : decode cX6_goPass 65 = .ok (.invokestatic 147, 3) := by decide +kernel
theorem dX6_goPass_68 : decode cX6_goPass 68 = .ok (.ifCond .eq 20, 3) := by decide +kernel
theorem dX6_goPass_71 : decode cX6_goPass 71 = .ok (.aload_n 0, 1) := by decide +kernel
theorem dX6_goPass_72 : decode cX6_goPass 72 = .ok (.getfield 40, 3) := by decide +kernel
theorem dX6_goPass_75 : decode cX6_goPass 75 = .ok (.iload 5, 2) := by decide +kernel
theorem dX6_goPass_77 : decode cX6_goPass 77 = .ok (.iaload, 1) := by decide +kernel
theorem dX6_goPass_78 : decode cX6_goPass 78 = .ok (.aload_n 0, 1) := by decide +kernel
theorem dX6_goPass_79 : decode cX6_goPass 79 = .ok (.getfield 22, 3) := by decide +kernel
theorem dX6_goPass_82 : decode cX6_goPass 82 = .ok (.iload_n 1, 1) := by decide +kernel
theorem dX6_goPass_83 : decode cX6_goPass 83 = .ok (.iaload, 1) := by decide +kernel
theorem dX6_goPass_84 : decode cX6_goPass 84 = .ok (.iand, 1) := by decide +kernel
theorem dX6_goPass_85 : decode cX6_goPass 85 = .ok (.goto 19, 3) := by decide +kernel
theorem dX6_goPass_88 : decode cX6_goPass 88 = .ok (.aload_n 0, 1) := by decide +kernel
theorem dX6_goPass_89 : decode cX6_goPass 89 = .ok (.getfield 40, 3) := by decide +kernel
theorem dX6_goPass_92 : decode cX6_goPass 92 = .ok (.iload 5, 2) := by decide +kernel
theorem dX6_goPass_94 : decode cX6_goPass 94 = .ok (.iaload, 1) := by decide +kernel
theorem dX6_goPass_95 : decode cX6_goPass 95 = .ok (.aload_n 0, 1) := by decide +kernel
theorem dX6_goPass_96 : decode cX6_goPass 96 = .ok (.getfield 22, 3) := by decide +kernel
theorem dX6_goPass_99 : decode cX6_goPass 99 = .ok (.iload_n 1, 1) := by decide +kernel
theorem dX6_goPass_100 : decode cX6_goPass 100 = .ok (.iaload, 1) := by decide +kernel
theorem dX6_goPass_101 : decode cX6_goPass 101 = .ok (.iconst (-1), 1) := by decide +kernel
theorem dX6_goPass_102 : decode cX6_goPass 102 = .ok (.ixor, 1) := by decide +kernel
theorem dX6_goPass_103 : decode cX6_goPass 103 = .ok (.iand, 1) := by decide +kernel
theorem dX6_goPass_104 : decode cX6_goPass 104 = .ok (.istore 6, 2) := by decide +kernel
theorem dX6_goPass_106 : decode cX6_goPass 106 = .ok (.iload_n 3, 1) := by decide +kernel
theorem dX6_goPass_107 : decode cX6_goPass 107 = .ok (.ifCond .ne 15, 3) := by decide +kernel
theorem dX6_goPass_110 : decode cX6_goPass 110 = .ok (.iload 6, 2) := by decide +kernel
theorem dX6_goPass_112 : decode cX6_goPass 112 = .ok (.aload_n 0, 1) := by decide +kernel
theorem dX6_goPass_113 : decode cX6_goPass 113 = .ok (.getfield 40, 3) := by decide +kernel
theorem dX6_goPass_116 : decode cX6_goPass 116 = .ok (.iload 5, 2) := by decide +kernel
theorem dX6_goPass_118 : decode cX6_goPass 118 = .ok (.iaload, 1) := by decide +kernel
theorem dX6_goPass_119 : decode cX6_goPass 119 = .ok (.if_icmp .eq 7, 3) := by decide +kernel
theorem dX6_goPass_122 : decode cX6_goPass 122 = .ok (.iconst 1, 1) := by decide +kernel
theorem dX6_goPass_123 : decode cX6_goPass 123 = .ok (.goto 4, 3) := by decide +kernel
theorem dX6_goPass_126 : decode cX6_goPass 126 = .ok (.iconst 0, 1) := by decide +kernel
theorem dX6_goPass_127 : decode cX6_goPass 127 = .ok (.istore_n 3, 1) := by decide +kernel
theorem dX6_goPass_128 : decode cX6_goPass 128 = .ok (.aload_n 0, 1) := by decide +kernel
theorem dX6_goPass_129 : decode cX6_goPass 129 = .ok (.getfield 40, 3) := by decide +kernel
theorem dX6_goPass_132 : decode cX6_goPass 132 = .ok (.iload 5, 2) := by decide +kernel
theorem dX6_goPass_134 : decode cX6_goPass 134 = .ok (.iload 6, 2) := by decide +kernel
theorem dX6_goPass_136 : decode cX6_goPass 136 = .ok (.iastore, 1) := by decide +kernel
theorem dX6_goPass_137 : decode cX6_goPass 137 = .ok (.iinc 5 1, 3) := by decide +kernel
theorem dX6_goPass_140 : decode cX6_goPass 140 = .ok (.goto (-92), 3) := by decide +kernel
theorem dX6_goPass_143 : decode cX6_goPass 143 = .ok (.aload_n 0, 1) := by decide +kernel
theorem dX6_goPass_144 : decode cX6_goPass 144 = .ok (.dup, 1) := by decide +kernel
theorem dX6_goPass_145 : decode cX6_goPass 145 = .ok (.getfield 167, 3) := by decide +kernel
theorem dX6_goPass_148 : decode cX6_goPass 148 = .ok (.aload_n 0, 1) := by decide +kernel
theorem dX6_goPass_149 : decode cX6_goPass 149 = .ok (.iload 4, 2) := by decide +kernel
theorem dX6_goPass_151 : decode cX6_goPass 151 = .ok (.invokevirtual 176, 3) := by decide +kernel
theorem dX6_goPass_154 : decode cX6_goPass 154 = .ok (.iadd, 1) := by decide +kernel
theorem dX6_goPass_155 : decode cX6_goPass 155 = .ok (.putfield 167, 3) := by decide +kernel
theorem dX6_goPass_158 : decode cX6_goPass 158 = .ok (.iconst 0, 1) := by decide +kernel
theorem dX6_goPass_159 : decode cX6_goPass 159 = .ok (.istore 5, 2) := by decide +kernel
theorem dX6_goPass_161 : decode cX6_goPass 161 = .ok (.iload 5, 2) := by decide +kernel
theorem dX6_goPass_163 : decode cX6_goPass 163 = .ok (.aload_n 0, 1) := by decide +kernel
theorem dX6_goPass_164 : decode cX6_goPass 164 = .ok (.getfield 86, 3) := by decide +kernel
theorem dX6_goPass_167 : decode cX6_goPass 167 = .ok (.if_icmp .ge 49, 3) := by decide +kernel
theorem dX6_goPass_170 : decode cX6_goPass 170 = .ok (.aload_n 0, 1) := by decide +kernel
theorem dX6_goPass_171 : decode cX6_goPass 171 = .ok (.getfield 43, 3) := by decide +kernel
theorem dX6_goPass_174 : decode cX6_goPass 174 = .ok (.iload 5, 2) := by decide +kernel
theorem dX6_goPass_176 : decode cX6_goPass 176 = .ok (.aload_n 0, 1) := by decide +kernel
theorem dX6_goPass_177 : decode cX6_goPass 177 = .ok (.getfield 43, 3) := by decide +kernel
theorem dX6_goPass_180 : decode cX6_goPass 180 = .ok (.iload 5, 2) := by decide +kernel
theorem dX6_goPass_182 : decode cX6_goPass 182 = .ok (.iaload, 1) := by decide +kernel
theorem dX6_goPass_183 : decode cX6_goPass 183 = .ok (.ifCond .ge 19, 3) := by decide +kernel
theorem dX6_goPass_186 : decode cX6_goPass 186 = .ok (.aload_n 0, 1) := by decide +kernel
theorem dX6_goPass_187 : decode cX6_goPass 187 = .ok (.iload 5, 2) := by decide +kernel
theorem dX6_goPass_189 : decode cX6_goPass 189 = .ok (.invokevirtual 173, 3) := by decide +kernel
theorem dX6_goPass_192 : decode cX6_goPass 192 = .ok (.ifCond .eq 10, 3) := by decide +kernel
theorem dX6_goPass_195 : decode cX6_goPass 195 = .ok (.aload_n 0, 1) := by decide +kernel
theorem dX6_goPass_196 : decode cX6_goPass 196 = .ok (.getfield 167, 3) := by decide +kernel
theorem dX6_goPass_199 : decode cX6_goPass 199 = .ok (.goto 10, 3) := by decide +kernel
theorem dX6_goPass_202 : decode cX6_goPass 202 = .ok (.aload_n 0, 1) := by decide +kernel
theorem dX6_goPass_203 : decode cX6_goPass 203 = .ok (.getfield 43, 3) := by decide +kernel
theorem dX6_goPass_206 : decode cX6_goPass 206 = .ok (.iload 5, 2) := by decide +kernel
theorem dX6_goPass_208 : decode cX6_goPass 208 = .ok (.iaload, 1) := by decide +kernel
theorem dX6_goPass_209 : decode cX6_goPass 209 = .ok (.iastore, 1) := by decide +kernel
theorem dX6_goPass_210 : decode cX6_goPass 210 = .ok (.iinc 5 1, 3) := by decide +kernel
theorem dX6_goPass_213 : decode cX6_goPass 213 = .ok (.goto (-52), 3) := by decide +kernel
theorem dX6_goPass_216 : decode cX6_goPass 216 = .ok (.aload_n 0, 1) := by decide +kernel
theorem dX6_goPass_217 : decode cX6_goPass 217 = .ok (.aload_n 0, 1) := by decide +kernel
theorem dX6_goPass_218 : decode cX6_goPass 218 = .ok (.getfield 170, 3) := by decide +kernel
theorem dX6_goPass_221 : decode cX6_goPass 221 = .ok (.ifCond .ge 11, 3) := by decide +kernel
theorem dX6_goPass_224 : decode cX6_goPass 224 = .ok (.iload_n 3, 1) := by decide +kernel
theorem dX6_goPass_225 : decode cX6_goPass 225 = .ok (.ifCond .ne 7, 3) := by decide +kernel
theorem dX6_goPass_228 : decode cX6_goPass 228 = .ok (.iload_n 2, 1) := by decide +kernel
theorem dX6_goPass_229 : decode cX6_goPass 229 = .ok (.goto 7, 3) := by decide +kernel
theorem dX6_goPass_232 : decode cX6_goPass 232 = .ok (.aload_n 0, 1) := by decide +kernel
theorem dX6_goPass_233 : decode cX6_goPass 233 = .ok (.getfield 170, 3) := by decide +kernel
theorem dX6_goPass_236 : decode cX6_goPass 236 = .ok (.putfield 170, 3) := by decide +kernel
theorem dX6_goPass_239 : decode cX6_goPass 239 = .ok (.return_, 1) := by decide +kernel
theorem dX6_goPlan_0 : decode cX6_goPlan 0 = .ok (.aload_n 0, 1) := by decide +kernel
theorem dX6_goPlan_1 : decode cX6_goPlan 1 = .ok (.invokevirtual 179, 3) := by decide +kernel
theorem dX6_goPlan_4 : decode cX6_goPlan 4 = .ok (.iconst 0, 1) := by decide +kernel
theorem dX6_goPlan_5 : decode cX6_goPlan 5 = .ok (.istore_n 3, 1) := by decide +kernel
theorem dX6_goPlan_6 : decode cX6_goPlan 6 = .ok (.iload_n 3, 1) := by decide +kernel
theorem dX6_goPlan_7 : decode cX6_goPlan 7 = .ok (.iload_n 2, 1) := by decide +kernel
theorem dX6_goPlan_8 : decode cX6_goPlan 8 = .ok (.if_icmp .ge 22, 3) := by decide +kernel
theorem dX6_goPlan_11 : decode cX6_goPlan 11 = .ok (.aload_n 0, 1) := by decide +kernel
theorem dX6_goPlan_12 : decode cX6_goPlan 12 = .ok (.aload_n 0, 1) := by decide +kernel
theorem dX6_goPlan_13 : decode cX6_goPlan 13 = .ok (.getfield 70, 3) := by decide +kernel
theorem dX6_goPlan_16 : decode cX6_goPlan 16 = .ok (.iload_n 1, 1) := by decide +kernel
theorem dX6_goPlan_17 : decode cX6_goPlan 17 = .ok (.iload_n 3, 1) := by decide +kernel
theorem dX6_goPlan_18 : decode cX6_goPlan 18 = .ok (.iadd, 1) := by decide +kernel
theorem dX6_goPlan_19 : decode cX6_goPlan 19 = .ok (.iaload, 1) := by decide +kernel
theorem dX6_goPlan_20 : decode cX6_goPlan 20 = .ok (.iload_n 3, 1) := by decide +kernel
theorem dX6_goPlan_21 : decode cX6_goPlan 21 = .ok (.invokevirtual 182, 3) := by decide +kernel
theorem dX6_goPlan_24 : decode cX6_goPlan 24 = .ok (.iinc 3 1, 3) := by decide +kernel
theorem dX6_goPlan_27 : decode cX6_goPlan 27 = .ok (.goto (-21), 3) := by decide +kernel
end
section
theorem dX6_goPlan_30 : decode cX6_goPlan 30 = .ok (.return_, 1) := by decide +kernel
theorem dX6_readyNow_0 : decode cX6_readyNow 0 = .ok (.iconst 0, 1) := by decide +kernel
theorem dX6_readyNow_1 : decode cX6_readyNow 1 = .ok (.istore_n 1, 1) := by decide +kernel
theorem dX6_readyNow_2 : decode cX6_readyNow 2 = .ok (.iconst 0, 1) := by decide +kernel
theorem dX6_readyNow_3 : decode cX6_readyNow 3 = .ok (.istore_n 2, 1) := by decide +kernel
theorem dX6_readyNow_4 : decode cX6_readyNow 4 = .ok (.iload_n 2, 1) := by decide +kernel
theorem dX6_readyNow_5 : decode cX6_readyNow 5 = .ok (.aload_n 0, 1) := by decide +kernel
theorem dX6_readyNow_6 : decode cX6_readyNow 6 = .ok (.getfield 86, 3) := by decide +kernel
theorem dX6_readyNow_9 : decode cX6_readyNow 9 = .ok (.if_icmp .ge 27, 3) := by decide +kernel
theorem dX6_readyNow_12 : decode cX6_readyNow 12 = .ok (.iload_n 1, 1) := by decide +kernel
theorem dX6_readyNow_13 : decode cX6_readyNow 13 = .ok (.aload_n 0, 1) := by decide +kernel
theorem dX6_readyNow_14 : decode cX6_readyNow 14 = .ok (.iload_n 2, 1) := by decide +kernel
theorem dX6_readyNow_15 : decode cX6_readyNow 15 = .ok (.invokevirtual 173, 3) := by decide +kernel
theorem dX6_readyNow_18 : decode cX6_readyNow 18 = .ok (.ifCond .eq 9, 3) := by decide +kernel
theorem dX6_readyNow_21 : decode cX6_readyNow 21 = .ok (.iconst 1, 1) := by decide +kernel
theorem dX6_readyNow_22 : decode cX6_readyNow 22 = .ok (.iload_n 2, 1) := by decide +kernel
theorem dX6_readyNow_23 : decode cX6_readyNow 23 = .ok (.ishl, 1) := by decide +kernel
theorem dX6_readyNow_24 : decode cX6_readyNow 24 = .ok (.goto 4, 3) := by decide +kernel
theorem dX6_readyNow_27 : decode cX6_readyNow 27 = .ok (.iconst 0, 1) := by decide +kernel
theorem dX6_readyNow_28 : decode cX6_readyNow 28 = .ok (.ior, 1) := by decide +kernel
theorem dX6_readyNow_29 : decode cX6_readyNow 29 = .ok (.istore_n 1, 1) := by decide +kernel
theorem dX6_readyNow_30 : decode cX6_readyNow 30 = .ok (.iinc 2 1, 3) := by decide +kernel
theorem dX6_readyNow_33 : decode cX6_readyNow 33 = .ok (.goto (-29), 3) := by decide +kernel
theorem dX6_readyNow_36 : decode cX6_readyNow 36 = .ok (.iload_n 1, 1) := by decide +kernel
theorem dX6_readyNow_37 : decode cX6_readyNow 37 = .ok (.ireturn, 1) := by decide +kernel
theorem dX6_leastOf_0 : decode cX6_leastOf 0 = .ok (.iconst 0, 1) := by decide +kernel
theorem dX6_leastOf_1 : decode cX6_leastOf 1 = .ok (.istore_n 2, 1) := by decide +kernel
theorem dX6_leastOf_2 : decode cX6_leastOf 2 = .ok (.aload_n 0, 1) := by decide +kernel
theorem dX6_leastOf_3 : decode cX6_leastOf 3 = .ok (.getfield 40, 3) := by decide +kernel
theorem dX6_leastOf_6 : decode cX6_leastOf 6 = .ok (.iload_n 1, 1) := by decide +kernel
theorem dX6_leastOf_7 : decode cX6_leastOf 7 = .ok (.iaload, 1) := by decide +kernel
theorem dX6_leastOf_8 : decode cX6_leastOf 8 = .ok (.iload_n 2, 1) := by decide +kernel
theorem dX6_leastOf_9 : decode cX6_leastOf 9 = .ok (.invokestatic 147, 3) := by decide +kernel
theorem dX6_leastOf_12 : decode cX6_leastOf 12 = .ok (.ifCond .ne 9, 3) := by decide +kernel
theorem dX6_leastOf_15 : decode cX6_leastOf 15 = .ok (.iinc 2 1, 3) := by decide +kernel
theorem dX6_leastOf_18 : decode cX6_leastOf 18 = .ok (.goto (-16), 3) := by decide +kernel
theorem dX6_leastOf_21 : decode cX6_leastOf 21 = .ok (.iload_n 2, 1) := by decide +kernel
theorem dX6_leastOf_22 : decode cX6_leastOf 22 = .ok (.ireturn, 1) := by decide +kernel
theorem dX6_heapsNow_0 : decode cX6_heapsNow 0 = .ok (.iconst 0, 1) := by decide +kernel
theorem dX6_heapsNow_1 : decode cX6_heapsNow 1 = .ok (.istore_n 1, 1) := by decide +kernel
theorem dX6_heapsNow_2 : decode cX6_heapsNow 2 = .ok (.iconst 0, 1) := by decide +kernel
theorem dX6_heapsNow_3 : decode cX6_heapsNow 3 = .ok (.istore_n 2, 1) := by decide +kernel
theorem dX6_heapsNow_4 : decode cX6_heapsNow 4 = .ok (.iload_n 2, 1) := by decide +kernel
theorem dX6_heapsNow_5 : decode cX6_heapsNow 5 = .ok (.aload_n 0, 1) := by decide +kernel
theorem dX6_heapsNow_6 : decode cX6_heapsNow 6 = .ok (.getfield 86, 3) := by decide +kernel
theorem dX6_heapsNow_9 : decode cX6_heapsNow 9 = .ok (.if_icmp .ge 26, 3) := by decide +kernel
theorem dX6_heapsNow_12 : decode cX6_heapsNow 12 = .ok (.iload_n 1, 1) := by decide +kernel
theorem dX6_heapsNow_13 : decode cX6_heapsNow 13 = .ok (.aload_n 0, 1) := by decide +kernel
theorem dX6_heapsNow_14 : decode cX6_heapsNow 14 = .ok (.iload_n 2, 1) := by decide +kernel
theorem dX6_heapsNow_15 : decode cX6_heapsNow 15 = .ok (.invokevirtual 186, 3) := by decide +kernel
theorem dX6_heapsNow_18 : decode cX6_heapsNow 18 = .ok (.iload_n 2, 1) := by decide +kernel
theorem dX6_heapsNow_19 : decode cX6_heapsNow 19 = .ok (.if_icmp .ne 7, 3) := by decide +kernel
theorem dX6_heapsNow_22 : decode cX6_heapsNow 22 = .ok (.iconst 1, 1) := by decide +kernel
theorem dX6_heapsNow_23 : decode cX6_heapsNow 23 = .ok (.goto 4, 3) := by decide +kernel
theorem dX6_heapsNow_26 : decode cX6_heapsNow 26 = .ok (.iconst 0, 1) := by decide +kernel
theorem dX6_heapsNow_27 : decode cX6_heapsNow 27 = .ok (.iadd, 1) := by decide +kernel
theorem dX6_heapsNow_28 : decode cX6_heapsNow 28 = .ok (.istore_n 1, 1) := by decide +kernel
theorem dX6_heapsNow_29 : decode cX6_heapsNow 29 = .ok (.iinc 2 1, 3) := by decide +kernel
theorem dX6_heapsNow_32 : decode cX6_heapsNow 32 = .ok (.goto (-28), 3) := by decide +kernel
theorem dX6_heapsNow_35 : decode cX6_heapsNow 35 = .ok (.iload_n 1, 1) := by decide +kernel
theorem dX6_heapsNow_36 : decode cX6_heapsNow 36 = .ok (.ireturn, 1) := by decide +kernel
theorem dX6_rowBarred_0 : decode cX6_rowBarred 0 = .ok (.aload_n 0, 1) := by decide +kernel
theorem dX6_rowBarred_1 : decode cX6_rowBarred 1 = .ok (.iload_n 1, 1) := by decide +kernel
theorem dX6_rowBarred_2 : decode cX6_rowBarred 2 = .ok (.iload_n 2, 1) := by decide +kernel
theorem dX6_rowBarred_3 : decode cX6_rowBarred 3 = .ok (.iload_n 3, 1) := by decide +kernel
theorem dX6_rowBarred_4 : decode cX6_rowBarred 4 = .ok (.iload 4, 2) := by decide +kernel
theorem dX6_rowBarred_6 : decode cX6_rowBarred 6 = .ok (.i2l, 1) := by decide +kernel
theorem dX6_rowBarred_7 : decode cX6_rowBarred 7 = .ok (.invokevirtual 137, 3) := by decide +kernel
theorem dX6_rowBarred_10 : decode cX6_rowBarred 10 = .ok (.istore 6, 2) := by decide +kernel
theorem dX6_rowBarred_12 : decode cX6_rowBarred 12 = .ok (.iload 6, 2) := by decide +kernel
theorem dX6_rowBarred_14 : decode cX6_rowBarred 14 = .ok (.ifCond .ge 6, 3) := by decide +kernel
theorem dX6_rowBarred_17 : decode cX6_rowBarred 17 = .ok (.iload 6, 2) := by decide +kernel
theorem dX6_rowBarred_19 : decode cX6_rowBarred 19 = .ok (.ireturn, 1) := by decide +kernel
theorem dX6_rowBarred_20 : decode cX6_rowBarred 20 = .ok (.iconst 0, 1) := by decide +kernel
theorem dX6_rowBarred_21 : decode cX6_rowBarred 21 = .ok (.istore 7, 2) := by decide +kernel
theorem dX6_rowBarred_23 : decode cX6_rowBarred 23 = .ok (.iload 7, 2) := by decide +kernel
theorem dX6_rowBarred_25 : decode cX6_rowBarred 25 = .ok (.iload 4, 2) := by decide +kernel
theorem dX6_rowBarred_27 : decode cX6_rowBarred 27 = .ok (.if_icmp .ge 57, 3) := by decide +kernel
theorem dX6_rowBarred_30 : decode cX6_rowBarred 30 = .ok (.aload_n 0, 1) := by decide +kernel
theorem dX6_rowBarred_31 : decode cX6_rowBarred 31 = .ok (.getfield 70, 3) := by decide +kernel
theorem dX6_rowBarred_34 : decode cX6_rowBarred 34 = .ok (.bipush 60, 2) := by decide +kernel
theorem dX6_rowBarred_36 : decode cX6_rowBarred 36 = .ok (.iload_n 1, 1) := by decide +kernel
theorem dX6_rowBarred_37 : decode cX6_rowBarred 37 = .ok (.imul, 1) := by decide +kernel
theorem dX6_rowBarred_38 : decode cX6_rowBarred 38 = .ok (.iload_n 3, 1) := by decide +kernel
theorem dX6_rowBarred_39 : decode cX6_rowBarred 39 = .ok (.iadd, 1) := by decide +kernel
theorem dX6_rowBarred_40 : decode cX6_rowBarred 40 = .ok (.iload 7, 2) := by decide +kernel
theorem dX6_rowBarred_42 : decode cX6_rowBarred 42 = .ok (.iadd, 1) := by decide +kernel
theorem dX6_rowBarred_43 : decode cX6_rowBarred 43 = .ok (.iaload, 1) := by decide +kernel
theorem dX6_rowBarred_44 : decode cX6_rowBarred 44 = .ok (.istore 8, 2) := by decide +kernel
theorem dX6_rowBarred_46 : decode cX6_rowBarred 46 = .ok (.iload 5, 2) := by decide +kernel
theorem dX6_rowBarred_48 : decode cX6_rowBarred 48 = .ok (.ifCond .eq 15, 3) := by decide +kernel
theorem dX6_rowBarred_51 : decode cX6_rowBarred 51 = .ok (.aload_n 0, 1) := by decide +kernel
theorem dX6_rowBarred_52 : decode cX6_rowBarred 52 = .ok (.iload 8, 2) := by decide +kernel
theorem dX6_rowBarred_54 : decode cX6_rowBarred 54 = .ok (.invokevirtual 156, 3) := by decide +kernel
theorem dX6_rowBarred_57 : decode cX6_rowBarred 57 = .ok (.ifCond .eq 21, 3) := by decide +kernel
theorem dX6_rowBarred_60 : decode cX6_rowBarred 60 = .ok (.goto 12, 3) := by decide +kernel
theorem dX6_rowBarred_63 : decode cX6_rowBarred 63 = .ok (.aload_n 0, 1) := by decide +kernel
theorem dX6_rowBarred_64 : decode cX6_rowBarred 64 = .ok (.iload 8, 2) := by decide +kernel
theorem dX6_rowBarred_66 : decode cX6_rowBarred 66 = .ok (.invokevirtual 153, 3) := by decide +kernel
theorem dX6_rowBarred_69 : decode cX6_rowBarred 69 = .ok (.ifCond .eq 9, 3) := by decide +kernel
theorem dX6_rowBarred_72 : decode cX6_rowBarred 72 = .ok (.aload_n 0, 1) := by decide +kernel
theorem dX6_rowBarred_73 : decode cX6_rowBarred 73 = .ok (.iconst (-1), 1) := by decide +kernel
theorem dX6_rowBarred_74 : decode cX6_rowBarred 74 = .ok (.invokevirtual 132, 3) := by decide +kernel
theorem dX6_rowBarred_77 : decode cX6_rowBarred 77 = .ok (.ireturn, 1) := by decide +kernel
theorem dX6_rowBarred_78 : decode cX6_rowBarred 78 = .ok (.iinc 7 1, 3) := by decide +kernel
theorem dX6_rowBarred_81 : decode cX6_rowBarred 81 = .ok (.goto (-58), 3) := by decide +kernel
theorem dX6_rowBarred_84 : decode cX6_rowBarred 84 = .ok (.aload_n 0, 1) := by decide +kernel
theorem dX6_rowBarred_85 : decode cX6_rowBarred 85 = .ok (.iconst 0, 1) := by decide +kernel
theorem dX6_rowBarred_86 : decode cX6_rowBarred 86 = .ok (.invokevirtual 132, 3) := by decide +kernel
theorem dX6_rowBarred_89 : decode cX6_rowBarred 89 = .ok (.ireturn, 1) := by decide +kernel
theorem dX6_plan_0 : decode cX6_plan 0 = .ok (.iload_n 1, 1) := by decide +kernel
theorem dX6_plan_1 : decode cX6_plan 1 = .ok (.invokestatic 128, 3) := by decide +kernel
theorem dX6_plan_4 : decode cX6_plan 4 = .ok (.ifCond .eq 9, 3) := by decide +kernel
theorem dX6_plan_7 : decode cX6_plan 7 = .ok (.aload_n 0, 1) := by decide +kernel
theorem dX6_plan_8 : decode cX6_plan 8 = .ok (.iconst (-1), 1) := by decide +kernel
theorem dX6_plan_9 : decode cX6_plan 9 = .ok (.invokevirtual 132, 3) := by decide +kernel
theorem dX6_plan_12 : decode cX6_plan 12 = .ok (.ireturn, 1) := by decide +kernel
theorem dX6_plan_13 : decode cX6_plan 13 = .ok (.iload 5, 2) := by decide +kernel
theorem dX6_plan_15 : decode cX6_plan 15 = .ok (.i2l, 1) := by decide +kernel
theorem dX6_plan_16 : decode cX6_plan 16 = .ok (.lconst 0, 1) := by decide +kernel
theorem dX6_plan_17 : decode cX6_plan 17 = .ok (.ldc2_w 189, 3) := by decide +kernel
theorem dX6_plan_20 : decode cX6_plan 20 = .ok (.invokestatic 89, 3) := by decide +kernel
theorem dX6_plan_23 : decode cX6_plan 23 = .ok (.ifCond .ne 33, 3) := by decide +kernel
theorem dX6_plan_26 : decode cX6_plan 26 = .ok (.iload 5, 2) := by decide +kernel
theorem dX6_plan_28 : decode cX6_plan 28 = .ok (.i2l, 1) := by decide +kernel
theorem dX6_plan_29 : decode cX6_plan 29 = .ok (.ldc2_w 191, 3) := by decide +kernel
theorem dX6_plan_32 : decode cX6_plan 32 = .ok (.ldc2_w 193, 3) := by decide +kernel
theorem dX6_plan_35 : decode cX6_plan 35 = .ok (.invokestatic 89, 3) := by decide +kernel
theorem dX6_plan_38 : decode cX6_plan 38 = .ok (.ifCond .ne 18, 3) := by decide +kernel
theorem dX6_plan_41 : decode cX6_plan 41 = .ok (.iload 5, 2) := by decide +kernel
theorem dX6_plan_43 : decode cX6_plan 43 = .ok (.i2l, 1) := by decide +kernel
theorem dX6_plan_44 : decode cX6_plan 44 = .ok (.ldc2_w 195, 3) := by decide +kernel
theorem dX6_plan_47 : decode cX6_plan 47 = .ok (.ldc2_w 197, 3) := by decide +kernel
theorem dX6_plan_50 : decode cX6_plan 50 = .ok (.invokestatic 89, 3) := by decide +kernel
theorem dX6_plan_53 : decode cX6_plan 53 = .ok (.ifCond .eq 7, 3) := by decide +kernel
theorem dX6_plan_56 : decode cX6_plan 56 = .ok (.iconst 1, 1) := by decide +kernel
theorem dX6_plan_57 : decode cX6_plan 57 = .ok (.goto 4, 3) := by decide +kernel
theorem dX6_plan_60 : decode cX6_plan 60 = .ok (.iconst 0, 1) := by decide +kernel
theorem dX6_plan_61 : decode cX6_plan 61 = .ok (.istore 6, 2) := by decide +kernel
theorem dX6_plan_63 : decode cX6_plan 63 = .ok (.iload_n 2, 1) := by decide +kernel
theorem dX6_plan_64 : decode cX6_plan 64 = .ok (.i2l, 1) := by decide +kernel
theorem dX6_plan_65 : decode cX6_plan 65 = .ok (.lconst 0, 1) := by decide +kernel
theorem dX6_plan_66 : decode cX6_plan 66 = .ok (.ldc2_w 135, 3) := by decide +kernel
theorem dX6_plan_69 : decode cX6_plan 69 = .ok (.invokestatic 89, 3) := by decide +kernel
theorem dX6_plan_72 : decode cX6_plan 72 = .ok (.ifCond .eq 21, 3) := by decide +kernel
theorem dX6_plan_75 : decode cX6_plan 75 = .ok (.iload 4, 2) := by decide +kernel
theorem dX6_plan_77 : decode cX6_plan 77 = .ok (.i2l, 1) := by decide +kernel
theorem dX6_plan_78 : decode cX6_plan 78 = .ok (.lconst 0, 1) := by decide +kernel
theorem dX6_plan_79 : decode cX6_plan 79 = .ok (.ldc2_w 195, 3) := by decide +kernel
theorem dX6_plan_82 : decode cX6_plan 82 = .ok (.invokestatic 89, 3) := by decide +kernel
theorem dX6_plan_85 : decode cX6_plan 85 = .ok (.ifCond .eq 8, 3) := by decide +kernel
theorem dX6_plan_88 : decode cX6_plan 88 = .ok (.iload 6, 2) := by decide +kernel
theorem dX6_plan_90 : decode cX6_plan 90 = .ok (.ifCond .ne 10, 3) := by decide +kernel
theorem dX6_plan_93 : decode cX6_plan 93 = .ok (.aload_n 0, 1) := by decide +kernel
theorem dX6_plan_94 : decode cX6_plan 94 = .ok (.bipush (-2), 2) := by decide +kernel
theorem dX6_plan_96 : decode cX6_plan 96 = .ok (.invokevirtual 132, 3) := by decide +kernel
theorem dX6_plan_99 : decode cX6_plan 99 = .ok (.ireturn, 1) := by decide +kernel
theorem dX6_plan_100 : decode cX6_plan 100 = .ok (.aload_n 0, 1) := by decide +kernel
theorem dX6_plan_101 : decode cX6_plan 101 = .ok (.getfield 86, 3) := by decide +kernel
theorem dX6_plan_104 : decode cX6_plan 104 = .ok (.ifCond .ne 10, 3) := by decide +kernel
theorem dX6_plan_107 : decode cX6_plan 107 = .ok (.aload_n 0, 1) := by decide +kernel
theorem dX6_plan_108 : decode cX6_plan 108 = .ok (.bipush (-3), 2) := by decide +kernel
theorem dX6_plan_110 : decode cX6_plan 110 = .ok (.invokevirtual 132, 3) := by decide +kernel
theorem dX6_plan_113 : decode cX6_plan 113 = .ok (.ireturn, 1) := by decide +kernel
theorem dX6_plan_114 : decode cX6_plan 114 = .ok (.aload_n 0, 1) := by decide +kernel
theorem dX6_plan_115 : decode cX6_plan 115 = .ok (.iload_n 1, 1) := by decide +kernel
theorem dX6_plan_116 : decode cX6_plan 116 = .ok (.iload_n 2, 1) := by decide +kernel
theorem dX6_plan_117 : decode cX6_plan 117 = .ok (.iload_n 3, 1) := by decide +kernel
theorem dX6_plan_118 : decode cX6_plan 118 = .ok (.iload 4, 2) := by decide +kernel
theorem dX6_plan_120 : decode cX6_plan 120 = .ok (.iconst 1, 1) := by decide +kernel
theorem dX6_plan_121 : decode cX6_plan 121 = .ok (.invokevirtual 199, 3) := by decide +kernel
theorem dX6_plan_124 : decode cX6_plan 124 = .ok (.istore 7, 2) := by decide +kernel
theorem dX6_plan_126 : decode cX6_plan 126 = .ok (.iload 7, 2) := by decide +kernel
theorem dX6_plan_128 : decode cX6_plan 128 = .ok (.ifCond .ge 6, 3) := by decide +kernel
theorem dX6_plan_131 : decode cX6_plan 131 = .ok (.iload 7, 2) := by decide +kernel
theorem dX6_plan_133 : decode cX6_plan 133 = .ok (.ireturn, 1) := by decide +kernel
theorem dX6_plan_134 : decode cX6_plan 134 = .ok (.aload_n 0, 1) := by decide +kernel
theorem dX6_plan_135 : decode cX6_plan 135 = .ok (.bipush 60, 2) := by decide +kernel
theorem dX6_plan_137 : decode cX6_plan 137 = .ok (.iload_n 1, 1) := by decide +kernel
theorem dX6_plan_138 : decode cX6_plan 138 = .ok (.imul, 1) := by decide +kernel
theorem dX6_plan_139 : decode cX6_plan 139 = .ok (.iload_n 3, 1) := by decide +kernel
theorem dX6_plan_140 : decode cX6_plan 140 = .ok (.iadd, 1) := by decide +kernel
theorem dX6_plan_141 : decode cX6_plan 141 = .ok (.iload 4, 2) := by decide +kernel
theorem dX6_plan_143 : decode cX6_plan 143 = .ok (.invokevirtual 203, 3) := by decide +kernel
theorem dX6_plan_146 : decode cX6_plan 146 = .ok (.iload 5, 2) := by decide +kernel
theorem dX6_plan_148 : decode cX6_plan 148 = .ok (.bipush 9, 2) := by decide +kernel
theorem dX6_plan_150 : decode cX6_plan 150 = .ok (.if_icmp .le 48, 3) := by decide +kernel
theorem dX6_plan_153 : decode cX6_plan 153 = .ok (.iload 5, 2) := by decide +kernel
theorem dX6_plan_155 : decode cX6_plan 155 = .ok (.bipush 10, 2) := by decide +kernel
theorem dX6_plan_157 : decode cX6_plan 157 = .ok (.irem, 1) := by decide +kernel
theorem dX6_plan_158 : decode cX6_plan 158 = .ok (.istore 8, 2) := by decide +kernel
theorem dX6_plan_160 : decode cX6_plan 160 = .ok (.aload_n 0, 1) := by decide +kernel
theorem dX6_plan_161 : decode cX6_plan 161 = .ok (.iload 8, 2) := by decide +kernel
theorem dX6_plan_163 : decode cX6_plan 163 = .ok (.invokevirtual 153, 3) := by decide +kernel
theorem dX6_plan_166 : decode cX6_plan 166 = .ok (.ifCond .eq 8, 3) := by decide +kernel
theorem dX6_plan_169 : decode cX6_plan 169 = .ok (.bipush (-9), 2) := by decide +kernel
theorem dX6_plan_171 : decode cX6_plan 171 = .ok (.goto 26, 3) := by decide +kernel
theorem dX6_plan_174 : decode cX6_plan 174 = .ok (.iload 5, 2) := by decide +kernel
theorem dX6_plan_176 : decode cX6_plan 176 = .ok (.bipush 20, 2) := by decide +kernel
theorem dX6_plan_178 : decode cX6_plan 178 = .ok (.if_icmp .ge 13, 3) := by decide +kernel
theorem dX6_plan_181 : decode cX6_plan 181 = .ok (.aload_n 0, 1) := by decide +kernel
theorem dX6_plan_182 : decode cX6_plan 182 = .ok (.getfield 43, 3) := by decide +kernel
theorem dX6_plan_185 : decode cX6_plan 185 = .ok (.iload 8, 2) := by decide +kernel
theorem dX6_plan_187 : decode cX6_plan 187 = .ok (.iaload, 1) := by decide +kernel
theorem dX6_plan_188 : decode cX6_plan 188 = .ok (.goto 9, 3) := by decide +kernel
theorem dX6_plan_191 : decode cX6_plan 191 = .ok (.aload_n 0, 1) := by decide +kernel
theorem dX6_plan_192 : decode cX6_plan 192 = .ok (.iload 8, 2) := by decide +kernel
theorem dX6_plan_194 : decode cX6_plan 194 = .ok (.invokevirtual 186, 3) := by decide +kernel
theorem dX6_plan_197 : decode cX6_plan 197 = .ok (.ireturn, 1) := by decide +kernel
theorem dX6_plan_198 : decode cX6_plan 198 = .ok (.iload 5, 2) := by decide +kernel
theorem dX6_plan_200 : decode cX6_plan 200 = .ok (.ifCond .ne 10, 3) := by decide +kernel
theorem dX6_plan_203 : decode cX6_plan 203 = .ok (.aload_n 0, 1) := by decide +kernel
theorem dX6_plan_204 : decode cX6_plan 204 = .ok (.getfield 167, 3) := by decide +kernel
theorem dX6_plan_207 : decode cX6_plan 207 = .ok (.goto 33, 3) := by decide +kernel
theorem dX6_plan_210 : decode cX6_plan 210 = .ok (.iload 5, 2) := by decide +kernel
theorem dX6_plan_212 : decode cX6_plan 212 = .ok (.iconst 1, 1) := by decide +kernel
theorem dX6_plan_213 : decode cX6_plan 213 = .ok (.if_icmp .ne 10, 3) := by decide +kernel
theorem dX6_plan_216 : decode cX6_plan 216 = .ok (.aload_n 0, 1) := by decide +kernel
theorem dX6_plan_217 : decode cX6_plan 217 = .ok (.getfield 170, 3) := by decide +kernel
theorem dX6_plan_220 : decode cX6_plan 220 = .ok (.goto 20, 3) := by decide +kernel
theorem dX6_plan_223 : decode cX6_plan 223 = .ok (.iload 5, 2) := by decide +kernel
theorem dX6_plan_225 : decode cX6_plan 225 = .ok (.iconst 2, 1) := by decide +kernel
theorem dX6_plan_226 : decode cX6_plan 226 = .ok (.if_icmp .ne 10, 3) := by decide +kernel
theorem dX6_plan_229 : decode cX6_plan 229 = .ok (.aload_n 0, 1) := by decide +kernel
theorem dX6_plan_230 : decode cX6_plan 230 = .ok (.invokevirtual 206, 3) := by decide +kernel
theorem dX6_plan_233 : decode cX6_plan 233 = .ok (.goto 7, 3) := by decide +kernel
theorem dX6_plan_236 : decode cX6_plan 236 = .ok (.aload_n 0, 1) := by decide +kernel
theorem dX6_plan_237 : decode cX6_plan 237 = .ok (.invokevirtual 209, 3) := by decide +kernel
theorem dX6_plan_240 : decode cX6_plan 240 = .ok (.ireturn, 1) := by decide +kernel
theorem dX6_line_0 : decode cX6_line 0 = .ok (.iload_n 1, 1) := by decide +kernel
theorem dX6_line_1 : decode cX6_line 1 = .ok (.invokestatic 128, 3) := by decide +kernel
theorem dX6_line_4 : decode cX6_line 4 = .ok (.ifCond .eq 9, 3) := by decide +kernel
theorem dX6_line_7 : decode cX6_line 7 = .ok (.aload_n 0, 1) := by decide +kernel
theorem dX6_line_8 : decode cX6_line 8 = .ok (.iconst (-1), 1) := by decide +kernel
theorem dX6_line_9 : decode cX6_line 9 = .ok (.invokevirtual 132, 3) := by decide +kernel
theorem dX6_line_12 : decode cX6_line 12 = .ok (.ireturn, 1) := by decide +kernel
theorem dX6_line_13 : decode cX6_line 13 = .ok (.iload_n 2, 1) := by decide +kernel
theorem dX6_line_14 : decode cX6_line 14 = .ok (.i2l, 1) := by decide +kernel
theorem dX6_line_15 : decode cX6_line 15 = .ok (.lconst 0, 1) := by decide +kernel
theorem dX6_line_16 : decode cX6_line 16 = .ok (.ldc2_w 135, 3) := by decide +kernel
theorem dX6_line_19 : decode cX6_line 19 = .ok (.invokestatic 89, 3) := by decide +kernel
theorem dX6_line_22 : decode cX6_line 22 = .ok (.ifCond .eq 16, 3) := by decide +kernel
theorem dX6_line_25 : decode cX6_line 25 = .ok (.iload 4, 2) := by decide +kernel
theorem dX6_line_27 : decode cX6_line 27 = .ok (.i2l, 1) := by decide +kernel
theorem dX6_line_28 : decode cX6_line 28 = .ok (.lconst 0, 1) := by decide +kernel
theorem dX6_line_29 : decode cX6_line 29 = .ok (.ldc2_w 212, 3) := by decide +kernel
theorem dX6_line_32 : decode cX6_line 32 = .ok (.invokestatic 89, 3) := by decide +kernel
theorem dX6_line_35 : decode cX6_line 35 = .ok (.ifCond .ne 10, 3) := by decide +kernel
theorem dX6_line_38 : decode cX6_line 38 = .ok (.aload_n 0, 1) := by decide +kernel
theorem dX6_line_39 : decode cX6_line 39 = .ok (.bipush (-2), 2) := by decide +kernel
theorem dX6_line_41 : decode cX6_line 41 = .ok (.invokevirtual 132, 3) := by decide +kernel
theorem dX6_line_44 : decode cX6_line 44 = .ok (.ireturn, 1) := by decide +kernel
theorem dX6_line_45 : decode cX6_line 45 = .ok (.aload_n 0, 1) := by decide +kernel
theorem dX6_line_46 : decode cX6_line 46 = .ok (.getfield 86, 3) := by decide +kernel
theorem dX6_line_49 : decode cX6_line 49 = .ok (.ifCond .ne 10, 3) := by decide +kernel
theorem dX6_line_52 : decode cX6_line 52 = .ok (.aload_n 0, 1) := by decide +kernel
theorem dX6_line_53 : decode cX6_line 53 = .ok (.bipush (-3), 2) := by decide +kernel
theorem dX6_line_55 : decode cX6_line 55 = .ok (.invokevirtual 132, 3) := by decide +kernel
theorem dX6_line_58 : decode cX6_line 58 = .ok (.ireturn, 1) := by decide +kernel
theorem dX6_line_59 : decode cX6_line 59 = .ok (.aload_n 0, 1) := by decide +kernel
theorem dX6_line_60 : decode cX6_line 60 = .ok (.iload_n 1, 1) := by decide +kernel
theorem dX6_line_61 : decode cX6_line 61 = .ok (.iload_n 2, 1) := by decide +kernel
theorem dX6_line_62 : decode cX6_line 62 = .ok (.iload_n 3, 1) := by decide +kernel
theorem dX6_line_63 : decode cX6_line 63 = .ok (.iload 4, 2) := by decide +kernel
theorem dX6_line_65 : decode cX6_line 65 = .ok (.iconst 0, 1) := by decide +kernel
theorem dX6_line_66 : decode cX6_line 66 = .ok (.invokevirtual 199, 3) := by decide +kernel
theorem dX6_line_69 : decode cX6_line 69 = .ok (.istore 5, 2) := by decide +kernel
theorem dX6_line_71 : decode cX6_line 71 = .ok (.iload 5, 2) := by decide +kernel
theorem dX6_line_73 : decode cX6_line 73 = .ok (.ifCond .ge 6, 3) := by decide +kernel
theorem dX6_line_76 : decode cX6_line 76 = .ok (.iload 5, 2) := by decide +kernel
theorem dX6_line_78 : decode cX6_line 78 = .ok (.ireturn, 1) := by decide +kernel
theorem dX6_line_79 : decode cX6_line 79 = .ok (.iconst 0, 1) := by decide +kernel
theorem dX6_line_80 : decode cX6_line 80 = .ok (.istore 6, 2) := by decide +kernel
theorem dX6_line_82 : decode cX6_line 82 = .ok (.iload 6, 2) := by decide +kernel
theorem dX6_line_84 : decode cX6_line 84 = .ok (.aload_n 0, 1) := by decide +kernel
theorem dX6_line_85 : decode cX6_line 85 = .ok (.getfield 86, 3) := by decide +kernel
theorem dX6_line_88 : decode cX6_line 88 = .ok (.if_icmp .ge 17, 3) := by decide +kernel
theorem dX6_line_91 : decode cX6_line 91 = .ok (.aload_n 0, 1) := by decide +kernel
theorem dX6_line_92 : decode cX6_line 92 = .ok (.getfield 46, 3) := by decide +kernel
theorem dX6_line_95 : decode cX6_line 95 = .ok (.iload 6, 2) := by decide +kernel
theorem dX6_line_97 : decode cX6_line 97 = .ok (.iconst 0, 1) := by decide +kernel
theorem dX6_line_98 : decode cX6_line 98 = .ok (.iastore, 1) := by decide +kernel
theorem dX6_line_99 : decode cX6_line 99 = .ok (.iinc 6 1, 3) := by decide +kernel
theorem dX6_line_102 : decode cX6_line 102 = .ok (.goto (-20), 3) := by decide +kernel
theorem dX6_line_105 : decode cX6_line 105 = .ok (.iconst 0, 1) := by decide +kernel
theorem dX6_line_106 : decode cX6_line 106 = .ok (.istore 6, 2) := by decide +kernel
theorem dX6_line_108 : decode cX6_line 108 = .ok (.iload 6, 2) := by decide +kernel
theorem dX6_line_110 : decode cX6_line 110 = .ok (.iload 4, 2) := by decide +kernel
theorem dX6_line_112 : decode cX6_line 112 = .ok (.if_icmp .ge 56, 3) := by decide +kernel
theorem dX6_line_115 : decode cX6_line 115 = .ok (.aload_n 0, 1) := by decide +kernel
theorem dX6_line_116 : decode cX6_line 116 = .ok (.getfield 70, 3) := by decide +kernel
theorem dX6_line_119 : decode cX6_line 119 = .ok (.bipush 60, 2) := by decide +kernel
theorem dX6_line_121 : decode cX6_line 121 = .ok (.iload_n 1, 1) := by decide +kernel
theorem dX6_line_122 : decode cX6_line 122 = .ok (.imul, 1) := by decide +kernel
theorem dX6_line_123 : decode cX6_line 123 = .ok (.iload_n 3, 1) := by decide +kernel
theorem dX6_line_124 : decode cX6_line 124 = .ok (.iadd, 1) := by decide +kernel
theorem dX6_line_125 : decode cX6_line 125 = .ok (.iload 6, 2) := by decide +kernel
theorem dX6_line_127 : decode cX6_line 127 = .ok (.iadd, 1) := by decide +kernel
theorem dX6_line_128 : decode cX6_line 128 = .ok (.iaload, 1) := by decide +kernel
theorem dX6_line_129 : decode cX6_line 129 = .ok (.istore 7, 2) := by decide +kernel
theorem dX6_line_131 : decode cX6_line 131 = .ok (.aload_n 0, 1) := by decide +kernel
theorem dX6_line_132 : decode cX6_line 132 = .ok (.getfield 46, 3) := by decide +kernel
theorem dX6_line_135 : decode cX6_line 135 = .ok (.iload 7, 2) := by decide +kernel
theorem dX6_line_137 : decode cX6_line 137 = .ok (.iaload, 1) := by decide +kernel
theorem dX6_line_138 : decode cX6_line 138 = .ok (.aload_n 0, 1) := by decide +kernel
theorem dX6_line_139 : decode cX6_line 139 = .ok (.getfield 13, 3) := by decide +kernel
theorem dX6_line_142 : decode cX6_line 142 = .ok (.iload 7, 2) := by decide +kernel
theorem dX6_line_144 : decode cX6_line 144 = .ok (.iaload, 1) := by decide +kernel
theorem dX6_line_145 : decode cX6_line 145 = .ok (.if_icmp .ne 6, 3) := by decide +kernel
theorem dX6_line_148 : decode cX6_line 148 = .ok (.iload 6, 2) := by decide +kernel
theorem dX6_line_150 : decode cX6_line 150 = .ok (.ireturn, 1) := by decide +kernel
theorem dX6_line_151 : decode cX6_line 151 = .ok (.aload_n 0, 1) := by decide +kernel
theorem dX6_line_152 : decode cX6_line 152 = .ok (.getfield 46, 3) := by decide +kernel
theorem dX6_line_155 : decode cX6_line 155 = .ok (.iload 7, 2) := by decide +kernel
theorem dX6_line_157 : decode cX6_line 157 = .ok (.dup2, 1) := by decide +kernel
theorem dX6_line_158 : decode cX6_line 158 = .ok (.iaload, 1) := by decide +kernel
theorem dX6_line_159 : decode cX6_line 159 = .ok (.iconst 1, 1) := by decide +kernel
theorem dX6_line_160 : decode cX6_line 160 = .ok (.iadd, 1) := by decide +kernel
theorem dX6_line_161 : decode cX6_line 161 = .ok (.iastore, 1) := by decide +kernel
theorem dX6_line_162 : decode cX6_line 162 = .ok (.iinc 6 1, 3) := by decide +kernel
theorem dX6_line_165 : decode cX6_line 165 = .ok (.goto (-57), 3) := by decide +kernel
theorem dX6_line_168 : decode cX6_line 168 = .ok (.bipush (-9), 2) := by decide +kernel
theorem dX6_line_170 : decode cX6_line 170 = .ok (.ireturn, 1) := by decide +kernel
theorem dX6_soon_0 : decode cX6_soon 0 = .ok (.iload_n 2, 1) := by decide +kernel
theorem dX6_soon_1 : decode cX6_soon 1 = .ok (.invokestatic 128, 3) := by decide +kernel
theorem dX6_soon_4 : decode cX6_soon 4 = .ok (.ifCond .eq 9, 3) := by decide +kernel
theorem dX6_soon_7 : decode cX6_soon 7 = .ok (.aload_n 0, 1) := by decide +kernel
theorem dX6_soon_8 : decode cX6_soon 8 = .ok (.iconst (-1), 1) := by decide +kernel
theorem dX6_soon_9 : decode cX6_soon 9 = .ok (.invokevirtual 132, 3) := by decide +kernel
theorem dX6_soon_12 : decode cX6_soon 12 = .ok (.ireturn, 1) := by decide +kernel
theorem dX6_soon_13 : decode cX6_soon 13 = .ok (.iload_n 3, 1) := by decide +kernel
theorem dX6_soon_14 : decode cX6_soon 14 = .ok (.i2l, 1) := by decide +kernel
theorem dX6_soon_15 : decode cX6_soon 15 = .ok (.lconst 0, 1) := by decide +kernel
theorem dX6_soon_16 : decode cX6_soon 16 = .ok (.ldc2_w 135, 3) := by decide +kernel
theorem dX6_soon_19 : decode cX6_soon 19 = .ok (.invokestatic 89, 3) := by decide +kernel
theorem dX6_soon_22 : decode cX6_soon 22 = .ok (.ifCond .eq 16, 3) := by decide +kernel
theorem dX6_soon_25 : decode cX6_soon 25 = .ok (.iload 5, 2) := by decide +kernel
theorem dX6_soon_27 : decode cX6_soon 27 = .ok (.i2l, 1) := by decide +kernel
theorem dX6_soon_28 : decode cX6_soon 28 = .ok (.lconst 0, 1) := by decide +kernel
theorem dX6_soon_29 : decode cX6_soon 29 = .ok (.ldc2_w 195, 3) := by decide +kernel
theorem dX6_soon_32 : decode cX6_soon 32 = .ok (.invokestatic 89, 3) := by decide +kernel
theorem dX6_soon_35 : decode cX6_soon 35 = .ok (.ifCond .ne 10, 3) := by decide +kernel
theorem dX6_soon_38 : decode cX6_soon 38 = .ok (.aload_n 0, 1) := by decide +kernel
theorem dX6_soon_39 : decode cX6_soon 39 = .ok (.bipush (-2), 2) := by decide +kernel
theorem dX6_soon_41 : decode cX6_soon 41 = .ok (.invokevirtual 132, 3) := by decide +kernel
theorem dX6_soon_44 : decode cX6_soon 44 = .ok (.ireturn, 1) := by decide +kernel
theorem dX6_soon_45 : decode cX6_soon 45 = .ok (.aload_n 0, 1) := by decide +kernel
theorem dX6_soon_46 : decode cX6_soon 46 = .ok (.getfield 86, 3) := by decide +kernel
theorem dX6_soon_49 : decode cX6_soon 49 = .ok (.ifCond .ne 10, 3) := by decide +kernel
theorem dX6_soon_52 : decode cX6_soon 52 = .ok (.aload_n 0, 1) := by decide +kernel
theorem dX6_soon_53 : decode cX6_soon 53 = .ok (.bipush (-3), 2) := by decide +kernel
theorem dX6_soon_55 : decode cX6_soon 55 = .ok (.invokevirtual 132, 3) := by decide +kernel
theorem dX6_soon_58 : decode cX6_soon 58 = .ok (.ireturn, 1) := by decide +kernel
theorem dX6_soon_59 : decode cX6_soon 59 = .ok (.iload_n 1, 1) := by decide +kernel
theorem dX6_soon_60 : decode cX6_soon 60 = .ok (.i2l, 1) := by decide +kernel
theorem dX6_soon_61 : decode cX6_soon 61 = .ok (.lconst 0, 1) := by decide +kernel
theorem dX6_soon_62 : decode cX6_soon 62 = .ok (.aload_n 0, 1) := by decide +kernel
theorem dX6_soon_63 : decode cX6_soon 63 = .ok (.invokevirtual 159, 3) := by decide +kernel
theorem dX6_soon_66 : decode cX6_soon 66 = .ok (.i2l, 1) := by decide +kernel
theorem dX6_soon_67 : decode cX6_soon 67 = .ok (.invokestatic 89, 3) := by decide +kernel
theorem dX6_soon_70 : decode cX6_soon 70 = .ok (.ifCond .ne 10, 3) := by decide +kernel
theorem dX6_soon_73 : decode cX6_soon 73 = .ok (.aload_n 0, 1) := by decide +kernel
theorem dX6_soon_74 : decode cX6_soon 74 = .ok (.bipush (-2), 2) := by decide +kernel
theorem dX6_soon_76 : decode cX6_soon 76 = .ok (.invokevirtual 132, 3) := by decide +kernel
theorem dX6_soon_79 : decode cX6_soon 79 = .ok (.ireturn, 1) := by decide +kernel
theorem dX6_soon_80 : decode cX6_soon 80 = .ok (.aload_n 0, 1) := by decide +kernel
theorem dX6_soon_81 : decode cX6_soon 81 = .ok (.iload_n 2, 1) := by decide +kernel
theorem dX6_soon_82 : decode cX6_soon 82 = .ok (.iload_n 3, 1) := by decide +kernel
theorem dX6_soon_83 : decode cX6_soon 83 = .ok (.iload 4, 2) := by decide +kernel
theorem dX6_soon_85 : decode cX6_soon 85 = .ok (.iload 5, 2) := by decide +kernel
theorem dX6_soon_87 : decode cX6_soon 87 = .ok (.iconst 1, 1) := by decide +kernel
theorem dX6_soon_88 : decode cX6_soon 88 = .ok (.invokevirtual 199, 3) := by decide +kernel
theorem dX6_soon_91 : decode cX6_soon 91 = .ok (.istore 6, 2) := by decide +kernel
theorem dX6_soon_93 : decode cX6_soon 93 = .ok (.iload 6, 2) := by decide +kernel
theorem dX6_soon_95 : decode cX6_soon 95 = .ok (.ifCond .ge 6, 3) := by decide +kernel
theorem dX6_soon_98 : decode cX6_soon 98 = .ok (.iload 6, 2) := by decide +kernel
theorem dX6_soon_100 : decode cX6_soon 100 = .ok (.ireturn, 1) := by decide +kernel
theorem dX6_soon_101 : decode cX6_soon 101 = .ok (.aload_n 0, 1) := by decide +kernel
theorem dX6_soon_102 : decode cX6_soon 102 = .ok (.bipush 60, 2) := by decide +kernel
theorem dX6_soon_104 : decode cX6_soon 104 = .ok (.iload_n 2, 1) := by decide +kernel
theorem dX6_soon_105 : decode cX6_soon 105 = .ok (.imul, 1) := by decide +kernel
theorem dX6_soon_106 : decode cX6_soon 106 = .ok (.iload 4, 2) := by decide +kernel
theorem dX6_soon_108 : decode cX6_soon 108 = .ok (.iadd, 1) := by decide +kernel
theorem dX6_soon_109 : decode cX6_soon 109 = .ok (.iload 5, 2) := by decide +kernel
theorem dX6_soon_111 : decode cX6_soon 111 = .ok (.invokevirtual 203, 3) := by decide +kernel
theorem dX6_soon_114 : decode cX6_soon 114 = .ok (.iconst 0, 1) := by decide +kernel
theorem dX6_soon_115 : decode cX6_soon 115 = .ok (.istore 7, 2) := by decide +kernel
theorem dX6_soon_117 : decode cX6_soon 117 = .ok (.iconst 0, 1) := by decide +kernel
theorem dX6_soon_118 : decode cX6_soon 118 = .ok (.istore 8, 2) := by decide +kernel
theorem dX6_soon_120 : decode cX6_soon 120 = .ok (.iload 8, 2) := by decide +kernel
theorem dX6_soon_122 : decode cX6_soon 122 = .ok (.aload_n 0, 1) := by decide +kernel
theorem dX6_soon_123 : decode cX6_soon 123 = .ok (.getfield 86, 3) := by decide +kernel
theorem dX6_soon_126 : decode cX6_soon 126 = .ok (.if_icmp .ge 71, 3) := by decide +kernel
theorem dX6_soon_129 : decode cX6_soon 129 = .ok (.iload_n 1, 1) := by decide +kernel
theorem dX6_soon_130 : decode cX6_soon 130 = .ok (.iload 8, 2) := by decide +kernel
theorem dX6_soon_132 : decode cX6_soon 132 = .ok (.invokestatic 147, 3) := by decide +kernel
theorem dX6_soon_135 : decode cX6_soon 135 = .ok (.ifCond .eq 34, 3) := by decide +kernel
theorem dX6_soon_138 : decode cX6_soon 138 = .ok (.iload 7, 2) := by decide +kernel
theorem dX6_soon_140 : decode cX6_soon 140 = .ok (.ifCond .lt 29, 3) := by decide +kernel
theorem dX6_soon_143 : decode cX6_soon 143 = .ok (.aload_n 0, 1) := by decide +kernel
theorem dX6_soon_144 : decode cX6_soon 144 = .ok (.getfield 43, 3) := by decide +kernel
theorem dX6_soon_147 : decode cX6_soon 147 = .ok (.iload 8, 2) := by decide +kernel
theorem dX6_soon_149 : decode cX6_soon 149 = .ok (.iaload, 1) := by decide +kernel
theorem dX6_soon_150 : decode cX6_soon 150 = .ok (.ifCond .lt 15, 3) := by decide +kernel
theorem dX6_soon_153 : decode cX6_soon 153 = .ok (.aload_n 0, 1) := by decide +kernel
theorem dX6_soon_154 : decode cX6_soon 154 = .ok (.getfield 43, 3) := by decide +kernel
theorem dX6_soon_157 : decode cX6_soon 157 = .ok (.iload 8, 2) := by decide +kernel
theorem dX6_soon_159 : decode cX6_soon 159 = .ok (.iaload, 1) := by decide +kernel
theorem dX6_soon_160 : decode cX6_soon 160 = .ok (.iload 7, 2) := by decide +kernel
theorem dX6_soon_162 : decode cX6_soon 162 = .ok (.if_icmp .le 7, 3) := by decide +kernel
theorem dX6_soon_165 : decode cX6_soon 165 = .ok (.iconst 1, 1) := by decide +kernel
theorem dX6_soon_166 : decode cX6_soon 166 = .ok (.goto 4, 3) := by decide +kernel
theorem dX6_soon_169 : decode cX6_soon 169 = .ok (.iconst 0, 1) := by decide +kernel
theorem dX6_soon_170 : decode cX6_soon 170 = .ok (.istore 9, 2) := by decide +kernel
theorem dX6_soon_172 : decode cX6_soon 172 = .ok (.iload 9, 2) := by decide +kernel
theorem dX6_soon_174 : decode cX6_soon 174 = .ok (.ifCond .eq 13, 3) := by decide +kernel
theorem dX6_soon_177 : decode cX6_soon 177 = .ok (.aload_n 0, 1) := by decide +kernel
theorem dX6_soon_178 : decode cX6_soon 178 = .ok (.getfield 43, 3) := by decide +kernel
theorem dX6_soon_181 : decode cX6_soon 181 = .ok (.iload 8, 2) := by decide +kernel
theorem dX6_soon_183 : decode cX6_soon 183 = .ok (.iaload, 1) := by decide +kernel
theorem dX6_soon_184 : decode cX6_soon 184 = .ok (.goto 5, 3) := by decide +kernel
theorem dX6_soon_187 : decode cX6_soon 187 = .ok (.iload 7, 2) := by decide +kernel
theorem dX6_soon_189 : decode cX6_soon 189 = .ok (.istore 7, 2) := by decide +kernel
theorem dX6_soon_191 : decode cX6_soon 191 = .ok (.iinc 8 1, 3) := by decide +kernel
theorem dX6_soon_194 : decode cX6_soon 194 = .ok (.goto (-74), 3) := by decide +kernel
theorem dX6_soon_197 : decode cX6_soon 197 = .ok (.iload 7, 2) := by decide +kernel
theorem dX6_soon_199 : decode cX6_soon 199 = .ok (.ireturn, 1) := by decide +kernel
theorem dX6_lengthOf_0 : decode cX6_lengthOf 0 = .ok (.iload_n 1, 1) := by decide +kernel
theorem dX6_lengthOf_1 : decode cX6_lengthOf 1 = .ok (.istore_n 2, 1) := by decide +kernel
theorem dX6_lengthOf_2 : decode cX6_lengthOf 2 = .ok (.iconst 0, 1) := by decide +kernel
theorem dX6_lengthOf_3 : decode cX6_lengthOf 3 = .ok (.istore_n 3, 1) := by decide +kernel
theorem dX6_lengthOf_4 : decode cX6_lengthOf 4 = .ok (.iconst 0, 1) := by decide +kernel
theorem dX6_lengthOf_5 : decode cX6_lengthOf 5 = .ok (.istore 4, 2) := by decide +kernel
theorem dX6_lengthOf_7 : decode cX6_lengthOf 7 = .ok (.iconst 1, 1) := by decide +kernel
theorem dX6_lengthOf_8 : decode cX6_lengthOf 8 = .ok (.istore 5, 2) := by decide +kernel
theorem dX6_lengthOf_10 : decode cX6_lengthOf 10 = .ok (.iconst 4, 1) := by decide +kernel
theorem dX6_lengthOf_11 : decode cX6_lengthOf 11 = .ok (.istore 6, 2) := by decide +kernel
theorem dX6_lengthOf_13 : decode cX6_lengthOf 13 = .ok (.iload 6, 2) := by decide +kernel
theorem dX6_lengthOf_15 : decode cX6_lengthOf 15 = .ok (.ifCond .lt 27, 3) := by decide +kernel
theorem dX6_lengthOf_18 : decode cX6_lengthOf 18 = .ok (.aload_n 0, 1) := by decide +kernel
theorem dX6_lengthOf_19 : decode cX6_lengthOf 19 = .ok (.getfield 49, 3) := by decide +kernel
theorem dX6_lengthOf_22 : decode cX6_lengthOf 22 = .ok (.iload 6, 2) := by decide +kernel
theorem dX6_lengthOf_24 : decode cX6_lengthOf 24 = .ok (.iload_n 2, 1) := by decide +kernel
theorem dX6_lengthOf_25 : decode cX6_lengthOf 25 = .ok (.bipush 6, 2) := by decide +kernel
theorem dX6_lengthOf_27 : decode cX6_lengthOf 27 = .ok (.irem, 1) := by decide +kernel
theorem dX6_lengthOf_28 : decode cX6_lengthOf 28 = .ok (.iconst 1, 1) := by decide +kernel
theorem dX6_lengthOf_29 : decode cX6_lengthOf 29 = .ok (.isub, 1) := by decide +kernel
theorem dX6_lengthOf_30 : decode cX6_lengthOf 30 = .ok (.iastore, 1) := by decide +kernel
theorem dX6_lengthOf_31 : decode cX6_lengthOf 31 = .ok (.iload_n 2, 1) := by decide +kernel
theorem dX6_lengthOf_32 : decode cX6_lengthOf 32 = .ok (.bipush 6, 2) := by decide +kernel
theorem dX6_lengthOf_34 : decode cX6_lengthOf 34 = .ok (.idiv, 1) := by decide +kernel
theorem dX6_lengthOf_35 : decode cX6_lengthOf 35 = .ok (.istore_n 2, 1) := by decide +kernel
theorem dX6_lengthOf_36 : decode cX6_lengthOf 36 = .ok (.iinc 6 (-1), 3) := by decide +kernel
theorem dX6_lengthOf_39 : decode cX6_lengthOf 39 = .ok (.goto (-26), 3) := by decide +kernel
theorem dX6_lengthOf_42 : decode cX6_lengthOf 42 = .ok (.iconst 0, 1) := by decide +kernel
theorem dX6_lengthOf_43 : decode cX6_lengthOf 43 = .ok (.istore 6, 2) := by decide +kernel
theorem dX6_lengthOf_45 : decode cX6_lengthOf 45 = .ok (.iload 6, 2) := by decide +kernel
theorem dX6_lengthOf_47 : decode cX6_lengthOf 47 = .ok (.iconst 5, 1) := by decide +kernel
theorem dX6_lengthOf_48 : decode cX6_lengthOf 48 = .ok (.if_icmp .ge 91, 3) := by decide +kernel
theorem dX6_lengthOf_51 : decode cX6_lengthOf 51 = .ok (.aload_n 0, 1) := by decide +kernel
theorem dX6_lengthOf_52 : decode cX6_lengthOf 52 = .ok (.getfield 49, 3) := by decide +kernel
theorem dX6_lengthOf_55 : decode cX6_lengthOf 55 = .ok (.iload 6, 2) := by decide +kernel
theorem dX6_lengthOf_57 : decode cX6_lengthOf 57 = .ok (.iaload, 1) := by decide +kernel
theorem dX6_lengthOf_58 : decode cX6_lengthOf 58 = .ok (.istore 7, 2) := by decide +kernel
theorem dX6_lengthOf_60 : decode cX6_lengthOf 60 = .ok (.iload 5, 2) := by decide +kernel
theorem dX6_lengthOf_62 : decode cX6_lengthOf 62 = .ok (.ifCond .eq 37, 3) := by decide +kernel
theorem dX6_lengthOf_65 : decode cX6_lengthOf 65 = .ok (.iload 7, 2) := by decide +kernel
theorem dX6_lengthOf_67 : decode cX6_lengthOf 67 = .ok (.aload_n 0, 1) := by decide +kernel
theorem dX6_lengthOf_68 : decode cX6_lengthOf 68 = .ok (.getfield 93, 3) := by decide +kernel
theorem dX6_lengthOf_71 : decode cX6_lengthOf 71 = .ok (.if_icmp .ge 28, 3) := by decide +kernel
theorem dX6_lengthOf_74 : decode cX6_lengthOf 74 = .ok (.iload 7, 2) := by decide +kernel
theorem dX6_lengthOf_76 : decode cX6_lengthOf 76 = .ok (.ifCond .lt 19, 3) := by decide +kernel
theorem dX6_lengthOf_79 : decode cX6_lengthOf 79 = .ok (.iload_n 3, 1) := by decide +kernel
theorem dX6_lengthOf_80 : decode cX6_lengthOf 80 = .ok (.iload 6, 2) := by decide +kernel
theorem dX6_lengthOf_82 : decode cX6_lengthOf 82 = .ok (.if_icmp .ne 17, 3) := by decide +kernel
theorem dX6_lengthOf_85 : decode cX6_lengthOf 85 = .ok (.iload 4, 2) := by decide +kernel
theorem dX6_lengthOf_87 : decode cX6_lengthOf 87 = .ok (.iload 7, 2) := by decide +kernel
theorem dX6_lengthOf_89 : decode cX6_lengthOf 89 = .ok (.invokestatic 147, 3) := by decide +kernel
theorem dX6_lengthOf_92 : decode cX6_lengthOf 92 = .ok (.ifCond .ne 7, 3) := by decide +kernel
theorem dX6_lengthOf_95 : decode cX6_lengthOf 95 = .ok (.iconst 1, 1) := by decide +kernel
theorem dX6_lengthOf_96 : decode cX6_lengthOf 96 = .ok (.goto 4, 3) := by decide +kernel
theorem dX6_lengthOf_99 : decode cX6_lengthOf 99 = .ok (.iconst 0, 1) := by decide +kernel
theorem dX6_lengthOf_100 : decode cX6_lengthOf 100 = .ok (.istore 5, 2) := by decide +kernel
theorem dX6_lengthOf_102 : decode cX6_lengthOf 102 = .ok (.iload_n 3, 1) := by decide +kernel
theorem dX6_lengthOf_103 : decode cX6_lengthOf 103 = .ok (.iload 7, 2) := by decide +kernel
theorem dX6_lengthOf_105 : decode cX6_lengthOf 105 = .ok (.ifCond .ge 7, 3) := by decide +kernel
theorem dX6_lengthOf_108 : decode cX6_lengthOf 108 = .ok (.iconst 0, 1) := by decide +kernel
theorem dX6_lengthOf_109 : decode cX6_lengthOf 109 = .ok (.goto 4, 3) := by decide +kernel
theorem dX6_lengthOf_112 : decode cX6_lengthOf 112 = .ok (.iconst 1, 1) := by decide +kernel
theorem dX6_lengthOf_113 : decode cX6_lengthOf 113 = .ok (.iadd, 1) := by decide +kernel
theorem dX6_lengthOf_114 : decode cX6_lengthOf 114 = .ok (.istore_n 3, 1) := by decide +kernel
theorem dX6_lengthOf_115 : decode cX6_lengthOf 115 = .ok (.iload 4, 2) := by decide +kernel
theorem dX6_lengthOf_117 : decode cX6_lengthOf 117 = .ok (.iload 7, 2) := by decide +kernel
theorem dX6_lengthOf_119 : decode cX6_lengthOf 119 = .ok (.ifCond .ge 7, 3) := by decide +kernel
theorem dX6_lengthOf_122 : decode cX6_lengthOf 122 = .ok (.iconst 0, 1) := by decide +kernel
theorem dX6_lengthOf_123 : decode cX6_lengthOf 123 = .ok (.goto 7, 3) := by decide +kernel
theorem dX6_lengthOf_126 : decode cX6_lengthOf 126 = .ok (.iconst 1, 1) := by decide +kernel
theorem dX6_lengthOf_127 : decode cX6_lengthOf 127 = .ok (.iload 7, 2) := by decide +kernel
theorem dX6_lengthOf_129 : decode cX6_lengthOf 129 = .ok (.ishl, 1) := by decide +kernel
theorem dX6_lengthOf_130 : decode cX6_lengthOf 130 = .ok (.ior, 1) := by decide +kernel
theorem dX6_lengthOf_131 : decode cX6_lengthOf 131 = .ok (.istore 4, 2) := by decide +kernel
theorem dX6_lengthOf_133 : decode cX6_lengthOf 133 = .ok (.iinc 6 1, 3) := by decide +kernel
theorem dX6_lengthOf_136 : decode cX6_lengthOf 136 = .ok (.goto (-91), 3) := by decide +kernel
theorem dX6_lengthOf_139 : decode cX6_lengthOf 139 = .ok (.iload 5, 2) := by decide +kernel
theorem dX6_lengthOf_141 : decode cX6_lengthOf 141 = .ok (.ifCond .eq 7, 3) := by decide +kernel
theorem dX6_lengthOf_144 : decode cX6_lengthOf 144 = .ok (.iload_n 3, 1) := by decide +kernel
theorem dX6_lengthOf_145 : decode cX6_lengthOf 145 = .ok (.goto 5, 3) := by decide +kernel
theorem dX6_lengthOf_148 : decode cX6_lengthOf 148 = .ok (.bipush (-9), 2) := by decide +kernel
theorem dX6_lengthOf_150 : decode cX6_lengthOf 150 = .ok (.ireturn, 1) := by decide +kernel
theorem dX6_order_0 : decode cX6_order 0 = .ok (.iload_n 1, 1) := by decide +kernel
theorem dX6_order_1 : decode cX6_order 1 = .ok (.i2l, 1) := by decide +kernel
theorem dX6_order_2 : decode cX6_order 2 = .ok (.ldc2_w 214, 3) := by decide +kernel
theorem dX6_order_5 : decode cX6_order 5 = .ok (.ldc2_w 216, 3) := by decide +kernel
theorem dX6_order_8 : decode cX6_order 8 = .ok (.invokestatic 89, 3) := by decide +kernel
theorem dX6_order_11 : decode cX6_order 11 = .ok (.ifCond .ne 6, 3) := by decide +kernel
theorem dX6_order_14 : decode cX6_order 14 = .ok (.bipush (-2), 2) := by decide +kernel
theorem dX6_order_16 : decode cX6_order 16 = .ok (.ireturn, 1) := by decide +kernel
theorem dX6_order_17 : decode cX6_order 17 = .ok (.aload_n 0, 1) := by decide +kernel
theorem dX6_order_18 : decode cX6_order 18 = .ok (.getfield 86, 3) := by decide +kernel
theorem dX6_order_21 : decode cX6_order 21 = .ok (.ifCond .ne 6, 3) := by decide +kernel
theorem dX6_order_24 : decode cX6_order 24 = .ok (.bipush (-3), 2) := by decide +kernel
theorem dX6_order_26 : decode cX6_order 26 = .ok (.ireturn, 1) := by decide +kernel
theorem dX6_order_27 : decode cX6_order 27 = .ok (.bipush (-9), 2) := by decide +kernel
theorem dX6_order_29 : decode cX6_order 29 = .ok (.istore_n 2, 1) := by decide +kernel
theorem dX6_order_30 : decode cX6_order 30 = .ok (.iconst 0, 1) := by decide +kernel
theorem dX6_order_31 : decode cX6_order 31 = .ok (.istore_n 3, 1) := by decide +kernel
theorem dX6_order_32 : decode cX6_order 32 = .ok (.iconst 0, 1) := by decide +kernel
theorem dX6_order_33 : decode cX6_order 33 = .ok (.istore 4, 2) := by decide +kernel
theorem dX6_order_35 : decode cX6_order 35 = .ok (.iload 4, 2) := by decide +kernel
theorem dX6_order_37 : decode cX6_order 37 = .ok (.sipush 7776, 3) := by decide +kernel
theorem dX6_order_40 : decode cX6_order 40 = .ok (.if_icmp .ge 86, 3) := by decide +kernel
theorem dX6_order_43 : decode cX6_order 43 = .ok (.aload_n 0, 1) := by decide +kernel
theorem dX6_order_44 : decode cX6_order 44 = .ok (.iload 4, 2) := by decide +kernel
theorem dX6_order_46 : decode cX6_order 46 = .ok (.invokevirtual 218, 3) := by decide +kernel
theorem dX6_order_49 : decode cX6_order 49 = .ok (.istore 5, 2) := by decide +kernel
theorem dX6_order_51 : decode cX6_order 51 = .ok (.aload_n 0, 1) := by decide +kernel
theorem dX6_order_52 : decode cX6_order 52 = .ok (.invokevirtual 179, 3) := by decide +kernel
theorem dX6_order_55 : decode cX6_order 55 = .ok (.iconst 0, 1) := by decide +kernel
theorem dX6_order_56 : decode cX6_order 56 = .ok (.istore 6, 2) := by decide +kernel
theorem dX6_order_58 : decode cX6_order 58 = .ok (.iload 6, 2) := by decide +kernel
theorem dX6_order_60 : decode cX6_order 60 = .ok (.iload 5, 2) := by decide +kernel
theorem dX6_order_62 : decode cX6_order 62 = .ok (.if_icmp .ge 22, 3) := by decide +kernel
theorem dX6_order_65 : decode cX6_order 65 = .ok (.aload_n 0, 1) := by decide +kernel
theorem dX6_order_66 : decode cX6_order 66 = .ok (.aload_n 0, 1) := by decide +kernel
theorem dX6_order_67 : decode cX6_order 67 = .ok (.getfield 49, 3) := by decide +kernel
theorem dX6_order_70 : decode cX6_order 70 = .ok (.iload 6, 2) := by decide +kernel
theorem dX6_order_72 : decode cX6_order 72 = .ok (.iaload, 1) := by decide +kernel
theorem dX6_order_73 : decode cX6_order 73 = .ok (.iload 6, 2) := by decide +kernel
theorem dX6_order_75 : decode cX6_order 75 = .ok (.invokevirtual 182, 3) := by decide +kernel
theorem dX6_order_78 : decode cX6_order 78 = .ok (.iinc 6 1, 3) := by decide +kernel
theorem dX6_order_81 : decode cX6_order 81 = .ok (.goto (-23), 3) := by decide +kernel
theorem dX6_order_84 : decode cX6_order 84 = .ok (.iload 5, 2) := by decide +kernel
theorem dX6_order_86 : decode cX6_order 86 = .ok (.ifCond .lt 34, 3) := by decide +kernel
theorem dX6_order_89 : decode cX6_order 89 = .ok (.aload_n 0, 1) := by decide +kernel
theorem dX6_order_90 : decode cX6_order 90 = .ok (.invokevirtual 209, 3) := by decide +kernel
theorem dX6_order_93 : decode cX6_order 93 = .ok (.aload_n 0, 1) := by decide +kernel
theorem dX6_order_94 : decode cX6_order 94 = .ok (.invokevirtual 159, 3) := by decide +kernel
theorem dX6_order_97 : decode cX6_order 97 = .ok (.if_icmp .ne 23, 3) := by decide +kernel
theorem dX6_order_100 : decode cX6_order 100 = .ok (.iload_n 2, 1) := by decide +kernel
theorem dX6_order_101 : decode cX6_order 101 = .ok (.ifCond .lt 11, 3) := by decide +kernel
theorem dX6_order_104 : decode cX6_order 104 = .ok (.aload_n 0, 1) := by decide +kernel
theorem dX6_order_105 : decode cX6_order 105 = .ok (.getfield 167, 3) := by decide +kernel
theorem dX6_order_108 : decode cX6_order 108 = .ok (.iload_n 3, 1) := by decide +kernel
theorem dX6_order_109 : decode cX6_order 109 = .ok (.if_icmp .ge 11, 3) := by decide +kernel
theorem dX6_order_112 : decode cX6_order 112 = .ok (.iload 4, 2) := by decide +kernel
theorem dX6_order_114 : decode cX6_order 114 = .ok (.istore_n 2, 1) := by decide +kernel
theorem dX6_order_115 : decode cX6_order 115 = .ok (.aload_n 0, 1) := by decide +kernel
theorem dX6_order_116 : decode cX6_order 116 = .ok (.getfield 167, 3) := by decide +kernel
theorem dX6_order_119 : decode cX6_order 119 = .ok (.istore_n 3, 1) := by decide +kernel
theorem dX6_order_120 : decode cX6_order 120 = .ok (.iinc 4 1, 3) := by decide +kernel
theorem dX6_order_123 : decode cX6_order 123 = .ok (.goto (-88), 3) := by decide +kernel
theorem dX6_order_126 : decode cX6_order 126 = .ok (.iload_n 2, 1) := by decide +kernel
theorem dX6_order_127 : decode cX6_order 127 = .ok (.ifCond .ge 6, 3) := by decide +kernel
theorem dX6_order_130 : decode cX6_order 130 = .ok (.bipush (-9), 2) := by decide +kernel
theorem dX6_order_132 : decode cX6_order 132 = .ok (.ireturn, 1) := by decide +kernel
theorem dX6_order_133 : decode cX6_order 133 = .ok (.iload_n 1, 1) := by decide +kernel
theorem dX6_order_134 : decode cX6_order 134 = .ok (.ifCond .ge 7, 3) := by decide +kernel
theorem dX6_order_137 : decode cX6_order 137 = .ok (.iload_n 3, 1) := by decide +kernel
theorem dX6_order_138 : decode cX6_order 138 = .ok (.goto 23, 3) := by decide +kernel
theorem dX6_order_141 : decode cX6_order 141 = .ok (.iload_n 1, 1) := by decide +kernel
theorem dX6_order_142 : decode cX6_order 142 = .ok (.aload_n 0, 1) := by decide +kernel
theorem dX6_order_143 : decode cX6_order 143 = .ok (.iload_n 2, 1) := by decide +kernel
theorem dX6_order_144 : decode cX6_order 144 = .ok (.invokevirtual 218, 3) := by decide +kernel
theorem dX6_order_147 : decode cX6_order 147 = .ok (.if_icmp .ge 12, 3) := by decide +kernel
theorem dX6_order_150 : decode cX6_order 150 = .ok (.aload_n 0, 1) := by decide +kernel
theorem dX6_order_151 : decode cX6_order 151 = .ok (.getfield 49, 3) := by decide +kernel
theorem dX6_order_154 : decode cX6_order 154 = .ok (.iload_n 1, 1) := by decide +kernel
theorem dX6_order_155 : decode cX6_order 155 = .ok (.iaload, 1) := by decide +kernel
theorem dX6_order_156 : decode cX6_order 156 = .ok (.goto 5, 3) := by decide +kernel
theorem dX6_order_159 : decode cX6_order 159 = .ok (.bipush (-9), 2) := by decide +kernel
theorem dX6_order_161 : decode cX6_order 161 = .ok (.ireturn, 1) := by decide +kernel
theorem dX6_growTree_0 : decode cX6_growTree 0 = .ok (.aload_n 0, 1) := by decide +kernel
theorem dX6_growTree_1 : decode cX6_growTree 1 = .ok (.getfield 52, 3) := by decide +kernel
theorem dX6_growTree_4 : decode cX6_growTree 4 = .ok (.iload_n 1, 1) := by decide +kernel
theorem dX6_growTree_5 : decode cX6_growTree 5 = .ok (.iload_n 1, 1) := by decide +kernel
theorem dX6_growTree_6 : decode cX6_growTree 6 = .ok (.iload_n 1, 1) := by decide +kernel
theorem dX6_growTree_7 : decode cX6_growTree 7 = .ok (.iconst 1, 1) := by decide +kernel
theorem dX6_growTree_8 : decode cX6_growTree 8 = .ok (.isub, 1) := by decide +kernel
theorem dX6_growTree_9 : decode cX6_growTree 9 = .ok (.iand, 1) := by decide +kernel
theorem dX6_growTree_10 : decode cX6_growTree 10 = .ok (.ifCond .ne 7, 3) := by decide +kernel
theorem dX6_growTree_13 : decode cX6_growTree 13 = .ok (.iconst 0, 1) := by decide +kernel
theorem dX6_growTree_14 : decode cX6_growTree 14 = .ok (.goto 5, 3) := by decide +kernel
theorem dX6_growTree_17 : decode cX6_growTree 17 = .ok (.bipush (-9), 2) := by decide +kernel
theorem dX6_growTree_19 : decode cX6_growTree 19 = .ok (.iastore, 1) := by decide +kernel
theorem dX6_growTree_20 : decode cX6_growTree 20 = .ok (.aload_n 0, 1) := by decide +kernel
theorem dX6_growTree_21 : decode cX6_growTree 21 = .ok (.getfield 55, 3) := by decide +kernel
theorem dX6_growTree_24 : decode cX6_growTree 24 = .ok (.iload_n 1, 1) := by decide +kernel
theorem dX6_growTree_25 : decode cX6_growTree 25 = .ok (.bipush (-9), 2) := by decide +kernel
theorem dX6_growTree_27 : decode cX6_growTree 27 = .ok (.iastore, 1) := by decide +kernel
theorem dX6_growTree_28 : decode cX6_growTree 28 = .ok (.iconst 0, 1) := by decide +kernel
theorem dX6_growTree_29 : decode cX6_growTree 29 = .ok (.istore_n 2, 1) := by decide +kernel
theorem dX6_growTree_30 : decode cX6_growTree 30 = .ok (.iload_n 2, 1) := by decide +kernel
theorem dX6_growTree_31 : decode cX6_growTree 31 = .ok (.aload_n 0, 1) := by decide +kernel
theorem dX6_growTree_32 : decode cX6_growTree 32 = .ok (.getfield 93, 3) := by decide +kernel
theorem dX6_growTree_35 : decode cX6_growTree 35 = .ok (.if_icmp .ge 146, 3) := by decide +kernel
theorem dX6_growTree_38 : decode cX6_growTree 38 = .ok (.aload_n 0, 1) := by decide +kernel
theorem dX6_growTree_39 : decode cX6_growTree 39 = .ok (.getfield 52, 3) := by decide +kernel
theorem dX6_growTree_42 : decode cX6_growTree 42 = .ok (.iload_n 1, 1) := by decide +kernel
theorem dX6_growTree_43 : decode cX6_growTree 43 = .ok (.iaload, 1) := by decide +kernel
theorem dX6_growTree_44 : decode cX6_growTree 44 = .ok (.ifCond .eq 137, 3) := by decide +kernel
theorem dX6_growTree_47 : decode cX6_growTree 47 = .ok (.iload_n 1, 1) := by decide +kernel
theorem dX6_growTree_48 : decode cX6_growTree 48 = .ok (.aload_n 0, 1) := by decide +kernel
theorem dX6_growTree_49 : decode cX6_growTree 49 = .ok (.getfield 22, 3) := by decide +kernel
theorem dX6_growTree_52 : decode cX6_growTree 52 = .ok (.iload_n 2, 1) := by decide +kernel
theorem dX6_growTree_53 : decode cX6_growTree 53 = .ok (.iaload, 1) := by decide +kernel
theorem dX6_growTree_54 : decode cX6_growTree 54 = .ok (.iand, 1) := by decide +kernel
theorem dX6_growTree_55 : decode cX6_growTree 55 = .ok (.istore_n 3, 1) := by decide +kernel
theorem dX6_growTree_56 : decode cX6_growTree 56 = .ok (.iload_n 1, 1) := by decide +kernel
theorem dX6_growTree_57 : decode cX6_growTree 57 = .ok (.aload_n 0, 1) := by decide +kernel
theorem dX6_growTree_58 : decode cX6_growTree 58 = .ok (.getfield 22, 3) := by decide +kernel
theorem dX6_growTree_61 : decode cX6_growTree 61 = .ok (.iload_n 2, 1) := by decide +kernel
theorem dX6_growTree_62 : decode cX6_growTree 62 = .ok (.iaload, 1) := by decide +kernel
theorem dX6_growTree_63 : decode cX6_growTree 63 = .ok (.iconst (-1), 1) := by decide +kernel
theorem dX6_growTree_64 : decode cX6_growTree 64 = .ok (.ixor, 1) := by decide +kernel
theorem dX6_growTree_65 : decode cX6_growTree 65 = .ok (.iand, 1) := by decide +kernel
theorem dX6_growTree_66 : decode cX6_growTree 66 = .ok (.istore 4, 2) := by decide +kernel
theorem dX6_growTree_68 : decode cX6_growTree 68 = .ok (.iload_n 3, 1) := by decide +kernel
theorem dX6_growTree_69 : decode cX6_growTree 69 = .ok (.ifCond .eq 31, 3) := by decide +kernel
theorem dX6_growTree_72 : decode cX6_growTree 72 = .ok (.iload 4, 2) := by decide +kernel
theorem dX6_growTree_74 : decode cX6_growTree 74 = .ok (.ifCond .eq 26, 3) := by decide +kernel
theorem dX6_growTree_77 : decode cX6_growTree 77 = .ok (.aload_n 0, 1) := by decide +kernel
theorem dX6_growTree_78 : decode cX6_growTree 78 = .ok (.getfield 52, 3) := by decide +kernel
theorem dX6_growTree_81 : decode cX6_growTree 81 = .ok (.iload_n 3, 1) := by decide +kernel
theorem dX6_growTree_82 : decode cX6_growTree 82 = .ok (.iaload, 1) := by decide +kernel
theorem dX6_growTree_83 : decode cX6_growTree 83 = .ok (.ifCond .lt 17, 3) := by decide +kernel
theorem dX6_growTree_86 : decode cX6_growTree 86 = .ok (.aload_n 0, 1) := by decide +kernel
theorem dX6_growTree_87 : decode cX6_growTree 87 = .ok (.getfield 52, 3) := by decide +kernel
theorem dX6_growTree_90 : decode cX6_growTree 90 = .ok (.iload 4, 2) := by decide +kernel
theorem dX6_growTree_92 : decode cX6_growTree 92 = .ok (.iaload, 1) := by decide +kernel
theorem dX6_growTree_93 : decode cX6_growTree 93 = .ok (.ifCond .lt 7, 3) := by decide +kernel
theorem dX6_growTree_96 : decode cX6_growTree 96 = .ok (.iconst 1, 1) := by decide +kernel
theorem dX6_growTree_97 : decode cX6_growTree 97 = .ok (.goto 4, 3) := by decide +kernel
theorem dX6_growTree_100 : decode cX6_growTree 100 = .ok (.iconst 0, 1) := by decide +kernel
theorem dX6_growTree_101 : decode cX6_growTree 101 = .ok (.istore 5, 2) := by decide +kernel
theorem dX6_growTree_103 : decode cX6_growTree 103 = .ok (.iload 5, 2) := by decide +kernel
theorem dX6_growTree_105 : decode cX6_growTree 105 = .ok (.ifCond .eq 26, 3) := by decide +kernel
theorem dX6_growTree_108 : decode cX6_growTree 108 = .ok (.aload_n 0, 1) := by decide +kernel
theorem dX6_growTree_109 : decode cX6_growTree 109 = .ok (.iload_n 1, 1) := by decide +kernel
theorem dX6_growTree_110 : decode cX6_growTree 110 = .ok (.invokevirtual 176, 3) := by decide +kernel
theorem dX6_growTree_113 : decode cX6_growTree 113 = .ok (.aload_n 0, 1) := by decide +kernel
theorem dX6_growTree_114 : decode cX6_growTree 114 = .ok (.getfield 52, 3) := by decide +kernel
theorem dX6_growTree_117 : decode cX6_growTree 117 = .ok (.iload_n 3, 1) := by decide +kernel
theorem dX6_growTree_118 : decode cX6_growTree 118 = .ok (.iaload, 1) := by decide +kernel
theorem dX6_growTree_119 : decode cX6_growTree 119 = .ok (.iadd, 1) := by decide +kernel
theorem dX6_growTree_120 : decode cX6_growTree 120 = .ok (.aload_n 0, 1) := by decide +kernel
theorem dX6_growTree_121 : decode cX6_growTree 121 = .ok (.getfield 52, 3) := by decide +kernel
theorem dX6_growTree_124 : decode cX6_growTree 124 = .ok (.iload 4, 2) := by decide +kernel
theorem dX6_growTree_126 : decode cX6_growTree 126 = .ok (.iaload, 1) := by decide +kernel
theorem dX6_growTree_127 : decode cX6_growTree 127 = .ok (.iadd, 1) := by decide +kernel
theorem dX6_growTree_128 : decode cX6_growTree 128 = .ok (.goto 5, 3) := by decide +kernel
theorem dX6_growTree_131 : decode cX6_growTree 131 = .ok (.bipush (-9), 2) := by decide +kernel
theorem dX6_growTree_133 : decode cX6_growTree 133 = .ok (.istore 6, 2) := by decide +kernel
theorem dX6_growTree_135 : decode cX6_growTree 135 = .ok (.iload 5, 2) := by decide +kernel
theorem dX6_growTree_137 : decode cX6_growTree 137 = .ok (.ifCond .eq 38, 3) := by decide +kernel
theorem dX6_growTree_140 : decode cX6_growTree 140 = .ok (.aload_n 0, 1) := by decide +kernel
theorem dX6_growTree_141 : decode cX6_growTree 141 = .ok (.getfield 55, 3) := by decide +kernel
theorem dX6_growTree_144 : decode cX6_growTree 144 = .ok (.iload_n 1, 1) := by decide +kernel
theorem dX6_growTree_145 : decode cX6_growTree 145 = .ok (.iaload, 1) := by decide +kernel
theorem dX6_growTree_146 : decode cX6_growTree 146 = .ok (.ifCond .lt 14, 3) := by decide +kernel
theorem dX6_growTree_149 : decode cX6_growTree 149 = .ok (.iload 6, 2) := by decide +kernel
theorem dX6_growTree_151 : decode cX6_growTree 151 = .ok (.aload_n 0, 1) := by decide +kernel
theorem dX6_growTree_152 : decode cX6_growTree 152 = .ok (.getfield 52, 3) := by decide +kernel
theorem dX6_growTree_155 : decode cX6_growTree 155 = .ok (.iload_n 1, 1) := by decide +kernel
theorem dX6_growTree_156 : decode cX6_growTree 156 = .ok (.iaload, 1) := by decide +kernel
theorem dX6_growTree_157 : decode cX6_growTree 157 = .ok (.if_icmp .ge 18, 3) := by decide +kernel
theorem dX6_growTree_160 : decode cX6_growTree 160 = .ok (.aload_n 0, 1) := by decide +kernel
theorem dX6_growTree_161 : decode cX6_growTree 161 = .ok (.getfield 52, 3) := by decide +kernel
theorem dX6_growTree_164 : decode cX6_growTree 164 = .ok (.iload_n 1, 1) := by decide +kernel
theorem dX6_growTree_165 : decode cX6_growTree 165 = .ok (.iload 6, 2) := by decide +kernel
theorem dX6_growTree_167 : decode cX6_growTree 167 = .ok (.iastore, 1) := by decide +kernel
theorem dX6_growTree_168 : decode cX6_growTree 168 = .ok (.aload_n 0, 1) := by decide +kernel
theorem dX6_growTree_169 : decode cX6_growTree 169 = .ok (.getfield 55, 3) := by decide +kernel
theorem dX6_growTree_172 : decode cX6_growTree 172 = .ok (.iload_n 1, 1) := by decide +kernel
theorem dX6_growTree_173 : decode cX6_growTree 173 = .ok (.iload_n 2, 1) := by decide +kernel
theorem dX6_growTree_174 : decode cX6_growTree 174 = .ok (.iastore, 1) := by decide +kernel
theorem dX6_growTree_175 : decode cX6_growTree 175 = .ok (.iinc 2 1, 3) := by decide +kernel
theorem dX6_growTree_178 : decode cX6_growTree 178 = .ok (.goto (-148), 3) := by decide +kernel
theorem dX6_growTree_181 : decode cX6_growTree 181 = .ok (.return_, 1) := by decide +kernel
theorem dX6_tree_0 : decode cX6_tree 0 = .ok (.iload_n 1, 1) := by decide +kernel
theorem dX6_tree_1 : decode cX6_tree 1 = .ok (.i2l, 1) := by decide +kernel
theorem dX6_tree_2 : decode cX6_tree 2 = .ok (.lconst 0, 1) := by decide +kernel
theorem dX6_tree_3 : decode cX6_tree 3 = .ok (.lconst 1, 1) := by decide +kernel
theorem dX6_tree_4 : decode cX6_tree 4 = .ok (.invokestatic 89, 3) := by decide +kernel
theorem dX6_tree_7 : decode cX6_tree 7 = .ok (.ifCond .ne 6, 3) := by decide +kernel
theorem dX6_tree_10 : decode cX6_tree 10 = .ok (.bipush (-2), 2) := by decide +kernel
theorem dX6_tree_12 : decode cX6_tree 12 = .ok (.ireturn, 1) := by decide +kernel
theorem dX6_tree_13 : decode cX6_tree 13 = .ok (.aload_n 0, 1) := by decide +kernel
theorem dX6_tree_14 : decode cX6_tree 14 = .ok (.getfield 86, 3) := by decide +kernel
theorem dX6_tree_17 : decode cX6_tree 17 = .ok (.ifCond .ne 6, 3) := by decide +kernel
theorem dX6_tree_20 : decode cX6_tree 20 = .ok (.bipush (-3), 2) := by decide +kernel
theorem dX6_tree_22 : decode cX6_tree 22 = .ok (.ireturn, 1) := by decide +kernel
theorem dX6_tree_23 : decode cX6_tree 23 = .ok (.iconst 0, 1) := by decide +kernel
theorem dX6_tree_24 : decode cX6_tree 24 = .ok (.istore_n 2, 1) := by decide +kernel
theorem dX6_tree_25 : decode cX6_tree 25 = .ok (.iload_n 2, 1) := by decide +kernel
theorem dX6_tree_26 : decode cX6_tree 26 = .ok (.aload_n 0, 1) := by decide +kernel
theorem dX6_tree_27 : decode cX6_tree 27 = .ok (.invokevirtual 159, 3) := by decide +kernel
theorem dX6_tree_30 : decode cX6_tree 30 = .ok (.if_icmp .gt 14, 3) := by decide +kernel
theorem dX6_tree_33 : decode cX6_tree 33 = .ok (.aload_n 0, 1) := by decide +kernel
theorem dX6_tree_34 : decode cX6_tree 34 = .ok (.iload_n 2, 1) := by decide +kernel
theorem dX6_tree_35 : decode cX6_tree 35 = .ok (.invokevirtual 221, 3) := by decide +kernel
theorem dX6_tree_38 : decode cX6_tree 38 = .ok (.iinc 2 1, 3) := by decide +kernel
theorem dX6_tree_41 : decode cX6_tree 41 = .ok (.goto (-16), 3) := by decide +kernel
theorem dX6_tree_44 : decode cX6_tree 44 = .ok (.iload_n 1, 1) := by decide +kernel
theorem dX6_tree_45 : decode cX6_tree 45 = .ok (.ifCond .ne 15, 3) := by decide +kernel
theorem dX6_tree_48 : decode cX6_tree 48 = .ok (.aload_n 0, 1) := by decide +kernel
theorem dX6_tree_49 : decode cX6_tree 49 = .ok (.getfield 52, 3) := by decide +kernel
theorem dX6_tree_52 : decode cX6_tree 52 = .ok (.aload_n 0, 1) := by decide +kernel
theorem dX6_tree_53 : decode cX6_tree 53 = .ok (.invokevirtual 159, 3) := by decide +kernel
theorem dX6_tree_56 : decode cX6_tree 56 = .ok (.iaload, 1) := by decide +kernel
theorem dX6_tree_57 : decode cX6_tree 57 = .ok (.goto 12, 3) := by decide +kernel
theorem dX6_tree_60 : decode cX6_tree 60 = .ok (.aload_n 0, 1) := by decide +kernel
theorem dX6_tree_61 : decode cX6_tree 61 = .ok (.getfield 55, 3) := by decide +kernel
theorem dX6_tree_64 : decode cX6_tree 64 = .ok (.aload_n 0, 1) := by decide +kernel
theorem dX6_tree_65 : decode cX6_tree 65 = .ok (.invokevirtual 159, 3) := by decide +kernel
theorem dX6_tree_68 : decode cX6_tree 68 = .ok (.iaload, 1) := by decide +kernel
theorem dX6_tree_69 : decode cX6_tree 69 = .ok (.ireturn, 1) := by decide +kernel
theorem dX6_odds_0 : decode cX6_odds 0 = .ok (.aload_n 0, 1) := by decide +kernel
theorem dX6_odds_1 : decode cX6_odds 1 = .ok (.iload_n 1, 1) := by decide +kernel
theorem dX6_odds_2 : decode cX6_odds 2 = .ok (.invokevirtual 153, 3) := by decide +kernel
theorem dX6_odds_5 : decode cX6_odds 5 = .ok (.ifCond .ne 25, 3) := by decide +kernel
theorem dX6_odds_8 : decode cX6_odds 8 = .ok (.iload_n 2, 1) := by decide +kernel
theorem dX6_odds_9 : decode cX6_odds 9 = .ok (.i2l, 1) := by decide +kernel
theorem dX6_odds_10 : decode cX6_odds 10 = .ok (.lconst 0, 1) := by decide +kernel
theorem dX6_odds_11 : decode cX6_odds 11 = .ok (.ldc2_w 225, 3) := by decide +kernel
theorem dX6_odds_14 : decode cX6_odds 14 = .ok (.invokestatic 89, 3) := by decide +kernel
theorem dX6_odds_17 : decode cX6_odds 17 = .ok (.ifCond .eq 13, 3) := by decide +kernel
theorem dX6_odds_20 : decode cX6_odds 20 = .ok (.iload_n 3, 1) := by decide +kernel
theorem dX6_odds_21 : decode cX6_odds 21 = .ok (.i2l, 1) := by decide +kernel
theorem dX6_odds_22 : decode cX6_odds 22 = .ok (.lconst 0, 1) := by decide +kernel
theorem dX6_odds_23 : decode cX6_odds 23 = .ok (.lconst 1, 1) := by decide +kernel
theorem dX6_odds_24 : decode cX6_odds 24 = .ok (.invokestatic 89, 3) := by decide +kernel
theorem dX6_odds_27 : decode cX6_odds 27 = .ok (.ifCond .ne 7, 3) := by decide +kernel
theorem dX6_odds_30 : decode cX6_odds 30 = .ok (.invokestatic 82, 3) := by decide +kernel
theorem dX6_odds_33 : decode cX6_odds 33 = .ok (.lreturn, 1) := by decide +kernel
theorem dX6_odds_34 : decode cX6_odds 34 = .ok (.iconst 0, 1) := by decide +kernel
theorem dX6_odds_35 : decode cX6_odds 35 = .ok (.istore 4, 2) := by decide +kernel
theorem dX6_odds_37 : decode cX6_odds 37 = .ok (.iconst 0, 1) := by decide +kernel
theorem dX6_odds_38 : decode cX6_odds 38 = .ok (.istore 5, 2) := by decide +kernel
theorem dX6_odds_40 : decode cX6_odds 40 = .ok (.iload 5, 2) := by decide +kernel
theorem dX6_odds_42 : decode cX6_odds 42 = .ok (.aload_n 0, 1) := by decide +kernel
theorem dX6_odds_43 : decode cX6_odds 43 = .ok (.getfield 86, 3) := by decide +kernel
theorem dX6_odds_46 : decode cX6_odds 46 = .ok (.if_icmp .ge 52, 3) := by decide +kernel
theorem dX6_odds_49 : decode cX6_odds 49 = .ok (.iload 4, 2) := by decide +kernel
theorem dX6_odds_51 : decode cX6_odds 51 = .ok (.iload 5, 2) := by decide +kernel
theorem dX6_odds_53 : decode cX6_odds 53 = .ok (.iload_n 1, 1) := by decide +kernel
theorem dX6_odds_54 : decode cX6_odds 54 = .ok (.if_icmp .eq 34, 3) := by decide +kernel
theorem dX6_odds_57 : decode cX6_odds 57 = .ok (.aload_n 0, 1) := by decide +kernel
theorem dX6_odds_58 : decode cX6_odds 58 = .ok (.getfield 7, 3) := by decide +kernel
theorem dX6_odds_61 : decode cX6_odds 61 = .ok (.iload 5, 2) := by decide +kernel
theorem dX6_odds_63 : decode cX6_odds 63 = .ok (.iaload, 1) := by decide +kernel
theorem dX6_odds_64 : decode cX6_odds 64 = .ok (.ifCond .ne 24, 3) := by decide +kernel
theorem dX6_odds_67 : decode cX6_odds 67 = .ok (.aload_n 0, 1) := by decide +kernel
theorem dX6_odds_68 : decode cX6_odds 68 = .ok (.getfield 19, 3) := by decide +kernel
theorem dX6_odds_71 : decode cX6_odds 71 = .ok (.iload 5, 2) := by decide +kernel
theorem dX6_odds_73 : decode cX6_odds 73 = .ok (.iaload, 1) := by decide +kernel
theorem dX6_odds_74 : decode cX6_odds 74 = .ok (.iload_n 1, 1) := by decide +kernel
theorem dX6_odds_75 : decode cX6_odds 75 = .ok (.if_icmp .ne 13, 3) := by decide +kernel
theorem dX6_odds_78 : decode cX6_odds 78 = .ok (.aload_n 0, 1) := by decide +kernel
theorem dX6_odds_79 : decode cX6_odds 79 = .ok (.getfield 13, 3) := by decide +kernel
theorem dX6_odds_82 : decode cX6_odds 82 = .ok (.iload 5, 2) := by decide +kernel
theorem dX6_odds_84 : decode cX6_odds 84 = .ok (.iaload, 1) := by decide +kernel
theorem dX6_odds_85 : decode cX6_odds 85 = .ok (.goto 4, 3) := by decide +kernel
theorem dX6_odds_88 : decode cX6_odds 88 = .ok (.iconst 0, 1) := by decide +kernel
theorem dX6_odds_89 : decode cX6_odds 89 = .ok (.iadd, 1) := by decide +kernel
theorem dX6_odds_90 : decode cX6_odds 90 = .ok (.istore 4, 2) := by decide +kernel
theorem dX6_odds_92 : decode cX6_odds 92 = .ok (.iinc 5 1, 3) := by decide +kernel
theorem dX6_odds_95 : decode cX6_odds 95 = .ok (.goto (-55), 3) := by decide +kernel
theorem dX6_odds_98 : decode cX6_odds 98 = .ok (.lconst 1, 1) := by decide +kernel
theorem dX6_odds_99 : decode cX6_odds 99 = .ok (.lstore 5, 2) := by decide +kernel
theorem dX6_odds_101 : decode cX6_odds 101 = .ok (.lconst 0, 1) := by decide +kernel
theorem dX6_odds_102 : decode cX6_odds 102 = .ok (.lstore 7, 2) := by decide +kernel
theorem dX6_odds_104 : decode cX6_odds 104 = .ok (.iconst 0, 1) := by decide +kernel
theorem dX6_odds_105 : decode cX6_odds 105 = .ok (.istore 9, 2) := by decide +kernel
theorem dX6_odds_107 : decode cX6_odds 107 = .ok (.iload 9, 2) := by decide +kernel
theorem dX6_odds_109 : decode cX6_odds 109 = .ok (.iload 4, 2) := by decide +kernel
theorem dX6_odds_111 : decode cX6_odds 111 = .ok (.if_icmp .gt 43, 3) := by decide +kernel
theorem dX6_odds_114 : decode cX6_odds 114 = .ok (.lload 7, 2) := by decide +kernel
theorem dX6_odds_116 : decode cX6_odds 116 = .ok (.iload 9, 2) := by decide +kernel
theorem dX6_odds_118 : decode cX6_odds 118 = .ok (.iload_n 2, 1) := by decide +kernel
theorem dX6_odds_119 : decode cX6_odds 119 = .ok (.if_icmp .lt 8, 3) := by decide +kernel
theorem dX6_odds_122 : decode cX6_odds 122 = .ok (.lload 5, 2) := by decide +kernel
theorem dX6_odds_124 : decode cX6_odds 124 = .ok (.goto 4, 3) := by decide +kernel
theorem dX6_odds_127 : decode cX6_odds 127 = .ok (.lconst 0, 1) := by decide +kernel
theorem dX6_odds_128 : decode cX6_odds 128 = .ok (.ladd, 1) := by decide +kernel
theorem dX6_odds_129 : decode cX6_odds 129 = .ok (.lstore 7, 2) := by decide +kernel
theorem dX6_odds_131 : decode cX6_odds 131 = .ok (.lload 5, 2) := by decide +kernel
theorem dX6_odds_133 : decode cX6_odds 133 = .ok (.iload 4, 2) := by decide +kernel
theorem dX6_odds_135 : decode cX6_odds 135 = .ok (.iload 9, 2) := by decide +kernel
theorem dX6_odds_137 : decode cX6_odds 137 = .ok (.isub, 1) := by decide +kernel
theorem dX6_odds_138 : decode cX6_odds 138 = .ok (.i2l, 1) := by decide +kernel
theorem dX6_odds_139 : decode cX6_odds 139 = .ok (.lmul, 1) := by decide +kernel
theorem dX6_odds_140 : decode cX6_odds 140 = .ok (.iload 9, 2) := by decide +kernel
theorem dX6_odds_142 : decode cX6_odds 142 = .ok (.iconst 1, 1) := by decide +kernel
theorem dX6_odds_143 : decode cX6_odds 143 = .ok (.iadd, 1) := by decide +kernel
theorem dX6_odds_144 : decode cX6_odds 144 = .ok (.i2l, 1) := by decide +kernel
theorem dX6_odds_145 : decode cX6_odds 145 = .ok (.ldiv, 1) := by decide +kernel
theorem dX6_odds_146 : decode cX6_odds 146 = .ok (.lstore 5, 2) := by decide +kernel
theorem dX6_odds_148 : decode cX6_odds 148 = .ok (.iinc 9 1, 3) := by decide +kernel
theorem dX6_odds_151 : decode cX6_odds 151 = .ok (.goto (-44), 3) := by decide +kernel
theorem dX6_odds_154 : decode cX6_odds 154 = .ok (.lload 7, 2) := by decide +kernel
theorem dX6_odds_156 : decode cX6_odds 156 = .ok (.lconst 1, 1) := by decide +kernel
theorem dX6_odds_157 : decode cX6_odds 157 = .ok (.iload 4, 2) := by decide +kernel
theorem dX6_odds_159 : decode cX6_odds 159 = .ok (.lshl, 1) := by decide +kernel
theorem dX6_odds_160 : decode cX6_odds 160 = .ok (.iload_n 3, 1) := by decide +kernel
theorem dX6_odds_161 : decode cX6_odds 161 = .ok (.invokestatic 227, 3) := by decide +kernel
theorem dX6_odds_164 : decode cX6_odds 164 = .ok (.lreturn, 1) := by decide +kernel
theorem dX6_reading_0 : decode cX6_reading 0 = .ok (.aload_n 0, 1) := by decide +kernel
theorem dX6_reading_1 : decode cX6_reading 1 = .ok (.getfield 86, 3) := by decide +kernel
theorem dX6_reading_4 : decode cX6_reading 4 = .ok (.ifCond .ne 6, 3) := by decide +kernel
theorem dX6_reading_7 : decode cX6_reading 7 = .ok (.bipush (-3), 2) := by decide +kernel
theorem dX6_reading_9 : decode cX6_reading 9 = .ok (.ireturn, 1) := by decide +kernel
theorem dX6_reading_10 : decode cX6_reading 10 = .ok (.iload_n 1, 1) := by decide +kernel
theorem dX6_reading_11 : decode cX6_reading 11 = .ok (.i2l, 1) := by decide +kernel
theorem dX6_reading_12 : decode cX6_reading 12 = .ok (.lconst 0, 1) := by decide +kernel
theorem dX6_reading_13 : decode cX6_reading 13 = .ok (.aload_n 0, 1) := by decide +kernel
theorem dX6_reading_14 : decode cX6_reading 14 = .ok (.invokevirtual 159, 3) := by decide +kernel
theorem dX6_reading_17 : decode cX6_reading 17 = .ok (.i2l, 1) := by decide +kernel
theorem dX6_reading_18 : decode cX6_reading 18 = .ok (.invokestatic 89, 3) := by decide +kernel
theorem dX6_reading_21 : decode cX6_reading 21 = .ok (.ifCond .eq 15, 3) := by decide +kernel
theorem dX6_reading_24 : decode cX6_reading 24 = .ok (.iload_n 2, 1) := by decide +kernel
theorem dX6_reading_25 : decode cX6_reading 25 = .ok (.i2l, 1) := by decide +kernel
theorem dX6_reading_26 : decode cX6_reading 26 = .ok (.lconst 0, 1) := by decide +kernel
theorem dX6_reading_27 : decode cX6_reading 27 = .ok (.ldc2_w 231, 3) := by decide +kernel
theorem dX6_reading_30 : decode cX6_reading 30 = .ok (.invokestatic 89, 3) := by decide +kernel
theorem dX6_reading_33 : decode cX6_reading 33 = .ok (.ifCond .ne 6, 3) := by decide +kernel
theorem dX6_reading_36 : decode cX6_reading 36 = .ok (.bipush (-2), 2) := by decide +kernel
theorem dX6_reading_38 : decode cX6_reading 38 = .ok (.ireturn, 1) := by decide +kernel
theorem dX6_reading_39 : decode cX6_reading 39 = .ok (.aload_n 0, 1) := by decide +kernel
theorem dX6_reading_40 : decode cX6_reading 40 = .ok (.getfield 144, 3) := by decide +kernel
theorem dX6_reading_43 : decode cX6_reading 43 = .ok (.bipush 8, 2) := by decide +kernel
theorem dX6_reading_45 : decode cX6_reading 45 = .ok (.if_icmp .ne 6, 3) := by decide +kernel
theorem dX6_reading_48 : decode cX6_reading 48 = .ok (.bipush (-4), 2) := by decide +kernel
theorem dX6_reading_50 : decode cX6_reading 50 = .ok (.ireturn, 1) := by decide +kernel
theorem dX6_reading_51 : decode cX6_reading 51 = .ok (.aload_n 0, 1) := by decide +kernel
theorem dX6_reading_52 : decode cX6_reading 52 = .ok (.getfield 58, 3) := by decide +kernel
theorem dX6_reading_55 : decode cX6_reading 55 = .ok (.aload_n 0, 1) := by decide +kernel
theorem dX6_reading_56 : decode cX6_reading 56 = .ok (.getfield 144, 3) := by decide +kernel
theorem dX6_reading_59 : decode cX6_reading 59 = .ok (.iload_n 1, 1) := by decide +kernel
theorem dX6_reading_60 : decode cX6_reading 60 = .ok (.iastore, 1) := by decide +kernel
theorem dX6_reading_61 : decode cX6_reading 61 = .ok (.aload_n 0, 1) := by decide +kernel
theorem dX6_reading_62 : decode cX6_reading 62 = .ok (.getfield 61, 3) := by decide +kernel
theorem dX6_reading_65 : decode cX6_reading 65 = .ok (.aload_n 0, 1) := by decide +kernel
theorem dX6_reading_66 : decode cX6_reading 66 = .ok (.getfield 144, 3) := by decide +kernel
theorem dX6_reading_69 : decode cX6_reading 69 = .ok (.iload_n 2, 1) := by decide +kernel
theorem dX6_reading_70 : decode cX6_reading 70 = .ok (.iastore, 1) := by decide +kernel
theorem dX6_reading_71 : decode cX6_reading 71 = .ok (.aload_n 0, 1) := by decide +kernel
theorem dX6_reading_72 : decode cX6_reading 72 = .ok (.dup, 1) := by decide +kernel
theorem dX6_reading_73 : decode cX6_reading 73 = .ok (.getfield 144, 3) := by decide +kernel
theorem dX6_reading_76 : decode cX6_reading 76 = .ok (.iconst 1, 1) := by decide +kernel
theorem dX6_reading_77 : decode cX6_reading 77 = .ok (.iadd, 1) := by decide +kernel
theorem dX6_reading_78 : decode cX6_reading 78 = .ok (.putfield 144, 3) := by decide +kernel
theorem dX6_reading_81 : decode cX6_reading 81 = .ok (.aload_n 0, 1) := by decide +kernel
theorem dX6_reading_82 : decode cX6_reading 82 = .ok (.getfield 144, 3) := by decide +kernel
theorem dX6_reading_85 : decode cX6_reading 85 = .ok (.iconst 1, 1) := by decide +kernel
theorem dX6_reading_86 : decode cX6_reading 86 = .ok (.isub, 1) := by decide +kernel
theorem dX6_reading_87 : decode cX6_reading 87 = .ok (.ireturn, 1) := by decide +kernel
theorem dX6_back_0 : decode cX6_back 0 = .ok (.iload_n 1, 1) := by decide +kernel
theorem dX6_back_1 : decode cX6_back 1 = .ok (.i2l, 1) := by decide +kernel
theorem dX6_back_2 : decode cX6_back 2 = .ok (.lconst 0, 1) := by decide +kernel
theorem dX6_back_3 : decode cX6_back 3 = .ok (.aload_n 0, 1) := by decide +kernel
theorem dX6_back_4 : decode cX6_back 4 = .ok (.getfield 144, 3) := by decide +kernel
theorem dX6_back_7 : decode cX6_back 7 = .ok (.i2l, 1) := by decide +kernel
theorem dX6_back_8 : decode cX6_back 8 = .ok (.invokestatic 89, 3) := by decide +kernel
theorem dX6_back_11 : decode cX6_back 11 = .ok (.ifCond .ne 6, 3) := by decide +kernel
theorem dX6_back_14 : decode cX6_back 14 = .ok (.bipush (-2), 2) := by decide +kernel
theorem dX6_back_16 : decode cX6_back 16 = .ok (.ireturn, 1) := by decide +kernel
theorem dX6_back_17 : decode cX6_back 17 = .ok (.aload_n 0, 1) := by decide +kernel
theorem dX6_back_18 : decode cX6_back 18 = .ok (.dup, 1) := by decide +kernel
theorem dX6_back_19 : decode cX6_back 19 = .ok (.getfield 144, 3) := by decide +kernel
theorem dX6_back_22 : decode cX6_back 22 = .ok (.iload_n 1, 1) := by decide +kernel
theorem dX6_back_23 : decode cX6_back 23 = .ok (.isub, 1) := by decide +kernel
theorem dX6_back_24 : decode cX6_back 24 = .ok (.putfield 144, 3) := by decide +kernel
theorem dX6_back_27 : decode cX6_back 27 = .ok (.aload_n 0, 1) := by decide +kernel
theorem dX6_back_28 : decode cX6_back 28 = .ok (.getfield 144, 3) := by decide +kernel
theorem dX6_back_31 : decode cX6_back 31 = .ok (.ireturn, 1) := by decide +kernel
theorem dX6_areSo_0 : decode cX6_areSo 0 = .ok (.iconst 1, 1) := by decide +kernel
theorem dX6_areSo_1 : decode cX6_areSo 1 = .ok (.istore_n 1, 1) := by decide +kernel
theorem dX6_areSo_2 : decode cX6_areSo 2 = .ok (.iconst 0, 1) := by decide +kernel
theorem dX6_areSo_3 : decode cX6_areSo 3 = .ok (.istore_n 2, 1) := by decide +kernel
theorem dX6_areSo_4 : decode cX6_areSo 4 = .ok (.iload_n 2, 1) := by decide +kernel
theorem dX6_areSo_5 : decode cX6_areSo 5 = .ok (.aload_n 0, 1) := by decide +kernel
theorem dX6_areSo_6 : decode cX6_areSo 6 = .ok (.getfield 144, 3) := by decide +kernel
theorem dX6_areSo_9 : decode cX6_areSo 9 = .ok (.if_icmp .ge 38, 3) := by decide +kernel
theorem dX6_areSo_12 : decode cX6_areSo 12 = .ok (.iload_n 1, 1) := by decide +kernel
theorem dX6_areSo_13 : decode cX6_areSo 13 = .ok (.ifCond .eq 26, 3) := by decide +kernel
theorem dX6_areSo_16 : decode cX6_areSo 16 = .ok (.aload_n 0, 1) := by decide +kernel
theorem dX6_areSo_17 : decode cX6_areSo 17 = .ok (.aload_n 0, 1) := by decide +kernel
theorem dX6_areSo_18 : decode cX6_areSo 18 = .ok (.getfield 58, 3) := by decide +kernel
theorem dX6_areSo_21 : decode cX6_areSo 21 = .ok (.iload_n 2, 1) := by decide +kernel
theorem dX6_areSo_22 : decode cX6_areSo 22 = .ok (.iaload, 1) := by decide +kernel
theorem dX6_areSo_23 : decode cX6_areSo 23 = .ok (.invokevirtual 176, 3) := by decide +kernel
theorem dX6_areSo_26 : decode cX6_areSo 26 = .ok (.aload_n 0, 1) := by decide +kernel
theorem dX6_areSo_27 : decode cX6_areSo 27 = .ok (.getfield 61, 3) := by decide +kernel
theorem dX6_areSo_30 : decode cX6_areSo 30 = .ok (.iload_n 2, 1) := by decide +kernel
theorem dX6_areSo_31 : decode cX6_areSo 31 = .ok (.iaload, 1) := by decide +kernel
theorem dX6_areSo_32 : decode cX6_areSo 32 = .ok (.if_icmp .ne 7, 3) := by decide +kernel
theorem dX6_areSo_35 : decode cX6_areSo 35 = .ok (.iconst 1, 1) := by decide +kernel
theorem dX6_areSo_36 : decode cX6_areSo 36 = .ok (.goto 4, 3) := by decide +kernel
theorem dX6_areSo_39 : decode cX6_areSo 39 = .ok (.iconst 0, 1) := by decide +kernel
theorem dX6_areSo_40 : decode cX6_areSo 40 = .ok (.istore_n 1, 1) := by decide +kernel
theorem dX6_areSo_41 : decode cX6_areSo 41 = .ok (.iinc 2 1, 3) := by decide +kernel
theorem dX6_areSo_44 : decode cX6_areSo 44 = .ok (.goto (-40), 3) := by decide +kernel
theorem dX6_areSo_47 : decode cX6_areSo 47 = .ok (.iload_n 1, 1) := by decide +kernel
theorem dX6_areSo_48 : decode cX6_areSo 48 = .ok (.ireturn, 1) := by decide +kernel
theorem dX6_counts_0 : decode cX6_counts 0 = .ok (.aload_n 0, 1) := by decide +kernel
theorem dX6_counts_1 : decode cX6_counts 1 = .ok (.iload_n 1, 1) := by decide +kernel
theorem dX6_counts_2 : decode cX6_counts 2 = .ok (.invokevirtual 153, 3) := by decide +kernel
theorem dX6_counts_5 : decode cX6_counts 5 = .ok (.ifCond .eq 5, 3) := by decide +kernel
theorem dX6_counts_8 : decode cX6_counts 8 = .ok (.iconst (-1), 1) := by decide +kernel
theorem dX6_counts_9 : decode cX6_counts 9 = .ok (.ireturn, 1) := by decide +kernel
theorem dX6_counts_10 : decode cX6_counts 10 = .ok (.aload_n 0, 1) := by decide +kernel
theorem dX6_counts_11 : decode cX6_counts 11 = .ok (.getfield 13, 3) := by decide +kernel
theorem dX6_counts_14 : decode cX6_counts 14 = .ok (.iload_n 1, 1) := by decide +kernel
theorem dX6_counts_15 : decode cX6_counts 15 = .ok (.iaload, 1) := by decide +kernel
theorem dX6_counts_16 : decode cX6_counts 16 = .ok (.istore_n 2, 1) := by decide +kernel
theorem dX6_counts_17 : decode cX6_counts 17 = .ok (.iconst 0, 1) := by decide +kernel
theorem dX6_counts_18 : decode cX6_counts 18 = .ok (.istore_n 3, 1) := by decide +kernel
theorem dX6_counts_19 : decode cX6_counts 19 = .ok (.iconst 0, 1) := by decide +kernel
theorem dX6_counts_20 : decode cX6_counts 20 = .ok (.istore 4, 2) := by decide +kernel
theorem dX6_counts_22 : decode cX6_counts 22 = .ok (.iload 4, 2) := by decide +kernel
theorem dX6_counts_24 : decode cX6_counts 24 = .ok (.bipush 10, 2) := by decide +kernel
theorem dX6_counts_26 : decode cX6_counts 26 = .ok (.if_icmp .ge 35, 3) := by decide +kernel
theorem dX6_counts_29 : decode cX6_counts 29 = .ok (.aload_n 0, 1) := by decide +kernel
theorem dX6_counts_30 : decode cX6_counts 30 = .ok (.getfield 13, 3) := by decide +kernel
theorem dX6_counts_33 : decode cX6_counts 33 = .ok (.iload_n 1, 1) := by decide +kernel
theorem dX6_counts_34 : decode cX6_counts 34 = .ok (.iload 4, 2) := by decide +kernel
theorem dX6_counts_36 : decode cX6_counts 36 = .ok (.iastore, 1) := by decide +kernel
theorem dX6_counts_37 : decode cX6_counts 37 = .ok (.iload_n 3, 1) := by decide +kernel
theorem dX6_counts_38 : decode cX6_counts 38 = .ok (.aload_n 0, 1) := by decide +kernel
theorem dX6_counts_39 : decode cX6_counts 39 = .ok (.invokevirtual 233, 3) := by decide +kernel
theorem dX6_counts_42 : decode cX6_counts 42 = .ok (.ifCond .eq 10, 3) := by decide +kernel
theorem dX6_counts_45 : decode cX6_counts 45 = .ok (.iconst 1, 1) := by decide +kernel
theorem dX6_counts_46 : decode cX6_counts 46 = .ok (.iload 4, 2) := by decide +kernel
theorem dX6_counts_48 : decode cX6_counts 48 = .ok (.ishl, 1) := by decide +kernel
theorem dX6_counts_49 : decode cX6_counts 49 = .ok (.goto 4, 3) := by decide +kernel
theorem dX6_counts_52 : decode cX6_counts 52 = .ok (.iconst 0, 1) := by decide +kernel
theorem dX6_counts_53 : decode cX6_counts 53 = .ok (.ior, 1) := by decide +kernel
theorem dX6_counts_54 : decode cX6_counts 54 = .ok (.istore_n 3, 1) := by decide +kernel
theorem dX6_counts_55 : decode cX6_counts 55 = .ok (.iinc 4 1, 3) := by decide +kernel
theorem dX6_counts_58 : decode cX6_counts 58 = .ok (.goto (-36), 3) := by decide +kernel
theorem dX6_counts_61 : decode cX6_counts 61 = .ok (.aload_n 0, 1) := by decide +kernel
theorem dX6_counts_62 : decode cX6_counts 62 = .ok (.getfield 13, 3) := by decide +kernel
theorem dX6_counts_65 : decode cX6_counts 65 = .ok (.iload_n 1, 1) := by decide +kernel
theorem dX6_counts_66 : decode cX6_counts 66 = .ok (.iload_n 2, 1) := by decide +kernel
theorem dX6_counts_67 : decode cX6_counts 67 = .ok (.iastore, 1) := by decide +kernel
theorem dX6_counts_68 : decode cX6_counts 68 = .ok (.iload_n 3, 1) := by decide +kernel
theorem dX6_counts_69 : decode cX6_counts 69 = .ok (.ireturn, 1) := by decide +kernel
theorem dX6_kinds_0 : decode cX6_kinds 0 = .ok (.aload_n 0, 1) := by decide +kernel
theorem dX6_kinds_1 : decode cX6_kinds 1 = .ok (.iload_n 1, 1) := by decide +kernel
theorem dX6_kinds_2 : decode cX6_kinds 2 = .ok (.invokevirtual 153, 3) := by decide +kernel
theorem dX6_kinds_5 : decode cX6_kinds 5 = .ok (.ifCond .eq 5, 3) := by decide +kernel
theorem dX6_kinds_8 : decode cX6_kinds 8 = .ok (.iconst (-1), 1) := by decide +kernel
theorem dX6_kinds_9 : decode cX6_kinds 9 = .ok (.ireturn, 1) := by decide +kernel
theorem dX6_kinds_10 : decode cX6_kinds 10 = .ok (.aload_n 0, 1) := by decide +kernel
theorem dX6_kinds_11 : decode cX6_kinds 11 = .ok (.getfield 7, 3) := by decide +kernel
theorem dX6_kinds_14 : decode cX6_kinds 14 = .ok (.iload_n 1, 1) := by decide +kernel
theorem dX6_kinds_15 : decode cX6_kinds 15 = .ok (.iaload, 1) := by decide +kernel
theorem dX6_kinds_16 : decode cX6_kinds 16 = .ok (.istore_n 2, 1) := by decide +kernel
theorem dX6_kinds_17 : decode cX6_kinds 17 = .ok (.iconst 0, 1) := by decide +kernel
theorem dX6_kinds_18 : decode cX6_kinds 18 = .ok (.istore_n 3, 1) := by decide +kernel
theorem dX6_kinds_19 : decode cX6_kinds 19 = .ok (.iconst 0, 1) := by decide +kernel
theorem dX6_kinds_20 : decode cX6_kinds 20 = .ok (.istore 4, 2) := by decide +kernel
theorem dX6_kinds_22 : decode cX6_kinds 22 = .ok (.iload 4, 2) := by decide +kernel
theorem dX6_kinds_24 : decode cX6_kinds 24 = .ok (.iconst 3, 1) := by decide +kernel
theorem dX6_kinds_25 : decode cX6_kinds 25 = .ok (.if_icmp .ge 35, 3) := by decide +kernel
theorem dX6_kinds_28 : decode cX6_kinds 28 = .ok (.aload_n 0, 1) := by decide +kernel
theorem dX6_kinds_29 : decode cX6_kinds 29 = .ok (.getfield 7, 3) := by decide +kernel
theorem dX6_kinds_32 : decode cX6_kinds 32 = .ok (.iload_n 1, 1) := by decide +kernel
theorem dX6_kinds_33 : decode cX6_kinds 33 = .ok (.iload 4, 2) := by decide +kernel
theorem dX6_kinds_35 : decode cX6_kinds 35 = .ok (.iastore, 1) := by decide +kernel
theorem dX6_kinds_36 : decode cX6_kinds 36 = .ok (.iload_n 3, 1) := by decide +kernel
theorem dX6_kinds_37 : decode cX6_kinds 37 = .ok (.aload_n 0, 1) := by decide +kernel
theorem dX6_kinds_38 : decode cX6_kinds 38 = .ok (.invokevirtual 233, 3) := by decide +kernel
theorem dX6_kinds_41 : decode cX6_kinds 41 = .ok (.ifCond .eq 10, 3) := by decide +kernel
theorem dX6_kinds_44 : decode cX6_kinds 44 = .ok (.iconst 1, 1) := by decide +kernel
theorem dX6_kinds_45 : decode cX6_kinds 45 = .ok (.iload 4, 2) := by decide +kernel
theorem dX6_kinds_47 : decode cX6_kinds 47 = .ok (.ishl, 1) := by decide +kernel
theorem dX6_kinds_48 : decode cX6_kinds 48 = .ok (.goto 4, 3) := by decide +kernel
theorem dX6_kinds_51 : decode cX6_kinds 51 = .ok (.iconst 0, 1) := by decide +kernel
theorem dX6_kinds_52 : decode cX6_kinds 52 = .ok (.ior, 1) := by decide +kernel
theorem dX6_kinds_53 : decode cX6_kinds 53 = .ok (.istore_n 3, 1) := by decide +kernel
theorem dX6_kinds_54 : decode cX6_kinds 54 = .ok (.iinc 4 1, 3) := by decide +kernel
theorem dX6_kinds_57 : decode cX6_kinds 57 = .ok (.goto (-35), 3) := by decide +kernel
theorem dX6_kinds_60 : decode cX6_kinds 60 = .ok (.aload_n 0, 1) := by decide +kernel
theorem dX6_kinds_61 : decode cX6_kinds 61 = .ok (.getfield 7, 3) := by decide +kernel
theorem dX6_kinds_64 : decode cX6_kinds 64 = .ok (.iload_n 1, 1) := by decide +kernel
theorem dX6_kinds_65 : decode cX6_kinds 65 = .ok (.iload_n 2, 1) := by decide +kernel
theorem dX6_kinds_66 : decode cX6_kinds 66 = .ok (.iastore, 1) := by decide +kernel
theorem dX6_kinds_67 : decode cX6_kinds 67 = .ok (.iload_n 3, 1) := by decide +kernel
theorem dX6_kinds_68 : decode cX6_kinds 68 = .ok (.ireturn, 1) := by decide +kernel
theorem dX6_speeds_0 : decode cX6_speeds 0 = .ok (.aload_n 0, 1) := by decide +kernel
theorem dX6_speeds_1 : decode cX6_speeds 1 = .ok (.iload_n 1, 1) := by decide +kernel
theorem dX6_speeds_2 : decode cX6_speeds 2 = .ok (.invokevirtual 153, 3) := by decide +kernel
theorem dX6_speeds_5 : decode cX6_speeds 5 = .ok (.ifCond .eq 5, 3) := by decide +kernel
theorem dX6_speeds_8 : decode cX6_speeds 8 = .ok (.iconst (-1), 1) := by decide +kernel
theorem dX6_speeds_9 : decode cX6_speeds 9 = .ok (.ireturn, 1) := by decide +kernel
theorem dX6_speeds_10 : decode cX6_speeds 10 = .ok (.aload_n 0, 1) := by decide +kernel
theorem dX6_speeds_11 : decode cX6_speeds 11 = .ok (.getfield 16, 3) := by decide +kernel
theorem dX6_speeds_14 : decode cX6_speeds 14 = .ok (.iload_n 1, 1) := by decide +kernel
theorem dX6_speeds_15 : decode cX6_speeds 15 = .ok (.iaload, 1) := by decide +kernel
theorem dX6_speeds_16 : decode cX6_speeds 16 = .ok (.istore_n 2, 1) := by decide +kernel
theorem dX6_speeds_17 : decode cX6_speeds 17 = .ok (.iconst 0, 1) := by decide +kernel
theorem dX6_speeds_18 : decode cX6_speeds 18 = .ok (.istore_n 3, 1) := by decide +kernel
theorem dX6_speeds_19 : decode cX6_speeds 19 = .ok (.iconst 1, 1) := by decide +kernel
theorem dX6_speeds_20 : decode cX6_speeds 20 = .ok (.istore 4, 2) := by decide +kernel
theorem dX6_speeds_22 : decode cX6_speeds 22 = .ok (.iload 4, 2) := by decide +kernel
theorem dX6_speeds_24 : decode cX6_speeds 24 = .ok (.bipush 10, 2) := by decide +kernel
theorem dX6_speeds_26 : decode cX6_speeds 26 = .ok (.if_icmp .ge 35, 3) := by decide +kernel
theorem dX6_speeds_29 : decode cX6_speeds 29 = .ok (.aload_n 0, 1) := by decide +kernel
theorem dX6_speeds_30 : decode cX6_speeds 30 = .ok (.getfield 16, 3) := by decide +kernel
theorem dX6_speeds_33 : decode cX6_speeds 33 = .ok (.iload_n 1, 1) := by decide +kernel
theorem dX6_speeds_34 : decode cX6_speeds 34 = .ok (.iload 4, 2) := by decide +kernel
theorem dX6_speeds_36 : decode cX6_speeds 36 = .ok (.iastore, 1) := by decide +kernel
theorem dX6_speeds_37 : decode cX6_speeds 37 = .ok (.iload_n 3, 1) := by decide +kernel
theorem dX6_speeds_38 : decode cX6_speeds 38 = .ok (.aload_n 0, 1) := by decide +kernel
theorem dX6_speeds_39 : decode cX6_speeds 39 = .ok (.invokevirtual 233, 3) := by decide +kernel
theorem dX6_speeds_42 : decode cX6_speeds 42 = .ok (.ifCond .eq 10, 3) := by decide +kernel
theorem dX6_speeds_45 : decode cX6_speeds 45 = .ok (.iconst 1, 1) := by decide +kernel
theorem dX6_speeds_46 : decode cX6_speeds 46 = .ok (.iload 4, 2) := by decide +kernel
theorem dX6_speeds_48 : decode cX6_speeds 48 = .ok (.ishl, 1) := by decide +kernel
theorem dX6_speeds_49 : decode cX6_speeds 49 = .ok (.goto 4, 3) := by decide +kernel
theorem dX6_speeds_52 : decode cX6_speeds 52 = .ok (.iconst 0, 1) := by decide +kernel
theorem dX6_speeds_53 : decode cX6_speeds 53 = .ok (.ior, 1) := by decide +kernel
theorem dX6_speeds_54 : decode cX6_speeds 54 = .ok (.istore_n 3, 1) := by decide +kernel
theorem dX6_speeds_55 : decode cX6_speeds 55 = .ok (.iinc 4 1, 3) := by decide +kernel
theorem dX6_speeds_58 : decode cX6_speeds 58 = .ok (.goto (-36), 3) := by decide +kernel
theorem dX6_speeds_61 : decode cX6_speeds 61 = .ok (.aload_n 0, 1) := by decide +kernel
theorem dX6_speeds_62 : decode cX6_speeds 62 = .ok (.getfield 16, 3) := by decide +kernel
theorem dX6_speeds_65 : decode cX6_speeds 65 = .ok (.iload_n 1, 1) := by decide +kernel
theorem dX6_speeds_66 : decode cX6_speeds 66 = .ok (.iload_n 2, 1) := by decide +kernel
theorem dX6_speeds_67 : decode cX6_speeds 67 = .ok (.iastore, 1) := by decide +kernel
theorem dX6_speeds_68 : decode cX6_speeds 68 = .ok (.iload_n 3, 1) := by decide +kernel
theorem dX6_speeds_69 : decode cX6_speeds 69 = .ok (.ireturn, 1) := by decide +kernel
theorem dX6_noSheet_0 : decode cX6_noSheet 0 = .ok (.iload_n 0, 1) := by decide +kernel
theorem dX6_noSheet_1 : decode cX6_noSheet 1 = .ok (.i2l, 1) := by decide +kernel
theorem dX6_noSheet_2 : decode cX6_noSheet 2 = .ok (.lconst 0, 1) := by decide +kernel
theorem dX6_noSheet_3 : decode cX6_noSheet 3 = .ok (.ldc2_w 189, 3) := by decide +kernel
theorem dX6_noSheet_6 : decode cX6_noSheet 6 = .ok (.invokestatic 89, 3) := by decide +kernel
theorem dX6_noSheet_9 : decode cX6_noSheet 9 = .ok (.ifCond .ne 7, 3) := by decide +kernel
theorem dX6_noSheet_12 : decode cX6_noSheet 12 = .ok (.iconst 1, 1) := by decide +kernel
theorem dX6_noSheet_13 : decode cX6_noSheet 13 = .ok (.goto 4, 3) := by decide +kernel
theorem dX6_noSheet_16 : decode cX6_noSheet 16 = .ok (.iconst 0, 1) := by decide +kernel
theorem dX6_noSheet_17 : decode cX6_noSheet 17 = .ok (.ireturn, 1) := by decide +kernel
theorem dX6_sheet_0 : decode cX6_sheet 0 = .ok (.iload_n 1, 1) := by decide +kernel
theorem dX6_sheet_1 : decode cX6_sheet 1 = .ok (.invokestatic 128, 3) := by decide +kernel
theorem dX6_sheet_4 : decode cX6_sheet 4 = .ok (.ifCond .eq 9, 3) := by decide +kernel
theorem dX6_sheet_7 : decode cX6_sheet 7 = .ok (.aload_n 0, 1) := by decide +kernel
theorem dX6_sheet_8 : decode cX6_sheet 8 = .ok (.iconst (-1), 1) := by decide +kernel
theorem dX6_sheet_9 : decode cX6_sheet 9 = .ok (.invokevirtual 132, 3) := by decide +kernel
theorem dX6_sheet_12 : decode cX6_sheet 12 = .ok (.ireturn, 1) := by decide +kernel
theorem dX6_sheet_13 : decode cX6_sheet 13 = .ok (.iload_n 2, 1) := by decide +kernel
theorem dX6_sheet_14 : decode cX6_sheet 14 = .ok (.i2l, 1) := by decide +kernel
theorem dX6_sheet_15 : decode cX6_sheet 15 = .ok (.lconst 0, 1) := by decide +kernel
theorem dX6_sheet_16 : decode cX6_sheet 16 = .ok (.ldc2_w 135, 3) := by decide +kernel
theorem dX6_sheet_19 : decode cX6_sheet 19 = .ok (.invokestatic 89, 3) := by decide +kernel
theorem dX6_sheet_22 : decode cX6_sheet 22 = .ok (.ifCond .eq 9, 3) := by decide +kernel
theorem dX6_sheet_25 : decode cX6_sheet 25 = .ok (.iload_n 3, 1) := by decide +kernel
theorem dX6_sheet_26 : decode cX6_sheet 26 = .ok (.bipush 60, 2) := by decide +kernel
theorem dX6_sheet_28 : decode cX6_sheet 28 = .ok (.if_icmp .le 10, 3) := by decide +kernel
theorem dX6_sheet_31 : decode cX6_sheet 31 = .ok (.aload_n 0, 1) := by decide +kernel
theorem dX6_sheet_32 : decode cX6_sheet 32 = .ok (.bipush (-2), 2) := by decide +kernel
theorem dX6_sheet_34 : decode cX6_sheet 34 = .ok (.invokevirtual 132, 3) := by decide +kernel
theorem dX6_sheet_37 : decode cX6_sheet 37 = .ok (.ireturn, 1) := by decide +kernel
theorem dX6_sheet_38 : decode cX6_sheet 38 = .ok (.iload_n 3, 1) := by decide +kernel
theorem dX6_sheet_39 : decode cX6_sheet 39 = .ok (.ifCond .ge 9, 3) := by decide +kernel
theorem dX6_sheet_42 : decode cX6_sheet 42 = .ok (.aload_n 0, 1) := by decide +kernel
theorem dX6_sheet_43 : decode cX6_sheet 43 = .ok (.iconst 4, 1) := by decide +kernel
theorem dX6_sheet_44 : decode cX6_sheet 44 = .ok (.invokevirtual 120, 3) := by decide +kernel
theorem dX6_sheet_47 : decode cX6_sheet 47 = .ok (.ireturn, 1) := by decide +kernel
theorem dX6_sheet_48 : decode cX6_sheet 48 = .ok (.aload_n 0, 1) := by decide +kernel
theorem dX6_sheet_49 : decode cX6_sheet 49 = .ok (.getfield 64, 3) := by decide +kernel
theorem dX6_sheet_52 : decode cX6_sheet 52 = .ok (.iload_n 1, 1) := by decide +kernel
theorem dX6_sheet_53 : decode cX6_sheet 53 = .ok (.iload_n 3, 1) := by decide +kernel
theorem dX6_sheet_54 : decode cX6_sheet 54 = .ok (.iastore, 1) := by decide +kernel
theorem dX6_sheet_55 : decode cX6_sheet 55 = .ok (.aload_n 0, 1) := by decide +kernel
theorem dX6_sheet_56 : decode cX6_sheet 56 = .ok (.getfield 67, 3) := by decide +kernel
theorem dX6_sheet_59 : decode cX6_sheet 59 = .ok (.iload_n 1, 1) := by decide +kernel
theorem dX6_sheet_60 : decode cX6_sheet 60 = .ok (.iload_n 2, 1) := by decide +kernel
theorem dX6_sheet_61 : decode cX6_sheet 61 = .ok (.iastore, 1) := by decide +kernel
theorem dX6_sheet_62 : decode cX6_sheet 62 = .ok (.iconst 0, 1) := by decide +kernel
theorem dX6_sheet_63 : decode cX6_sheet 63 = .ok (.istore 4, 2) := by decide +kernel
theorem dX6_sheet_65 : decode cX6_sheet 65 = .ok (.iload 4, 2) := by decide +kernel
theorem dX6_sheet_67 : decode cX6_sheet 67 = .ok (.iload_n 3, 1) := by decide +kernel
theorem dX6_sheet_68 : decode cX6_sheet 68 = .ok (.if_icmp .ge 22, 3) := by decide +kernel
theorem dX6_sheet_71 : decode cX6_sheet 71 = .ok (.aload_n 0, 1) := by decide +kernel
theorem dX6_sheet_72 : decode cX6_sheet 72 = .ok (.getfield 70, 3) := by decide +kernel
theorem dX6_sheet_75 : decode cX6_sheet 75 = .ok (.bipush 60, 2) := by decide +kernel
theorem dX6_sheet_77 : decode cX6_sheet 77 = .ok (.iload_n 1, 1) := by decide +kernel
theorem dX6_sheet_78 : decode cX6_sheet 78 = .ok (.imul, 1) := by decide +kernel
theorem dX6_sheet_79 : decode cX6_sheet 79 = .ok (.iload 4, 2) := by decide +kernel
theorem dX6_sheet_81 : decode cX6_sheet 81 = .ok (.iadd, 1) := by decide +kernel
theorem dX6_sheet_82 : decode cX6_sheet 82 = .ok (.iconst 0, 1) := by decide +kernel
theorem dX6_sheet_83 : decode cX6_sheet 83 = .ok (.iastore, 1) := by decide +kernel
theorem dX6_sheet_84 : decode cX6_sheet 84 = .ok (.iinc 4 1, 3) := by decide +kernel
theorem dX6_sheet_87 : decode cX6_sheet 87 = .ok (.goto (-22), 3) := by decide +kernel
theorem dX6_sheet_90 : decode cX6_sheet 90 = .ok (.aload_n 0, 1) := by decide +kernel
theorem dX6_sheet_91 : decode cX6_sheet 91 = .ok (.iconst 1, 1) := by decide +kernel
theorem dX6_sheet_92 : decode cX6_sheet 92 = .ok (.invokevirtual 132, 3) := by decide +kernel
theorem dX6_sheet_95 : decode cX6_sheet 95 = .ok (.ireturn, 1) := by decide +kernel
theorem dX6_lose_0 : decode cX6_lose 0 = .ok (.iload_n 1, 1) := by decide +kernel
theorem dX6_lose_1 : decode cX6_lose 1 = .ok (.invokestatic 128, 3) := by decide +kernel
theorem dX6_lose_4 : decode cX6_lose 4 = .ok (.ifCond .eq 5, 3) := by decide +kernel
theorem dX6_lose_7 : decode cX6_lose 7 = .ok (.iconst (-1), 1) := by decide +kernel
theorem dX6_lose_8 : decode cX6_lose 8 = .ok (.ireturn, 1) := by decide +kernel
theorem dX6_lose_9 : decode cX6_lose 9 = .ok (.aload_n 0, 1) := by decide +kernel
theorem dX6_lose_10 : decode cX6_lose 10 = .ok (.getfield 64, 3) := by decide +kernel
theorem dX6_lose_13 : decode cX6_lose 13 = .ok (.iload_n 1, 1) := by decide +kernel
theorem dX6_lose_14 : decode cX6_lose 14 = .ok (.iaload, 1) := by decide +kernel
theorem dX6_lose_15 : decode cX6_lose 15 = .ok (.ifCond .ge 7, 3) := by decide +kernel
theorem dX6_lose_18 : decode cX6_lose 18 = .ok (.iconst 0, 1) := by decide +kernel
theorem dX6_lose_19 : decode cX6_lose 19 = .ok (.goto 4, 3) := by decide +kernel
theorem dX6_lose_22 : decode cX6_lose 22 = .ok (.iconst 1, 1) := by decide +kernel
theorem dX6_lose_23 : decode cX6_lose 23 = .ok (.istore_n 2, 1) := by decide +kernel
theorem dX6_lose_24 : decode cX6_lose 24 = .ok (.aload_n 0, 1) := by decide +kernel
theorem dX6_lose_25 : decode cX6_lose 25 = .ok (.getfield 64, 3) := by decide +kernel
theorem dX6_lose_28 : decode cX6_lose 28 = .ok (.iload_n 1, 1) := by decide +kernel
theorem dX6_lose_29 : decode cX6_lose 29 = .ok (.iconst (-1), 1) := by decide +kernel
theorem dX6_lose_30 : decode cX6_lose 30 = .ok (.iastore, 1) := by decide +kernel
theorem dX6_lose_31 : decode cX6_lose 31 = .ok (.iload_n 2, 1) := by decide +kernel
theorem dX6_lose_32 : decode cX6_lose 32 = .ok (.ireturn, 1) := by decide +kernel
theorem dX6_noCell_0 : decode cX6_noCell 0 = .ok (.aload_n 0, 1) := by decide +kernel
theorem dX6_noCell_1 : decode cX6_noCell 1 = .ok (.getfield 64, 3) := by decide +kernel
theorem dX6_noCell_4 : decode cX6_noCell 4 = .ok (.iload_n 1, 1) := by decide +kernel
theorem dX6_noCell_5 : decode cX6_noCell 5 = .ok (.iaload, 1) := by decide +kernel
theorem dX6_noCell_6 : decode cX6_noCell 6 = .ok (.ifCond .ge 7, 3) := by decide +kernel
theorem dX6_noCell_9 : decode cX6_noCell 9 = .ok (.iconst 1, 1) := by decide +kernel
theorem dX6_noCell_10 : decode cX6_noCell 10 = .ok (.goto 26, 3) := by decide +kernel
theorem dX6_noCell_13 : decode cX6_noCell 13 = .ok (.iload_n 2, 1) := by decide +kernel
theorem dX6_noCell_14 : decode cX6_noCell 14 = .ok (.i2l, 1) := by decide +kernel
theorem dX6_noCell_15 : decode cX6_noCell 15 = .ok (.lconst 0, 1) := by decide +kernel
theorem dX6_noCell_16 : decode cX6_noCell 16 = .ok (.aload_n 0, 1) := by decide +kernel
theorem dX6_noCell_17 : decode cX6_noCell 17 = .ok (.getfield 64, 3) := by decide +kernel
theorem dX6_noCell_20 : decode cX6_noCell 20 = .ok (.iload_n 1, 1) := by decide +kernel
theorem dX6_noCell_21 : decode cX6_noCell 21 = .ok (.iaload, 1) := by decide +kernel
theorem dX6_noCell_22 : decode cX6_noCell 22 = .ok (.i2l, 1) := by decide +kernel
theorem dX6_noCell_23 : decode cX6_noCell 23 = .ok (.lconst 1, 1) := by decide +kernel
theorem dX6_noCell_24 : decode cX6_noCell 24 = .ok (.lsub, 1) := by decide +kernel
theorem dX6_noCell_25 : decode cX6_noCell 25 = .ok (.invokestatic 89, 3) := by decide +kernel
theorem dX6_noCell_28 : decode cX6_noCell 28 = .ok (.ifCond .eq 7, 3) := by decide +kernel
theorem dX6_noCell_31 : decode cX6_noCell 31 = .ok (.iconst 0, 1) := by decide +kernel
theorem dX6_noCell_32 : decode cX6_noCell 32 = .ok (.goto 4, 3) := by decide +kernel
theorem dX6_noCell_35 : decode cX6_noCell 35 = .ok (.iconst 3, 1) := by decide +kernel
theorem dX6_noCell_36 : decode cX6_noCell 36 = .ok (.ireturn, 1) := by decide +kernel
theorem dX6_put_0 : decode cX6_put 0 = .ok (.iload_n 1, 1) := by decide +kernel
theorem dX6_put_1 : decode cX6_put 1 = .ok (.invokestatic 128, 3) := by decide +kernel
theorem dX6_put_4 : decode cX6_put 4 = .ok (.ifCond .eq 9, 3) := by decide +kernel
theorem dX6_put_7 : decode cX6_put 7 = .ok (.aload_n 0, 1) := by decide +kernel
theorem dX6_put_8 : decode cX6_put 8 = .ok (.iconst (-1), 1) := by decide +kernel
theorem dX6_put_9 : decode cX6_put 9 = .ok (.invokevirtual 132, 3) := by decide +kernel
theorem dX6_put_12 : decode cX6_put 12 = .ok (.ireturn, 1) := by decide +kernel
theorem dX6_put_13 : decode cX6_put 13 = .ok (.aload_n 0, 1) := by decide +kernel
theorem dX6_put_14 : decode cX6_put 14 = .ok (.iload_n 1, 1) := by decide +kernel
theorem dX6_put_15 : decode cX6_put 15 = .ok (.iload_n 2, 1) := by decide +kernel
theorem dX6_put_16 : decode cX6_put 16 = .ok (.invokevirtual 237, 3) := by decide +kernel
theorem dX6_put_19 : decode cX6_put 19 = .ok (.ifCond .le 14, 3) := by decide +kernel
theorem dX6_put_22 : decode cX6_put 22 = .ok (.aload_n 0, 1) := by decide +kernel
theorem dX6_put_23 : decode cX6_put 23 = .ok (.aload_n 0, 1) := by decide +kernel
theorem dX6_put_24 : decode cX6_put 24 = .ok (.iload_n 1, 1) := by decide +kernel
theorem dX6_put_25 : decode cX6_put 25 = .ok (.iload_n 2, 1) := by decide +kernel
theorem dX6_put_26 : decode cX6_put 26 = .ok (.invokevirtual 237, 3) := by decide +kernel
theorem dX6_put_29 : decode cX6_put 29 = .ok (.invokevirtual 120, 3) := by decide +kernel
theorem dX6_put_32 : decode cX6_put 32 = .ok (.ireturn, 1) := by decide +kernel
theorem dX6_put_33 : decode cX6_put 33 = .ok (.aload_n 0, 1) := by decide +kernel
theorem dX6_put_34 : decode cX6_put 34 = .ok (.getfield 70, 3) := by decide +kernel
theorem dX6_put_37 : decode cX6_put 37 = .ok (.bipush 60, 2) := by decide +kernel
theorem dX6_put_39 : decode cX6_put 39 = .ok (.iload_n 1, 1) := by decide +kernel
theorem dX6_put_40 : decode cX6_put 40 = .ok (.imul, 1) := by decide +kernel
theorem dX6_put_41 : decode cX6_put 41 = .ok (.iload_n 2, 1) := by decide +kernel
theorem dX6_put_42 : decode cX6_put 42 = .ok (.iadd, 1) := by decide +kernel
theorem dX6_put_43 : decode cX6_put 43 = .ok (.aload_n 0, 1) := by decide +kernel
theorem dX6_put_44 : decode cX6_put 44 = .ok (.getfield 67, 3) := by decide +kernel
theorem dX6_put_47 : decode cX6_put 47 = .ok (.iload_n 1, 1) := by decide +kernel
theorem dX6_put_48 : decode cX6_put 48 = .ok (.iaload, 1) := by decide +kernel
theorem dX6_put_49 : decode cX6_put 49 = .ok (.ifCond .ne 8, 3) := by decide +kernel
theorem dX6_put_52 : decode cX6_put 52 = .ok (.iload_n 3, 1) := by decide +kernel
theorem dX6_put_53 : decode cX6_put 53 = .ok (.i2b, 1) := by decide +kernel
theorem dX6_put_54 : decode cX6_put 54 = .ok (.goto 19, 3) := by decide +kernel
theorem dX6_put_57 : decode cX6_put 57 = .ok (.aload_n 0, 1) := by decide +kernel
theorem dX6_put_58 : decode cX6_put 58 = .ok (.getfield 67, 3) := by decide +kernel
theorem dX6_put_61 : decode cX6_put 61 = .ok (.iload_n 1, 1) := by decide +kernel
theorem dX6_put_62 : decode cX6_put 62 = .ok (.iaload, 1) := by decide +kernel
theorem dX6_put_63 : decode cX6_put 63 = .ok (.iconst 1, 1) := by decide +kernel
theorem dX6_put_64 : decode cX6_put 64 = .ok (.if_icmp .ne 8, 3) := by decide +kernel
theorem dX6_put_67 : decode cX6_put 67 = .ok (.iload_n 3, 1) := by decide +kernel
theorem dX6_put_68 : decode cX6_put 68 = .ok (.i2s, 1) := by decide +kernel
theorem dX6_put_69 : decode cX6_put 69 = .ok (.goto 4, 3) := by decide +kernel
theorem dX6_put_72 : decode cX6_put 72 = .ok (.iload_n 3, 1) := by decide +kernel
theorem dX6_put_73 : decode cX6_put 73 = .ok (.iastore, 1) := by decide +kernel
theorem dX6_put_74 : decode cX6_put 74 = .ok (.aload_n 0, 1) := by decide +kernel
theorem dX6_put_75 : decode cX6_put 75 = .ok (.iconst 1, 1) := by decide +kernel
theorem dX6_put_76 : decode cX6_put 76 = .ok (.invokevirtual 132, 3) := by decide +kernel
theorem dX6_put_79 : decode cX6_put 79 = .ok (.ireturn, 1) := by decide +kernel
theorem dX6_cell_0 : decode cX6_cell 0 = .ok (.aload_n 0, 1) := by decide +kernel
theorem dX6_cell_1 : decode cX6_cell 1 = .ok (.iconst 0, 1) := by decide +kernel
theorem dX6_cell_2 : decode cX6_cell 2 = .ok (.putfield 78, 3) := by decide +kernel
theorem dX6_cell_5 : decode cX6_cell 5 = .ok (.iload_n 1, 1) := by decide +kernel
theorem dX6_cell_6 : decode cX6_cell 6 = .ok (.invokestatic 128, 3) := by decide +kernel
theorem dX6_cell_9 : decode cX6_cell 9 = .ok (.ifCond .ne 15, 3) := by decide +kernel
theorem dX6_cell_12 : decode cX6_cell 12 = .ok (.iload_n 3, 1) := by decide +kernel
theorem dX6_cell_13 : decode cX6_cell 13 = .ok (.i2l, 1) := by decide +kernel
theorem dX6_cell_14 : decode cX6_cell 14 = .ok (.lconst 0, 1) := by decide +kernel
theorem dX6_cell_15 : decode cX6_cell 15 = .ok (.ldc2_w 135, 3) := by decide +kernel
theorem dX6_cell_18 : decode cX6_cell 18 = .ok (.invokestatic 89, 3) := by decide +kernel
theorem dX6_cell_21 : decode cX6_cell 21 = .ok (.ifCond .ne 7, 3) := by decide +kernel
theorem dX6_cell_24 : decode cX6_cell 24 = .ok (.invokestatic 82, 3) := by decide +kernel
theorem dX6_cell_27 : decode cX6_cell 27 = .ok (.lreturn, 1) := by decide +kernel
theorem dX6_cell_28 : decode cX6_cell 28 = .ok (.aload_n 0, 1) := by decide +kernel
theorem dX6_cell_29 : decode cX6_cell 29 = .ok (.getfield 64, 3) := by decide +kernel
theorem dX6_cell_32 : decode cX6_cell 32 = .ok (.iload_n 1, 1) := by decide +kernel
theorem dX6_cell_33 : decode cX6_cell 33 = .ok (.iaload, 1) := by decide +kernel
theorem dX6_cell_34 : decode cX6_cell 34 = .ok (.ifCond .lt 19, 3) := by decide +kernel
theorem dX6_cell_37 : decode cX6_cell 37 = .ok (.aload_n 0, 1) := by decide +kernel
theorem dX6_cell_38 : decode cX6_cell 38 = .ok (.getfield 67, 3) := by decide +kernel
theorem dX6_cell_41 : decode cX6_cell 41 = .ok (.iload_n 1, 1) := by decide +kernel
theorem dX6_cell_42 : decode cX6_cell 42 = .ok (.iaload, 1) := by decide +kernel
theorem dX6_cell_43 : decode cX6_cell 43 = .ok (.iload_n 3, 1) := by decide +kernel
theorem dX6_cell_44 : decode cX6_cell 44 = .ok (.if_icmp .eq 9, 3) := by decide +kernel
theorem dX6_cell_47 : decode cX6_cell 47 = .ok (.aload_n 0, 1) := by decide +kernel
theorem dX6_cell_48 : decode cX6_cell 48 = .ok (.iconst 2, 1) := by decide +kernel
theorem dX6_cell_49 : decode cX6_cell 49 = .ok (.invokevirtual 240, 3) := by decide +kernel
theorem dX6_cell_52 : decode cX6_cell 52 = .ok (.lreturn, 1) := by decide +kernel
theorem dX6_cell_53 : decode cX6_cell 53 = .ok (.aload_n 0, 1) := by decide +kernel
theorem dX6_cell_54 : decode cX6_cell 54 = .ok (.iload_n 1, 1) := by decide +kernel
theorem dX6_cell_55 : decode cX6_cell 55 = .ok (.iload_n 2, 1) := by decide +kernel
theorem dX6_cell_56 : decode cX6_cell 56 = .ok (.invokevirtual 237, 3) := by decide +kernel
theorem dX6_cell_59 : decode cX6_cell 59 = .ok (.ifCond .le 16, 3) := by decide +kernel
theorem dX6_cell_62 : decode cX6_cell 62 = .ok (.aload_n 0, 1) := by decide +kernel
theorem dX6_cell_63 : decode cX6_cell 63 = .ok (.aload_n 0, 1) := by decide +kernel
theorem dX6_cell_64 : decode cX6_cell 64 = .ok (.iload_n 1, 1) := by decide +kernel
theorem dX6_cell_65 : decode cX6_cell 65 = .ok (.iload_n 2, 1) := by decide +kernel
theorem dX6_cell_66 : decode cX6_cell 66 = .ok (.invokevirtual 237, 3) := by decide +kernel
theorem dX6_cell_69 : decode cX6_cell 69 = .ok (.invokevirtual 240, 3) := by decide +kernel
theorem dX6_cell_72 : decode cX6_cell 72 = .ok (.goto 15, 3) := by decide +kernel
theorem dX6_cell_75 : decode cX6_cell 75 = .ok (.aload_n 0, 1) := by decide +kernel
theorem dX6_cell_76 : decode cX6_cell 76 = .ok (.getfield 70, 3) := by decide +kernel
theorem dX6_cell_79 : decode cX6_cell 79 = .ok (.bipush 60, 2) := by decide +kernel
theorem dX6_cell_81 : decode cX6_cell 81 = .ok (.iload_n 1, 1) := by decide +kernel
theorem dX6_cell_82 : decode cX6_cell 82 = .ok (.imul, 1) := by decide +kernel
theorem dX6_cell_83 : decode cX6_cell 83 = .ok (.iload_n 2, 1) := by decide +kernel
theorem dX6_cell_84 : decode cX6_cell 84 = .ok (.iadd, 1) := by decide +kernel
theorem dX6_cell_85 : decode cX6_cell 85 = .ok (.iaload, 1) := by decide +kernel
theorem dX6_cell_86 : decode cX6_cell 86 = .ok (.i2l, 1) := by decide +kernel
theorem dX6_cell_87 : decode cX6_cell 87 = .ok (.lreturn, 1) := by decide +kernel
theorem dX6_isBeyond_0 : decode cX6_isBeyond 0 = .ok (.iload_n 0, 1) := by decide +kernel
theorem dX6_isBeyond_1 : decode cX6_isBeyond 1 = .ok (.ifCond .lt 19, 3) := by decide +kernel
theorem dX6_isBeyond_4 : decode cX6_isBeyond 4 = .ok (.lload_n 1, 1) := by decide +kernel
theorem dX6_isBeyond_5 : decode cX6_isBeyond 5 = .ok (.lconst 0, 1) := by decide +kernel
theorem dX6_isBeyond_6 : decode cX6_isBeyond 6 = .ok (.lcmp, 1) := by decide +kernel
theorem dX6_isBeyond_7 : decode cX6_isBeyond 7 = .ok (.ifCond .lt 13, 3) := by decide +kernel
theorem dX6_isBeyond_10 : decode cX6_isBeyond 10 = .ok (.iload_n 0, 1) := by decide +kernel
theorem dX6_isBeyond_11 : decode cX6_isBeyond 11 = .ok (.i2l, 1) := by decide +kernel
theorem dX6_isBeyond_12 : decode cX6_isBeyond 12 = .ok (.lload_n 1, 1) := by decide +kernel
theorem dX6_isBeyond_13 : decode cX6_isBeyond 13 = .ok (.ladd, 1) := by decide +kernel
theorem dX6_isBeyond_14 : decode cX6_isBeyond 14 = .ok (.iload_n 3, 1) := by decide +kernel
theorem dX6_isBeyond_15 : decode cX6_isBeyond 15 = .ok (.i2l, 1) := by decide +kernel
theorem dX6_isBeyond_16 : decode cX6_isBeyond 16 = .ok (.lcmp, 1) := by decide +kernel
theorem dX6_isBeyond_17 : decode cX6_isBeyond 17 = .ok (.ifCond .le 7, 3) := by decide +kernel
theorem dX6_isBeyond_20 : decode cX6_isBeyond 20 = .ok (.iconst 1, 1) := by decide +kernel
theorem dX6_isBeyond_21 : decode cX6_isBeyond 21 = .ok (.goto 4, 3) := by decide +kernel
theorem dX6_isBeyond_24 : decode cX6_isBeyond 24 = .ok (.iconst 0, 1) := by decide +kernel
theorem dX6_isBeyond_25 : decode cX6_isBeyond 25 = .ok (.ireturn, 1) := by decide +kernel
theorem dX6_copy_0 : decode cX6_copy 0 = .ok (.iload_n 1, 1) := by decide +kernel
theorem dX6_copy_1 : decode cX6_copy 1 = .ok (.invokestatic 128, 3) := by decide +kernel
theorem dX6_copy_4 : decode cX6_copy 4 = .ok (.ifCond .ne 10, 3) := by decide +kernel
theorem dX6_copy_7 : decode cX6_copy 7 = .ok (.iload_n 3, 1) := by decide +kernel
theorem dX6_copy_8 : decode cX6_copy 8 = .ok (.invokestatic 128, 3) := by decide +kernel
theorem dX6_copy_11 : decode cX6_copy 11 = .ok (.ifCond .eq 9, 3) := by decide +kernel
theorem dX6_copy_14 : decode cX6_copy 14 = .ok (.aload_n 0, 1) := by decide +kernel
theorem dX6_copy_15 : decode cX6_copy 15 = .ok (.iconst (-1), 1) := by decide +kernel
theorem dX6_copy_16 : decode cX6_copy 16 = .ok (.invokevirtual 132, 3) := by decide +kernel
theorem dX6_copy_19 : decode cX6_copy 19 = .ok (.ireturn, 1) := by decide +kernel
theorem dX6_copy_20 : decode cX6_copy 20 = .ok (.aload_n 0, 1) := by decide +kernel
theorem dX6_copy_21 : decode cX6_copy 21 = .ok (.getfield 64, 3) := by decide +kernel
theorem dX6_copy_24 : decode cX6_copy 24 = .ok (.iload_n 1, 1) := by decide +kernel
theorem dX6_copy_25 : decode cX6_copy 25 = .ok (.iaload, 1) := by decide +kernel
theorem dX6_copy_26 : decode cX6_copy 26 = .ok (.ifCond .lt 12, 3) := by decide +kernel
theorem dX6_copy_29 : decode cX6_copy 29 = .ok (.aload_n 0, 1) := by decide +kernel
theorem dX6_copy_30 : decode cX6_copy 30 = .ok (.getfield 64, 3) := by decide +kernel
theorem dX6_copy_33 : decode cX6_copy 33 = .ok (.iload_n 3, 1) := by decide +kernel
theorem dX6_copy_34 : decode cX6_copy 34 = .ok (.iaload, 1) := by decide +kernel
theorem dX6_copy_35 : decode cX6_copy 35 = .ok (.ifCond .ge 9, 3) := by decide +kernel
theorem dX6_copy_38 : decode cX6_copy 38 = .ok (.aload_n 0, 1) := by decide +kernel
theorem dX6_copy_39 : decode cX6_copy 39 = .ok (.iconst 1, 1) := by decide +kernel
theorem dX6_copy_40 : decode cX6_copy 40 = .ok (.invokevirtual 120, 3) := by decide +kernel
theorem dX6_copy_43 : decode cX6_copy 43 = .ok (.ireturn, 1) := by decide +kernel
theorem dX6_copy_44 : decode cX6_copy 44 = .ok (.aload_n 0, 1) := by decide +kernel
theorem dX6_copy_45 : decode cX6_copy 45 = .ok (.getfield 67, 3) := by decide +kernel
theorem dX6_copy_48 : decode cX6_copy 48 = .ok (.iload_n 1, 1) := by decide +kernel
theorem dX6_copy_49 : decode cX6_copy 49 = .ok (.iaload, 1) := by decide +kernel
theorem dX6_copy_50 : decode cX6_copy 50 = .ok (.aload_n 0, 1) := by decide +kernel
theorem dX6_copy_51 : decode cX6_copy 51 = .ok (.getfield 67, 3) := by decide +kernel
theorem dX6_copy_54 : decode cX6_copy 54 = .ok (.iload_n 3, 1) := by decide +kernel
theorem dX6_copy_55 : decode cX6_copy 55 = .ok (.iaload, 1) := by decide +kernel
theorem dX6_copy_56 : decode cX6_copy 56 = .ok (.if_icmp .eq 9, 3) := by decide +kernel
theorem dX6_copy_59 : decode cX6_copy 59 = .ok (.aload_n 0, 1) := by decide +kernel
theorem dX6_copy_60 : decode cX6_copy 60 = .ok (.iconst 2, 1) := by decide +kernel
theorem dX6_copy_61 : decode cX6_copy 61 = .ok (.invokevirtual 120, 3) := by decide +kernel
theorem dX6_copy_64 : decode cX6_copy 64 = .ok (.ireturn, 1) := by decide +kernel
theorem dX6_copy_65 : decode cX6_copy 65 = .ok (.iload_n 2, 1) := by decide +kernel
theorem dX6_copy_66 : decode cX6_copy 66 = .ok (.iload 5, 2) := by decide +kernel
theorem dX6_copy_68 : decode cX6_copy 68 = .ok (.i2l, 1) := by decide +kernel
theorem dX6_copy_69 : decode cX6_copy 69 = .ok (.aload_n 0, 1) := by decide +kernel
theorem dX6_copy_70 : decode cX6_copy 70 = .ok (.getfield 64, 3) := by decide +kernel
theorem dX6_copy_73 : decode cX6_copy 73 = .ok (.iload_n 1, 1) := by decide +kernel
theorem dX6_copy_74 : decode cX6_copy 74 = .ok (.iaload, 1) := by decide +kernel
theorem dX6_copy_75 : decode cX6_copy 75 = .ok (.invokestatic 124, 3) := by decide +kernel
theorem dX6_copy_78 : decode cX6_copy 78 = .ok (.ifCond .ne 20, 3) := by decide +kernel
theorem dX6_copy_81 : decode cX6_copy 81 = .ok (.iload 4, 2) := by decide +kernel
theorem dX6_copy_83 : decode cX6_copy 83 = .ok (.iload 5, 2) := by decide +kernel
theorem dX6_copy_85 : decode cX6_copy 85 = .ok (.i2l, 1) := by decide +kernel
theorem dX6_copy_86 : decode cX6_copy 86 = .ok (.aload_n 0, 1) := by decide +kernel
theorem dX6_copy_87 : decode cX6_copy 87 = .ok (.getfield 64, 3) := by decide +kernel
theorem dX6_copy_90 : decode cX6_copy 90 = .ok (.iload_n 3, 1) := by decide +kernel
theorem dX6_copy_91 : decode cX6_copy 91 = .ok (.iaload, 1) := by decide +kernel
theorem dX6_copy_92 : decode cX6_copy 92 = .ok (.invokestatic 124, 3) := by decide +kernel
theorem dX6_copy_95 : decode cX6_copy 95 = .ok (.ifCond .eq 9, 3) := by decide +kernel
theorem dX6_copy_98 : decode cX6_copy 98 = .ok (.aload_n 0, 1) := by decide +kernel
theorem dX6_copy_99 : decode cX6_copy 99 = .ok (.iconst 3, 1) := by decide +kernel
theorem dX6_copy_100 : decode cX6_copy 100 = .ok (.invokevirtual 120, 3) := by decide +kernel
theorem dX6_copy_103 : decode cX6_copy 103 = .ok (.ireturn, 1) := by decide +kernel
theorem dX6_copy_104 : decode cX6_copy 104 = .ok (.iconst 0, 1) := by decide +kernel
theorem dX6_copy_105 : decode cX6_copy 105 = .ok (.istore 6, 2) := by decide +kernel
theorem dX6_copy_107 : decode cX6_copy 107 = .ok (.iload 6, 2) := by decide +kernel
theorem dX6_copy_109 : decode cX6_copy 109 = .ok (.iload 5, 2) := by decide +kernel
theorem dX6_copy_111 : decode cX6_copy 111 = .ok (.if_icmp .ge 30, 3) := by decide +kernel
theorem dX6_copy_114 : decode cX6_copy 114 = .ok (.aload_n 0, 1) := by decide +kernel
theorem dX6_copy_115 : decode cX6_copy 115 = .ok (.getfield 73, 3) := by decide +kernel
theorem dX6_copy_118 : decode cX6_copy 118 = .ok (.iload 6, 2) := by decide +kernel
theorem dX6_copy_120 : decode cX6_copy 120 = .ok (.aload_n 0, 1) := by decide +kernel
theorem dX6_copy_121 : decode cX6_copy 121 = .ok (.getfield 70, 3) := by decide +kernel
theorem dX6_copy_124 : decode cX6_copy 124 = .ok (.bipush 60, 2) := by decide +kernel
theorem dX6_copy_126 : decode cX6_copy 126 = .ok (.iload_n 1, 1) := by decide +kernel
theorem dX6_copy_127 : decode cX6_copy 127 = .ok (.imul, 1) := by decide +kernel
theorem dX6_copy_128 : decode cX6_copy 128 = .ok (.iload_n 2, 1) := by decide +kernel
theorem dX6_copy_129 : decode cX6_copy 129 = .ok (.iadd, 1) := by decide +kernel
theorem dX6_copy_130 : decode cX6_copy 130 = .ok (.iload 6, 2) := by decide +kernel
theorem dX6_copy_132 : decode cX6_copy 132 = .ok (.iadd, 1) := by decide +kernel
theorem dX6_copy_133 : decode cX6_copy 133 = .ok (.iaload, 1) := by decide +kernel
theorem dX6_copy_134 : decode cX6_copy 134 = .ok (.iastore, 1) := by decide +kernel
theorem dX6_copy_135 : decode cX6_copy 135 = .ok (.iinc 6 1, 3) := by decide +kernel
theorem dX6_copy_138 : decode cX6_copy 138 = .ok (.goto (-31), 3) := by decide +kernel
theorem dX6_copy_141 : decode cX6_copy 141 = .ok (.iconst 0, 1) := by decide +kernel
theorem dX6_copy_142 : decode cX6_copy 142 = .ok (.istore 6, 2) := by decide +kernel
theorem dX6_copy_144 : decode cX6_copy 144 = .ok (.iload 6, 2) := by decide +kernel
theorem dX6_copy_146 : decode cX6_copy 146 = .ok (.iload 5, 2) := by decide +kernel
theorem dX6_copy_148 : decode cX6_copy 148 = .ok (.if_icmp .ge 31, 3) := by decide +kernel
theorem dX6_copy_151 : decode cX6_copy 151 = .ok (.aload_n 0, 1) := by decide +kernel
theorem dX6_copy_152 : decode cX6_copy 152 = .ok (.getfield 70, 3) := by decide +kernel
theorem dX6_copy_155 : decode cX6_copy 155 = .ok (.bipush 60, 2) := by decide +kernel
theorem dX6_copy_157 : decode cX6_copy 157 = .ok (.iload_n 3, 1) := by decide +kernel
theorem dX6_copy_158 : decode cX6_copy 158 = .ok (.imul, 1) := by decide +kernel
theorem dX6_copy_159 : decode cX6_copy 159 = .ok (.iload 4, 2) := by decide +kernel
theorem dX6_copy_161 : decode cX6_copy 161 = .ok (.iadd, 1) := by decide +kernel
theorem dX6_copy_162 : decode cX6_copy 162 = .ok (.iload 6, 2) := by decide +kernel
theorem dX6_copy_164 : decode cX6_copy 164 = .ok (.iadd, 1) := by decide +kernel
theorem dX6_copy_165 : decode cX6_copy 165 = .ok (.aload_n 0, 1) := by decide +kernel
theorem dX6_copy_166 : decode cX6_copy 166 = .ok (.getfield 73, 3) := by decide +kernel
theorem dX6_copy_169 : decode cX6_copy 169 = .ok (.iload 6, 2) := by decide +kernel
theorem dX6_copy_171 : decode cX6_copy 171 = .ok (.iaload, 1) := by decide +kernel
theorem dX6_copy_172 : decode cX6_copy 172 = .ok (.iastore, 1) := by decide +kernel
theorem dX6_copy_173 : decode cX6_copy 173 = .ok (.iinc 6 1, 3) := by decide +kernel
theorem dX6_copy_176 : decode cX6_copy 176 = .ok (.goto (-32), 3) := by decide +kernel
theorem dX6_copy_179 : decode cX6_copy 179 = .ok (.aload_n 0, 1) := by decide +kernel
theorem dX6_copy_180 : decode cX6_copy 180 = .ok (.iload 5, 2) := by decide +kernel
theorem dX6_copy_182 : decode cX6_copy 182 = .ok (.invokevirtual 132, 3) := by decide +kernel
theorem dX6_copy_185 : decode cX6_copy 185 = .ok (.ireturn, 1) := by decide +kernel
theorem dX6_traced_0 : decode cX6_traced 0 = .ok (.aload_n 0, 1) := by decide +kernel
theorem dX6_traced_1 : decode cX6_traced 1 = .ok (.bipush 31, 2) := by decide +kernel
theorem dX6_traced_3 : decode cX6_traced 3 = .ok (.aload_n 0, 1) := by decide +kernel
theorem dX6_traced_4 : decode cX6_traced 4 = .ok (.getfield 244, 3) := by decide +kernel
theorem dX6_traced_7 : decode cX6_traced 7 = .ok (.imul, 1) := by decide +kernel
theorem dX6_traced_8 : decode cX6_traced 8 = .ok (.iload_n 1, 1) := by decide +kernel
theorem dX6_traced_9 : decode cX6_traced 9 = .ok (.iadd, 1) := by decide +kernel
theorem dX6_traced_10 : decode cX6_traced 10 = .ok (.putfield 244, 3) := by decide +kernel
theorem dX6_traced_13 : decode cX6_traced 13 = .ok (.return_, 1) := by decide +kernel
theorem dX6_tell_0 : decode cX6_tell 0 = .ok (.aload_n 0, 1) := by decide +kernel
theorem dX6_tell_1 : decode cX6_tell 1 = .ok (.iload_n 1, 1) := by decide +kernel
theorem dX6_tell_2 : decode cX6_tell 2 = .ok (.invokevirtual 153, 3) := by decide +kernel
theorem dX6_tell_5 : decode cX6_tell 5 = .ok (.ifCond .eq 5, 3) := by decide +kernel
theorem dX6_tell_8 : decode cX6_tell 8 = .ok (.iconst (-1), 1) := by decide +kernel
theorem dX6_tell_9 : decode cX6_tell 9 = .ok (.ireturn, 1) := by decide +kernel
theorem dX6_tell_10 : decode cX6_tell 10 = .ok (.aload_n 0, 1) := by decide +kernel
theorem dX6_tell_11 : decode cX6_tell 11 = .ok (.getfield 7, 3) := by decide +kernel
theorem dX6_tell_14 : decode cX6_tell 14 = .ok (.iload_n 1, 1) := by decide +kernel
theorem dX6_tell_15 : decode cX6_tell 15 = .ok (.iaload, 1) := by decide +kernel
theorem dX6_tell_16 : decode cX6_tell 16 = .ok (.istore_n 2, 1) := by decide +kernel
theorem dX6_tell_17 : decode cX6_tell 17 = .ok (.iload_n 2, 1) := by decide +kernel
theorem dX6_tell_18 : decode cX6_tell 18 = .ok (.iconst 2, 1) := by decide +kernel
theorem dX6_tell_19 : decode cX6_tell 19 = .ok (.if_icmp .ne 8, 3) := by decide +kernel
theorem dX6_tell_22 : decode cX6_tell 22 = .ok (.aload_n 0, 1) := by decide +kernel
theorem dX6_tell_23 : decode cX6_tell 23 = .ok (.iconst 3, 1) := by decide +kernel
theorem dX6_tell_24 : decode cX6_tell 24 = .ok (.invokevirtual 247, 3) := by decide +kernel
theorem dX6_tell_27 : decode cX6_tell 27 = .ok (.iload_n 2, 1) := by decide +kernel
theorem dX6_tell_28 : decode cX6_tell 28 = .ok (.ifCond .le 8, 3) := by decide +kernel
theorem dX6_tell_31 : decode cX6_tell 31 = .ok (.aload_n 0, 1) := by decide +kernel
theorem dX6_tell_32 : decode cX6_tell 32 = .ok (.iconst 2, 1) := by decide +kernel
theorem dX6_tell_33 : decode cX6_tell 33 = .ok (.invokevirtual 247, 3) := by decide +kernel
theorem dX6_tell_36 : decode cX6_tell 36 = .ok (.aload_n 0, 1) := by decide +kernel
theorem dX6_tell_37 : decode cX6_tell 37 = .ok (.iconst 1, 1) := by decide +kernel
theorem dX6_tell_38 : decode cX6_tell 38 = .ok (.invokevirtual 247, 3) := by decide +kernel
theorem dX6_tell_41 : decode cX6_tell 41 = .ok (.iload_n 2, 1) := by decide +kernel
theorem dX6_tell_42 : decode cX6_tell 42 = .ok (.iconst 2, 1) := by decide +kernel
theorem dX6_tell_43 : decode cX6_tell 43 = .ok (.if_icmp .ne 8, 3) := by decide +kernel
theorem dX6_tell_46 : decode cX6_tell 46 = .ok (.aload_n 0, 1) := by decide +kernel
theorem dX6_tell_47 : decode cX6_tell 47 = .ok (.iconst 1, 1) := by decide +kernel
theorem dX6_tell_48 : decode cX6_tell 48 = .ok (.invokevirtual 247, 3) := by decide +kernel
theorem dX6_tell_51 : decode cX6_tell 51 = .ok (.aload_n 0, 1) := by decide +kernel
theorem dX6_tell_52 : decode cX6_tell 52 = .ok (.getfield 16, 3) := by decide +kernel
theorem dX6_tell_55 : decode cX6_tell 55 = .ok (.iload_n 1, 1) := by decide +kernel
theorem dX6_tell_56 : decode cX6_tell 56 = .ok (.iaload, 1) := by decide +kernel
theorem dX6_tell_57 : decode cX6_tell 57 = .ok (.istore_n 3, 1) := by decide +kernel
theorem dX6_tell_58 : decode cX6_tell 58 = .ok (.iload_n 2, 1) := by decide +kernel
theorem dX6_tell_59 : decode cX6_tell 59 = .ok (.ifCond .ne 7, 3) := by decide +kernel
theorem dX6_tell_62 : decode cX6_tell 62 = .ok (.iload_n 3, 1) := by decide +kernel
theorem dX6_tell_63 : decode cX6_tell 63 = .ok (.goto 21, 3) := by decide +kernel
theorem dX6_tell_66 : decode cX6_tell 66 = .ok (.iload_n 2, 1) := by decide +kernel
theorem dX6_tell_67 : decode cX6_tell 67 = .ok (.iconst 1, 1) := by decide +kernel
theorem dX6_tell_68 : decode cX6_tell 68 = .ok (.if_icmp .ne 10, 3) := by decide +kernel
theorem dX6_tell_71 : decode cX6_tell 71 = .ok (.iload_n 3, 1) := by decide +kernel
theorem dX6_tell_72 : decode cX6_tell 72 = .ok (.bipush 100, 2) := by decide +kernel
theorem dX6_tell_74 : decode cX6_tell 74 = .ok (.iadd, 1) := by decide +kernel
theorem dX6_tell_75 : decode cX6_tell 75 = .ok (.goto 9, 3) := by decide +kernel
theorem dX6_tell_78 : decode cX6_tell 78 = .ok (.iconst 2, 1) := by decide +kernel
theorem dX6_tell_79 : decode cX6_tell 79 = .ok (.iload_n 3, 1) := by decide +kernel
theorem dX6_tell_80 : decode cX6_tell 80 = .ok (.imul, 1) := by decide +kernel
theorem dX6_tell_81 : decode cX6_tell 81 = .ok (.bipush 100, 2) := by decide +kernel
theorem dX6_tell_83 : decode cX6_tell 83 = .ok (.iadd, 1) := by decide +kernel
theorem dX6_tell_84 : decode cX6_tell 84 = .ok (.ireturn, 1) := by decide +kernel
theorem dX6_drop_0 : decode cX6_drop 0 = .ok (.aload_n 0, 1) := by decide +kernel
theorem dX6_drop_1 : decode cX6_drop 1 = .ok (.iload_n 1, 1) := by decide +kernel
theorem dX6_drop_2 : decode cX6_drop 2 = .ok (.invokevirtual 153, 3) := by decide +kernel
theorem dX6_drop_5 : decode cX6_drop 5 = .ok (.ifCond .eq 5, 3) := by decide +kernel
theorem dX6_drop_8 : decode cX6_drop 8 = .ok (.iconst (-1), 1) := by decide +kernel
theorem dX6_drop_9 : decode cX6_drop 9 = .ok (.ireturn, 1) := by decide +kernel
theorem dX6_drop_10 : decode cX6_drop 10 = .ok (.aload_n 0, 1) := by decide +kernel
theorem dX6_drop_11 : decode cX6_drop 11 = .ok (.aload_n 0, 1) := by decide +kernel
theorem dX6_drop_12 : decode cX6_drop 12 = .ok (.getfield 7, 3) := by decide +kernel
theorem dX6_drop_15 : decode cX6_drop 15 = .ok (.iload_n 1, 1) := by decide +kernel
theorem dX6_drop_16 : decode cX6_drop 16 = .ok (.iaload, 1) := by decide +kernel
theorem dX6_drop_17 : decode cX6_drop 17 = .ok (.iconst 2, 1) := by decide +kernel
theorem dX6_drop_18 : decode cX6_drop 18 = .ok (.if_icmp .ne 7, 3) := by decide +kernel
theorem dX6_drop_21 : decode cX6_drop 21 = .ok (.iconst 5, 1) := by decide +kernel
theorem dX6_drop_22 : decode cX6_drop 22 = .ok (.goto 4, 3) := by decide +kernel
theorem dX6_drop_25 : decode cX6_drop 25 = .ok (.iconst 4, 1) := by decide +kernel
theorem dX6_drop_26 : decode cX6_drop 26 = .ok (.invokevirtual 247, 3) := by decide +kernel
theorem dX6_drop_29 : decode cX6_drop 29 = .ok (.aload_n 0, 1) := by decide +kernel
theorem dX6_drop_30 : decode cX6_drop 30 = .ok (.getfield 7, 3) := by decide +kernel
theorem dX6_drop_33 : decode cX6_drop 33 = .ok (.iload_n 1, 1) := by decide +kernel
theorem dX6_drop_34 : decode cX6_drop 34 = .ok (.iaload, 1) := by decide +kernel
theorem dX6_drop_35 : decode cX6_drop 35 = .ok (.iconst 2, 1) := by decide +kernel
theorem dX6_drop_36 : decode cX6_drop 36 = .ok (.if_icmp .ne 8, 3) := by decide +kernel
theorem dX6_drop_39 : decode cX6_drop 39 = .ok (.bipush 70, 2) := by decide +kernel
theorem dX6_drop_41 : decode cX6_drop 41 = .ok (.goto 4, 3) := by decide +kernel
theorem dX6_drop_44 : decode cX6_drop 44 = .ok (.iload_n 1, 1) := by decide +kernel
theorem dX6_drop_45 : decode cX6_drop 45 = .ok (.ireturn, 1) := by decide +kernel
theorem dX6_as_0 : decode cX6_as 0 = .ok (.aload_n 0, 1) := by decide +kernel
theorem dX6_as_1 : decode cX6_as 1 = .ok (.iload_n 1, 1) := by decide +kernel
theorem dX6_as_2 : decode cX6_as 2 = .ok (.invokevirtual 153, 3) := by decide +kernel
theorem dX6_as_5 : decode cX6_as 5 = .ok (.ifCond .eq 9, 3) := by decide +kernel
theorem dX6_as_8 : decode cX6_as 8 = .ok (.aload_n 0, 1) := by decide +kernel
theorem dX6_as_9 : decode cX6_as 9 = .ok (.iconst (-1), 1) := by decide +kernel
theorem dX6_as_10 : decode cX6_as 10 = .ok (.invokevirtual 132, 3) := by decide +kernel
theorem dX6_as_13 : decode cX6_as 13 = .ok (.ireturn, 1) := by decide +kernel
theorem dX6_as_14 : decode cX6_as 14 = .ok (.iload_n 2, 1) := by decide +kernel
theorem dX6_as_15 : decode cX6_as 15 = .ok (.i2l, 1) := by decide +kernel
theorem dX6_as_16 : decode cX6_as 16 = .ok (.lconst 0, 1) := by decide +kernel
theorem dX6_as_17 : decode cX6_as 17 = .ok (.ldc2_w 135, 3) := by decide +kernel
theorem dX6_as_20 : decode cX6_as 20 = .ok (.invokestatic 89, 3) := by decide +kernel
theorem dX6_as_23 : decode cX6_as 23 = .ok (.ifCond .ne 10, 3) := by decide +kernel
theorem dX6_as_26 : decode cX6_as 26 = .ok (.aload_n 0, 1) := by decide +kernel
theorem dX6_as_27 : decode cX6_as 27 = .ok (.bipush (-2), 2) := by decide +kernel
theorem dX6_as_29 : decode cX6_as 29 = .ok (.invokevirtual 132, 3) := by decide +kernel
theorem dX6_as_32 : decode cX6_as 32 = .ok (.ireturn, 1) := by decide +kernel
theorem dX6_as_33 : decode cX6_as 33 = .ok (.aload_n 0, 1) := by decide +kernel
theorem dX6_as_34 : decode cX6_as 34 = .ok (.getfield 7, 3) := by decide +kernel
theorem dX6_as_37 : decode cX6_as 37 = .ok (.iload_n 1, 1) := by decide +kernel
theorem dX6_as_38 : decode cX6_as 38 = .ok (.iaload, 1) := by decide +kernel
theorem dX6_as_39 : decode cX6_as 39 = .ok (.iload_n 2, 1) := by decide +kernel
theorem dX6_as_40 : decode cX6_as 40 = .ok (.if_icmp .lt 11, 3) := by decide +kernel
theorem dX6_as_43 : decode cX6_as 43 = .ok (.aload_n 0, 1) := by decide +kernel
theorem dX6_as_44 : decode cX6_as 44 = .ok (.iconst 1, 1) := by decide +kernel
theorem dX6_as_45 : decode cX6_as 45 = .ok (.invokevirtual 132, 3) := by decide +kernel
theorem dX6_as_48 : decode cX6_as 48 = .ok (.goto 8, 3) := by decide +kernel
theorem dX6_as_51 : decode cX6_as 51 = .ok (.aload_n 0, 1) := by decide +kernel
theorem dX6_as_52 : decode cX6_as 52 = .ok (.iconst 2, 1) := by decide +kernel
theorem dX6_as_53 : decode cX6_as 53 = .ok (.invokevirtual 120, 3) := by decide +kernel
theorem dX6_as_56 : decode cX6_as 56 = .ok (.ireturn, 1) := by decide +kernel
theorem dX6_trace_0 : decode cX6_trace 0 = .ok (.aload_n 0, 1) := by decide +kernel
theorem dX6_trace_1 : decode cX6_trace 1 = .ok (.getfield 244, 3) := by decide +kernel
theorem dX6_trace_4 : decode cX6_trace 4 = .ok (.ireturn, 1) := by decide +kernel
theorem dX6_fault_0 : decode cX6_fault 0 = .ok (.aload_n 0, 1) := by decide +kernel
theorem dX6_fault_1 : decode cX6_fault 1 = .ok (.getfield 78, 3) := by decide +kernel
theorem dX6_fault_4 : decode cX6_fault 4 = .ok (.ireturn, 1) := by decide +kernel
theorem dX6_lettersNow_0 : decode cX6_lettersNow 0 = .ok (.iconst 0, 1) := by decide +kernel
theorem dX6_lettersNow_1 : decode cX6_lettersNow 1 = .ok (.istore_n 1, 1) := by decide +kernel
theorem dX6_lettersNow_2 : decode cX6_lettersNow 2 = .ok (.iconst 0, 1) := by decide +kernel
theorem dX6_lettersNow_3 : decode cX6_lettersNow 3 = .ok (.istore_n 2, 1) := by decide +kernel
theorem dX6_lettersNow_4 : decode cX6_lettersNow 4 = .ok (.iload_n 2, 1) := by decide +kernel
theorem dX6_lettersNow_5 : decode cX6_lettersNow 5 = .ok (.aload_n 0, 1) := by decide +kernel
theorem dX6_lettersNow_6 : decode cX6_lettersNow 6 = .ok (.getfield 86, 3) := by decide +kernel
theorem dX6_lettersNow_9 : decode cX6_lettersNow 9 = .ok (.if_icmp .ge 18, 3) := by decide +kernel
theorem dX6_lettersNow_12 : decode cX6_lettersNow 12 = .ok (.iload_n 1, 1) := by decide +kernel
theorem dX6_lettersNow_13 : decode cX6_lettersNow 13 = .ok (.aload_n 0, 1) := by decide +kernel
theorem dX6_lettersNow_14 : decode cX6_lettersNow 14 = .ok (.getfield 13, 3) := by decide +kernel
theorem dX6_lettersNow_17 : decode cX6_lettersNow 17 = .ok (.iload_n 2, 1) := by decide +kernel
theorem dX6_lettersNow_18 : decode cX6_lettersNow 18 = .ok (.iaload, 1) := by decide +kernel
theorem dX6_lettersNow_19 : decode cX6_lettersNow 19 = .ok (.iadd, 1) := by decide +kernel
theorem dX6_lettersNow_20 : decode cX6_lettersNow 20 = .ok (.istore_n 1, 1) := by decide +kernel
theorem dX6_lettersNow_21 : decode cX6_lettersNow 21 = .ok (.iinc 2 1, 3) := by decide +kernel
theorem dX6_lettersNow_24 : decode cX6_lettersNow 24 = .ok (.goto (-20), 3) := by decide +kernel
theorem dX6_lettersNow_27 : decode cX6_lettersNow 27 = .ok (.iload_n 1, 1) := by decide +kernel
theorem dX6_lettersNow_28 : decode cX6_lettersNow 28 = .ok (.ireturn, 1) := by decide +kernel
theorem dX6_many_0 : decode cX6_many 0 = .ok (.iload_n 1, 1) := by decide +kernel
theorem dX6_many_1 : decode cX6_many 1 = .ok (.tableswitch 51 0 3 #[31, 36, 41, 46], 31) := by decide +kernel
theorem dX6_many_32 : decode cX6_many 32 = .ok (.aload_n 0, 1) := by decide +kernel
theorem dX6_many_33 : decode cX6_many 33 = .ok (.getfield 86, 3) := by decide +kernel
theorem dX6_many_36 : decode cX6_many 36 = .ok (.ireturn, 1) := by decide +kernel
theorem dX6_many_37 : decode cX6_many 37 = .ok (.aload_n 0, 1) := by decide +kernel
theorem dX6_many_38 : decode cX6_many 38 = .ok (.getfield 93, 3) := by decide +kernel
theorem dX6_many_41 : decode cX6_many 41 = .ok (.ireturn, 1) := by decide +kernel
theorem dX6_many_42 : decode cX6_many 42 = .ok (.aload_n 0, 1) := by decide +kernel
theorem dX6_many_43 : decode cX6_many 43 = .ok (.invokevirtual 250, 3) := by decide +kernel
theorem dX6_many_46 : decode cX6_many 46 = .ok (.ireturn, 1) := by decide +kernel
theorem dX6_many_47 : decode cX6_many 47 = .ok (.aload_n 0, 1) := by decide +kernel
theorem dX6_many_48 : decode cX6_many 48 = .ok (.getfield 144, 3) := by decide +kernel
theorem dX6_many_51 : decode cX6_many 51 = .ok (.ireturn, 1) := by decide +kernel
theorem dX6_many_52 : decode cX6_many 52 = .ok (.bipush (-2), 2) := by decide +kernel
theorem dX6_many_54 : decode cX6_many 54 = .ok (.ireturn, 1) := by decide +kernel
theorem dJ6_bitCount_0f7a4_0 : decode cJ6_bitCount_0f7a4 0 = .ok (.iload_n 0, 1) := by decide +kernel
theorem dJ6_bitCount_0f7a4_1 : decode cJ6_bitCount_0f7a4 1 = .ok (.iload_n 0, 1) := by decide +kernel
theorem dJ6_bitCount_0f7a4_2 : decode cJ6_bitCount_0f7a4 2 = .ok (.iconst 1, 1) := by decide +kernel
theorem dJ6_bitCount_0f7a4_3 : decode cJ6_bitCount_0f7a4 3 = .ok (.iushr, 1) := by decide +kernel
theorem dJ6_bitCount_0f7a4_4 : decode cJ6_bitCount_0f7a4 4 = .ok (.ldc_w 265, 3) := by decide +kernel
theorem dJ6_bitCount_0f7a4_7 : decode cJ6_bitCount_0f7a4 7 = .ok (.iand, 1) := by decide +kernel
theorem dJ6_bitCount_0f7a4_8 : decode cJ6_bitCount_0f7a4 8 = .ok (.isub, 1) := by decide +kernel
theorem dJ6_bitCount_0f7a4_9 : decode cJ6_bitCount_0f7a4 9 = .ok (.istore_n 0, 1) := by decide +kernel
theorem dJ6_bitCount_0f7a4_10 : decode cJ6_bitCount_0f7a4 10 = .ok (.iload_n 0, 1) := by decide +kernel
theorem dJ6_bitCount_0f7a4_11 : decode cJ6_bitCount_0f7a4 11 = .ok (.ldc_w 266, 3) := by decide +kernel
theorem dJ6_bitCount_0f7a4_14 : decode cJ6_bitCount_0f7a4 14 = .ok (.iand, 1) := by decide +kernel
theorem dJ6_bitCount_0f7a4_15 : decode cJ6_bitCount_0f7a4 15 = .ok (.iload_n 0, 1) := by decide +kernel
theorem dJ6_bitCount_0f7a4_16 : decode cJ6_bitCount_0f7a4 16 = .ok (.iconst 2, 1) := by decide +kernel
theorem dJ6_bitCount_0f7a4_17 : decode cJ6_bitCount_0f7a4 17 = .ok (.iushr, 1) := by decide +kernel
theorem dJ6_bitCount_0f7a4_18 : decode cJ6_bitCount_0f7a4 18 = .ok (.ldc_w 266, 3) := by decide +kernel
theorem dJ6_bitCount_0f7a4_21 : decode cJ6_bitCount_0f7a4 21 = .ok (.iand, 1) := by decide +kernel
theorem dJ6_bitCount_0f7a4_22 : decode cJ6_bitCount_0f7a4 22 = .ok (.iadd, 1) := by decide +kernel
theorem dJ6_bitCount_0f7a4_23 : decode cJ6_bitCount_0f7a4 23 = .ok (.istore_n 0, 1) := by decide +kernel
theorem dJ6_bitCount_0f7a4_24 : decode cJ6_bitCount_0f7a4 24 = .ok (.iload_n 0, 1) := by decide +kernel
theorem dJ6_bitCount_0f7a4_25 : decode cJ6_bitCount_0f7a4 25 = .ok (.iload_n 0, 1) := by decide +kernel
theorem dJ6_bitCount_0f7a4_26 : decode cJ6_bitCount_0f7a4 26 = .ok (.iconst 4, 1) := by decide +kernel
theorem dJ6_bitCount_0f7a4_27 : decode cJ6_bitCount_0f7a4 27 = .ok (.iushr, 1) := by decide +kernel
theorem dJ6_bitCount_0f7a4_28 : decode cJ6_bitCount_0f7a4 28 = .ok (.iadd, 1) := by decide +kernel
theorem dJ6_bitCount_0f7a4_29 : decode cJ6_bitCount_0f7a4 29 = .ok (.ldc_w 267, 3) := by decide +kernel
theorem dJ6_bitCount_0f7a4_32 : decode cJ6_bitCount_0f7a4 32 = .ok (.iand, 1) := by decide +kernel
theorem dJ6_bitCount_0f7a4_33 : decode cJ6_bitCount_0f7a4 33 = .ok (.istore_n 0, 1) := by decide +kernel
theorem dJ6_bitCount_0f7a4_34 : decode cJ6_bitCount_0f7a4 34 = .ok (.iload_n 0, 1) := by decide +kernel
theorem dJ6_bitCount_0f7a4_35 : decode cJ6_bitCount_0f7a4 35 = .ok (.iload_n 0, 1) := by decide +kernel
theorem dJ6_bitCount_0f7a4_36 : decode cJ6_bitCount_0f7a4 36 = .ok (.bipush 8, 2) := by decide +kernel
theorem dJ6_bitCount_0f7a4_38 : decode cJ6_bitCount_0f7a4 38 = .ok (.iushr, 1) := by decide +kernel
theorem dJ6_bitCount_0f7a4_39 : decode cJ6_bitCount_0f7a4 39 = .ok (.iadd, 1) := by decide +kernel
theorem dJ6_bitCount_0f7a4_40 : decode cJ6_bitCount_0f7a4 40 = .ok (.istore_n 0, 1) := by decide +kernel
theorem dJ6_bitCount_0f7a4_41 : decode cJ6_bitCount_0f7a4 41 = .ok (.iload_n 0, 1) := by decide +kernel
theorem dJ6_bitCount_0f7a4_42 : decode cJ6_bitCount_0f7a4 42 = .ok (.iload_n 0, 1) := by decide +kernel
theorem dJ6_bitCount_0f7a4_43 : decode cJ6_bitCount_0f7a4 43 = .ok (.bipush 16, 2) := by decide +kernel
theorem dJ6_bitCount_0f7a4_45 : decode cJ6_bitCount_0f7a4 45 = .ok (.iushr, 1) := by decide +kernel
theorem dJ6_bitCount_0f7a4_46 : decode cJ6_bitCount_0f7a4 46 = .ok (.iadd, 1) := by decide +kernel
theorem dJ6_bitCount_0f7a4_47 : decode cJ6_bitCount_0f7a4 47 = .ok (.istore_n 0, 1) := by decide +kernel
theorem dJ6_bitCount_0f7a4_48 : decode cJ6_bitCount_0f7a4 48 = .ok (.iload_n 0, 1) := by decide +kernel
theorem dJ6_bitCount_0f7a4_49 : decode cJ6_bitCount_0f7a4 49 = .ok (.bipush 63, 2) := by decide +kernel
theorem dJ6_bitCount_0f7a4_51 : decode cJ6_bitCount_0f7a4 51 = .ok (.iand, 1) := by decide +kernel
theorem dJ6_bitCount_0f7a4_52 : decode cJ6_bitCount_0f7a4 52 = .ok (.ireturn, 1) := by decide +kernel
theorem dJ9_max_7cf53_0 : decode cJ9_max_7cf53 0 = .ok (.iload_n 0, 1) := by decide +kernel
theorem dJ9_max_7cf53_1 : decode cJ9_max_7cf53 1 = .ok (.iload_n 1, 1) := by decide +kernel
theorem dJ9_max_7cf53_2 : decode cJ9_max_7cf53 2 = .ok (.if_icmp .lt 7, 3) := by decide +kernel
theorem dJ9_max_7cf53_5 : decode cJ9_max_7cf53 5 = .ok (.iload_n 0, 1) := by decide +kernel
theorem dJ9_max_7cf53_6 : decode cJ9_max_7cf53 6 = .ok (.goto 4, 3) := by decide +kernel
theorem dJ9_max_7cf53_9 : decode cJ9_max_7cf53 9 = .ok (.iload_n 1, 1) := by decide +kernel
theorem dJ9_max_7cf53_10 : decode cJ9_max_7cf53 10 = .ok (.ireturn, 1) := by decide +kernel
theorem dJ9_min_7cf53_0 : decode cJ9_min_7cf53 0 = .ok (.iload_n 0, 1) := by decide +kernel
theorem dJ9_min_7cf53_1 : decode cJ9_min_7cf53 1 = .ok (.iload_n 1, 1) := by decide +kernel
theorem dJ9_min_7cf53_2 : decode cJ9_min_7cf53 2 = .ok (.if_icmp .gt 7, 3) := by decide +kernel
theorem dJ9_min_7cf53_5 : decode cJ9_min_7cf53 5 = .ok (.iload_n 0, 1) := by decide +kernel
theorem dJ9_min_7cf53_6 : decode cJ9_min_7cf53 6 = .ok (.goto 4, 3) := by decide +kernel
theorem dJ9_min_7cf53_9 : decode cJ9_min_7cf53 9 = .ok (.iload_n 1, 1) := by decide +kernel
theorem dJ9_min_7cf53_10 : decode cJ9_min_7cf53 10 = .ok (.ireturn, 1) := by decide +kernel
end
section
-- contracts over a fixed list of cells: a method takes the world ws to the world ws' and answers res
def nwL : List Cond := [(.methodLinkNest RX5 20 yX0_init RX5 : Cond), (.methodLinkNest RX5 27 yX3_init RX5 : Cond), (.methodLinkNest RX5 34 yX4_init RX5 : Cond), (.methodLinkNest RX5 41 yX1_init RX5 : Cond), (.methodLinkNest RX0 58 yX5_holds RX5 : Cond), (.methodLinkNest RX0 62 yX5_look RX5 : Cond), (.methodLinkNest RX0 69 yX5_least RX5 : Cond), (.methodLinkNest RX4 45 yX5_holds RX5 : Cond), (.methodLinkNest RX1 32 yX5_holds RX5 : Cond)]
def nw (U : State) : Prop := ∀ w ∈ nwL, va_Nw w U
theorem nw_shape : ∀ w ∈ nwL, ∃ (a : String) (i : Nat) (x : MethodName) (h : String), w = .methodLinkNest a i x h := by
  intro w hw
  simp only [nwL, List.mem_cons, List.not_mem_nil, or_false] at hw
  rcases hw with rfl | rfl | rfl | rfl | rfl | rfl | rfl | rfl | rfl <;> exact ⟨_, _, _, _, rfl⟩
theorem nw_warm {s U : State} (hW : s.WarmedH U.vm) (h : nw s) : nw U := by
  intro w hw
  obtain ⟨a, i, x, hh, rfl⟩ := nw_shape w hw
  exact va_Nw.warmM hW (h _ hw)
theorem nw_same {u U : State} (hv : u.vm = U.vm) (h : nw u) : nw U := by
  intro w hw
  obtain ⟨a, i, x, hh, rfl⟩ := nw_shape w hw
  exact va_Nw.same rfl hv (h _ hw)
def kx (D : va_G) (cA : ClassId) (U : State) : Prop := va_K D vwCl [(cA, .int)] U ∧ nw U
theorem kx_warm {D : va_G} {cA : ClassId} {s U : State} (hW : s.WarmedH U.vm) (h : kx D cA s) : kx D cA U := ⟨va_K.moved hW.alike h.1, nw_warm hW h.2⟩
theorem kx_call {D : va_G} {cA : ClassId} {U : State} {g : JFrame} {mk : MethodId} {a : Array Value} (h : kx D cA U) : kx D cA (U.calling g mk a) := ⟨va_K.moved (u := U) (U := U.calling g mk a) (Vm.Alike.refl U.vm) h.1, nw_same (u := U) (U := U.calling g mk a) rfl h.2⟩
theorem lw_gd_ok : ∀ w ∈ lw_gd, (w.onTables && w.keeps) = true ∨ ∃ ty, w = .arrayClass ty := fun _ h => good_of_word (List.mem_filter.mp h).2
abbrev wd (y : MethodName) (b : ByteArray) (n : Nat) (r : Option FieldType) : List Cond := .code y b n r :: lw_gd
theorem wd_pay {y : MethodName} {b : ByteArray} {n : Nat} {r : Option FieldType} (hc : .code y b n r ∈ lw_gd) {args : Array Value} {s : State} (ht : ∀ w ∈ lw_gd, w.before args s = true) : ∀ w ∈ wd y b n r, ∀ (a' : Array Value) (U : State), s.WarmedH U.vm → w.before a' U = true := by
  intro w hw a' U hW
  have hm : w ∈ lw_gd := by
    rcases List.mem_cons.mp hw with h | h
    · rw [h]; exact hc
    · exact h
  exact word_at hW (lw_gd_ok w hm) (ht w hm)
def QG (res : Option Value) (B : State → Prop) (A : Nat → Prop) : Array Value → State → Outcome → State → Prop := fun _ st oc t => oc = .returned res ∧ B t ∧ va_F A st t
abbrev rmx (fr lo : Nat) : Room := { frames := fr, cells := 0, slots := 0, locals := lo }
def CG (l : Launch) (y : MethodName) (b : ByteArray) (n : Nat) (rt : Option FieldType) (fr lo : Nat) (D : va_G) (cA : ClassId) (as : List Value) (ws ws' : va_W) (res : Option Value) : Prop :=
  ∀ sz : Nat, Met l y (wd y b n rt) (rmx fr lo) (va_Pc as (fun U => U.heap.size = sz ∧ va_P D vwCl ws U.heap ∧ kx D cA U ∧ va_D (fun _ => True) ws)) (QG res (fun t => va_P D vwCl ws' t.heap ∧ va_D (va_A ws sz) ws') (va_A ws sz)) 0 0 (va_A ws sz)
def Cx (p : Program) (s : State) (m : MethodId) (args : Array Value) (c : Code) (own : String) (b : ByteArray) (n : Nat) (D : va_G) (cA : ClassId) : Prop :=
  p.tables.exec = Jvm.exec ∧ c.code = b ∧ c.maxLocals = n ∧ s.vm.findClass own = some m.cls ∧ (∀ w ∈ lw_gd, w.before args s = true) ∧ kx D cA s
theorem CG.base {l : Launch} {y : MethodName} {b : ByteArray} {n : Nat} {rt : Option FieldType} {fr lo : Nat} {D : va_G} {cA : ClassId} {as : List Value} {ws ws' : va_W} {res : Option Value} (hy : plainName y.cls = true) (hn : (lg_sl as).length ≤ n)
    (body : ∀ (p : Program) (e : Env) (s : State) (m : MethodId) (args : Array Value) (below : List Frame) (meth : Method) (c : Code) (A : Nat → Prop) (ls : Array Slot), Cx p s m args c y.cls b n D cA → meth.sig.returnType = rt → meth.locks = false → (∀ q, s.heap.size ≤ q → A q) → va_P D vwCl ws s.heap → va_D A ws → va_S A s.heap s.heap [] → lv_has ls n (lv_args 0 as) →
      W p l e (rmx fr lo) s m args below meth c s.heap [] 0 0 (MQ below (QG res (fun t => va_P D vwCl ws' t.heap ∧ va_D A ws') A) args s 0 0 A) (F0 m 0 ls [])) : CG l y b n rt fr lo D cA as ws ws' res := by
  intro sz
  refine Met.ofW (cc := b) (maxL := n) (ret := rt) hy rfl ?_
  intro p e s m args below meth c s₁ B hml hv
  obtain ⟨rfl, hsz, hP, hK, hD0⟩ := hv
  subst hsz
  have hts := atoms_spec (ws := wd y b n rt) B.pre
  have hl := lv_entry as (n := n) hn
  rw [lg_entry_eq]
  exact body p e s m _ below meth c (va_A ws s.heap.size) _ ⟨B.exec, B.bytes, hml, findClass_of_methodNamed B.named, fun w hw => hts w (List.mem_cons_of_mem _ hw), hK⟩ B.returns B.notSynchronized (fun q h => Or.inr h) hP (hD0.self (sz := s.heap.size)) va_S.rf hl
theorem CG.ofi {l : Launch} {y : MethodName} {b : ByteArray} {n : Nat} {rt : FieldType} {fr lo : Nat} {D : va_G} {cA : ClassId} {as : List Value} {ws ws' : va_W} {r : Int32} (hy : plainName y.cls = true) (hn : (lg_sl as).length ≤ n)
    (body : ∀ (p : Program) (e : Env) (s : State) (m : MethodId) (args : Array Value) (below : List Frame) (meth : Method) (c : Code) (A : Nat → Prop) (Q : State → Prop) (H0 : Heap) (ls : Array Slot), Cx p s m args c y.cls b n D cA → (∀ q, H0.size ≤ q → A q) → va_P D vwCl ws H0 → va_D A ws → va_S A H0 H0 [] → lv_has ls n (lv_args 0 as) →
      (∀ (H1 : Heap) (locs1 : List Loc) (pc : Nat) (ls1 : Array Slot) (v : Int32), va_P D vwCl ws' H1 → va_D A ws' → va_S A H0 H1 locs1 → decode b pc = .ok (.ireturn, 1) → narrow rt (.int v) = .int v → v = r → W p l e (rmx fr lo) s m args below meth c H1 locs1 0 0 Q (F0 m pc ls1 [.int v])) →
      W p l e (rmx fr lo) s m args below meth c H0 [] 0 0 Q (F0 m 0 ls [])) : CG l y b n (some rt) fr lo D cA as ws ws' (some (.int r)) := by
  refine CG.base hy hn ?_
  intro p e s m args below meth c A ls C0 hr hlocks hA hP hD hS hl
  refine body p e s m args below meth c A _ s.heap ls C0 hA hP hD hS hl ?_
  intro H1 locs1 pc ls1 v hP1 hD1 hS1 hdg hnar hv
  subst hv
  exact W.zret C0.1 C0.2.1 hr hnar (fun t ht hW => ⟨rfl, ⟨by rw [ht]; exact hP1, hD1⟩, hS1.F ht⟩) hS1.2.2 hdg hlocks
theorem CG.ofl {l : Launch} {y : MethodName} {b : ByteArray} {n : Nat} {fr lo : Nat} {D : va_G} {cA : ClassId} {as : List Value} {ws ws' : va_W} {r : Int64} (hy : plainName y.cls = true) (hn : (lg_sl as).length ≤ n)
    (body : ∀ (p : Program) (e : Env) (s : State) (m : MethodId) (args : Array Value) (below : List Frame) (meth : Method) (c : Code) (A : Nat → Prop) (Q : State → Prop) (H0 : Heap) (ls : Array Slot), Cx p s m args c y.cls b n D cA → (∀ q, H0.size ≤ q → A q) → va_P D vwCl ws H0 → va_D A ws → va_S A H0 H0 [] → lv_has ls n (lv_args 0 as) →
      (∀ (H1 : Heap) (locs1 : List Loc) (pc : Nat) (ls1 : Array Slot) (v : Int64), va_P D vwCl ws' H1 → va_D A ws' → va_S A H0 H1 locs1 → decode b pc = .ok (.lreturn, 1) → v = r → W p l e (rmx fr lo) s m args below meth c H1 locs1 0 0 Q (F0 m pc ls1 [.long v])) →
      W p l e (rmx fr lo) s m args below meth c H0 [] 0 0 Q (F0 m 0 ls [])) : CG l y b n (some .long) fr lo D cA as ws ws' (some (.long r)) := by
  refine CG.base hy hn ?_
  intro p e s m args below meth c A ls C0 hr hlocks hA hP hD hS hl
  refine body p e s m args below meth c A _ s.heap ls C0 hA hP hD hS hl ?_
  intro H1 locs1 pc ls1 v hP1 hD1 hS1 hdg hv
  subst hv
  exact W.lret C0.1 C0.2.1 hr (fun t ht hW => ⟨rfl, ⟨by rw [ht]; exact hP1, hD1⟩, hS1.F ht⟩) hS1.2.2 hdg hlocks
theorem CG.ofv {l : Launch} {y : MethodName} {b : ByteArray} {n : Nat} {fr lo : Nat} {D : va_G} {cA : ClassId} {as : List Value} {ws ws' : va_W} (hy : plainName y.cls = true) (hn : (lg_sl as).length ≤ n)
    (body : ∀ (p : Program) (e : Env) (s : State) (m : MethodId) (args : Array Value) (below : List Frame) (meth : Method) (c : Code) (A : Nat → Prop) (Q : State → Prop) (H0 : Heap) (ls : Array Slot), Cx p s m args c y.cls b n D cA → (∀ q, H0.size ≤ q → A q) → va_P D vwCl ws H0 → va_D A ws → va_S A H0 H0 [] → lv_has ls n (lv_args 0 as) →
      (∀ (H1 : Heap) (locs1 : List Loc) (pc : Nat) (ls1 : Array Slot), va_P D vwCl ws' H1 → va_D A ws' → va_S A H0 H1 locs1 → decode b pc = .ok (.return_, 1) → W p l e (rmx fr lo) s m args below meth c H1 locs1 0 0 Q (F0 m pc ls1 [])) →
      W p l e (rmx fr lo) s m args below meth c H0 [] 0 0 Q (F0 m 0 ls [])) : CG l y b n none fr lo D cA as ws ws' none := by
  refine CG.base hy hn ?_
  intro p e s m args below meth c A ls C0 hr hlocks hA hP hD hS hl
  refine body p e s m args below meth c A _ s.heap ls C0 hA hP hD hS hl ?_
  intro H1 locs1 pc ls1 hP1 hD1 hS1 hdg
  exact W.vret C0.1 C0.2.1 hr (fun t ht hW => ⟨rfl, ⟨by rw [ht]; exact hP1, hD1⟩, hS1.F ht⟩) hS1.2.2 hdg hlocks
/-- what the tables say of a method that is called -/
def LK (y : MethodName) (b : ByteArray) (n : Nat) (rt : Option FieldType) (N : Nat) : Prop := .code y b n rt ∈ lw_gd ∧ .initialized y.cls ∈ lw_gd ∧ (y.cls ≠ "java/lang/invoke/MethodHandle" ∧ y.cls ≠ "java/lang/invoke/VarHandle" ∧ (parseMethodDescriptor y.desc).map (fun d => d.parameters.length) = some N)
section KCALL
variable {p : Program} {l : Launch} {e : Env} {R : Room} {s : State} {m : MethodId} {args : Array Value} {below : List Frame} {meth : Method} {c : Code} {H : Heap} {locs : List Loc} {cells slots : Nat} {Q : State → Prop}
variable {cc : ByteArray} {pc nL : Nat} {ls : Array Slot} {st0 rest : List Value} {D : va_G} {cA : ClassId} {A : Nat → Prop} {H0 : Heap} {ws ws' : va_W} {own : String}
variable {y : MethodName} {b : ByteArray} {n : Nat} {rt : Option FieldType} {fr lo idx N q0 ci a : Nat} {As fs : List Value} {res : Option Value}
theorem ka_free (hA : ∀ q, H0.size ≤ q → A q) (hD : va_D A ws) (hS : va_S A H0 H locs) : ∀ q, va_A ws H.size q → A q := by
  intro q h
  rcases h with ⟨k, e, h⟩ | h
  · exact hD.2 k (q, e) h
  · exact hA q (Nat.le_trans hS.1 h)
theorem ka_pre (hK : kx D cA s) (hP : va_P D vwCl ws H) (hD : va_D A ws) (as : List Value) : PreS s H (va_Pc as (fun U => U.heap.size = H.size ∧ va_P D vwCl ws U.heap ∧ kx D cA U ∧ va_D (fun _ => True) ws)) as :=
  ⟨fun a U g mk q => by obtain ⟨q0, q1, qP, qK, qD⟩ := q; exact ⟨q0, q1, qP, kx_call qK, qD⟩, fun U hU hW => ⟨rfl, by rw [hU], by rw [hU]; exact hP, kx_warm hW hK, hD.weaken (fun _ _ _ _ => trivial)⟩⟩
theorem ka_go {mcs : List Value} (hr : va_Run p l e R s m args below meth c H locs cells slots 0 0 (F0 m pc ls st0) rest (QG res (fun t => va_P D vwCl ws' t.heap ∧ va_D (va_A ws H.size) ws') (va_A ws H.size) mcs.toArray) (va_A ws H.size)) (hF : ∀ q, va_A ws H.size q → A q) (hS : va_S A H0 H locs)
    (k : ∀ (H1 : Heap) (locs1 : List Loc), va_P D vwCl ws' H1 → va_D A ws' → va_S A H0 H1 locs1 → W p l e R s m args below meth c H1 locs1 cells slots Q (F0 m (pc + 3) ls (res.toList ++ rest))) : W p l e R s m args below meth c H locs cells slots Q (F0 m pc ls st0) := by
  intro T hT X
  obtain ⟨v, st₀, t, T', L, h0, X', hL, e1, e2, ⟨hv, ⟨hP1, hD1⟩, hz, hk⟩, st⟩ := hr T hT X
  cases hv
  rw [h0] at hz hk
  obtain ⟨t2, a1, b1⟩ := k T'.heap (locs ++ L) (by rw [e1]; exact hP1) (hD1.weaken (fun _ _ _ h => hF _ h))
    ⟨Nat.le_trans hS.1 (by rw [e1]; exact hz), fun q h1 h2 => by rw [e1, hk q (Nat.lt_of_lt_of_le h1 hS.1) (fun z => h2 (hF q z))]; exact hS.2.1 q h1 h2, fun q hq => by
      rcases List.mem_append.mp hq with h | h
      · exact hS.2.2 q h
      · exact hF _ (hL q h)⟩ T' rfl X'
  exact ⟨t2, st t2 a1, b1⟩
theorem ka_len (hd : (parseMethodDescriptor y.desc).map (fun d => d.parameters.length) = some N) : ∀ sig, parseMethodDescriptor y.desc = some sig → N = sig.parameters.length := by
  intro sig h
  rw [h] at hd
  exact (Option.some.inj hd).symm
/-- invokevirtual -/
theorem kcV (C0 : Cx p s m args c own cc nL D cA) (hA : ∀ q, H0.size ≤ q → A q) (hP : va_P D vwCl ws H) (hD : va_D A ws) (hS : va_S A H0 H locs) (hC : CG l y b n rt fr lo D cA (.ref a :: As) ws ws' res) (lk : LK y b n rt N) (hi : .instanceMethod y ∈ lw_gd) (hs : .selects y.cls y y ∈ lw_gd) (hl : .methodLink own idx y ∈ lw_gd)
    (q0 ci : Nat) (he : ws[q0]? = some (a, .inr (ci, fs))) (hci : (vwCl[ci]?).map (fun q => q.1) = some y.cls) (hsz : ls.size = nL) (hN : As.length = N) (hst : st0 = As.reverse ++ .ref a :: rest) (hW : (rest.map fun v => v.category).sum ≤ 8) (hR : fr + 1 ≤ R.frames ∧ 8 + (n + 11) + lo ≤ R.locals) (hf : cells ≤ R.cells ∧ slots ≤ R.slots)
    (hdg : decode cc pc = .ok (.invokevirtual idx, 3))
    (k : ∀ (H1 : Heap) (locs1 : List Loc), va_P D vwCl ws' H1 → va_D A ws' → va_S A H0 H1 locs1 → W p l e R s m args below meth c H1 locs1 cells slots Q (F0 m (pc + 3) ls (res.toList ++ rest))) : W p l e R s m args below meth c H locs cells slots Q (F0 m pc ls st0) := by
  obtain ⟨hx, hb, hml, hown, ht, hK⟩ := C0
  obtain ⟨hc, hini, hy1, hy2, hdn⟩ := lk
  have hF := ka_free hA hD hS
  have hpre := ka_pre (A := A) hK hP hD (.ref a :: As)
  have hrecv : ∃ cell : Cell, H[a]? = some cell ∧ cell.vm.isStatics = false ∧ s.vm.findClass y.cls = some cell.cls := by
    cases hq : vwCl[ci]? with
    | none => rw [hq] at hci; cases hci
    | some q =>
      rw [hq] at hci
      have h1 := va_recv hK.1 hP hq he
      rw [show q.1 = y.cls from Option.some.inj hci] at h1
      exact h1
  exact ka_go (mcs := .ref a :: As) (va_runV (As := As) (rest := rest) (n := N) (maxL := n) (bytes := b) (ret := rt) ⟨hx, hb, hml, hown, ht⟩ (hC H.size) ⟨⟨rfl, rfl, hR.1, hR.2, wd_pay hc ht, List.mem_cons_self, ht _ hc, ht _ hini, ⟨hy1, hy2⟩, ka_len hdn, ht _ hl⟩, ht _ hi, ht _ hs⟩ ⟨hpre.1, hrecv, hpre.2⟩ rfl hN hsz hst (lv_room hW) hdg hf) hF hS k
/-- invokestatic -/
theorem kcS (C0 : Cx p s m args c own cc nL D cA) (hA : ∀ q, H0.size ≤ q → A q) (hP : va_P D vwCl ws H) (hD : va_D A ws) (hS : va_S A H0 H locs) (hC : CG l y b n rt fr lo D cA As ws ws' res) (lk : LK y b n rt N) (hi : .static y ∈ lw_gd) (hl : .methodLink own idx y ∈ lw_gd)
    (hsz : ls.size = nL) (hN : As.length = N) (hst : st0 = As.reverse ++ rest) (hW : (rest.map fun v => v.category).sum ≤ 8) (hR : fr + 1 ≤ R.frames ∧ 8 + (n + 11) + lo ≤ R.locals) (hf : cells ≤ R.cells ∧ slots ≤ R.slots)
    (hdg : decode cc pc = .ok (.invokestatic idx, 3))
    (k : ∀ (H1 : Heap) (locs1 : List Loc), va_P D vwCl ws' H1 → va_D A ws' → va_S A H0 H1 locs1 → W p l e R s m args below meth c H1 locs1 cells slots Q (F0 m (pc + 3) ls (res.toList ++ rest))) : W p l e R s m args below meth c H locs cells slots Q (F0 m pc ls st0) := by
  obtain ⟨hx, hb, hml, hown, ht, hK⟩ := C0
  obtain ⟨hc, hini, hy1, hy2, hdn⟩ := lk
  have hF := ka_free hA hD hS
  have hpre := ka_pre (A := A) hK hP hD As
  exact ka_go (mcs := As) (va_runS (As := As) (rest := rest) (n := N) (maxL := n) (bytes := b) (ret := rt) ⟨hx, hb, hml, hown, ht⟩ (hC H.size) ⟨⟨rfl, rfl, hR.1, hR.2, wd_pay hc ht, List.mem_cons_self, ht _ hc, ht _ hini, ⟨hy1, hy2⟩, ka_len hdn, ht _ hl⟩, ht _ hi⟩ hpre rfl hN hsz hst (lv_room hW) hdg hf) hF hS k
/-- invokestatic of a nest mate's private one -/
theorem kcSN {host : String} (C0 : Cx p s m args c own cc nL D cA) (hA : ∀ q, H0.size ≤ q → A q) (hP : va_P D vwCl ws H) (hD : va_D A ws) (hS : va_S A H0 H locs) (hC : CG l y b n rt fr lo D cA As ws ws' res) (lk : LK y b n rt N) (hi : .static y ∈ lw_gd) (hl : .methodLinkNest own idx y host ∈ nwL)
    (hsz : ls.size = nL) (hN : As.length = N) (hst : st0 = As.reverse ++ rest) (hW : (rest.map fun v => v.category).sum ≤ 8) (hR : fr + 1 ≤ R.frames ∧ 8 + (n + 11) + lo ≤ R.locals) (hf : cells ≤ R.cells ∧ slots ≤ R.slots)
    (hdg : decode cc pc = .ok (.invokestatic idx, 3))
    (k : ∀ (H1 : Heap) (locs1 : List Loc), va_P D vwCl ws' H1 → va_D A ws' → va_S A H0 H1 locs1 → W p l e R s m args below meth c H1 locs1 cells slots Q (F0 m (pc + 3) ls (res.toList ++ rest))) : W p l e R s m args below meth c H locs cells slots Q (F0 m pc ls st0) := by
  obtain ⟨hx, hb, hml, hown, ht, hK⟩ := C0
  obtain ⟨hc, hini, hy1, hy2, hdn⟩ := lk
  have hF := ka_free hA hD hS
  have hpre := ka_pre (A := A) hK hP hD As
  exact ka_go (mcs := As) (va_runSN (As := As) (rest := rest) (n := N) (maxL := n) (bytes := b) (ret := rt) ⟨hx, hb, hml, hown, ht⟩ (hC H.size) ⟨⟨⟨rfl, rfl, hR.1, hR.2, wd_pay hc ht, List.mem_cons_self⟩, ht _ hc, ht _ hini, ⟨hy1, hy2⟩, ka_len hdn, va_Nw.use rfl (hK.2 _ hl)⟩, ht _ hi, trivial⟩ hpre rfl hN hsz hst (lv_room hW) hdg hf) hF hS k
end KCALL
end
section
-- the worlds: the class (WX), the reference (WM): si its numbers, sa its rows, ad the addresses
def WX (cA : ClassId) (ad : Nat → Nat) (si : Nat → Int32) (sa : Nat → Nat → Int32) : va_W := [(ad 0, .inr (5, [.ref (ad 1), .ref (ad 2), .ref (ad 3), .ref (ad 4), .ref (ad 5), .ref (ad 6), .int (si 0), .int (si 1)])), (ad 1, .inr (2, [.ref (ad 7), .ref (ad 8), .ref (ad 9)])), (ad 2, .inr (0, [.int (si 2), .int (si 3), .int (si 4), .ref (ad 10), .ref (ad 11), .ref (ad 12), .ref (ad 13), .ref (ad 14), .ref (ad 15), .ref (ad 16)])), (ad 3, .inr (3, [.ref (ad 17), .int (si 5), .int (si 6), .int (si 7), .int (si 8)])), (ad 4, .inr (4, [.int (si 9), .int (si 10), .int (si 11), .ref (ad 18)])), (ad 5, .inr (1, [.ref (ad 19), .ref (ad 20)])), (ad 6, .inl (cA, 60, .inl (sa 0))), (ad 7, .inl (cA, 240, .inl (sa 1))), (ad 8, .inl (cA, 4, .inl (sa 2))), (ad 9, .inl (cA, 4, .inl (sa 3))), (ad 10, .inl (cA, 6, .inl (sa 4))), (ad 11, .inl (cA, 6, .inl (sa 5))), (ad 12, .inl (cA, 6, .inl (sa 6))), (ad 13, .inl (cA, 6, .inl (sa 7))), (ad 14, .inl (cA, 5, .inl (sa 8))), (ad 15, .inl (cA, 8, .inl (sa 9))), (ad 16, .inl (cA, 8, .inl (sa 10))), (ad 17, .inl (cA, 60, .inl (sa 11))), (ad 18, .inl (cA, 6, .inl (sa 12))), (ad 19, .inl (cA, 32, .inl (sa 13))), (ad 20, .inl (cA, 64, .inl (sa 14)))]
def WM (cA : ClassId) (ad : Nat → Nat) (si : Nat → Int32) (sa : Nat → Nat → Int32) : va_W := [(ad 0, .inr (6, [.int (si 0), .int (si 1), .ref (ad 1), .ref (ad 2), .ref (ad 3), .ref (ad 4), .int (si 2), .ref (ad 5), .int (si 3), .int (si 4), .int (si 5), .ref (ad 6), .ref (ad 7), .ref (ad 8), .ref (ad 9), .ref (ad 10), .ref (ad 11), .ref (ad 12), .int (si 6), .int (si 7), .ref (ad 13), .ref (ad 14), .ref (ad 15), .ref (ad 16), .int (si 8), .ref (ad 17), .ref (ad 18), .ref (ad 19), .ref (ad 20), .ref (ad 21), .ref (ad 22), .int (si 9)])), (ad 1, .inl (cA, 6, .inl (sa 0))), (ad 2, .inl (cA, 6, .inl (sa 1))), (ad 3, .inl (cA, 6, .inl (sa 2))), (ad 4, .inl (cA, 6, .inl (sa 3))), (ad 5, .inl (cA, 5, .inl (sa 4))), (ad 6, .inl (cA, 6, .inl (sa 5))), (ad 7, .inl (cA, 6, .inl (sa 6))), (ad 8, .inl (cA, 6, .inl (sa 7))), (ad 9, .inl (cA, 6, .inl (sa 8))), (ad 10, .inl (cA, 5, .inl (sa 9))), (ad 11, .inl (cA, 6, .inl (sa 10))), (ad 12, .inl (cA, 6, .inl (sa 11))), (ad 13, .inl (cA, 6, .inl (sa 12))), (ad 14, .inl (cA, 5, .inl (sa 13))), (ad 15, .inl (cA, 64, .inl (sa 14))), (ad 16, .inl (cA, 64, .inl (sa 15))), (ad 17, .inl (cA, 8, .inl (sa 16))), (ad 18, .inl (cA, 8, .inl (sa 17))), (ad 19, .inl (cA, 4, .inl (sa 18))), (ad 20, .inl (cA, 4, .inl (sa 19))), (ad 21, .inl (cA, 240, .inl (sa 20))), (ad 22, .inl (cA, 60, .inl (sa 21)))]
-- functions that the methods come to: a row's place, a divisor, a truth value are looked at
def ld {β : Type} (i : Int32) (n : Nat) (x : Option β) : Option β := if i < 0 ∨ n ≤ i.toNatClampNeg then none else x
theorem ld_some {β : Type} {i : Int32} {n : Nat} {x : Option β} {o : β} (h : ld i n x = some o) : vp_in i n ∧ x = some o := by
  unfold ld at h
  by_cases c : i < 0 ∨ n ≤ i.toNatClampNeg
  · rw [if_pos c] at h; cases h
  · rw [if_neg c] at h; exact ⟨c, h⟩
theorem ld_in {β : Type} {i : Int32} {n : Nat} {x : Option β} (h : vp_in i n) : ld i n x = x := if_neg h
def dz {β : Type} (y : Int32) (x : Option β) : Option β := if y = 0 then none else x
theorem dz_some {β : Type} {y : Int32} {x : Option β} {o : β} (h : dz y x = some o) : ¬ y = 0 ∧ x = some o := by
  unfold dz at h
  by_cases c : y = 0
  · rw [if_pos c] at h; cases h
  · rw [if_neg c] at h; exact ⟨c, h⟩
def dzl {β : Type} (y : Int64) (x : Option β) : Option β := if y = 0 then none else x
theorem dzl_some {β : Type} {y : Int64} {x : Option β} {o : β} (h : dzl y x = some o) : ¬ y = 0 ∧ x = some o := by
  unfold dzl at h
  by_cases c : y = 0
  · rw [if_pos c] at h; cases h
  · rw [if_neg c] at h; exact ⟨c, h⟩
def zb {β : Type} (v : Int32) (x : Option β) : Option β := if v = 0 ∨ v = 1 then x else none
theorem zb_some {β : Type} {v : Int32} {x : Option β} {o : β} (h : zb v x = some o) : narrow .boolean (.int v) = .int v ∧ x = some o := by
  unfold zb at h
  by_cases c : v = 0 ∨ v = 1
  · rw [if_pos c] at h; refine ⟨?_, h⟩; rcases c with rfl | rfl <;> rfl
  · rw [if_neg c] at h; cases h
def cpk {β : Type} (sp dp n : Int32) (n0 n1 : Nat) (x : Option β) : Option β := if sp < 0 ∨ dp < 0 ∨ n < 0 ∨ ¬ (sp.toNatClampNeg + n.toNatClampNeg ≤ n0) ∨ ¬ (dp.toNatClampNeg + n.toNatClampNeg ≤ n1) then none else x
theorem cpk_some {β : Type} {sp dp n : Int32} {n0 n1 : Nat} {x : Option β} {o : β} (h : cpk sp dp n n0 n1 x = some o) : ¬ sp < 0 ∧ ¬ dp < 0 ∧ ¬ n < 0 ∧ sp.toNatClampNeg + n.toNatClampNeg ≤ n0 ∧ dp.toNatClampNeg + n.toNatClampNeg ≤ n1 ∧ x = some o := by
  unfold cpk at h
  by_cases c : sp < 0 ∨ dp < 0 ∨ n < 0 ∨ ¬ (sp.toNatClampNeg + n.toNatClampNeg ≤ n0) ∨ ¬ (dp.toNatClampNeg + n.toNatClampNeg ≤ n1)
  · rw [if_pos c] at h; cases h
  · rw [if_neg c] at h
    simp only [not_or, Decidable.not_not] at c
    exact ⟨c.1, c.2.1, c.2.2.1, c.2.2.2.1, c.2.2.2.2, h⟩
theorem bd_some {α β : Type} {x : Option α} {f : α → Option β} {o : β} (h : x.bind f = some o) : ∃ a, x = some a ∧ f a = some o := Option.bind_eq_some_iff.mp h
theorem bd_all {α β : Type} {x : Option α} {f : α → Option β} {o : β} (h : x.bind f = some o) : ∃ a, x = some a ∧ ∀ st, a = st → f st = some o := by
  obtain ⟨a, h1, h2⟩ := bd_some h
  exact ⟨a, h1, fun st e => e ▸ h2⟩
theorem bds_all {α β : Type} {x : Option (β ⊕ α)} {f : α → Option β} {o : β} (h : x.bind (Sum.elim some f) = some o) : ∃ a, x = some a ∧ (∀ r, a = .inl r → r = o) ∧ ∀ st, a = .inr st → f st = some o := by
  obtain ⟨a, h1, h2⟩ := bd_some h
  exact ⟨a, h1, fun r e => by subst e; exact Option.some.inj h2, fun st e => by subst e; exact h2⟩
/-- a loop: S says one round by what is left -/
def lp {α τ : Type} (S : (α → Option τ) → α → Option τ) : Nat → α → Option τ
  | 0, _ => none
  | n + 1, a => S (lp S n) a
theorem lp_no {α τ : Type} {S : (α → Option τ) → α → Option τ} {a : α} {o : τ} (h : lp S 0 a = some o) : False := by cases h
theorem ne_toIntk {x : Int32} (k : Int32) (z : Int) (hz : k.toInt = z) (h : ¬ x = k) : x.toInt ≠ z := fun e => h (Int32.toInt_inj.mp (by rw [e, hz]))
theorem ret_i {v r : Int32} (h : some v = some r) : v = r := Option.some.inj h
section ROWS
variable {p : Program} {l : Launch} {e : Env} {R : Room} {s : State} {m : MethodId} {args : Array Value} {below : List Frame} {meth : Method} {c : Code} {H : Heap} {locs : List Loc} {cells slots : Nat} {Q : State → Prop}
variable {cc : ByteArray} {pc nL idx : Nat} {ls : Array Slot} {rest : List Value} {D : va_G} {cA : ClassId} {A : Nat → Prop} {H0 : Heap} {own : String} {ad : Nat → Nat} {si : Nat → Int32} {sa : Nat → Nat → Int32}
theorem gX0_0 (C0 : Cx p s m args c own cc nL D cA) (hP : va_P D vwCl (WX cA ad si sa) H) (hl : .fieldLink own idx "FloorType" "sheets" "LFloorType$Sheets;" ∈ lw_gd) (hdg : decode cc pc = .ok (.getfield idx, 3)) (k : W p l e R s m args below meth c H locs cells slots Q (F0 m (pc + 3) ls (.ref (ad 1) :: rest))) : W p l e R s m args below meth c H locs cells slots Q (F0 m pc ls (.ref (ad 0) :: rest)) := by
  exact va_get (D := D) (ci := 5) (C := RX5) (T := TX5) (N := 8) C0.1 C0.2.1 C0.2.2.2.2.1 wsIn5 C0.2.2.2.1 C0.2.2.2.2.2.1 hP 0 rfl rfl 0 (by decide) (C0.2.2.2.2.1 _ hl) (fun _ h9 => h9) rfl hdg k
theorem gX0_1 (C0 : Cx p s m args c own cc nL D cA) (hP : va_P D vwCl (WX cA ad si sa) H) (hl : .fieldLink own idx "FloorType" "page" "LFloorType$Page;" ∈ lw_gd) (hdg : decode cc pc = .ok (.getfield idx, 3)) (k : W p l e R s m args below meth c H locs cells slots Q (F0 m (pc + 3) ls (.ref (ad 2) :: rest))) : W p l e R s m args below meth c H locs cells slots Q (F0 m pc ls (.ref (ad 0) :: rest)) := by
  exact va_get (D := D) (ci := 5) (C := RX5) (T := TX5) (N := 8) C0.1 C0.2.1 C0.2.2.2.2.1 wsIn5 C0.2.2.2.1 C0.2.2.2.2.2.1 hP 0 rfl rfl 1 (by decide) (C0.2.2.2.2.1 _ hl) (fun _ h9 => h9) rfl hdg k
theorem gX0_2 (C0 : Cx p s m args c own cc nL D cA) (hP : va_P D vwCl (WX cA ad si sa) H) (hl : .fieldLink own idx "FloorType" "text" "LFloorType$Text;" ∈ lw_gd) (hdg : decode cc pc = .ok (.getfield idx, 3)) (k : W p l e R s m args below meth c H locs cells slots Q (F0 m (pc + 3) ls (.ref (ad 3) :: rest))) : W p l e R s m args below meth c H locs cells slots Q (F0 m pc ls (.ref (ad 0) :: rest)) := by
  exact va_get (D := D) (ci := 5) (C := RX5) (T := TX5) (N := 8) C0.1 C0.2.1 C0.2.2.2.2.1 wsIn5 C0.2.2.2.1 C0.2.2.2.2.2.1 hP 0 rfl rfl 2 (by decide) (C0.2.2.2.2.1 _ hl) (fun _ h9 => h9) rfl hdg k
theorem gX0_3 (C0 : Cx p s m args c own cc nL D cA) (hP : va_P D vwCl (WX cA ad si sa) H) (hl : .fieldLink own idx "FloorType" "walk" "LFloorType$Walk;" ∈ lw_gd) (hdg : decode cc pc = .ok (.getfield idx, 3)) (k : W p l e R s m args below meth c H locs cells slots Q (F0 m (pc + 3) ls (.ref (ad 4) :: rest))) : W p l e R s m args below meth c H locs cells slots Q (F0 m pc ls (.ref (ad 0) :: rest)) := by
  exact va_get (D := D) (ci := 5) (C := RX5) (T := TX5) (N := 8) C0.1 C0.2.1 C0.2.2.2.2.1 wsIn5 C0.2.2.2.1 C0.2.2.2.2.2.1 hP 0 rfl rfl 3 (by decide) (C0.2.2.2.2.1 _ hl) (fun _ h9 => h9) rfl hdg k
theorem gX0_4 (C0 : Cx p s m args c own cc nL D cA) (hP : va_P D vwCl (WX cA ad si sa) H) (hl : .fieldLink own idx "FloorType" "search" "LFloorType$Search;" ∈ lw_gd) (hdg : decode cc pc = .ok (.getfield idx, 3)) (k : W p l e R s m args below meth c H locs cells slots Q (F0 m (pc + 3) ls (.ref (ad 5) :: rest))) : W p l e R s m args below meth c H locs cells slots Q (F0 m pc ls (.ref (ad 0) :: rest)) := by
  exact va_get (D := D) (ci := 5) (C := RX5) (T := TX5) (N := 8) C0.1 C0.2.1 C0.2.2.2.2.1 wsIn5 C0.2.2.2.1 C0.2.2.2.2.2.1 hP 0 rfl rfl 4 (by decide) (C0.2.2.2.2.1 _ hl) (fun _ h9 => h9) rfl hdg k
theorem gX0_5 (C0 : Cx p s m args c own cc nL D cA) (hP : va_P D vwCl (WX cA ad si sa) H) (hl : .fieldLink own idx "FloorType" "row" "[I" ∈ lw_gd) (hdg : decode cc pc = .ok (.getfield idx, 3)) (k : W p l e R s m args below meth c H locs cells slots Q (F0 m (pc + 3) ls (.ref (ad 6) :: rest))) : W p l e R s m args below meth c H locs cells slots Q (F0 m pc ls (.ref (ad 0) :: rest)) := by
  exact va_get (D := D) (ci := 5) (C := RX5) (T := TX5) (N := 8) C0.1 C0.2.1 C0.2.2.2.2.1 wsIn5 C0.2.2.2.1 C0.2.2.2.2.2.1 hP 0 rfl rfl 5 (by decide) (C0.2.2.2.2.1 _ hl) (fun _ h9 => h9) rfl hdg k
theorem gX0_6 (C0 : Cx p s m args c own cc nL D cA) (hP : va_P D vwCl (WX cA ad si sa) H) {v : Int32} (hv : si 0 = v) (hl : .fieldLink own idx "FloorType" "trace" "I" ∈ lw_gd) (hdg : decode cc pc = .ok (.getfield idx, 3)) (k : W p l e R s m args below meth c H locs cells slots Q (F0 m (pc + 3) ls (.int v :: rest))) : W p l e R s m args below meth c H locs cells slots Q (F0 m pc ls (.ref (ad 0) :: rest)) := by
  subst hv; exact va_get (D := D) (ci := 5) (C := RX5) (T := TX5) (N := 8) C0.1 C0.2.1 C0.2.2.2.2.1 wsIn5 C0.2.2.2.1 C0.2.2.2.2.2.1 hP 0 rfl rfl 6 (by decide) (C0.2.2.2.2.1 _ hl) (fun _ h9 => h9) rfl hdg k
theorem pX0_6 {v : Int32} (C0 : Cx p s m args c own cc nL D cA) (hP : va_P D vwCl (WX cA ad si sa) H) (hD : va_D A (WX cA ad si sa)) (hS : va_S A H0 H locs) (hl : .fieldLink own idx "FloorType" "trace" "I" ∈ lw_gd) (hdg : decode cc pc = .ok (.putfield idx, 3)) (k : ∀ (H1 : Heap) (locs1 : List Loc), va_P D vwCl (WX cA ad (upd si 0 v) sa) H1 → va_D A (WX cA ad (upd si 0 v) sa) → va_S A H0 H1 locs1 → W p l e R s m args below meth c H1 locs1 cells slots Q (F0 m (pc + 3) ls rest)) : W p l e R s m args below meth c H locs cells slots Q (F0 m pc ls (.int v :: .ref (ad 0) :: rest)) :=
  va_put (D := D) (ci := 5) (ty := .int) (C := RX5) (T := TX5) (N := 8) C0.1 C0.2.1 C0.2.2.2.2.1 wsIn5 tyX5 tyX5_ok nmX5 C0.2.2.2.1 C0.2.2.2.2.2.1 hP hD hS 0 rfl rfl 6 (by decide) (C0.2.2.2.2.1 _ hl) (fun _ h9 => h9) rfl (by decide +kernel) rfl rfl (Nat.le_of_ble_eq_true rfl) hdg k
theorem gX0_7 (C0 : Cx p s m args c own cc nL D cA) (hP : va_P D vwCl (WX cA ad si sa) H) {v : Int32} (hv : si 1 = v) (hl : .fieldLink own idx "FloorType" "fault" "I" ∈ lw_gd) (hdg : decode cc pc = .ok (.getfield idx, 3)) (k : W p l e R s m args below meth c H locs cells slots Q (F0 m (pc + 3) ls (.int v :: rest))) : W p l e R s m args below meth c H locs cells slots Q (F0 m pc ls (.ref (ad 0) :: rest)) := by
  subst hv; exact va_get (D := D) (ci := 5) (C := RX5) (T := TX5) (N := 8) C0.1 C0.2.1 C0.2.2.2.2.1 wsIn5 C0.2.2.2.1 C0.2.2.2.2.2.1 hP 0 rfl rfl 7 (by decide) (C0.2.2.2.2.1 _ hl) (fun _ h9 => h9) rfl hdg k
theorem pX0_7 {v : Int32} (C0 : Cx p s m args c own cc nL D cA) (hP : va_P D vwCl (WX cA ad si sa) H) (hD : va_D A (WX cA ad si sa)) (hS : va_S A H0 H locs) (hl : .fieldLink own idx "FloorType" "fault" "I" ∈ lw_gd) (hdg : decode cc pc = .ok (.putfield idx, 3)) (k : ∀ (H1 : Heap) (locs1 : List Loc), va_P D vwCl (WX cA ad (upd si 1 v) sa) H1 → va_D A (WX cA ad (upd si 1 v) sa) → va_S A H0 H1 locs1 → W p l e R s m args below meth c H1 locs1 cells slots Q (F0 m (pc + 3) ls rest)) : W p l e R s m args below meth c H locs cells slots Q (F0 m pc ls (.int v :: .ref (ad 0) :: rest)) :=
  va_put (D := D) (ci := 5) (ty := .int) (C := RX5) (T := TX5) (N := 8) C0.1 C0.2.1 C0.2.2.2.2.1 wsIn5 tyX5 tyX5_ok nmX5 C0.2.2.2.1 C0.2.2.2.2.2.1 hP hD hS 0 rfl rfl 7 (by decide) (C0.2.2.2.2.1 _ hl) (fun _ h9 => h9) rfl (by decide +kernel) rfl rfl (Nat.le_of_ble_eq_true rfl) hdg k
theorem gX1_0 (C0 : Cx p s m args c own cc nL D cA) (hP : va_P D vwCl (WX cA ad si sa) H) (hl : .fieldLink own idx "FloorType$Sheets" "cells" "[I" ∈ lw_gd) (hdg : decode cc pc = .ok (.getfield idx, 3)) (k : W p l e R s m args below meth c H locs cells slots Q (F0 m (pc + 3) ls (.ref (ad 7) :: rest))) : W p l e R s m args below meth c H locs cells slots Q (F0 m pc ls (.ref (ad 1) :: rest)) := by
  exact va_get (D := D) (ci := 2) (C := RX2) (T := TX2) (N := 3) C0.1 C0.2.1 C0.2.2.2.2.1 wsIn2 C0.2.2.2.1 C0.2.2.2.2.2.1 hP 1 rfl rfl 0 (by decide) (C0.2.2.2.2.1 _ hl) (fun _ h9 => h9) rfl hdg k
theorem gX1_1 (C0 : Cx p s m args c own cc nL D cA) (hP : va_P D vwCl (WX cA ad si sa) H) (hl : .fieldLink own idx "FloorType$Sheets" "lanes" "[I" ∈ lw_gd) (hdg : decode cc pc = .ok (.getfield idx, 3)) (k : W p l e R s m args below meth c H locs cells slots Q (F0 m (pc + 3) ls (.ref (ad 8) :: rest))) : W p l e R s m args below meth c H locs cells slots Q (F0 m pc ls (.ref (ad 1) :: rest)) := by
  exact va_get (D := D) (ci := 2) (C := RX2) (T := TX2) (N := 3) C0.1 C0.2.1 C0.2.2.2.2.1 wsIn2 C0.2.2.2.1 C0.2.2.2.2.2.1 hP 1 rfl rfl 1 (by decide) (C0.2.2.2.2.1 _ hl) (fun _ h9 => h9) rfl hdg k
theorem gX1_2 (C0 : Cx p s m args c own cc nL D cA) (hP : va_P D vwCl (WX cA ad si sa) H) (hl : .fieldLink own idx "FloorType$Sheets" "sizes" "[I" ∈ lw_gd) (hdg : decode cc pc = .ok (.getfield idx, 3)) (k : W p l e R s m args below meth c H locs cells slots Q (F0 m (pc + 3) ls (.ref (ad 9) :: rest))) : W p l e R s m args below meth c H locs cells slots Q (F0 m pc ls (.ref (ad 1) :: rest)) := by
  exact va_get (D := D) (ci := 2) (C := RX2) (T := TX2) (N := 3) C0.1 C0.2.1 C0.2.2.2.2.1 wsIn2 C0.2.2.2.1 C0.2.2.2.2.2.1 hP 1 rfl rfl 2 (by decide) (C0.2.2.2.2.1 _ hl) (fun _ h9 => h9) rfl hdg k
theorem gX2_0 (C0 : Cx p s m args c own cc nL D cA) (hP : va_P D vwCl (WX cA ad si sa) H) {v : Int32} (hv : si 2 = v) (hl : .fieldLink own idx "FloorType$Page" "sorts" "I" ∈ lw_gd) (hdg : decode cc pc = .ok (.getfield idx, 3)) (k : W p l e R s m args below meth c H locs cells slots Q (F0 m (pc + 3) ls (.int v :: rest))) : W p l e R s m args below meth c H locs cells slots Q (F0 m pc ls (.ref (ad 2) :: rest)) := by
  subst hv; exact va_get (D := D) (ci := 0) (C := RX0) (T := TX0) (N := 10) C0.1 C0.2.1 C0.2.2.2.2.1 wsIn0 C0.2.2.2.1 C0.2.2.2.2.2.1 hP 2 rfl rfl 0 (by decide) (C0.2.2.2.2.1 _ hl) (fun _ h9 => h9) rfl hdg k
theorem pX2_0 {v : Int32} (C0 : Cx p s m args c own cc nL D cA) (hP : va_P D vwCl (WX cA ad si sa) H) (hD : va_D A (WX cA ad si sa)) (hS : va_S A H0 H locs) (hl : .fieldLink own idx "FloorType$Page" "sorts" "I" ∈ lw_gd) (hdg : decode cc pc = .ok (.putfield idx, 3)) (k : ∀ (H1 : Heap) (locs1 : List Loc), va_P D vwCl (WX cA ad (upd si 2 v) sa) H1 → va_D A (WX cA ad (upd si 2 v) sa) → va_S A H0 H1 locs1 → W p l e R s m args below meth c H1 locs1 cells slots Q (F0 m (pc + 3) ls rest)) : W p l e R s m args below meth c H locs cells slots Q (F0 m pc ls (.int v :: .ref (ad 2) :: rest)) :=
  va_put (D := D) (ci := 0) (ty := .int) (C := RX0) (T := TX0) (N := 10) C0.1 C0.2.1 C0.2.2.2.2.1 wsIn0 tyX0 tyX0_ok nmX0 C0.2.2.2.1 C0.2.2.2.2.2.1 hP hD hS 2 rfl rfl 0 (by decide) (C0.2.2.2.2.1 _ hl) (fun _ h9 => h9) rfl (by decide +kernel) rfl rfl (Nat.le_of_ble_eq_true rfl) hdg k
theorem gX2_1 (C0 : Cx p s m args c own cc nL D cA) (hP : va_P D vwCl (WX cA ad si sa) H) {v : Int32} (hv : si 3 = v) (hl : .fieldLink own idx "FloorType$Page" "signs" "I" ∈ lw_gd) (hdg : decode cc pc = .ok (.getfield idx, 3)) (k : W p l e R s m args below meth c H locs cells slots Q (F0 m (pc + 3) ls (.int v :: rest))) : W p l e R s m args below meth c H locs cells slots Q (F0 m pc ls (.ref (ad 2) :: rest)) := by
  subst hv; exact va_get (D := D) (ci := 0) (C := RX0) (T := TX0) (N := 10) C0.1 C0.2.1 C0.2.2.2.2.1 wsIn0 C0.2.2.2.1 C0.2.2.2.2.2.1 hP 2 rfl rfl 1 (by decide) (C0.2.2.2.2.1 _ hl) (fun _ h9 => h9) rfl hdg k
theorem pX2_1 {v : Int32} (C0 : Cx p s m args c own cc nL D cA) (hP : va_P D vwCl (WX cA ad si sa) H) (hD : va_D A (WX cA ad si sa)) (hS : va_S A H0 H locs) (hl : .fieldLink own idx "FloorType$Page" "signs" "I" ∈ lw_gd) (hdg : decode cc pc = .ok (.putfield idx, 3)) (k : ∀ (H1 : Heap) (locs1 : List Loc), va_P D vwCl (WX cA ad (upd si 3 v) sa) H1 → va_D A (WX cA ad (upd si 3 v) sa) → va_S A H0 H1 locs1 → W p l e R s m args below meth c H1 locs1 cells slots Q (F0 m (pc + 3) ls rest)) : W p l e R s m args below meth c H locs cells slots Q (F0 m pc ls (.int v :: .ref (ad 2) :: rest)) :=
  va_put (D := D) (ci := 0) (ty := .int) (C := RX0) (T := TX0) (N := 10) C0.1 C0.2.1 C0.2.2.2.2.1 wsIn0 tyX0 tyX0_ok nmX0 C0.2.2.2.1 C0.2.2.2.2.2.1 hP hD hS 2 rfl rfl 1 (by decide) (C0.2.2.2.2.1 _ hl) (fun _ h9 => h9) rfl (by decide +kernel) rfl rfl (Nat.le_of_ble_eq_true rfl) hdg k
theorem gX2_2 (C0 : Cx p s m args c own cc nL D cA) (hP : va_P D vwCl (WX cA ad si sa) H) {v : Int32} (hv : si 4 = v) (hl : .fieldLink own idx "FloorType$Page" "readings" "I" ∈ lw_gd) (hdg : decode cc pc = .ok (.getfield idx, 3)) (k : W p l e R s m args below meth c H locs cells slots Q (F0 m (pc + 3) ls (.int v :: rest))) : W p l e R s m args below meth c H locs cells slots Q (F0 m pc ls (.ref (ad 2) :: rest)) := by
  subst hv; exact va_get (D := D) (ci := 0) (C := RX0) (T := TX0) (N := 10) C0.1 C0.2.1 C0.2.2.2.2.1 wsIn0 C0.2.2.2.1 C0.2.2.2.2.2.1 hP 2 rfl rfl 2 (by decide) (C0.2.2.2.2.1 _ hl) (fun _ h9 => h9) rfl hdg k
theorem pX2_2 {v : Int32} (C0 : Cx p s m args c own cc nL D cA) (hP : va_P D vwCl (WX cA ad si sa) H) (hD : va_D A (WX cA ad si sa)) (hS : va_S A H0 H locs) (hl : .fieldLink own idx "FloorType$Page" "readings" "I" ∈ lw_gd) (hdg : decode cc pc = .ok (.putfield idx, 3)) (k : ∀ (H1 : Heap) (locs1 : List Loc), va_P D vwCl (WX cA ad (upd si 4 v) sa) H1 → va_D A (WX cA ad (upd si 4 v) sa) → va_S A H0 H1 locs1 → W p l e R s m args below meth c H1 locs1 cells slots Q (F0 m (pc + 3) ls rest)) : W p l e R s m args below meth c H locs cells slots Q (F0 m pc ls (.int v :: .ref (ad 2) :: rest)) :=
  va_put (D := D) (ci := 0) (ty := .int) (C := RX0) (T := TX0) (N := 10) C0.1 C0.2.1 C0.2.2.2.2.1 wsIn0 tyX0 tyX0_ok nmX0 C0.2.2.2.1 C0.2.2.2.2.2.1 hP hD hS 2 rfl rfl 2 (by decide) (C0.2.2.2.2.1 _ hl) (fun _ h9 => h9) rfl (by decide +kernel) rfl rfl (Nat.le_of_ble_eq_true rfl) hdg k
theorem gX2_3 (C0 : Cx p s m args c own cc nL D cA) (hP : va_P D vwCl (WX cA ad si sa) H) (hl : .fieldLink own idx "FloorType$Page" "kind" "[I" ∈ lw_gd) (hdg : decode cc pc = .ok (.getfield idx, 3)) (k : W p l e R s m args below meth c H locs cells slots Q (F0 m (pc + 3) ls (.ref (ad 10) :: rest))) : W p l e R s m args below meth c H locs cells slots Q (F0 m pc ls (.ref (ad 2) :: rest)) := by
  exact va_get (D := D) (ci := 0) (C := RX0) (T := TX0) (N := 10) C0.1 C0.2.1 C0.2.2.2.2.1 wsIn0 C0.2.2.2.1 C0.2.2.2.2.2.1 hP 2 rfl rfl 3 (by decide) (C0.2.2.2.2.1 _ hl) (fun _ h9 => h9) rfl hdg k
theorem gX2_4 (C0 : Cx p s m args c own cc nL D cA) (hP : va_P D vwCl (WX cA ad si sa) H) (hl : .fieldLink own idx "FloorType$Page" "count" "[I" ∈ lw_gd) (hdg : decode cc pc = .ok (.getfield idx, 3)) (k : W p l e R s m args below meth c H locs cells slots Q (F0 m (pc + 3) ls (.ref (ad 11) :: rest))) : W p l e R s m args below meth c H locs cells slots Q (F0 m pc ls (.ref (ad 2) :: rest)) := by
  exact va_get (D := D) (ci := 0) (C := RX0) (T := TX0) (N := 10) C0.1 C0.2.1 C0.2.2.2.2.1 wsIn0 C0.2.2.2.1 C0.2.2.2.2.2.1 hP 2 rfl rfl 4 (by decide) (C0.2.2.2.2.1 _ hl) (fun _ h9 => h9) rfl hdg k
theorem gX2_5 (C0 : Cx p s m args c own cc nL D cA) (hP : va_P D vwCl (WX cA ad si sa) H) (hl : .fieldLink own idx "FloorType$Page" "seconds" "[I" ∈ lw_gd) (hdg : decode cc pc = .ok (.getfield idx, 3)) (k : W p l e R s m args below meth c H locs cells slots Q (F0 m (pc + 3) ls (.ref (ad 12) :: rest))) : W p l e R s m args below meth c H locs cells slots Q (F0 m pc ls (.ref (ad 2) :: rest)) := by
  exact va_get (D := D) (ci := 0) (C := RX0) (T := TX0) (N := 10) C0.1 C0.2.1 C0.2.2.2.2.1 wsIn0 C0.2.2.2.1 C0.2.2.2.2.2.1 hP 2 rfl rfl 5 (by decide) (C0.2.2.2.2.1 _ hl) (fun _ h9 => h9) rfl hdg k
theorem gX2_6 (C0 : Cx p s m args c own cc nL D cA) (hP : va_P D vwCl (WX cA ad si sa) H) (hl : .fieldLink own idx "FloorType$Page" "alike" "[I" ∈ lw_gd) (hdg : decode cc pc = .ok (.getfield idx, 3)) (k : W p l e R s m args below meth c H locs cells slots Q (F0 m (pc + 3) ls (.ref (ad 13) :: rest))) : W p l e R s m args below meth c H locs cells slots Q (F0 m pc ls (.ref (ad 2) :: rest)) := by
  exact va_get (D := D) (ci := 0) (C := RX0) (T := TX0) (N := 10) C0.1 C0.2.1 C0.2.2.2.2.1 wsIn0 C0.2.2.2.1 C0.2.2.2.2.2.1 hP 2 rfl rfl 6 (by decide) (C0.2.2.2.2.1 _ hl) (fun _ h9 => h9) rfl hdg k
theorem gX2_7 (C0 : Cx p s m args c own cc nL D cA) (hP : va_P D vwCl (WX cA ad si sa) H) (hl : .fieldLink own idx "FloorType$Page" "having" "[I" ∈ lw_gd) (hdg : decode cc pc = .ok (.getfield idx, 3)) (k : W p l e R s m args below meth c H locs cells slots Q (F0 m (pc + 3) ls (.ref (ad 14) :: rest))) : W p l e R s m args below meth c H locs cells slots Q (F0 m pc ls (.ref (ad 2) :: rest)) := by
  exact va_get (D := D) (ci := 0) (C := RX0) (T := TX0) (N := 10) C0.1 C0.2.1 C0.2.2.2.2.1 wsIn0 C0.2.2.2.1 C0.2.2.2.2.2.1 hP 2 rfl rfl 7 (by decide) (C0.2.2.2.2.1 _ hl) (fun _ h9 => h9) rfl hdg k
theorem gX2_8 (C0 : Cx p s m args c own cc nL D cA) (hP : va_P D vwCl (WX cA ad si sa) H) (hl : .fieldLink own idx "FloorType$Page" "setRead" "[I" ∈ lw_gd) (hdg : decode cc pc = .ok (.getfield idx, 3)) (k : W p l e R s m args below meth c H locs cells slots Q (F0 m (pc + 3) ls (.ref (ad 15) :: rest))) : W p l e R s m args below meth c H locs cells slots Q (F0 m pc ls (.ref (ad 2) :: rest)) := by
  exact va_get (D := D) (ci := 0) (C := RX0) (T := TX0) (N := 10) C0.1 C0.2.1 C0.2.2.2.2.1 wsIn0 C0.2.2.2.1 C0.2.2.2.2.2.1 hP 2 rfl rfl 8 (by decide) (C0.2.2.2.2.1 _ hl) (fun _ h9 => h9) rfl hdg k
theorem gX2_9 (C0 : Cx p s m args c own cc nL D cA) (hP : va_P D vwCl (WX cA ad si sa) H) (hl : .fieldLink own idx "FloorType$Page" "timeRead" "[I" ∈ lw_gd) (hdg : decode cc pc = .ok (.getfield idx, 3)) (k : W p l e R s m args below meth c H locs cells slots Q (F0 m (pc + 3) ls (.ref (ad 16) :: rest))) : W p l e R s m args below meth c H locs cells slots Q (F0 m pc ls (.ref (ad 2) :: rest)) := by
  exact va_get (D := D) (ci := 0) (C := RX0) (T := TX0) (N := 10) C0.1 C0.2.1 C0.2.2.2.2.1 wsIn0 C0.2.2.2.1 C0.2.2.2.2.2.1 hP 2 rfl rfl 9 (by decide) (C0.2.2.2.2.1 _ hl) (fun _ h9 => h9) rfl hdg k
theorem gX3_0 (C0 : Cx p s m args c own cc nL D cA) (hP : va_P D vwCl (WX cA ad si sa) H) (hl : .fieldLink own idx "FloorType$Text" "codes" "[I" ∈ lw_gd) (hdg : decode cc pc = .ok (.getfield idx, 3)) (k : W p l e R s m args below meth c H locs cells slots Q (F0 m (pc + 3) ls (.ref (ad 17) :: rest))) : W p l e R s m args below meth c H locs cells slots Q (F0 m pc ls (.ref (ad 3) :: rest)) := by
  exact va_get (D := D) (ci := 3) (C := RX3) (T := TX3) (N := 5) C0.1 C0.2.1 C0.2.2.2.2.1 wsIn3 C0.2.2.2.1 C0.2.2.2.2.2.1 hP 3 rfl rfl 0 (by decide) (C0.2.2.2.2.1 _ hl) (fun _ h9 => h9) rfl hdg k
theorem gX3_1 (C0 : Cx p s m args c own cc nL D cA) (hP : va_P D vwCl (WX cA ad si sa) H) {v : Int32} (hv : si 5 = v) (hl : .fieldLink own idx "FloorType$Text" "length" "I" ∈ lw_gd) (hdg : decode cc pc = .ok (.getfield idx, 3)) (k : W p l e R s m args below meth c H locs cells slots Q (F0 m (pc + 3) ls (.int v :: rest))) : W p l e R s m args below meth c H locs cells slots Q (F0 m pc ls (.ref (ad 3) :: rest)) := by
  subst hv; exact va_get (D := D) (ci := 3) (C := RX3) (T := TX3) (N := 5) C0.1 C0.2.1 C0.2.2.2.2.1 wsIn3 C0.2.2.2.1 C0.2.2.2.2.2.1 hP 3 rfl rfl 1 (by decide) (C0.2.2.2.2.1 _ hl) (fun _ h9 => h9) rfl hdg k
theorem pX3_1 {v : Int32} (C0 : Cx p s m args c own cc nL D cA) (hP : va_P D vwCl (WX cA ad si sa) H) (hD : va_D A (WX cA ad si sa)) (hS : va_S A H0 H locs) (hl : .fieldLink own idx "FloorType$Text" "length" "I" ∈ lw_gd) (hdg : decode cc pc = .ok (.putfield idx, 3)) (k : ∀ (H1 : Heap) (locs1 : List Loc), va_P D vwCl (WX cA ad (upd si 5 v) sa) H1 → va_D A (WX cA ad (upd si 5 v) sa) → va_S A H0 H1 locs1 → W p l e R s m args below meth c H1 locs1 cells slots Q (F0 m (pc + 3) ls rest)) : W p l e R s m args below meth c H locs cells slots Q (F0 m pc ls (.int v :: .ref (ad 3) :: rest)) :=
  va_put (D := D) (ci := 3) (ty := .int) (C := RX3) (T := TX3) (N := 5) C0.1 C0.2.1 C0.2.2.2.2.1 wsIn3 tyX3 tyX3_ok nmX3 C0.2.2.2.1 C0.2.2.2.2.2.1 hP hD hS 3 rfl rfl 1 (by decide) (C0.2.2.2.2.1 _ hl) (fun _ h9 => h9) rfl (by decide +kernel) rfl rfl (Nat.le_of_ble_eq_true rfl) hdg k
theorem gX3_2 (C0 : Cx p s m args c own cc nL D cA) (hP : va_P D vwCl (WX cA ad si sa) H) {v : Int32} (hv : si 6 = v) (hl : .fieldLink own idx "FloorType$Text" "at" "I" ∈ lw_gd) (hdg : decode cc pc = .ok (.getfield idx, 3)) (k : W p l e R s m args below meth c H locs cells slots Q (F0 m (pc + 3) ls (.int v :: rest))) : W p l e R s m args below meth c H locs cells slots Q (F0 m pc ls (.ref (ad 3) :: rest)) := by
  subst hv; exact va_get (D := D) (ci := 3) (C := RX3) (T := TX3) (N := 5) C0.1 C0.2.1 C0.2.2.2.2.1 wsIn3 C0.2.2.2.1 C0.2.2.2.2.2.1 hP 3 rfl rfl 2 (by decide) (C0.2.2.2.2.1 _ hl) (fun _ h9 => h9) rfl hdg k
theorem pX3_2 {v : Int32} (C0 : Cx p s m args c own cc nL D cA) (hP : va_P D vwCl (WX cA ad si sa) H) (hD : va_D A (WX cA ad si sa)) (hS : va_S A H0 H locs) (hl : .fieldLink own idx "FloorType$Text" "at" "I" ∈ lw_gd) (hdg : decode cc pc = .ok (.putfield idx, 3)) (k : ∀ (H1 : Heap) (locs1 : List Loc), va_P D vwCl (WX cA ad (upd si 6 v) sa) H1 → va_D A (WX cA ad (upd si 6 v) sa) → va_S A H0 H1 locs1 → W p l e R s m args below meth c H1 locs1 cells slots Q (F0 m (pc + 3) ls rest)) : W p l e R s m args below meth c H locs cells slots Q (F0 m pc ls (.int v :: .ref (ad 3) :: rest)) :=
  va_put (D := D) (ci := 3) (ty := .int) (C := RX3) (T := TX3) (N := 5) C0.1 C0.2.1 C0.2.2.2.2.1 wsIn3 tyX3 tyX3_ok nmX3 C0.2.2.2.1 C0.2.2.2.2.2.1 hP hD hS 3 rfl rfl 2 (by decide) (C0.2.2.2.2.1 _ hl) (fun _ h9 => h9) rfl (by decide +kernel) rfl rfl (Nat.le_of_ble_eq_true rfl) hdg k
theorem gX3_3 (C0 : Cx p s m args c own cc nL D cA) (hP : va_P D vwCl (WX cA ad si sa) H) {v : Int32} (hv : si 7 = v) (hl : .fieldLink own idx "FloorType$Text" "sorts" "I" ∈ lw_gd) (hdg : decode cc pc = .ok (.getfield idx, 3)) (k : W p l e R s m args below meth c H locs cells slots Q (F0 m (pc + 3) ls (.int v :: rest))) : W p l e R s m args below meth c H locs cells slots Q (F0 m pc ls (.ref (ad 3) :: rest)) := by
  subst hv; exact va_get (D := D) (ci := 3) (C := RX3) (T := TX3) (N := 5) C0.1 C0.2.1 C0.2.2.2.2.1 wsIn3 C0.2.2.2.1 C0.2.2.2.2.2.1 hP 3 rfl rfl 3 (by decide) (C0.2.2.2.2.1 _ hl) (fun _ h9 => h9) rfl hdg k
theorem pX3_3 {v : Int32} (C0 : Cx p s m args c own cc nL D cA) (hP : va_P D vwCl (WX cA ad si sa) H) (hD : va_D A (WX cA ad si sa)) (hS : va_S A H0 H locs) (hl : .fieldLink own idx "FloorType$Text" "sorts" "I" ∈ lw_gd) (hdg : decode cc pc = .ok (.putfield idx, 3)) (k : ∀ (H1 : Heap) (locs1 : List Loc), va_P D vwCl (WX cA ad (upd si 7 v) sa) H1 → va_D A (WX cA ad (upd si 7 v) sa) → va_S A H0 H1 locs1 → W p l e R s m args below meth c H1 locs1 cells slots Q (F0 m (pc + 3) ls rest)) : W p l e R s m args below meth c H locs cells slots Q (F0 m pc ls (.int v :: .ref (ad 3) :: rest)) :=
  va_put (D := D) (ci := 3) (ty := .int) (C := RX3) (T := TX3) (N := 5) C0.1 C0.2.1 C0.2.2.2.2.1 wsIn3 tyX3 tyX3_ok nmX3 C0.2.2.2.1 C0.2.2.2.2.2.1 hP hD hS 3 rfl rfl 3 (by decide) (C0.2.2.2.2.1 _ hl) (fun _ h9 => h9) rfl (by decide +kernel) rfl rfl (Nat.le_of_ble_eq_true rfl) hdg k
theorem gX3_4 (C0 : Cx p s m args c own cc nL D cA) (hP : va_P D vwCl (WX cA ad si sa) H) {v : Int32} (hv : si 8 = v) (hl : .fieldLink own idx "FloorType$Text" "signs" "I" ∈ lw_gd) (hdg : decode cc pc = .ok (.getfield idx, 3)) (k : W p l e R s m args below meth c H locs cells slots Q (F0 m (pc + 3) ls (.int v :: rest))) : W p l e R s m args below meth c H locs cells slots Q (F0 m pc ls (.ref (ad 3) :: rest)) := by
  subst hv; exact va_get (D := D) (ci := 3) (C := RX3) (T := TX3) (N := 5) C0.1 C0.2.1 C0.2.2.2.2.1 wsIn3 C0.2.2.2.1 C0.2.2.2.2.2.1 hP 3 rfl rfl 4 (by decide) (C0.2.2.2.2.1 _ hl) (fun _ h9 => h9) rfl hdg k
theorem pX3_4 {v : Int32} (C0 : Cx p s m args c own cc nL D cA) (hP : va_P D vwCl (WX cA ad si sa) H) (hD : va_D A (WX cA ad si sa)) (hS : va_S A H0 H locs) (hl : .fieldLink own idx "FloorType$Text" "signs" "I" ∈ lw_gd) (hdg : decode cc pc = .ok (.putfield idx, 3)) (k : ∀ (H1 : Heap) (locs1 : List Loc), va_P D vwCl (WX cA ad (upd si 8 v) sa) H1 → va_D A (WX cA ad (upd si 8 v) sa) → va_S A H0 H1 locs1 → W p l e R s m args below meth c H1 locs1 cells slots Q (F0 m (pc + 3) ls rest)) : W p l e R s m args below meth c H locs cells slots Q (F0 m pc ls (.int v :: .ref (ad 3) :: rest)) :=
  va_put (D := D) (ci := 3) (ty := .int) (C := RX3) (T := TX3) (N := 5) C0.1 C0.2.1 C0.2.2.2.2.1 wsIn3 tyX3 tyX3_ok nmX3 C0.2.2.2.1 C0.2.2.2.2.2.1 hP hD hS 3 rfl rfl 4 (by decide) (C0.2.2.2.2.1 _ hl) (fun _ h9 => h9) rfl (by decide +kernel) rfl rfl (Nat.le_of_ble_eq_true rfl) hdg k
theorem gX4_0 (C0 : Cx p s m args c own cc nL D cA) (hP : va_P D vwCl (WX cA ad si sa) H) {v : Int32} (hv : si 9 = v) (hl : .fieldLink own idx "FloorType$Walk" "seconds" "I" ∈ lw_gd) (hdg : decode cc pc = .ok (.getfield idx, 3)) (k : W p l e R s m args below meth c H locs cells slots Q (F0 m (pc + 3) ls (.int v :: rest))) : W p l e R s m args below meth c H locs cells slots Q (F0 m pc ls (.ref (ad 4) :: rest)) := by
  subst hv; exact va_get (D := D) (ci := 4) (C := RX4) (T := TX4) (N := 4) C0.1 C0.2.1 C0.2.2.2.2.1 wsIn4 C0.2.2.2.1 C0.2.2.2.2.2.1 hP 4 rfl rfl 0 (by decide) (C0.2.2.2.2.1 _ hl) (fun _ h9 => h9) rfl hdg k
theorem pX4_0 {v : Int32} (C0 : Cx p s m args c own cc nL D cA) (hP : va_P D vwCl (WX cA ad si sa) H) (hD : va_D A (WX cA ad si sa)) (hS : va_S A H0 H locs) (hl : .fieldLink own idx "FloorType$Walk" "seconds" "I" ∈ lw_gd) (hdg : decode cc pc = .ok (.putfield idx, 3)) (k : ∀ (H1 : Heap) (locs1 : List Loc), va_P D vwCl (WX cA ad (upd si 9 v) sa) H1 → va_D A (WX cA ad (upd si 9 v) sa) → va_S A H0 H1 locs1 → W p l e R s m args below meth c H1 locs1 cells slots Q (F0 m (pc + 3) ls rest)) : W p l e R s m args below meth c H locs cells slots Q (F0 m pc ls (.int v :: .ref (ad 4) :: rest)) :=
  va_put (D := D) (ci := 4) (ty := .int) (C := RX4) (T := TX4) (N := 4) C0.1 C0.2.1 C0.2.2.2.2.1 wsIn4 tyX4 tyX4_ok nmX4 C0.2.2.2.1 C0.2.2.2.2.2.1 hP hD hS 4 rfl rfl 0 (by decide) (C0.2.2.2.2.1 _ hl) (fun _ h9 => h9) rfl (by decide +kernel) rfl rfl (Nat.le_of_ble_eq_true rfl) hdg k
theorem gX4_1 (C0 : Cx p s m args c own cc nL D cA) (hP : va_P D vwCl (WX cA ad si sa) H) {v : Int32} (hv : si 10 = v) (hl : .fieldLink own idx "FloorType$Walk" "idle" "I" ∈ lw_gd) (hdg : decode cc pc = .ok (.getfield idx, 3)) (k : W p l e R s m args below meth c H locs cells slots Q (F0 m (pc + 3) ls (.int v :: rest))) : W p l e R s m args below meth c H locs cells slots Q (F0 m pc ls (.ref (ad 4) :: rest)) := by
  subst hv; exact va_get (D := D) (ci := 4) (C := RX4) (T := TX4) (N := 4) C0.1 C0.2.1 C0.2.2.2.2.1 wsIn4 C0.2.2.2.1 C0.2.2.2.2.2.1 hP 4 rfl rfl 1 (by decide) (C0.2.2.2.2.1 _ hl) (fun _ h9 => h9) rfl hdg k
theorem pX4_1 {v : Int32} (C0 : Cx p s m args c own cc nL D cA) (hP : va_P D vwCl (WX cA ad si sa) H) (hD : va_D A (WX cA ad si sa)) (hS : va_S A H0 H locs) (hl : .fieldLink own idx "FloorType$Walk" "idle" "I" ∈ lw_gd) (hdg : decode cc pc = .ok (.putfield idx, 3)) (k : ∀ (H1 : Heap) (locs1 : List Loc), va_P D vwCl (WX cA ad (upd si 10 v) sa) H1 → va_D A (WX cA ad (upd si 10 v) sa) → va_S A H0 H1 locs1 → W p l e R s m args below meth c H1 locs1 cells slots Q (F0 m (pc + 3) ls rest)) : W p l e R s m args below meth c H locs cells slots Q (F0 m pc ls (.int v :: .ref (ad 4) :: rest)) :=
  va_put (D := D) (ci := 4) (ty := .int) (C := RX4) (T := TX4) (N := 4) C0.1 C0.2.1 C0.2.2.2.2.1 wsIn4 tyX4 tyX4_ok nmX4 C0.2.2.2.1 C0.2.2.2.2.2.1 hP hD hS 4 rfl rfl 1 (by decide) (C0.2.2.2.2.1 _ hl) (fun _ h9 => h9) rfl (by decide +kernel) rfl rfl (Nat.le_of_ble_eq_true rfl) hdg k
theorem gX4_2 (C0 : Cx p s m args c own cc nL D cA) (hP : va_P D vwCl (WX cA ad si sa) H) {v : Int32} (hv : si 11 = v) (hl : .fieldLink own idx "FloorType$Walk" "used" "I" ∈ lw_gd) (hdg : decode cc pc = .ok (.getfield idx, 3)) (k : W p l e R s m args below meth c H locs cells slots Q (F0 m (pc + 3) ls (.int v :: rest))) : W p l e R s m args below meth c H locs cells slots Q (F0 m pc ls (.ref (ad 4) :: rest)) := by
  subst hv; exact va_get (D := D) (ci := 4) (C := RX4) (T := TX4) (N := 4) C0.1 C0.2.1 C0.2.2.2.2.1 wsIn4 C0.2.2.2.1 C0.2.2.2.2.2.1 hP 4 rfl rfl 2 (by decide) (C0.2.2.2.2.1 _ hl) (fun _ h9 => h9) rfl hdg k
theorem pX4_2 {v : Int32} (C0 : Cx p s m args c own cc nL D cA) (hP : va_P D vwCl (WX cA ad si sa) H) (hD : va_D A (WX cA ad si sa)) (hS : va_S A H0 H locs) (hl : .fieldLink own idx "FloorType$Walk" "used" "I" ∈ lw_gd) (hdg : decode cc pc = .ok (.putfield idx, 3)) (k : ∀ (H1 : Heap) (locs1 : List Loc), va_P D vwCl (WX cA ad (upd si 11 v) sa) H1 → va_D A (WX cA ad (upd si 11 v) sa) → va_S A H0 H1 locs1 → W p l e R s m args below meth c H1 locs1 cells slots Q (F0 m (pc + 3) ls rest)) : W p l e R s m args below meth c H locs cells slots Q (F0 m pc ls (.int v :: .ref (ad 4) :: rest)) :=
  va_put (D := D) (ci := 4) (ty := .int) (C := RX4) (T := TX4) (N := 4) C0.1 C0.2.1 C0.2.2.2.2.1 wsIn4 tyX4 tyX4_ok nmX4 C0.2.2.2.1 C0.2.2.2.2.2.1 hP hD hS 4 rfl rfl 2 (by decide) (C0.2.2.2.2.1 _ hl) (fun _ h9 => h9) rfl (by decide +kernel) rfl rfl (Nat.le_of_ble_eq_true rfl) hdg k
theorem gX4_3 (C0 : Cx p s m args c own cc nL D cA) (hP : va_P D vwCl (WX cA ad si sa) H) (hl : .fieldLink own idx "FloorType$Walk" "behind" "[I" ∈ lw_gd) (hdg : decode cc pc = .ok (.getfield idx, 3)) (k : W p l e R s m args below meth c H locs cells slots Q (F0 m (pc + 3) ls (.ref (ad 18) :: rest))) : W p l e R s m args below meth c H locs cells slots Q (F0 m pc ls (.ref (ad 4) :: rest)) := by
  exact va_get (D := D) (ci := 4) (C := RX4) (T := TX4) (N := 4) C0.1 C0.2.1 C0.2.2.2.2.1 wsIn4 C0.2.2.2.1 C0.2.2.2.2.2.1 hP 4 rfl rfl 3 (by decide) (C0.2.2.2.2.1 _ hl) (fun _ h9 => h9) rfl hdg k
theorem gX5_0 (C0 : Cx p s m args c own cc nL D cA) (hP : va_P D vwCl (WX cA ad si sa) H) (hl : .fieldLink own idx "FloorType$Search" "byUsed" "[I" ∈ lw_gd) (hdg : decode cc pc = .ok (.getfield idx, 3)) (k : W p l e R s m args below meth c H locs cells slots Q (F0 m (pc + 3) ls (.ref (ad 19) :: rest))) : W p l e R s m args below meth c H locs cells slots Q (F0 m pc ls (.ref (ad 5) :: rest)) := by
  exact va_get (D := D) (ci := 1) (C := RX1) (T := TX1) (N := 2) C0.1 C0.2.1 C0.2.2.2.2.1 wsIn1 C0.2.2.2.1 C0.2.2.2.2.2.1 hP 5 rfl rfl 0 (by decide) (C0.2.2.2.2.1 _ hl) (fun _ h9 => h9) rfl hdg k
theorem gX5_1 (C0 : Cx p s m args c own cc nL D cA) (hP : va_P D vwCl (WX cA ad si sa) H) (hl : .fieldLink own idx "FloorType$Search" "byHeap" "[I" ∈ lw_gd) (hdg : decode cc pc = .ok (.getfield idx, 3)) (k : W p l e R s m args below meth c H locs cells slots Q (F0 m (pc + 3) ls (.ref (ad 20) :: rest))) : W p l e R s m args below meth c H locs cells slots Q (F0 m pc ls (.ref (ad 5) :: rest)) := by
  exact va_get (D := D) (ci := 1) (C := RX1) (T := TX1) (N := 2) C0.1 C0.2.1 C0.2.2.2.2.1 wsIn1 C0.2.2.2.1 C0.2.2.2.2.2.1 hP 5 rfl rfl 1 (by decide) (C0.2.2.2.2.1 _ hl) (fun _ h9 => h9) rfl hdg k
theorem aXl0 (C0 : Cx p s m args c own cc nL D cA) (hP : va_P D vwCl (WX cA ad si sa) H) {f : Nat → Int32} (hf : sa 0 = f) {i : Int32} (hin : vp_in i 60) (hdg : decode cc pc = .ok (.iaload, 1)) (k : W p l e R s m args below meth c H locs cells slots Q (F0 m (pc + 1) ls (.int (f i.toNatClampNeg) :: rest))) : W p l e R s m args below meth c H locs cells slots Q (F0 m pc ls (.int i :: .ref (ad 6) :: rest)) := by
  subst hf; exact va_iald (D := D) C0.1 C0.2.1 C0.2.2.2.2.2.1 hP 6 0 rfl rfl hin hdg k
theorem aXs0 (C0 : Cx p s m args c own cc nL D cA) (hP : va_P D vwCl (WX cA ad si sa) H) (hD : va_D A (WX cA ad si sa)) (hS : va_S A H0 H locs) {f : Nat → Int32} (hf : sa 0 = f) {i x : Int32} (hin : vp_in i 60) (hdg : decode cc pc = .ok (.iastore, 1)) (k : ∀ (H1 : Heap) (locs1 : List Loc), va_P D vwCl (WX cA ad si (va_up sa 0 (upd f i.toNatClampNeg x))) H1 → va_D A (WX cA ad si (va_up sa 0 (upd f i.toNatClampNeg x))) → va_S A H0 H1 locs1 → W p l e R s m args below meth c H1 locs1 cells slots Q (F0 m (pc + 1) ls rest)) : W p l e R s m args below meth c H locs cells slots Q (F0 m pc ls (.int x :: .int i :: .ref (ad 6) :: rest)) := by
  subst hf; exact va_iast (D := D) C0.1 C0.2.1 C0.2.2.2.2.2.1 hP hD hS 6 0 rfl rfl hin hdg k
theorem aXl1 (C0 : Cx p s m args c own cc nL D cA) (hP : va_P D vwCl (WX cA ad si sa) H) {f : Nat → Int32} (hf : sa 1 = f) {i : Int32} (hin : vp_in i 240) (hdg : decode cc pc = .ok (.iaload, 1)) (k : W p l e R s m args below meth c H locs cells slots Q (F0 m (pc + 1) ls (.int (f i.toNatClampNeg) :: rest))) : W p l e R s m args below meth c H locs cells slots Q (F0 m pc ls (.int i :: .ref (ad 7) :: rest)) := by
  subst hf; exact va_iald (D := D) C0.1 C0.2.1 C0.2.2.2.2.2.1 hP 7 0 rfl rfl hin hdg k
theorem aXs1 (C0 : Cx p s m args c own cc nL D cA) (hP : va_P D vwCl (WX cA ad si sa) H) (hD : va_D A (WX cA ad si sa)) (hS : va_S A H0 H locs) {f : Nat → Int32} (hf : sa 1 = f) {i x : Int32} (hin : vp_in i 240) (hdg : decode cc pc = .ok (.iastore, 1)) (k : ∀ (H1 : Heap) (locs1 : List Loc), va_P D vwCl (WX cA ad si (va_up sa 1 (upd f i.toNatClampNeg x))) H1 → va_D A (WX cA ad si (va_up sa 1 (upd f i.toNatClampNeg x))) → va_S A H0 H1 locs1 → W p l e R s m args below meth c H1 locs1 cells slots Q (F0 m (pc + 1) ls rest)) : W p l e R s m args below meth c H locs cells slots Q (F0 m pc ls (.int x :: .int i :: .ref (ad 7) :: rest)) := by
  subst hf; exact va_iast (D := D) C0.1 C0.2.1 C0.2.2.2.2.2.1 hP hD hS 7 0 rfl rfl hin hdg k
theorem aXl2 (C0 : Cx p s m args c own cc nL D cA) (hP : va_P D vwCl (WX cA ad si sa) H) {f : Nat → Int32} (hf : sa 2 = f) {i : Int32} (hin : vp_in i 4) (hdg : decode cc pc = .ok (.iaload, 1)) (k : W p l e R s m args below meth c H locs cells slots Q (F0 m (pc + 1) ls (.int (f i.toNatClampNeg) :: rest))) : W p l e R s m args below meth c H locs cells slots Q (F0 m pc ls (.int i :: .ref (ad 8) :: rest)) := by
  subst hf; exact va_iald (D := D) C0.1 C0.2.1 C0.2.2.2.2.2.1 hP 8 0 rfl rfl hin hdg k
theorem aXs2 (C0 : Cx p s m args c own cc nL D cA) (hP : va_P D vwCl (WX cA ad si sa) H) (hD : va_D A (WX cA ad si sa)) (hS : va_S A H0 H locs) {f : Nat → Int32} (hf : sa 2 = f) {i x : Int32} (hin : vp_in i 4) (hdg : decode cc pc = .ok (.iastore, 1)) (k : ∀ (H1 : Heap) (locs1 : List Loc), va_P D vwCl (WX cA ad si (va_up sa 2 (upd f i.toNatClampNeg x))) H1 → va_D A (WX cA ad si (va_up sa 2 (upd f i.toNatClampNeg x))) → va_S A H0 H1 locs1 → W p l e R s m args below meth c H1 locs1 cells slots Q (F0 m (pc + 1) ls rest)) : W p l e R s m args below meth c H locs cells slots Q (F0 m pc ls (.int x :: .int i :: .ref (ad 8) :: rest)) := by
  subst hf; exact va_iast (D := D) C0.1 C0.2.1 C0.2.2.2.2.2.1 hP hD hS 8 0 rfl rfl hin hdg k
theorem aXl3 (C0 : Cx p s m args c own cc nL D cA) (hP : va_P D vwCl (WX cA ad si sa) H) {f : Nat → Int32} (hf : sa 3 = f) {i : Int32} (hin : vp_in i 4) (hdg : decode cc pc = .ok (.iaload, 1)) (k : W p l e R s m args below meth c H locs cells slots Q (F0 m (pc + 1) ls (.int (f i.toNatClampNeg) :: rest))) : W p l e R s m args below meth c H locs cells slots Q (F0 m pc ls (.int i :: .ref (ad 9) :: rest)) := by
  subst hf; exact va_iald (D := D) C0.1 C0.2.1 C0.2.2.2.2.2.1 hP 9 0 rfl rfl hin hdg k
theorem aXs3 (C0 : Cx p s m args c own cc nL D cA) (hP : va_P D vwCl (WX cA ad si sa) H) (hD : va_D A (WX cA ad si sa)) (hS : va_S A H0 H locs) {f : Nat → Int32} (hf : sa 3 = f) {i x : Int32} (hin : vp_in i 4) (hdg : decode cc pc = .ok (.iastore, 1)) (k : ∀ (H1 : Heap) (locs1 : List Loc), va_P D vwCl (WX cA ad si (va_up sa 3 (upd f i.toNatClampNeg x))) H1 → va_D A (WX cA ad si (va_up sa 3 (upd f i.toNatClampNeg x))) → va_S A H0 H1 locs1 → W p l e R s m args below meth c H1 locs1 cells slots Q (F0 m (pc + 1) ls rest)) : W p l e R s m args below meth c H locs cells slots Q (F0 m pc ls (.int x :: .int i :: .ref (ad 9) :: rest)) := by
  subst hf; exact va_iast (D := D) C0.1 C0.2.1 C0.2.2.2.2.2.1 hP hD hS 9 0 rfl rfl hin hdg k
theorem aXl4 (C0 : Cx p s m args c own cc nL D cA) (hP : va_P D vwCl (WX cA ad si sa) H) {f : Nat → Int32} (hf : sa 4 = f) {i : Int32} (hin : vp_in i 6) (hdg : decode cc pc = .ok (.iaload, 1)) (k : W p l e R s m args below meth c H locs cells slots Q (F0 m (pc + 1) ls (.int (f i.toNatClampNeg) :: rest))) : W p l e R s m args below meth c H locs cells slots Q (F0 m pc ls (.int i :: .ref (ad 10) :: rest)) := by
  subst hf; exact va_iald (D := D) C0.1 C0.2.1 C0.2.2.2.2.2.1 hP 10 0 rfl rfl hin hdg k
theorem aXs4 (C0 : Cx p s m args c own cc nL D cA) (hP : va_P D vwCl (WX cA ad si sa) H) (hD : va_D A (WX cA ad si sa)) (hS : va_S A H0 H locs) {f : Nat → Int32} (hf : sa 4 = f) {i x : Int32} (hin : vp_in i 6) (hdg : decode cc pc = .ok (.iastore, 1)) (k : ∀ (H1 : Heap) (locs1 : List Loc), va_P D vwCl (WX cA ad si (va_up sa 4 (upd f i.toNatClampNeg x))) H1 → va_D A (WX cA ad si (va_up sa 4 (upd f i.toNatClampNeg x))) → va_S A H0 H1 locs1 → W p l e R s m args below meth c H1 locs1 cells slots Q (F0 m (pc + 1) ls rest)) : W p l e R s m args below meth c H locs cells slots Q (F0 m pc ls (.int x :: .int i :: .ref (ad 10) :: rest)) := by
  subst hf; exact va_iast (D := D) C0.1 C0.2.1 C0.2.2.2.2.2.1 hP hD hS 10 0 rfl rfl hin hdg k
theorem aXl5 (C0 : Cx p s m args c own cc nL D cA) (hP : va_P D vwCl (WX cA ad si sa) H) {f : Nat → Int32} (hf : sa 5 = f) {i : Int32} (hin : vp_in i 6) (hdg : decode cc pc = .ok (.iaload, 1)) (k : W p l e R s m args below meth c H locs cells slots Q (F0 m (pc + 1) ls (.int (f i.toNatClampNeg) :: rest))) : W p l e R s m args below meth c H locs cells slots Q (F0 m pc ls (.int i :: .ref (ad 11) :: rest)) := by
  subst hf; exact va_iald (D := D) C0.1 C0.2.1 C0.2.2.2.2.2.1 hP 11 0 rfl rfl hin hdg k
theorem aXs5 (C0 : Cx p s m args c own cc nL D cA) (hP : va_P D vwCl (WX cA ad si sa) H) (hD : va_D A (WX cA ad si sa)) (hS : va_S A H0 H locs) {f : Nat → Int32} (hf : sa 5 = f) {i x : Int32} (hin : vp_in i 6) (hdg : decode cc pc = .ok (.iastore, 1)) (k : ∀ (H1 : Heap) (locs1 : List Loc), va_P D vwCl (WX cA ad si (va_up sa 5 (upd f i.toNatClampNeg x))) H1 → va_D A (WX cA ad si (va_up sa 5 (upd f i.toNatClampNeg x))) → va_S A H0 H1 locs1 → W p l e R s m args below meth c H1 locs1 cells slots Q (F0 m (pc + 1) ls rest)) : W p l e R s m args below meth c H locs cells slots Q (F0 m pc ls (.int x :: .int i :: .ref (ad 11) :: rest)) := by
  subst hf; exact va_iast (D := D) C0.1 C0.2.1 C0.2.2.2.2.2.1 hP hD hS 11 0 rfl rfl hin hdg k
theorem aXl6 (C0 : Cx p s m args c own cc nL D cA) (hP : va_P D vwCl (WX cA ad si sa) H) {f : Nat → Int32} (hf : sa 6 = f) {i : Int32} (hin : vp_in i 6) (hdg : decode cc pc = .ok (.iaload, 1)) (k : W p l e R s m args below meth c H locs cells slots Q (F0 m (pc + 1) ls (.int (f i.toNatClampNeg) :: rest))) : W p l e R s m args below meth c H locs cells slots Q (F0 m pc ls (.int i :: .ref (ad 12) :: rest)) := by
  subst hf; exact va_iald (D := D) C0.1 C0.2.1 C0.2.2.2.2.2.1 hP 12 0 rfl rfl hin hdg k
theorem aXs6 (C0 : Cx p s m args c own cc nL D cA) (hP : va_P D vwCl (WX cA ad si sa) H) (hD : va_D A (WX cA ad si sa)) (hS : va_S A H0 H locs) {f : Nat → Int32} (hf : sa 6 = f) {i x : Int32} (hin : vp_in i 6) (hdg : decode cc pc = .ok (.iastore, 1)) (k : ∀ (H1 : Heap) (locs1 : List Loc), va_P D vwCl (WX cA ad si (va_up sa 6 (upd f i.toNatClampNeg x))) H1 → va_D A (WX cA ad si (va_up sa 6 (upd f i.toNatClampNeg x))) → va_S A H0 H1 locs1 → W p l e R s m args below meth c H1 locs1 cells slots Q (F0 m (pc + 1) ls rest)) : W p l e R s m args below meth c H locs cells slots Q (F0 m pc ls (.int x :: .int i :: .ref (ad 12) :: rest)) := by
  subst hf; exact va_iast (D := D) C0.1 C0.2.1 C0.2.2.2.2.2.1 hP hD hS 12 0 rfl rfl hin hdg k
theorem aXl7 (C0 : Cx p s m args c own cc nL D cA) (hP : va_P D vwCl (WX cA ad si sa) H) {f : Nat → Int32} (hf : sa 7 = f) {i : Int32} (hin : vp_in i 6) (hdg : decode cc pc = .ok (.iaload, 1)) (k : W p l e R s m args below meth c H locs cells slots Q (F0 m (pc + 1) ls (.int (f i.toNatClampNeg) :: rest))) : W p l e R s m args below meth c H locs cells slots Q (F0 m pc ls (.int i :: .ref (ad 13) :: rest)) := by
  subst hf; exact va_iald (D := D) C0.1 C0.2.1 C0.2.2.2.2.2.1 hP 13 0 rfl rfl hin hdg k
theorem aXs7 (C0 : Cx p s m args c own cc nL D cA) (hP : va_P D vwCl (WX cA ad si sa) H) (hD : va_D A (WX cA ad si sa)) (hS : va_S A H0 H locs) {f : Nat → Int32} (hf : sa 7 = f) {i x : Int32} (hin : vp_in i 6) (hdg : decode cc pc = .ok (.iastore, 1)) (k : ∀ (H1 : Heap) (locs1 : List Loc), va_P D vwCl (WX cA ad si (va_up sa 7 (upd f i.toNatClampNeg x))) H1 → va_D A (WX cA ad si (va_up sa 7 (upd f i.toNatClampNeg x))) → va_S A H0 H1 locs1 → W p l e R s m args below meth c H1 locs1 cells slots Q (F0 m (pc + 1) ls rest)) : W p l e R s m args below meth c H locs cells slots Q (F0 m pc ls (.int x :: .int i :: .ref (ad 13) :: rest)) := by
  subst hf; exact va_iast (D := D) C0.1 C0.2.1 C0.2.2.2.2.2.1 hP hD hS 13 0 rfl rfl hin hdg k
theorem aXl8 (C0 : Cx p s m args c own cc nL D cA) (hP : va_P D vwCl (WX cA ad si sa) H) {f : Nat → Int32} (hf : sa 8 = f) {i : Int32} (hin : vp_in i 5) (hdg : decode cc pc = .ok (.iaload, 1)) (k : W p l e R s m args below meth c H locs cells slots Q (F0 m (pc + 1) ls (.int (f i.toNatClampNeg) :: rest))) : W p l e R s m args below meth c H locs cells slots Q (F0 m pc ls (.int i :: .ref (ad 14) :: rest)) := by
  subst hf; exact va_iald (D := D) C0.1 C0.2.1 C0.2.2.2.2.2.1 hP 14 0 rfl rfl hin hdg k
theorem aXs8 (C0 : Cx p s m args c own cc nL D cA) (hP : va_P D vwCl (WX cA ad si sa) H) (hD : va_D A (WX cA ad si sa)) (hS : va_S A H0 H locs) {f : Nat → Int32} (hf : sa 8 = f) {i x : Int32} (hin : vp_in i 5) (hdg : decode cc pc = .ok (.iastore, 1)) (k : ∀ (H1 : Heap) (locs1 : List Loc), va_P D vwCl (WX cA ad si (va_up sa 8 (upd f i.toNatClampNeg x))) H1 → va_D A (WX cA ad si (va_up sa 8 (upd f i.toNatClampNeg x))) → va_S A H0 H1 locs1 → W p l e R s m args below meth c H1 locs1 cells slots Q (F0 m (pc + 1) ls rest)) : W p l e R s m args below meth c H locs cells slots Q (F0 m pc ls (.int x :: .int i :: .ref (ad 14) :: rest)) := by
  subst hf; exact va_iast (D := D) C0.1 C0.2.1 C0.2.2.2.2.2.1 hP hD hS 14 0 rfl rfl hin hdg k
theorem aXl9 (C0 : Cx p s m args c own cc nL D cA) (hP : va_P D vwCl (WX cA ad si sa) H) {f : Nat → Int32} (hf : sa 9 = f) {i : Int32} (hin : vp_in i 8) (hdg : decode cc pc = .ok (.iaload, 1)) (k : W p l e R s m args below meth c H locs cells slots Q (F0 m (pc + 1) ls (.int (f i.toNatClampNeg) :: rest))) : W p l e R s m args below meth c H locs cells slots Q (F0 m pc ls (.int i :: .ref (ad 15) :: rest)) := by
  subst hf; exact va_iald (D := D) C0.1 C0.2.1 C0.2.2.2.2.2.1 hP 15 0 rfl rfl hin hdg k
theorem aXs9 (C0 : Cx p s m args c own cc nL D cA) (hP : va_P D vwCl (WX cA ad si sa) H) (hD : va_D A (WX cA ad si sa)) (hS : va_S A H0 H locs) {f : Nat → Int32} (hf : sa 9 = f) {i x : Int32} (hin : vp_in i 8) (hdg : decode cc pc = .ok (.iastore, 1)) (k : ∀ (H1 : Heap) (locs1 : List Loc), va_P D vwCl (WX cA ad si (va_up sa 9 (upd f i.toNatClampNeg x))) H1 → va_D A (WX cA ad si (va_up sa 9 (upd f i.toNatClampNeg x))) → va_S A H0 H1 locs1 → W p l e R s m args below meth c H1 locs1 cells slots Q (F0 m (pc + 1) ls rest)) : W p l e R s m args below meth c H locs cells slots Q (F0 m pc ls (.int x :: .int i :: .ref (ad 15) :: rest)) := by
  subst hf; exact va_iast (D := D) C0.1 C0.2.1 C0.2.2.2.2.2.1 hP hD hS 15 0 rfl rfl hin hdg k
theorem aXl10 (C0 : Cx p s m args c own cc nL D cA) (hP : va_P D vwCl (WX cA ad si sa) H) {f : Nat → Int32} (hf : sa 10 = f) {i : Int32} (hin : vp_in i 8) (hdg : decode cc pc = .ok (.iaload, 1)) (k : W p l e R s m args below meth c H locs cells slots Q (F0 m (pc + 1) ls (.int (f i.toNatClampNeg) :: rest))) : W p l e R s m args below meth c H locs cells slots Q (F0 m pc ls (.int i :: .ref (ad 16) :: rest)) := by
  subst hf; exact va_iald (D := D) C0.1 C0.2.1 C0.2.2.2.2.2.1 hP 16 0 rfl rfl hin hdg k
theorem aXs10 (C0 : Cx p s m args c own cc nL D cA) (hP : va_P D vwCl (WX cA ad si sa) H) (hD : va_D A (WX cA ad si sa)) (hS : va_S A H0 H locs) {f : Nat → Int32} (hf : sa 10 = f) {i x : Int32} (hin : vp_in i 8) (hdg : decode cc pc = .ok (.iastore, 1)) (k : ∀ (H1 : Heap) (locs1 : List Loc), va_P D vwCl (WX cA ad si (va_up sa 10 (upd f i.toNatClampNeg x))) H1 → va_D A (WX cA ad si (va_up sa 10 (upd f i.toNatClampNeg x))) → va_S A H0 H1 locs1 → W p l e R s m args below meth c H1 locs1 cells slots Q (F0 m (pc + 1) ls rest)) : W p l e R s m args below meth c H locs cells slots Q (F0 m pc ls (.int x :: .int i :: .ref (ad 16) :: rest)) := by
  subst hf; exact va_iast (D := D) C0.1 C0.2.1 C0.2.2.2.2.2.1 hP hD hS 16 0 rfl rfl hin hdg k
theorem aXl11 (C0 : Cx p s m args c own cc nL D cA) (hP : va_P D vwCl (WX cA ad si sa) H) {f : Nat → Int32} (hf : sa 11 = f) {i : Int32} (hin : vp_in i 60) (hdg : decode cc pc = .ok (.iaload, 1)) (k : W p l e R s m args below meth c H locs cells slots Q (F0 m (pc + 1) ls (.int (f i.toNatClampNeg) :: rest))) : W p l e R s m args below meth c H locs cells slots Q (F0 m pc ls (.int i :: .ref (ad 17) :: rest)) := by
  subst hf; exact va_iald (D := D) C0.1 C0.2.1 C0.2.2.2.2.2.1 hP 17 0 rfl rfl hin hdg k
theorem aXs11 (C0 : Cx p s m args c own cc nL D cA) (hP : va_P D vwCl (WX cA ad si sa) H) (hD : va_D A (WX cA ad si sa)) (hS : va_S A H0 H locs) {f : Nat → Int32} (hf : sa 11 = f) {i x : Int32} (hin : vp_in i 60) (hdg : decode cc pc = .ok (.iastore, 1)) (k : ∀ (H1 : Heap) (locs1 : List Loc), va_P D vwCl (WX cA ad si (va_up sa 11 (upd f i.toNatClampNeg x))) H1 → va_D A (WX cA ad si (va_up sa 11 (upd f i.toNatClampNeg x))) → va_S A H0 H1 locs1 → W p l e R s m args below meth c H1 locs1 cells slots Q (F0 m (pc + 1) ls rest)) : W p l e R s m args below meth c H locs cells slots Q (F0 m pc ls (.int x :: .int i :: .ref (ad 17) :: rest)) := by
  subst hf; exact va_iast (D := D) C0.1 C0.2.1 C0.2.2.2.2.2.1 hP hD hS 17 0 rfl rfl hin hdg k
theorem aXl12 (C0 : Cx p s m args c own cc nL D cA) (hP : va_P D vwCl (WX cA ad si sa) H) {f : Nat → Int32} (hf : sa 12 = f) {i : Int32} (hin : vp_in i 6) (hdg : decode cc pc = .ok (.iaload, 1)) (k : W p l e R s m args below meth c H locs cells slots Q (F0 m (pc + 1) ls (.int (f i.toNatClampNeg) :: rest))) : W p l e R s m args below meth c H locs cells slots Q (F0 m pc ls (.int i :: .ref (ad 18) :: rest)) := by
  subst hf; exact va_iald (D := D) C0.1 C0.2.1 C0.2.2.2.2.2.1 hP 18 0 rfl rfl hin hdg k
theorem aXs12 (C0 : Cx p s m args c own cc nL D cA) (hP : va_P D vwCl (WX cA ad si sa) H) (hD : va_D A (WX cA ad si sa)) (hS : va_S A H0 H locs) {f : Nat → Int32} (hf : sa 12 = f) {i x : Int32} (hin : vp_in i 6) (hdg : decode cc pc = .ok (.iastore, 1)) (k : ∀ (H1 : Heap) (locs1 : List Loc), va_P D vwCl (WX cA ad si (va_up sa 12 (upd f i.toNatClampNeg x))) H1 → va_D A (WX cA ad si (va_up sa 12 (upd f i.toNatClampNeg x))) → va_S A H0 H1 locs1 → W p l e R s m args below meth c H1 locs1 cells slots Q (F0 m (pc + 1) ls rest)) : W p l e R s m args below meth c H locs cells slots Q (F0 m pc ls (.int x :: .int i :: .ref (ad 18) :: rest)) := by
  subst hf; exact va_iast (D := D) C0.1 C0.2.1 C0.2.2.2.2.2.1 hP hD hS 18 0 rfl rfl hin hdg k
theorem aXl13 (C0 : Cx p s m args c own cc nL D cA) (hP : va_P D vwCl (WX cA ad si sa) H) {f : Nat → Int32} (hf : sa 13 = f) {i : Int32} (hin : vp_in i 32) (hdg : decode cc pc = .ok (.iaload, 1)) (k : W p l e R s m args below meth c H locs cells slots Q (F0 m (pc + 1) ls (.int (f i.toNatClampNeg) :: rest))) : W p l e R s m args below meth c H locs cells slots Q (F0 m pc ls (.int i :: .ref (ad 19) :: rest)) := by
  subst hf; exact va_iald (D := D) C0.1 C0.2.1 C0.2.2.2.2.2.1 hP 19 0 rfl rfl hin hdg k
theorem aXs13 (C0 : Cx p s m args c own cc nL D cA) (hP : va_P D vwCl (WX cA ad si sa) H) (hD : va_D A (WX cA ad si sa)) (hS : va_S A H0 H locs) {f : Nat → Int32} (hf : sa 13 = f) {i x : Int32} (hin : vp_in i 32) (hdg : decode cc pc = .ok (.iastore, 1)) (k : ∀ (H1 : Heap) (locs1 : List Loc), va_P D vwCl (WX cA ad si (va_up sa 13 (upd f i.toNatClampNeg x))) H1 → va_D A (WX cA ad si (va_up sa 13 (upd f i.toNatClampNeg x))) → va_S A H0 H1 locs1 → W p l e R s m args below meth c H1 locs1 cells slots Q (F0 m (pc + 1) ls rest)) : W p l e R s m args below meth c H locs cells slots Q (F0 m pc ls (.int x :: .int i :: .ref (ad 19) :: rest)) := by
  subst hf; exact va_iast (D := D) C0.1 C0.2.1 C0.2.2.2.2.2.1 hP hD hS 19 0 rfl rfl hin hdg k
theorem aXl14 (C0 : Cx p s m args c own cc nL D cA) (hP : va_P D vwCl (WX cA ad si sa) H) {f : Nat → Int32} (hf : sa 14 = f) {i : Int32} (hin : vp_in i 64) (hdg : decode cc pc = .ok (.iaload, 1)) (k : W p l e R s m args below meth c H locs cells slots Q (F0 m (pc + 1) ls (.int (f i.toNatClampNeg) :: rest))) : W p l e R s m args below meth c H locs cells slots Q (F0 m pc ls (.int i :: .ref (ad 20) :: rest)) := by
  subst hf; exact va_iald (D := D) C0.1 C0.2.1 C0.2.2.2.2.2.1 hP 20 0 rfl rfl hin hdg k
theorem aXs14 (C0 : Cx p s m args c own cc nL D cA) (hP : va_P D vwCl (WX cA ad si sa) H) (hD : va_D A (WX cA ad si sa)) (hS : va_S A H0 H locs) {f : Nat → Int32} (hf : sa 14 = f) {i x : Int32} (hin : vp_in i 64) (hdg : decode cc pc = .ok (.iastore, 1)) (k : ∀ (H1 : Heap) (locs1 : List Loc), va_P D vwCl (WX cA ad si (va_up sa 14 (upd f i.toNatClampNeg x))) H1 → va_D A (WX cA ad si (va_up sa 14 (upd f i.toNatClampNeg x))) → va_S A H0 H1 locs1 → W p l e R s m args below meth c H1 locs1 cells slots Q (F0 m (pc + 1) ls rest)) : W p l e R s m args below meth c H locs cells slots Q (F0 m pc ls (.int x :: .int i :: .ref (ad 20) :: rest)) := by
  subst hf; exact va_iast (D := D) C0.1 C0.2.1 C0.2.2.2.2.2.1 hP hD hS 20 0 rfl rfl hin hdg k
theorem gM0_0 (C0 : Cx p s m args c own cc nL D cA) (hP : va_P D vwCl (WM cA ad si sa) H) {v : Int32} (hv : si 0 = v) (hl : .fieldLink own idx "FloorTypeModel" "fault" "I" ∈ lw_gd) (hdg : decode cc pc = .ok (.getfield idx, 3)) (k : W p l e R s m args below meth c H locs cells slots Q (F0 m (pc + 3) ls (.int v :: rest))) : W p l e R s m args below meth c H locs cells slots Q (F0 m pc ls (.ref (ad 0) :: rest)) := by
  subst hv; exact va_get (D := D) (ci := 6) (C := RX6) (T := TX6) (N := 32) C0.1 C0.2.1 C0.2.2.2.2.1 wsIn6 C0.2.2.2.1 C0.2.2.2.2.2.1 hP 0 rfl rfl 0 (by decide) (C0.2.2.2.2.1 _ hl) (fun _ h9 => h9) rfl hdg k
theorem pM0_0 {v : Int32} (C0 : Cx p s m args c own cc nL D cA) (hP : va_P D vwCl (WM cA ad si sa) H) (hD : va_D A (WM cA ad si sa)) (hS : va_S A H0 H locs) (hl : .fieldLink own idx "FloorTypeModel" "fault" "I" ∈ lw_gd) (hdg : decode cc pc = .ok (.putfield idx, 3)) (k : ∀ (H1 : Heap) (locs1 : List Loc), va_P D vwCl (WM cA ad (upd si 0 v) sa) H1 → va_D A (WM cA ad (upd si 0 v) sa) → va_S A H0 H1 locs1 → W p l e R s m args below meth c H1 locs1 cells slots Q (F0 m (pc + 3) ls rest)) : W p l e R s m args below meth c H locs cells slots Q (F0 m pc ls (.int v :: .ref (ad 0) :: rest)) :=
  va_put (D := D) (ci := 6) (ty := .int) (C := RX6) (T := TX6) (N := 32) C0.1 C0.2.1 C0.2.2.2.2.1 wsIn6 tyX6 tyX6_ok nmX6 C0.2.2.2.1 C0.2.2.2.2.2.1 hP hD hS 0 rfl rfl 0 (by decide) (C0.2.2.2.2.1 _ hl) (fun _ h9 => h9) rfl (by decide +kernel) rfl rfl (Nat.le_of_ble_eq_true rfl) hdg k
theorem gM0_1 (C0 : Cx p s m args c own cc nL D cA) (hP : va_P D vwCl (WM cA ad si sa) H) {v : Int32} (hv : si 1 = v) (hl : .fieldLink own idx "FloorTypeModel" "sorts" "I" ∈ lw_gd) (hdg : decode cc pc = .ok (.getfield idx, 3)) (k : W p l e R s m args below meth c H locs cells slots Q (F0 m (pc + 3) ls (.int v :: rest))) : W p l e R s m args below meth c H locs cells slots Q (F0 m pc ls (.ref (ad 0) :: rest)) := by
  subst hv; exact va_get (D := D) (ci := 6) (C := RX6) (T := TX6) (N := 32) C0.1 C0.2.1 C0.2.2.2.2.1 wsIn6 C0.2.2.2.1 C0.2.2.2.2.2.1 hP 0 rfl rfl 1 (by decide) (C0.2.2.2.2.1 _ hl) (fun _ h9 => h9) rfl hdg k
theorem pM0_1 {v : Int32} (C0 : Cx p s m args c own cc nL D cA) (hP : va_P D vwCl (WM cA ad si sa) H) (hD : va_D A (WM cA ad si sa)) (hS : va_S A H0 H locs) (hl : .fieldLink own idx "FloorTypeModel" "sorts" "I" ∈ lw_gd) (hdg : decode cc pc = .ok (.putfield idx, 3)) (k : ∀ (H1 : Heap) (locs1 : List Loc), va_P D vwCl (WM cA ad (upd si 1 v) sa) H1 → va_D A (WM cA ad (upd si 1 v) sa) → va_S A H0 H1 locs1 → W p l e R s m args below meth c H1 locs1 cells slots Q (F0 m (pc + 3) ls rest)) : W p l e R s m args below meth c H locs cells slots Q (F0 m pc ls (.int v :: .ref (ad 0) :: rest)) :=
  va_put (D := D) (ci := 6) (ty := .int) (C := RX6) (T := TX6) (N := 32) C0.1 C0.2.1 C0.2.2.2.2.1 wsIn6 tyX6 tyX6_ok nmX6 C0.2.2.2.1 C0.2.2.2.2.2.1 hP hD hS 0 rfl rfl 1 (by decide) (C0.2.2.2.2.1 _ hl) (fun _ h9 => h9) rfl (by decide +kernel) rfl rfl (Nat.le_of_ble_eq_true rfl) hdg k
theorem gM0_2 (C0 : Cx p s m args c own cc nL D cA) (hP : va_P D vwCl (WM cA ad si sa) H) (hl : .fieldLink own idx "FloorTypeModel" "kindOf" "[I" ∈ lw_gd) (hdg : decode cc pc = .ok (.getfield idx, 3)) (k : W p l e R s m args below meth c H locs cells slots Q (F0 m (pc + 3) ls (.ref (ad 1) :: rest))) : W p l e R s m args below meth c H locs cells slots Q (F0 m pc ls (.ref (ad 0) :: rest)) := by
  exact va_get (D := D) (ci := 6) (C := RX6) (T := TX6) (N := 32) C0.1 C0.2.1 C0.2.2.2.2.1 wsIn6 C0.2.2.2.1 C0.2.2.2.2.2.1 hP 0 rfl rfl 2 (by decide) (C0.2.2.2.2.1 _ hl) (fun _ h9 => h9) rfl hdg k
theorem gM0_3 (C0 : Cx p s m args c own cc nL D cA) (hP : va_P D vwCl (WM cA ad si sa) H) (hl : .fieldLink own idx "FloorTypeModel" "countOf" "[I" ∈ lw_gd) (hdg : decode cc pc = .ok (.getfield idx, 3)) (k : W p l e R s m args below meth c H locs cells slots Q (F0 m (pc + 3) ls (.ref (ad 2) :: rest))) : W p l e R s m args below meth c H locs cells slots Q (F0 m pc ls (.ref (ad 0) :: rest)) := by
  exact va_get (D := D) (ci := 6) (C := RX6) (T := TX6) (N := 32) C0.1 C0.2.1 C0.2.2.2.2.1 wsIn6 C0.2.2.2.1 C0.2.2.2.2.2.1 hP 0 rfl rfl 3 (by decide) (C0.2.2.2.2.1 _ hl) (fun _ h9 => h9) rfl hdg k
theorem gM0_4 (C0 : Cx p s m args c own cc nL D cA) (hP : va_P D vwCl (WM cA ad si sa) H) (hl : .fieldLink own idx "FloorTypeModel" "secondsOf" "[I" ∈ lw_gd) (hdg : decode cc pc = .ok (.getfield idx, 3)) (k : W p l e R s m args below meth c H locs cells slots Q (F0 m (pc + 3) ls (.ref (ad 3) :: rest))) : W p l e R s m args below meth c H locs cells slots Q (F0 m pc ls (.ref (ad 0) :: rest)) := by
  exact va_get (D := D) (ci := 6) (C := RX6) (T := TX6) (N := 32) C0.1 C0.2.1 C0.2.2.2.2.1 wsIn6 C0.2.2.2.1 C0.2.2.2.2.2.1 hP 0 rfl rfl 4 (by decide) (C0.2.2.2.2.1 _ hl) (fun _ h9 => h9) rfl hdg k
theorem gM0_5 (C0 : Cx p s m args c own cc nL D cA) (hP : va_P D vwCl (WM cA ad si sa) H) (hl : .fieldLink own idx "FloorTypeModel" "alikeOf" "[I" ∈ lw_gd) (hdg : decode cc pc = .ok (.getfield idx, 3)) (k : W p l e R s m args below meth c H locs cells slots Q (F0 m (pc + 3) ls (.ref (ad 4) :: rest))) : W p l e R s m args below meth c H locs cells slots Q (F0 m pc ls (.ref (ad 0) :: rest)) := by
  exact va_get (D := D) (ci := 6) (C := RX6) (T := TX6) (N := 32) C0.1 C0.2.1 C0.2.2.2.2.1 wsIn6 C0.2.2.2.1 C0.2.2.2.2.2.1 hP 0 rfl rfl 5 (by decide) (C0.2.2.2.2.1 _ hl) (fun _ h9 => h9) rfl hdg k
theorem gM0_6 (C0 : Cx p s m args c own cc nL D cA) (hP : va_P D vwCl (WM cA ad si sa) H) {v : Int32} (hv : si 2 = v) (hl : .fieldLink own idx "FloorTypeModel" "signs" "I" ∈ lw_gd) (hdg : decode cc pc = .ok (.getfield idx, 3)) (k : W p l e R s m args below meth c H locs cells slots Q (F0 m (pc + 3) ls (.int v :: rest))) : W p l e R s m args below meth c H locs cells slots Q (F0 m pc ls (.ref (ad 0) :: rest)) := by
  subst hv; exact va_get (D := D) (ci := 6) (C := RX6) (T := TX6) (N := 32) C0.1 C0.2.1 C0.2.2.2.2.1 wsIn6 C0.2.2.2.1 C0.2.2.2.2.2.1 hP 0 rfl rfl 6 (by decide) (C0.2.2.2.2.1 _ hl) (fun _ h9 => h9) rfl hdg k
theorem pM0_6 {v : Int32} (C0 : Cx p s m args c own cc nL D cA) (hP : va_P D vwCl (WM cA ad si sa) H) (hD : va_D A (WM cA ad si sa)) (hS : va_S A H0 H locs) (hl : .fieldLink own idx "FloorTypeModel" "signs" "I" ∈ lw_gd) (hdg : decode cc pc = .ok (.putfield idx, 3)) (k : ∀ (H1 : Heap) (locs1 : List Loc), va_P D vwCl (WM cA ad (upd si 2 v) sa) H1 → va_D A (WM cA ad (upd si 2 v) sa) → va_S A H0 H1 locs1 → W p l e R s m args below meth c H1 locs1 cells slots Q (F0 m (pc + 3) ls rest)) : W p l e R s m args below meth c H locs cells slots Q (F0 m pc ls (.int v :: .ref (ad 0) :: rest)) :=
  va_put (D := D) (ci := 6) (ty := .int) (C := RX6) (T := TX6) (N := 32) C0.1 C0.2.1 C0.2.2.2.2.1 wsIn6 tyX6 tyX6_ok nmX6 C0.2.2.2.1 C0.2.2.2.2.2.1 hP hD hS 0 rfl rfl 6 (by decide) (C0.2.2.2.2.1 _ hl) (fun _ h9 => h9) rfl (by decide +kernel) rfl rfl (Nat.le_of_ble_eq_true rfl) hdg k
theorem gM0_7 (C0 : Cx p s m args c own cc nL D cA) (hP : va_P D vwCl (WM cA ad si sa) H) (hl : .fieldLink own idx "FloorTypeModel" "hadBy" "[I" ∈ lw_gd) (hdg : decode cc pc = .ok (.getfield idx, 3)) (k : W p l e R s m args below meth c H locs cells slots Q (F0 m (pc + 3) ls (.ref (ad 5) :: rest))) : W p l e R s m args below meth c H locs cells slots Q (F0 m pc ls (.ref (ad 0) :: rest)) := by
  exact va_get (D := D) (ci := 6) (C := RX6) (T := TX6) (N := 32) C0.1 C0.2.1 C0.2.2.2.2.1 wsIn6 C0.2.2.2.1 C0.2.2.2.2.2.1 hP 0 rfl rfl 7 (by decide) (C0.2.2.2.2.1 _ hl) (fun _ h9 => h9) rfl hdg k
theorem gM0_8 (C0 : Cx p s m args c own cc nL D cA) (hP : va_P D vwCl (WM cA ad si sa) H) {v : Int32} (hv : si 3 = v) (hl : .fieldLink own idx "FloorTypeModel" "readAt" "I" ∈ lw_gd) (hdg : decode cc pc = .ok (.getfield idx, 3)) (k : W p l e R s m args below meth c H locs cells slots Q (F0 m (pc + 3) ls (.int v :: rest))) : W p l e R s m args below meth c H locs cells slots Q (F0 m pc ls (.ref (ad 0) :: rest)) := by
  subst hv; exact va_get (D := D) (ci := 6) (C := RX6) (T := TX6) (N := 32) C0.1 C0.2.1 C0.2.2.2.2.1 wsIn6 C0.2.2.2.1 C0.2.2.2.2.2.1 hP 0 rfl rfl 8 (by decide) (C0.2.2.2.2.1 _ hl) (fun _ h9 => h9) rfl hdg k
theorem pM0_8 {v : Int32} (C0 : Cx p s m args c own cc nL D cA) (hP : va_P D vwCl (WM cA ad si sa) H) (hD : va_D A (WM cA ad si sa)) (hS : va_S A H0 H locs) (hl : .fieldLink own idx "FloorTypeModel" "readAt" "I" ∈ lw_gd) (hdg : decode cc pc = .ok (.putfield idx, 3)) (k : ∀ (H1 : Heap) (locs1 : List Loc), va_P D vwCl (WM cA ad (upd si 3 v) sa) H1 → va_D A (WM cA ad (upd si 3 v) sa) → va_S A H0 H1 locs1 → W p l e R s m args below meth c H1 locs1 cells slots Q (F0 m (pc + 3) ls rest)) : W p l e R s m args below meth c H locs cells slots Q (F0 m pc ls (.int v :: .ref (ad 0) :: rest)) :=
  va_put (D := D) (ci := 6) (ty := .int) (C := RX6) (T := TX6) (N := 32) C0.1 C0.2.1 C0.2.2.2.2.1 wsIn6 tyX6 tyX6_ok nmX6 C0.2.2.2.1 C0.2.2.2.2.2.1 hP hD hS 0 rfl rfl 8 (by decide) (C0.2.2.2.2.1 _ hl) (fun _ h9 => h9) rfl (by decide +kernel) rfl rfl (Nat.le_of_ble_eq_true rfl) hdg k
theorem gM0_9 (C0 : Cx p s m args c own cc nL D cA) (hP : va_P D vwCl (WM cA ad si sa) H) {v : Int32} (hv : si 4 = v) (hl : .fieldLink own idx "FloorTypeModel" "readSorts" "I" ∈ lw_gd) (hdg : decode cc pc = .ok (.getfield idx, 3)) (k : W p l e R s m args below meth c H locs cells slots Q (F0 m (pc + 3) ls (.int v :: rest))) : W p l e R s m args below meth c H locs cells slots Q (F0 m pc ls (.ref (ad 0) :: rest)) := by
  subst hv; exact va_get (D := D) (ci := 6) (C := RX6) (T := TX6) (N := 32) C0.1 C0.2.1 C0.2.2.2.2.1 wsIn6 C0.2.2.2.1 C0.2.2.2.2.2.1 hP 0 rfl rfl 9 (by decide) (C0.2.2.2.2.1 _ hl) (fun _ h9 => h9) rfl hdg k
theorem pM0_9 {v : Int32} (C0 : Cx p s m args c own cc nL D cA) (hP : va_P D vwCl (WM cA ad si sa) H) (hD : va_D A (WM cA ad si sa)) (hS : va_S A H0 H locs) (hl : .fieldLink own idx "FloorTypeModel" "readSorts" "I" ∈ lw_gd) (hdg : decode cc pc = .ok (.putfield idx, 3)) (k : ∀ (H1 : Heap) (locs1 : List Loc), va_P D vwCl (WM cA ad (upd si 4 v) sa) H1 → va_D A (WM cA ad (upd si 4 v) sa) → va_S A H0 H1 locs1 → W p l e R s m args below meth c H1 locs1 cells slots Q (F0 m (pc + 3) ls rest)) : W p l e R s m args below meth c H locs cells slots Q (F0 m pc ls (.int v :: .ref (ad 0) :: rest)) :=
  va_put (D := D) (ci := 6) (ty := .int) (C := RX6) (T := TX6) (N := 32) C0.1 C0.2.1 C0.2.2.2.2.1 wsIn6 tyX6 tyX6_ok nmX6 C0.2.2.2.1 C0.2.2.2.2.2.1 hP hD hS 0 rfl rfl 9 (by decide) (C0.2.2.2.2.1 _ hl) (fun _ h9 => h9) rfl (by decide +kernel) rfl rfl (Nat.le_of_ble_eq_true rfl) hdg k
theorem gM0_10 (C0 : Cx p s m args c own cc nL D cA) (hP : va_P D vwCl (WM cA ad si sa) H) {v : Int32} (hv : si 5 = v) (hl : .fieldLink own idx "FloorTypeModel" "readSigns" "I" ∈ lw_gd) (hdg : decode cc pc = .ok (.getfield idx, 3)) (k : W p l e R s m args below meth c H locs cells slots Q (F0 m (pc + 3) ls (.int v :: rest))) : W p l e R s m args below meth c H locs cells slots Q (F0 m pc ls (.ref (ad 0) :: rest)) := by
  subst hv; exact va_get (D := D) (ci := 6) (C := RX6) (T := TX6) (N := 32) C0.1 C0.2.1 C0.2.2.2.2.1 wsIn6 C0.2.2.2.1 C0.2.2.2.2.2.1 hP 0 rfl rfl 10 (by decide) (C0.2.2.2.2.1 _ hl) (fun _ h9 => h9) rfl hdg k
theorem pM0_10 {v : Int32} (C0 : Cx p s m args c own cc nL D cA) (hP : va_P D vwCl (WM cA ad si sa) H) (hD : va_D A (WM cA ad si sa)) (hS : va_S A H0 H locs) (hl : .fieldLink own idx "FloorTypeModel" "readSigns" "I" ∈ lw_gd) (hdg : decode cc pc = .ok (.putfield idx, 3)) (k : ∀ (H1 : Heap) (locs1 : List Loc), va_P D vwCl (WM cA ad (upd si 5 v) sa) H1 → va_D A (WM cA ad (upd si 5 v) sa) → va_S A H0 H1 locs1 → W p l e R s m args below meth c H1 locs1 cells slots Q (F0 m (pc + 3) ls rest)) : W p l e R s m args below meth c H locs cells slots Q (F0 m pc ls (.int v :: .ref (ad 0) :: rest)) :=
  va_put (D := D) (ci := 6) (ty := .int) (C := RX6) (T := TX6) (N := 32) C0.1 C0.2.1 C0.2.2.2.2.1 wsIn6 tyX6 tyX6_ok nmX6 C0.2.2.2.1 C0.2.2.2.2.2.1 hP hD hS 0 rfl rfl 10 (by decide) (C0.2.2.2.2.1 _ hl) (fun _ h9 => h9) rfl (by decide +kernel) rfl rfl (Nat.le_of_ble_eq_true rfl) hdg k
theorem gM0_11 (C0 : Cx p s m args c own cc nL D cA) (hP : va_P D vwCl (WM cA ad si sa) H) (hl : .fieldLink own idx "FloorTypeModel" "readKind" "[I" ∈ lw_gd) (hdg : decode cc pc = .ok (.getfield idx, 3)) (k : W p l e R s m args below meth c H locs cells slots Q (F0 m (pc + 3) ls (.ref (ad 6) :: rest))) : W p l e R s m args below meth c H locs cells slots Q (F0 m pc ls (.ref (ad 0) :: rest)) := by
  exact va_get (D := D) (ci := 6) (C := RX6) (T := TX6) (N := 32) C0.1 C0.2.1 C0.2.2.2.2.1 wsIn6 C0.2.2.2.1 C0.2.2.2.2.2.1 hP 0 rfl rfl 11 (by decide) (C0.2.2.2.2.1 _ hl) (fun _ h9 => h9) rfl hdg k
theorem gM0_12 (C0 : Cx p s m args c own cc nL D cA) (hP : va_P D vwCl (WM cA ad si sa) H) (hl : .fieldLink own idx "FloorTypeModel" "readCount" "[I" ∈ lw_gd) (hdg : decode cc pc = .ok (.getfield idx, 3)) (k : W p l e R s m args below meth c H locs cells slots Q (F0 m (pc + 3) ls (.ref (ad 7) :: rest))) : W p l e R s m args below meth c H locs cells slots Q (F0 m pc ls (.ref (ad 0) :: rest)) := by
  exact va_get (D := D) (ci := 6) (C := RX6) (T := TX6) (N := 32) C0.1 C0.2.1 C0.2.2.2.2.1 wsIn6 C0.2.2.2.1 C0.2.2.2.2.2.1 hP 0 rfl rfl 12 (by decide) (C0.2.2.2.2.1 _ hl) (fun _ h9 => h9) rfl hdg k
theorem gM0_13 (C0 : Cx p s m args c own cc nL D cA) (hP : va_P D vwCl (WM cA ad si sa) H) (hl : .fieldLink own idx "FloorTypeModel" "readSeconds" "[I" ∈ lw_gd) (hdg : decode cc pc = .ok (.getfield idx, 3)) (k : W p l e R s m args below meth c H locs cells slots Q (F0 m (pc + 3) ls (.ref (ad 8) :: rest))) : W p l e R s m args below meth c H locs cells slots Q (F0 m pc ls (.ref (ad 0) :: rest)) := by
  exact va_get (D := D) (ci := 6) (C := RX6) (T := TX6) (N := 32) C0.1 C0.2.1 C0.2.2.2.2.1 wsIn6 C0.2.2.2.1 C0.2.2.2.2.2.1 hP 0 rfl rfl 13 (by decide) (C0.2.2.2.2.1 _ hl) (fun _ h9 => h9) rfl hdg k
theorem gM0_14 (C0 : Cx p s m args c own cc nL D cA) (hP : va_P D vwCl (WM cA ad si sa) H) (hl : .fieldLink own idx "FloorTypeModel" "readAlike" "[I" ∈ lw_gd) (hdg : decode cc pc = .ok (.getfield idx, 3)) (k : W p l e R s m args below meth c H locs cells slots Q (F0 m (pc + 3) ls (.ref (ad 9) :: rest))) : W p l e R s m args below meth c H locs cells slots Q (F0 m pc ls (.ref (ad 0) :: rest)) := by
  exact va_get (D := D) (ci := 6) (C := RX6) (T := TX6) (N := 32) C0.1 C0.2.1 C0.2.2.2.2.1 wsIn6 C0.2.2.2.1 C0.2.2.2.2.2.1 hP 0 rfl rfl 14 (by decide) (C0.2.2.2.2.1 _ hl) (fun _ h9 => h9) rfl hdg k
theorem gM0_15 (C0 : Cx p s m args c own cc nL D cA) (hP : va_P D vwCl (WM cA ad si sa) H) (hl : .fieldLink own idx "FloorTypeModel" "readHad" "[I" ∈ lw_gd) (hdg : decode cc pc = .ok (.getfield idx, 3)) (k : W p l e R s m args below meth c H locs cells slots Q (F0 m (pc + 3) ls (.ref (ad 10) :: rest))) : W p l e R s m args below meth c H locs cells slots Q (F0 m pc ls (.ref (ad 0) :: rest)) := by
  exact va_get (D := D) (ci := 6) (C := RX6) (T := TX6) (N := 32) C0.1 C0.2.1 C0.2.2.2.2.1 wsIn6 C0.2.2.2.1 C0.2.2.2.2.2.1 hP 0 rfl rfl 15 (by decide) (C0.2.2.2.2.1 _ hl) (fun _ h9 => h9) rfl hdg k
theorem gM0_16 (C0 : Cx p s m args c own cc nL D cA) (hP : va_P D vwCl (WM cA ad si sa) H) (hl : .fieldLink own idx "FloorTypeModel" "heapOf" "[I" ∈ lw_gd) (hdg : decode cc pc = .ok (.getfield idx, 3)) (k : W p l e R s m args below meth c H locs cells slots Q (F0 m (pc + 3) ls (.ref (ad 11) :: rest))) : W p l e R s m args below meth c H locs cells slots Q (F0 m pc ls (.ref (ad 0) :: rest)) := by
  exact va_get (D := D) (ci := 6) (C := RX6) (T := TX6) (N := 32) C0.1 C0.2.1 C0.2.2.2.2.1 wsIn6 C0.2.2.2.1 C0.2.2.2.2.2.1 hP 0 rfl rfl 16 (by decide) (C0.2.2.2.2.1 _ hl) (fun _ h9 => h9) rfl hdg k
theorem gM0_17 (C0 : Cx p s m args c own cc nL D cA) (hP : va_P D vwCl (WM cA ad si sa) H) (hl : .fieldLink own idx "FloorTypeModel" "readyAt" "[I" ∈ lw_gd) (hdg : decode cc pc = .ok (.getfield idx, 3)) (k : W p l e R s m args below meth c H locs cells slots Q (F0 m (pc + 3) ls (.ref (ad 12) :: rest))) : W p l e R s m args below meth c H locs cells slots Q (F0 m pc ls (.ref (ad 0) :: rest)) := by
  exact va_get (D := D) (ci := 6) (C := RX6) (T := TX6) (N := 32) C0.1 C0.2.1 C0.2.2.2.2.1 wsIn6 C0.2.2.2.1 C0.2.2.2.2.2.1 hP 0 rfl rfl 17 (by decide) (C0.2.2.2.2.1 _ hl) (fun _ h9 => h9) rfl hdg k
theorem gM0_18 (C0 : Cx p s m args c own cc nL D cA) (hP : va_P D vwCl (WM cA ad si sa) H) {v : Int32} (hv : si 6 = v) (hl : .fieldLink own idx "FloorTypeModel" "spent" "I" ∈ lw_gd) (hdg : decode cc pc = .ok (.getfield idx, 3)) (k : W p l e R s m args below meth c H locs cells slots Q (F0 m (pc + 3) ls (.int v :: rest))) : W p l e R s m args below meth c H locs cells slots Q (F0 m pc ls (.ref (ad 0) :: rest)) := by
  subst hv; exact va_get (D := D) (ci := 6) (C := RX6) (T := TX6) (N := 32) C0.1 C0.2.1 C0.2.2.2.2.1 wsIn6 C0.2.2.2.1 C0.2.2.2.2.2.1 hP 0 rfl rfl 18 (by decide) (C0.2.2.2.2.1 _ hl) (fun _ h9 => h9) rfl hdg k
theorem pM0_18 {v : Int32} (C0 : Cx p s m args c own cc nL D cA) (hP : va_P D vwCl (WM cA ad si sa) H) (hD : va_D A (WM cA ad si sa)) (hS : va_S A H0 H locs) (hl : .fieldLink own idx "FloorTypeModel" "spent" "I" ∈ lw_gd) (hdg : decode cc pc = .ok (.putfield idx, 3)) (k : ∀ (H1 : Heap) (locs1 : List Loc), va_P D vwCl (WM cA ad (upd si 6 v) sa) H1 → va_D A (WM cA ad (upd si 6 v) sa) → va_S A H0 H1 locs1 → W p l e R s m args below meth c H1 locs1 cells slots Q (F0 m (pc + 3) ls rest)) : W p l e R s m args below meth c H locs cells slots Q (F0 m pc ls (.int v :: .ref (ad 0) :: rest)) :=
  va_put (D := D) (ci := 6) (ty := .int) (C := RX6) (T := TX6) (N := 32) C0.1 C0.2.1 C0.2.2.2.2.1 wsIn6 tyX6 tyX6_ok nmX6 C0.2.2.2.1 C0.2.2.2.2.2.1 hP hD hS 0 rfl rfl 18 (by decide) (C0.2.2.2.2.1 _ hl) (fun _ h9 => h9) rfl (by decide +kernel) rfl rfl (Nat.le_of_ble_eq_true rfl) hdg k
theorem gM0_19 (C0 : Cx p s m args c own cc nL D cA) (hP : va_P D vwCl (WM cA ad si sa) H) {v : Int32} (hv : si 7 = v) (hl : .fieldLink own idx "FloorTypeModel" "idleAt" "I" ∈ lw_gd) (hdg : decode cc pc = .ok (.getfield idx, 3)) (k : W p l e R s m args below meth c H locs cells slots Q (F0 m (pc + 3) ls (.int v :: rest))) : W p l e R s m args below meth c H locs cells slots Q (F0 m pc ls (.ref (ad 0) :: rest)) := by
  subst hv; exact va_get (D := D) (ci := 6) (C := RX6) (T := TX6) (N := 32) C0.1 C0.2.1 C0.2.2.2.2.1 wsIn6 C0.2.2.2.1 C0.2.2.2.2.2.1 hP 0 rfl rfl 19 (by decide) (C0.2.2.2.2.1 _ hl) (fun _ h9 => h9) rfl hdg k
theorem pM0_19 {v : Int32} (C0 : Cx p s m args c own cc nL D cA) (hP : va_P D vwCl (WM cA ad si sa) H) (hD : va_D A (WM cA ad si sa)) (hS : va_S A H0 H locs) (hl : .fieldLink own idx "FloorTypeModel" "idleAt" "I" ∈ lw_gd) (hdg : decode cc pc = .ok (.putfield idx, 3)) (k : ∀ (H1 : Heap) (locs1 : List Loc), va_P D vwCl (WM cA ad (upd si 7 v) sa) H1 → va_D A (WM cA ad (upd si 7 v) sa) → va_S A H0 H1 locs1 → W p l e R s m args below meth c H1 locs1 cells slots Q (F0 m (pc + 3) ls rest)) : W p l e R s m args below meth c H locs cells slots Q (F0 m pc ls (.int v :: .ref (ad 0) :: rest)) :=
  va_put (D := D) (ci := 6) (ty := .int) (C := RX6) (T := TX6) (N := 32) C0.1 C0.2.1 C0.2.2.2.2.1 wsIn6 tyX6 tyX6_ok nmX6 C0.2.2.2.1 C0.2.2.2.2.2.1 hP hD hS 0 rfl rfl 19 (by decide) (C0.2.2.2.2.1 _ hl) (fun _ h9 => h9) rfl (by decide +kernel) rfl rfl (Nat.le_of_ble_eq_true rfl) hdg k
theorem gM0_20 (C0 : Cx p s m args c own cc nL D cA) (hP : va_P D vwCl (WM cA ad si sa) H) (hl : .fieldLink own idx "FloorTypeModel" "setOf" "[I" ∈ lw_gd) (hdg : decode cc pc = .ok (.getfield idx, 3)) (k : W p l e R s m args below meth c H locs cells slots Q (F0 m (pc + 3) ls (.ref (ad 13) :: rest))) : W p l e R s m args below meth c H locs cells slots Q (F0 m pc ls (.ref (ad 0) :: rest)) := by
  exact va_get (D := D) (ci := 6) (C := RX6) (T := TX6) (N := 32) C0.1 C0.2.1 C0.2.2.2.2.1 wsIn6 C0.2.2.2.1 C0.2.2.2.2.2.1 hP 0 rfl rfl 20 (by decide) (C0.2.2.2.2.1 _ hl) (fun _ h9 => h9) rfl hdg k
theorem gM0_21 (C0 : Cx p s m args c own cc nL D cA) (hP : va_P D vwCl (WM cA ad si sa) H) (hl : .fieldLink own idx "FloorTypeModel" "triedOf" "[I" ∈ lw_gd) (hdg : decode cc pc = .ok (.getfield idx, 3)) (k : W p l e R s m args below meth c H locs cells slots Q (F0 m (pc + 3) ls (.ref (ad 14) :: rest))) : W p l e R s m args below meth c H locs cells slots Q (F0 m pc ls (.ref (ad 0) :: rest)) := by
  exact va_get (D := D) (ci := 6) (C := RX6) (T := TX6) (N := 32) C0.1 C0.2.1 C0.2.2.2.2.1 wsIn6 C0.2.2.2.1 C0.2.2.2.2.2.1 hP 0 rfl rfl 21 (by decide) (C0.2.2.2.2.1 _ hl) (fun _ h9 => h9) rfl hdg k
theorem gM0_22 (C0 : Cx p s m args c own cc nL D cA) (hP : va_P D vwCl (WM cA ad si sa) H) (hl : .fieldLink own idx "FloorTypeModel" "treeOf" "[I" ∈ lw_gd) (hdg : decode cc pc = .ok (.getfield idx, 3)) (k : W p l e R s m args below meth c H locs cells slots Q (F0 m (pc + 3) ls (.ref (ad 15) :: rest))) : W p l e R s m args below meth c H locs cells slots Q (F0 m pc ls (.ref (ad 0) :: rest)) := by
  exact va_get (D := D) (ci := 6) (C := RX6) (T := TX6) (N := 32) C0.1 C0.2.1 C0.2.2.2.2.1 wsIn6 C0.2.2.2.1 C0.2.2.2.2.2.1 hP 0 rfl rfl 22 (by decide) (C0.2.2.2.2.1 _ hl) (fun _ h9 => h9) rfl hdg k
theorem gM0_23 (C0 : Cx p s m args c own cc nL D cA) (hP : va_P D vwCl (WM cA ad si sa) H) (hl : .fieldLink own idx "FloorTypeModel" "firstOf" "[I" ∈ lw_gd) (hdg : decode cc pc = .ok (.getfield idx, 3)) (k : W p l e R s m args below meth c H locs cells slots Q (F0 m (pc + 3) ls (.ref (ad 16) :: rest))) : W p l e R s m args below meth c H locs cells slots Q (F0 m pc ls (.ref (ad 0) :: rest)) := by
  exact va_get (D := D) (ci := 6) (C := RX6) (T := TX6) (N := 32) C0.1 C0.2.1 C0.2.2.2.2.1 wsIn6 C0.2.2.2.1 C0.2.2.2.2.2.1 hP 0 rfl rfl 23 (by decide) (C0.2.2.2.2.1 _ hl) (fun _ h9 => h9) rfl hdg k
theorem gM0_24 (C0 : Cx p s m args c own cc nL D cA) (hP : va_P D vwCl (WM cA ad si sa) H) {v : Int32} (hv : si 8 = v) (hl : .fieldLink own idx "FloorTypeModel" "readings" "I" ∈ lw_gd) (hdg : decode cc pc = .ok (.getfield idx, 3)) (k : W p l e R s m args below meth c H locs cells slots Q (F0 m (pc + 3) ls (.int v :: rest))) : W p l e R s m args below meth c H locs cells slots Q (F0 m pc ls (.ref (ad 0) :: rest)) := by
  subst hv; exact va_get (D := D) (ci := 6) (C := RX6) (T := TX6) (N := 32) C0.1 C0.2.1 C0.2.2.2.2.1 wsIn6 C0.2.2.2.1 C0.2.2.2.2.2.1 hP 0 rfl rfl 24 (by decide) (C0.2.2.2.2.1 _ hl) (fun _ h9 => h9) rfl hdg k
theorem pM0_24 {v : Int32} (C0 : Cx p s m args c own cc nL D cA) (hP : va_P D vwCl (WM cA ad si sa) H) (hD : va_D A (WM cA ad si sa)) (hS : va_S A H0 H locs) (hl : .fieldLink own idx "FloorTypeModel" "readings" "I" ∈ lw_gd) (hdg : decode cc pc = .ok (.putfield idx, 3)) (k : ∀ (H1 : Heap) (locs1 : List Loc), va_P D vwCl (WM cA ad (upd si 8 v) sa) H1 → va_D A (WM cA ad (upd si 8 v) sa) → va_S A H0 H1 locs1 → W p l e R s m args below meth c H1 locs1 cells slots Q (F0 m (pc + 3) ls rest)) : W p l e R s m args below meth c H locs cells slots Q (F0 m pc ls (.int v :: .ref (ad 0) :: rest)) :=
  va_put (D := D) (ci := 6) (ty := .int) (C := RX6) (T := TX6) (N := 32) C0.1 C0.2.1 C0.2.2.2.2.1 wsIn6 tyX6 tyX6_ok nmX6 C0.2.2.2.1 C0.2.2.2.2.2.1 hP hD hS 0 rfl rfl 24 (by decide) (C0.2.2.2.2.1 _ hl) (fun _ h9 => h9) rfl (by decide +kernel) rfl rfl (Nat.le_of_ble_eq_true rfl) hdg k
theorem gM0_25 (C0 : Cx p s m args c own cc nL D cA) (hP : va_P D vwCl (WM cA ad si sa) H) (hl : .fieldLink own idx "FloorTypeModel" "readingSet" "[I" ∈ lw_gd) (hdg : decode cc pc = .ok (.getfield idx, 3)) (k : W p l e R s m args below meth c H locs cells slots Q (F0 m (pc + 3) ls (.ref (ad 17) :: rest))) : W p l e R s m args below meth c H locs cells slots Q (F0 m pc ls (.ref (ad 0) :: rest)) := by
  exact va_get (D := D) (ci := 6) (C := RX6) (T := TX6) (N := 32) C0.1 C0.2.1 C0.2.2.2.2.1 wsIn6 C0.2.2.2.1 C0.2.2.2.2.2.1 hP 0 rfl rfl 25 (by decide) (C0.2.2.2.2.1 _ hl) (fun _ h9 => h9) rfl hdg k
theorem gM0_26 (C0 : Cx p s m args c own cc nL D cA) (hP : va_P D vwCl (WM cA ad si sa) H) (hl : .fieldLink own idx "FloorTypeModel" "readingTook" "[I" ∈ lw_gd) (hdg : decode cc pc = .ok (.getfield idx, 3)) (k : W p l e R s m args below meth c H locs cells slots Q (F0 m (pc + 3) ls (.ref (ad 18) :: rest))) : W p l e R s m args below meth c H locs cells slots Q (F0 m pc ls (.ref (ad 0) :: rest)) := by
  exact va_get (D := D) (ci := 6) (C := RX6) (T := TX6) (N := 32) C0.1 C0.2.1 C0.2.2.2.2.1 wsIn6 C0.2.2.2.1 C0.2.2.2.2.2.1 hP 0 rfl rfl 26 (by decide) (C0.2.2.2.2.1 _ hl) (fun _ h9 => h9) rfl hdg k
theorem gM0_27 (C0 : Cx p s m args c own cc nL D cA) (hP : va_P D vwCl (WM cA ad si sa) H) (hl : .fieldLink own idx "FloorTypeModel" "sheetSize" "[I" ∈ lw_gd) (hdg : decode cc pc = .ok (.getfield idx, 3)) (k : W p l e R s m args below meth c H locs cells slots Q (F0 m (pc + 3) ls (.ref (ad 19) :: rest))) : W p l e R s m args below meth c H locs cells slots Q (F0 m pc ls (.ref (ad 0) :: rest)) := by
  exact va_get (D := D) (ci := 6) (C := RX6) (T := TX6) (N := 32) C0.1 C0.2.1 C0.2.2.2.2.1 wsIn6 C0.2.2.2.1 C0.2.2.2.2.2.1 hP 0 rfl rfl 27 (by decide) (C0.2.2.2.2.1 _ hl) (fun _ h9 => h9) rfl hdg k
theorem gM0_28 (C0 : Cx p s m args c own cc nL D cA) (hP : va_P D vwCl (WM cA ad si sa) H) (hl : .fieldLink own idx "FloorTypeModel" "sheetLane" "[I" ∈ lw_gd) (hdg : decode cc pc = .ok (.getfield idx, 3)) (k : W p l e R s m args below meth c H locs cells slots Q (F0 m (pc + 3) ls (.ref (ad 20) :: rest))) : W p l e R s m args below meth c H locs cells slots Q (F0 m pc ls (.ref (ad 0) :: rest)) := by
  exact va_get (D := D) (ci := 6) (C := RX6) (T := TX6) (N := 32) C0.1 C0.2.1 C0.2.2.2.2.1 wsIn6 C0.2.2.2.1 C0.2.2.2.2.2.1 hP 0 rfl rfl 28 (by decide) (C0.2.2.2.2.1 _ hl) (fun _ h9 => h9) rfl hdg k
theorem gM0_29 (C0 : Cx p s m args c own cc nL D cA) (hP : va_P D vwCl (WM cA ad si sa) H) (hl : .fieldLink own idx "FloorTypeModel" "sheet" "[I" ∈ lw_gd) (hdg : decode cc pc = .ok (.getfield idx, 3)) (k : W p l e R s m args below meth c H locs cells slots Q (F0 m (pc + 3) ls (.ref (ad 21) :: rest))) : W p l e R s m args below meth c H locs cells slots Q (F0 m pc ls (.ref (ad 0) :: rest)) := by
  exact va_get (D := D) (ci := 6) (C := RX6) (T := TX6) (N := 32) C0.1 C0.2.1 C0.2.2.2.2.1 wsIn6 C0.2.2.2.1 C0.2.2.2.2.2.1 hP 0 rfl rfl 29 (by decide) (C0.2.2.2.2.1 _ hl) (fun _ h9 => h9) rfl hdg k
theorem gM0_30 (C0 : Cx p s m args c own cc nL D cA) (hP : va_P D vwCl (WM cA ad si sa) H) (hl : .fieldLink own idx "FloorTypeModel" "hands" "[I" ∈ lw_gd) (hdg : decode cc pc = .ok (.getfield idx, 3)) (k : W p l e R s m args below meth c H locs cells slots Q (F0 m (pc + 3) ls (.ref (ad 22) :: rest))) : W p l e R s m args below meth c H locs cells slots Q (F0 m pc ls (.ref (ad 0) :: rest)) := by
  exact va_get (D := D) (ci := 6) (C := RX6) (T := TX6) (N := 32) C0.1 C0.2.1 C0.2.2.2.2.1 wsIn6 C0.2.2.2.1 C0.2.2.2.2.2.1 hP 0 rfl rfl 30 (by decide) (C0.2.2.2.2.1 _ hl) (fun _ h9 => h9) rfl hdg k
theorem gM0_31 (C0 : Cx p s m args c own cc nL D cA) (hP : va_P D vwCl (WM cA ad si sa) H) {v : Int32} (hv : si 9 = v) (hl : .fieldLink own idx "FloorTypeModel" "traceNow" "I" ∈ lw_gd) (hdg : decode cc pc = .ok (.getfield idx, 3)) (k : W p l e R s m args below meth c H locs cells slots Q (F0 m (pc + 3) ls (.int v :: rest))) : W p l e R s m args below meth c H locs cells slots Q (F0 m pc ls (.ref (ad 0) :: rest)) := by
  subst hv; exact va_get (D := D) (ci := 6) (C := RX6) (T := TX6) (N := 32) C0.1 C0.2.1 C0.2.2.2.2.1 wsIn6 C0.2.2.2.1 C0.2.2.2.2.2.1 hP 0 rfl rfl 31 (by decide) (C0.2.2.2.2.1 _ hl) (fun _ h9 => h9) rfl hdg k
theorem pM0_31 {v : Int32} (C0 : Cx p s m args c own cc nL D cA) (hP : va_P D vwCl (WM cA ad si sa) H) (hD : va_D A (WM cA ad si sa)) (hS : va_S A H0 H locs) (hl : .fieldLink own idx "FloorTypeModel" "traceNow" "I" ∈ lw_gd) (hdg : decode cc pc = .ok (.putfield idx, 3)) (k : ∀ (H1 : Heap) (locs1 : List Loc), va_P D vwCl (WM cA ad (upd si 9 v) sa) H1 → va_D A (WM cA ad (upd si 9 v) sa) → va_S A H0 H1 locs1 → W p l e R s m args below meth c H1 locs1 cells slots Q (F0 m (pc + 3) ls rest)) : W p l e R s m args below meth c H locs cells slots Q (F0 m pc ls (.int v :: .ref (ad 0) :: rest)) :=
  va_put (D := D) (ci := 6) (ty := .int) (C := RX6) (T := TX6) (N := 32) C0.1 C0.2.1 C0.2.2.2.2.1 wsIn6 tyX6 tyX6_ok nmX6 C0.2.2.2.1 C0.2.2.2.2.2.1 hP hD hS 0 rfl rfl 31 (by decide) (C0.2.2.2.2.1 _ hl) (fun _ h9 => h9) rfl (by decide +kernel) rfl rfl (Nat.le_of_ble_eq_true rfl) hdg k
theorem aMl0 (C0 : Cx p s m args c own cc nL D cA) (hP : va_P D vwCl (WM cA ad si sa) H) {f : Nat → Int32} (hf : sa 0 = f) {i : Int32} (hin : vp_in i 6) (hdg : decode cc pc = .ok (.iaload, 1)) (k : W p l e R s m args below meth c H locs cells slots Q (F0 m (pc + 1) ls (.int (f i.toNatClampNeg) :: rest))) : W p l e R s m args below meth c H locs cells slots Q (F0 m pc ls (.int i :: .ref (ad 1) :: rest)) := by
  subst hf; exact va_iald (D := D) C0.1 C0.2.1 C0.2.2.2.2.2.1 hP 1 0 rfl rfl hin hdg k
theorem aMs0 (C0 : Cx p s m args c own cc nL D cA) (hP : va_P D vwCl (WM cA ad si sa) H) (hD : va_D A (WM cA ad si sa)) (hS : va_S A H0 H locs) {f : Nat → Int32} (hf : sa 0 = f) {i x : Int32} (hin : vp_in i 6) (hdg : decode cc pc = .ok (.iastore, 1)) (k : ∀ (H1 : Heap) (locs1 : List Loc), va_P D vwCl (WM cA ad si (va_up sa 0 (upd f i.toNatClampNeg x))) H1 → va_D A (WM cA ad si (va_up sa 0 (upd f i.toNatClampNeg x))) → va_S A H0 H1 locs1 → W p l e R s m args below meth c H1 locs1 cells slots Q (F0 m (pc + 1) ls rest)) : W p l e R s m args below meth c H locs cells slots Q (F0 m pc ls (.int x :: .int i :: .ref (ad 1) :: rest)) := by
  subst hf; exact va_iast (D := D) C0.1 C0.2.1 C0.2.2.2.2.2.1 hP hD hS 1 0 rfl rfl hin hdg k
theorem aMl1 (C0 : Cx p s m args c own cc nL D cA) (hP : va_P D vwCl (WM cA ad si sa) H) {f : Nat → Int32} (hf : sa 1 = f) {i : Int32} (hin : vp_in i 6) (hdg : decode cc pc = .ok (.iaload, 1)) (k : W p l e R s m args below meth c H locs cells slots Q (F0 m (pc + 1) ls (.int (f i.toNatClampNeg) :: rest))) : W p l e R s m args below meth c H locs cells slots Q (F0 m pc ls (.int i :: .ref (ad 2) :: rest)) := by
  subst hf; exact va_iald (D := D) C0.1 C0.2.1 C0.2.2.2.2.2.1 hP 2 0 rfl rfl hin hdg k
theorem aMs1 (C0 : Cx p s m args c own cc nL D cA) (hP : va_P D vwCl (WM cA ad si sa) H) (hD : va_D A (WM cA ad si sa)) (hS : va_S A H0 H locs) {f : Nat → Int32} (hf : sa 1 = f) {i x : Int32} (hin : vp_in i 6) (hdg : decode cc pc = .ok (.iastore, 1)) (k : ∀ (H1 : Heap) (locs1 : List Loc), va_P D vwCl (WM cA ad si (va_up sa 1 (upd f i.toNatClampNeg x))) H1 → va_D A (WM cA ad si (va_up sa 1 (upd f i.toNatClampNeg x))) → va_S A H0 H1 locs1 → W p l e R s m args below meth c H1 locs1 cells slots Q (F0 m (pc + 1) ls rest)) : W p l e R s m args below meth c H locs cells slots Q (F0 m pc ls (.int x :: .int i :: .ref (ad 2) :: rest)) := by
  subst hf; exact va_iast (D := D) C0.1 C0.2.1 C0.2.2.2.2.2.1 hP hD hS 2 0 rfl rfl hin hdg k
theorem aMl2 (C0 : Cx p s m args c own cc nL D cA) (hP : va_P D vwCl (WM cA ad si sa) H) {f : Nat → Int32} (hf : sa 2 = f) {i : Int32} (hin : vp_in i 6) (hdg : decode cc pc = .ok (.iaload, 1)) (k : W p l e R s m args below meth c H locs cells slots Q (F0 m (pc + 1) ls (.int (f i.toNatClampNeg) :: rest))) : W p l e R s m args below meth c H locs cells slots Q (F0 m pc ls (.int i :: .ref (ad 3) :: rest)) := by
  subst hf; exact va_iald (D := D) C0.1 C0.2.1 C0.2.2.2.2.2.1 hP 3 0 rfl rfl hin hdg k
theorem aMs2 (C0 : Cx p s m args c own cc nL D cA) (hP : va_P D vwCl (WM cA ad si sa) H) (hD : va_D A (WM cA ad si sa)) (hS : va_S A H0 H locs) {f : Nat → Int32} (hf : sa 2 = f) {i x : Int32} (hin : vp_in i 6) (hdg : decode cc pc = .ok (.iastore, 1)) (k : ∀ (H1 : Heap) (locs1 : List Loc), va_P D vwCl (WM cA ad si (va_up sa 2 (upd f i.toNatClampNeg x))) H1 → va_D A (WM cA ad si (va_up sa 2 (upd f i.toNatClampNeg x))) → va_S A H0 H1 locs1 → W p l e R s m args below meth c H1 locs1 cells slots Q (F0 m (pc + 1) ls rest)) : W p l e R s m args below meth c H locs cells slots Q (F0 m pc ls (.int x :: .int i :: .ref (ad 3) :: rest)) := by
  subst hf; exact va_iast (D := D) C0.1 C0.2.1 C0.2.2.2.2.2.1 hP hD hS 3 0 rfl rfl hin hdg k
theorem aMl3 (C0 : Cx p s m args c own cc nL D cA) (hP : va_P D vwCl (WM cA ad si sa) H) {f : Nat → Int32} (hf : sa 3 = f) {i : Int32} (hin : vp_in i 6) (hdg : decode cc pc = .ok (.iaload, 1)) (k : W p l e R s m args below meth c H locs cells slots Q (F0 m (pc + 1) ls (.int (f i.toNatClampNeg) :: rest))) : W p l e R s m args below meth c H locs cells slots Q (F0 m pc ls (.int i :: .ref (ad 4) :: rest)) := by
  subst hf; exact va_iald (D := D) C0.1 C0.2.1 C0.2.2.2.2.2.1 hP 4 0 rfl rfl hin hdg k
theorem aMs3 (C0 : Cx p s m args c own cc nL D cA) (hP : va_P D vwCl (WM cA ad si sa) H) (hD : va_D A (WM cA ad si sa)) (hS : va_S A H0 H locs) {f : Nat → Int32} (hf : sa 3 = f) {i x : Int32} (hin : vp_in i 6) (hdg : decode cc pc = .ok (.iastore, 1)) (k : ∀ (H1 : Heap) (locs1 : List Loc), va_P D vwCl (WM cA ad si (va_up sa 3 (upd f i.toNatClampNeg x))) H1 → va_D A (WM cA ad si (va_up sa 3 (upd f i.toNatClampNeg x))) → va_S A H0 H1 locs1 → W p l e R s m args below meth c H1 locs1 cells slots Q (F0 m (pc + 1) ls rest)) : W p l e R s m args below meth c H locs cells slots Q (F0 m pc ls (.int x :: .int i :: .ref (ad 4) :: rest)) := by
  subst hf; exact va_iast (D := D) C0.1 C0.2.1 C0.2.2.2.2.2.1 hP hD hS 4 0 rfl rfl hin hdg k
theorem aMl4 (C0 : Cx p s m args c own cc nL D cA) (hP : va_P D vwCl (WM cA ad si sa) H) {f : Nat → Int32} (hf : sa 4 = f) {i : Int32} (hin : vp_in i 5) (hdg : decode cc pc = .ok (.iaload, 1)) (k : W p l e R s m args below meth c H locs cells slots Q (F0 m (pc + 1) ls (.int (f i.toNatClampNeg) :: rest))) : W p l e R s m args below meth c H locs cells slots Q (F0 m pc ls (.int i :: .ref (ad 5) :: rest)) := by
  subst hf; exact va_iald (D := D) C0.1 C0.2.1 C0.2.2.2.2.2.1 hP 5 0 rfl rfl hin hdg k
theorem aMs4 (C0 : Cx p s m args c own cc nL D cA) (hP : va_P D vwCl (WM cA ad si sa) H) (hD : va_D A (WM cA ad si sa)) (hS : va_S A H0 H locs) {f : Nat → Int32} (hf : sa 4 = f) {i x : Int32} (hin : vp_in i 5) (hdg : decode cc pc = .ok (.iastore, 1)) (k : ∀ (H1 : Heap) (locs1 : List Loc), va_P D vwCl (WM cA ad si (va_up sa 4 (upd f i.toNatClampNeg x))) H1 → va_D A (WM cA ad si (va_up sa 4 (upd f i.toNatClampNeg x))) → va_S A H0 H1 locs1 → W p l e R s m args below meth c H1 locs1 cells slots Q (F0 m (pc + 1) ls rest)) : W p l e R s m args below meth c H locs cells slots Q (F0 m pc ls (.int x :: .int i :: .ref (ad 5) :: rest)) := by
  subst hf; exact va_iast (D := D) C0.1 C0.2.1 C0.2.2.2.2.2.1 hP hD hS 5 0 rfl rfl hin hdg k
theorem aMl5 (C0 : Cx p s m args c own cc nL D cA) (hP : va_P D vwCl (WM cA ad si sa) H) {f : Nat → Int32} (hf : sa 5 = f) {i : Int32} (hin : vp_in i 6) (hdg : decode cc pc = .ok (.iaload, 1)) (k : W p l e R s m args below meth c H locs cells slots Q (F0 m (pc + 1) ls (.int (f i.toNatClampNeg) :: rest))) : W p l e R s m args below meth c H locs cells slots Q (F0 m pc ls (.int i :: .ref (ad 6) :: rest)) := by
  subst hf; exact va_iald (D := D) C0.1 C0.2.1 C0.2.2.2.2.2.1 hP 6 0 rfl rfl hin hdg k
theorem aMs5 (C0 : Cx p s m args c own cc nL D cA) (hP : va_P D vwCl (WM cA ad si sa) H) (hD : va_D A (WM cA ad si sa)) (hS : va_S A H0 H locs) {f : Nat → Int32} (hf : sa 5 = f) {i x : Int32} (hin : vp_in i 6) (hdg : decode cc pc = .ok (.iastore, 1)) (k : ∀ (H1 : Heap) (locs1 : List Loc), va_P D vwCl (WM cA ad si (va_up sa 5 (upd f i.toNatClampNeg x))) H1 → va_D A (WM cA ad si (va_up sa 5 (upd f i.toNatClampNeg x))) → va_S A H0 H1 locs1 → W p l e R s m args below meth c H1 locs1 cells slots Q (F0 m (pc + 1) ls rest)) : W p l e R s m args below meth c H locs cells slots Q (F0 m pc ls (.int x :: .int i :: .ref (ad 6) :: rest)) := by
  subst hf; exact va_iast (D := D) C0.1 C0.2.1 C0.2.2.2.2.2.1 hP hD hS 6 0 rfl rfl hin hdg k
theorem aMl6 (C0 : Cx p s m args c own cc nL D cA) (hP : va_P D vwCl (WM cA ad si sa) H) {f : Nat → Int32} (hf : sa 6 = f) {i : Int32} (hin : vp_in i 6) (hdg : decode cc pc = .ok (.iaload, 1)) (k : W p l e R s m args below meth c H locs cells slots Q (F0 m (pc + 1) ls (.int (f i.toNatClampNeg) :: rest))) : W p l e R s m args below meth c H locs cells slots Q (F0 m pc ls (.int i :: .ref (ad 7) :: rest)) := by
  subst hf; exact va_iald (D := D) C0.1 C0.2.1 C0.2.2.2.2.2.1 hP 7 0 rfl rfl hin hdg k
theorem aMs6 (C0 : Cx p s m args c own cc nL D cA) (hP : va_P D vwCl (WM cA ad si sa) H) (hD : va_D A (WM cA ad si sa)) (hS : va_S A H0 H locs) {f : Nat → Int32} (hf : sa 6 = f) {i x : Int32} (hin : vp_in i 6) (hdg : decode cc pc = .ok (.iastore, 1)) (k : ∀ (H1 : Heap) (locs1 : List Loc), va_P D vwCl (WM cA ad si (va_up sa 6 (upd f i.toNatClampNeg x))) H1 → va_D A (WM cA ad si (va_up sa 6 (upd f i.toNatClampNeg x))) → va_S A H0 H1 locs1 → W p l e R s m args below meth c H1 locs1 cells slots Q (F0 m (pc + 1) ls rest)) : W p l e R s m args below meth c H locs cells slots Q (F0 m pc ls (.int x :: .int i :: .ref (ad 7) :: rest)) := by
  subst hf; exact va_iast (D := D) C0.1 C0.2.1 C0.2.2.2.2.2.1 hP hD hS 7 0 rfl rfl hin hdg k
theorem aMl7 (C0 : Cx p s m args c own cc nL D cA) (hP : va_P D vwCl (WM cA ad si sa) H) {f : Nat → Int32} (hf : sa 7 = f) {i : Int32} (hin : vp_in i 6) (hdg : decode cc pc = .ok (.iaload, 1)) (k : W p l e R s m args below meth c H locs cells slots Q (F0 m (pc + 1) ls (.int (f i.toNatClampNeg) :: rest))) : W p l e R s m args below meth c H locs cells slots Q (F0 m pc ls (.int i :: .ref (ad 8) :: rest)) := by
  subst hf; exact va_iald (D := D) C0.1 C0.2.1 C0.2.2.2.2.2.1 hP 8 0 rfl rfl hin hdg k
theorem aMs7 (C0 : Cx p s m args c own cc nL D cA) (hP : va_P D vwCl (WM cA ad si sa) H) (hD : va_D A (WM cA ad si sa)) (hS : va_S A H0 H locs) {f : Nat → Int32} (hf : sa 7 = f) {i x : Int32} (hin : vp_in i 6) (hdg : decode cc pc = .ok (.iastore, 1)) (k : ∀ (H1 : Heap) (locs1 : List Loc), va_P D vwCl (WM cA ad si (va_up sa 7 (upd f i.toNatClampNeg x))) H1 → va_D A (WM cA ad si (va_up sa 7 (upd f i.toNatClampNeg x))) → va_S A H0 H1 locs1 → W p l e R s m args below meth c H1 locs1 cells slots Q (F0 m (pc + 1) ls rest)) : W p l e R s m args below meth c H locs cells slots Q (F0 m pc ls (.int x :: .int i :: .ref (ad 8) :: rest)) := by
  subst hf; exact va_iast (D := D) C0.1 C0.2.1 C0.2.2.2.2.2.1 hP hD hS 8 0 rfl rfl hin hdg k
theorem aMl8 (C0 : Cx p s m args c own cc nL D cA) (hP : va_P D vwCl (WM cA ad si sa) H) {f : Nat → Int32} (hf : sa 8 = f) {i : Int32} (hin : vp_in i 6) (hdg : decode cc pc = .ok (.iaload, 1)) (k : W p l e R s m args below meth c H locs cells slots Q (F0 m (pc + 1) ls (.int (f i.toNatClampNeg) :: rest))) : W p l e R s m args below meth c H locs cells slots Q (F0 m pc ls (.int i :: .ref (ad 9) :: rest)) := by
  subst hf; exact va_iald (D := D) C0.1 C0.2.1 C0.2.2.2.2.2.1 hP 9 0 rfl rfl hin hdg k
theorem aMs8 (C0 : Cx p s m args c own cc nL D cA) (hP : va_P D vwCl (WM cA ad si sa) H) (hD : va_D A (WM cA ad si sa)) (hS : va_S A H0 H locs) {f : Nat → Int32} (hf : sa 8 = f) {i x : Int32} (hin : vp_in i 6) (hdg : decode cc pc = .ok (.iastore, 1)) (k : ∀ (H1 : Heap) (locs1 : List Loc), va_P D vwCl (WM cA ad si (va_up sa 8 (upd f i.toNatClampNeg x))) H1 → va_D A (WM cA ad si (va_up sa 8 (upd f i.toNatClampNeg x))) → va_S A H0 H1 locs1 → W p l e R s m args below meth c H1 locs1 cells slots Q (F0 m (pc + 1) ls rest)) : W p l e R s m args below meth c H locs cells slots Q (F0 m pc ls (.int x :: .int i :: .ref (ad 9) :: rest)) := by
  subst hf; exact va_iast (D := D) C0.1 C0.2.1 C0.2.2.2.2.2.1 hP hD hS 9 0 rfl rfl hin hdg k
theorem aMl9 (C0 : Cx p s m args c own cc nL D cA) (hP : va_P D vwCl (WM cA ad si sa) H) {f : Nat → Int32} (hf : sa 9 = f) {i : Int32} (hin : vp_in i 5) (hdg : decode cc pc = .ok (.iaload, 1)) (k : W p l e R s m args below meth c H locs cells slots Q (F0 m (pc + 1) ls (.int (f i.toNatClampNeg) :: rest))) : W p l e R s m args below meth c H locs cells slots Q (F0 m pc ls (.int i :: .ref (ad 10) :: rest)) := by
  subst hf; exact va_iald (D := D) C0.1 C0.2.1 C0.2.2.2.2.2.1 hP 10 0 rfl rfl hin hdg k
theorem aMs9 (C0 : Cx p s m args c own cc nL D cA) (hP : va_P D vwCl (WM cA ad si sa) H) (hD : va_D A (WM cA ad si sa)) (hS : va_S A H0 H locs) {f : Nat → Int32} (hf : sa 9 = f) {i x : Int32} (hin : vp_in i 5) (hdg : decode cc pc = .ok (.iastore, 1)) (k : ∀ (H1 : Heap) (locs1 : List Loc), va_P D vwCl (WM cA ad si (va_up sa 9 (upd f i.toNatClampNeg x))) H1 → va_D A (WM cA ad si (va_up sa 9 (upd f i.toNatClampNeg x))) → va_S A H0 H1 locs1 → W p l e R s m args below meth c H1 locs1 cells slots Q (F0 m (pc + 1) ls rest)) : W p l e R s m args below meth c H locs cells slots Q (F0 m pc ls (.int x :: .int i :: .ref (ad 10) :: rest)) := by
  subst hf; exact va_iast (D := D) C0.1 C0.2.1 C0.2.2.2.2.2.1 hP hD hS 10 0 rfl rfl hin hdg k
theorem aMl10 (C0 : Cx p s m args c own cc nL D cA) (hP : va_P D vwCl (WM cA ad si sa) H) {f : Nat → Int32} (hf : sa 10 = f) {i : Int32} (hin : vp_in i 6) (hdg : decode cc pc = .ok (.iaload, 1)) (k : W p l e R s m args below meth c H locs cells slots Q (F0 m (pc + 1) ls (.int (f i.toNatClampNeg) :: rest))) : W p l e R s m args below meth c H locs cells slots Q (F0 m pc ls (.int i :: .ref (ad 11) :: rest)) := by
  subst hf; exact va_iald (D := D) C0.1 C0.2.1 C0.2.2.2.2.2.1 hP 11 0 rfl rfl hin hdg k
theorem aMs10 (C0 : Cx p s m args c own cc nL D cA) (hP : va_P D vwCl (WM cA ad si sa) H) (hD : va_D A (WM cA ad si sa)) (hS : va_S A H0 H locs) {f : Nat → Int32} (hf : sa 10 = f) {i x : Int32} (hin : vp_in i 6) (hdg : decode cc pc = .ok (.iastore, 1)) (k : ∀ (H1 : Heap) (locs1 : List Loc), va_P D vwCl (WM cA ad si (va_up sa 10 (upd f i.toNatClampNeg x))) H1 → va_D A (WM cA ad si (va_up sa 10 (upd f i.toNatClampNeg x))) → va_S A H0 H1 locs1 → W p l e R s m args below meth c H1 locs1 cells slots Q (F0 m (pc + 1) ls rest)) : W p l e R s m args below meth c H locs cells slots Q (F0 m pc ls (.int x :: .int i :: .ref (ad 11) :: rest)) := by
  subst hf; exact va_iast (D := D) C0.1 C0.2.1 C0.2.2.2.2.2.1 hP hD hS 11 0 rfl rfl hin hdg k
theorem aMl11 (C0 : Cx p s m args c own cc nL D cA) (hP : va_P D vwCl (WM cA ad si sa) H) {f : Nat → Int32} (hf : sa 11 = f) {i : Int32} (hin : vp_in i 6) (hdg : decode cc pc = .ok (.iaload, 1)) (k : W p l e R s m args below meth c H locs cells slots Q (F0 m (pc + 1) ls (.int (f i.toNatClampNeg) :: rest))) : W p l e R s m args below meth c H locs cells slots Q (F0 m pc ls (.int i :: .ref (ad 12) :: rest)) := by
  subst hf; exact va_iald (D := D) C0.1 C0.2.1 C0.2.2.2.2.2.1 hP 12 0 rfl rfl hin hdg k
theorem aMs11 (C0 : Cx p s m args c own cc nL D cA) (hP : va_P D vwCl (WM cA ad si sa) H) (hD : va_D A (WM cA ad si sa)) (hS : va_S A H0 H locs) {f : Nat → Int32} (hf : sa 11 = f) {i x : Int32} (hin : vp_in i 6) (hdg : decode cc pc = .ok (.iastore, 1)) (k : ∀ (H1 : Heap) (locs1 : List Loc), va_P D vwCl (WM cA ad si (va_up sa 11 (upd f i.toNatClampNeg x))) H1 → va_D A (WM cA ad si (va_up sa 11 (upd f i.toNatClampNeg x))) → va_S A H0 H1 locs1 → W p l e R s m args below meth c H1 locs1 cells slots Q (F0 m (pc + 1) ls rest)) : W p l e R s m args below meth c H locs cells slots Q (F0 m pc ls (.int x :: .int i :: .ref (ad 12) :: rest)) := by
  subst hf; exact va_iast (D := D) C0.1 C0.2.1 C0.2.2.2.2.2.1 hP hD hS 12 0 rfl rfl hin hdg k
theorem aMl12 (C0 : Cx p s m args c own cc nL D cA) (hP : va_P D vwCl (WM cA ad si sa) H) {f : Nat → Int32} (hf : sa 12 = f) {i : Int32} (hin : vp_in i 6) (hdg : decode cc pc = .ok (.iaload, 1)) (k : W p l e R s m args below meth c H locs cells slots Q (F0 m (pc + 1) ls (.int (f i.toNatClampNeg) :: rest))) : W p l e R s m args below meth c H locs cells slots Q (F0 m pc ls (.int i :: .ref (ad 13) :: rest)) := by
  subst hf; exact va_iald (D := D) C0.1 C0.2.1 C0.2.2.2.2.2.1 hP 13 0 rfl rfl hin hdg k
theorem aMs12 (C0 : Cx p s m args c own cc nL D cA) (hP : va_P D vwCl (WM cA ad si sa) H) (hD : va_D A (WM cA ad si sa)) (hS : va_S A H0 H locs) {f : Nat → Int32} (hf : sa 12 = f) {i x : Int32} (hin : vp_in i 6) (hdg : decode cc pc = .ok (.iastore, 1)) (k : ∀ (H1 : Heap) (locs1 : List Loc), va_P D vwCl (WM cA ad si (va_up sa 12 (upd f i.toNatClampNeg x))) H1 → va_D A (WM cA ad si (va_up sa 12 (upd f i.toNatClampNeg x))) → va_S A H0 H1 locs1 → W p l e R s m args below meth c H1 locs1 cells slots Q (F0 m (pc + 1) ls rest)) : W p l e R s m args below meth c H locs cells slots Q (F0 m pc ls (.int x :: .int i :: .ref (ad 13) :: rest)) := by
  subst hf; exact va_iast (D := D) C0.1 C0.2.1 C0.2.2.2.2.2.1 hP hD hS 13 0 rfl rfl hin hdg k
theorem aMl13 (C0 : Cx p s m args c own cc nL D cA) (hP : va_P D vwCl (WM cA ad si sa) H) {f : Nat → Int32} (hf : sa 13 = f) {i : Int32} (hin : vp_in i 5) (hdg : decode cc pc = .ok (.iaload, 1)) (k : W p l e R s m args below meth c H locs cells slots Q (F0 m (pc + 1) ls (.int (f i.toNatClampNeg) :: rest))) : W p l e R s m args below meth c H locs cells slots Q (F0 m pc ls (.int i :: .ref (ad 14) :: rest)) := by
  subst hf; exact va_iald (D := D) C0.1 C0.2.1 C0.2.2.2.2.2.1 hP 14 0 rfl rfl hin hdg k
theorem aMs13 (C0 : Cx p s m args c own cc nL D cA) (hP : va_P D vwCl (WM cA ad si sa) H) (hD : va_D A (WM cA ad si sa)) (hS : va_S A H0 H locs) {f : Nat → Int32} (hf : sa 13 = f) {i x : Int32} (hin : vp_in i 5) (hdg : decode cc pc = .ok (.iastore, 1)) (k : ∀ (H1 : Heap) (locs1 : List Loc), va_P D vwCl (WM cA ad si (va_up sa 13 (upd f i.toNatClampNeg x))) H1 → va_D A (WM cA ad si (va_up sa 13 (upd f i.toNatClampNeg x))) → va_S A H0 H1 locs1 → W p l e R s m args below meth c H1 locs1 cells slots Q (F0 m (pc + 1) ls rest)) : W p l e R s m args below meth c H locs cells slots Q (F0 m pc ls (.int x :: .int i :: .ref (ad 14) :: rest)) := by
  subst hf; exact va_iast (D := D) C0.1 C0.2.1 C0.2.2.2.2.2.1 hP hD hS 14 0 rfl rfl hin hdg k
theorem aMl14 (C0 : Cx p s m args c own cc nL D cA) (hP : va_P D vwCl (WM cA ad si sa) H) {f : Nat → Int32} (hf : sa 14 = f) {i : Int32} (hin : vp_in i 64) (hdg : decode cc pc = .ok (.iaload, 1)) (k : W p l e R s m args below meth c H locs cells slots Q (F0 m (pc + 1) ls (.int (f i.toNatClampNeg) :: rest))) : W p l e R s m args below meth c H locs cells slots Q (F0 m pc ls (.int i :: .ref (ad 15) :: rest)) := by
  subst hf; exact va_iald (D := D) C0.1 C0.2.1 C0.2.2.2.2.2.1 hP 15 0 rfl rfl hin hdg k
theorem aMs14 (C0 : Cx p s m args c own cc nL D cA) (hP : va_P D vwCl (WM cA ad si sa) H) (hD : va_D A (WM cA ad si sa)) (hS : va_S A H0 H locs) {f : Nat → Int32} (hf : sa 14 = f) {i x : Int32} (hin : vp_in i 64) (hdg : decode cc pc = .ok (.iastore, 1)) (k : ∀ (H1 : Heap) (locs1 : List Loc), va_P D vwCl (WM cA ad si (va_up sa 14 (upd f i.toNatClampNeg x))) H1 → va_D A (WM cA ad si (va_up sa 14 (upd f i.toNatClampNeg x))) → va_S A H0 H1 locs1 → W p l e R s m args below meth c H1 locs1 cells slots Q (F0 m (pc + 1) ls rest)) : W p l e R s m args below meth c H locs cells slots Q (F0 m pc ls (.int x :: .int i :: .ref (ad 15) :: rest)) := by
  subst hf; exact va_iast (D := D) C0.1 C0.2.1 C0.2.2.2.2.2.1 hP hD hS 15 0 rfl rfl hin hdg k
theorem aMl15 (C0 : Cx p s m args c own cc nL D cA) (hP : va_P D vwCl (WM cA ad si sa) H) {f : Nat → Int32} (hf : sa 15 = f) {i : Int32} (hin : vp_in i 64) (hdg : decode cc pc = .ok (.iaload, 1)) (k : W p l e R s m args below meth c H locs cells slots Q (F0 m (pc + 1) ls (.int (f i.toNatClampNeg) :: rest))) : W p l e R s m args below meth c H locs cells slots Q (F0 m pc ls (.int i :: .ref (ad 16) :: rest)) := by
  subst hf; exact va_iald (D := D) C0.1 C0.2.1 C0.2.2.2.2.2.1 hP 16 0 rfl rfl hin hdg k
theorem aMs15 (C0 : Cx p s m args c own cc nL D cA) (hP : va_P D vwCl (WM cA ad si sa) H) (hD : va_D A (WM cA ad si sa)) (hS : va_S A H0 H locs) {f : Nat → Int32} (hf : sa 15 = f) {i x : Int32} (hin : vp_in i 64) (hdg : decode cc pc = .ok (.iastore, 1)) (k : ∀ (H1 : Heap) (locs1 : List Loc), va_P D vwCl (WM cA ad si (va_up sa 15 (upd f i.toNatClampNeg x))) H1 → va_D A (WM cA ad si (va_up sa 15 (upd f i.toNatClampNeg x))) → va_S A H0 H1 locs1 → W p l e R s m args below meth c H1 locs1 cells slots Q (F0 m (pc + 1) ls rest)) : W p l e R s m args below meth c H locs cells slots Q (F0 m pc ls (.int x :: .int i :: .ref (ad 16) :: rest)) := by
  subst hf; exact va_iast (D := D) C0.1 C0.2.1 C0.2.2.2.2.2.1 hP hD hS 16 0 rfl rfl hin hdg k
theorem aMl16 (C0 : Cx p s m args c own cc nL D cA) (hP : va_P D vwCl (WM cA ad si sa) H) {f : Nat → Int32} (hf : sa 16 = f) {i : Int32} (hin : vp_in i 8) (hdg : decode cc pc = .ok (.iaload, 1)) (k : W p l e R s m args below meth c H locs cells slots Q (F0 m (pc + 1) ls (.int (f i.toNatClampNeg) :: rest))) : W p l e R s m args below meth c H locs cells slots Q (F0 m pc ls (.int i :: .ref (ad 17) :: rest)) := by
  subst hf; exact va_iald (D := D) C0.1 C0.2.1 C0.2.2.2.2.2.1 hP 17 0 rfl rfl hin hdg k
theorem aMs16 (C0 : Cx p s m args c own cc nL D cA) (hP : va_P D vwCl (WM cA ad si sa) H) (hD : va_D A (WM cA ad si sa)) (hS : va_S A H0 H locs) {f : Nat → Int32} (hf : sa 16 = f) {i x : Int32} (hin : vp_in i 8) (hdg : decode cc pc = .ok (.iastore, 1)) (k : ∀ (H1 : Heap) (locs1 : List Loc), va_P D vwCl (WM cA ad si (va_up sa 16 (upd f i.toNatClampNeg x))) H1 → va_D A (WM cA ad si (va_up sa 16 (upd f i.toNatClampNeg x))) → va_S A H0 H1 locs1 → W p l e R s m args below meth c H1 locs1 cells slots Q (F0 m (pc + 1) ls rest)) : W p l e R s m args below meth c H locs cells slots Q (F0 m pc ls (.int x :: .int i :: .ref (ad 17) :: rest)) := by
  subst hf; exact va_iast (D := D) C0.1 C0.2.1 C0.2.2.2.2.2.1 hP hD hS 17 0 rfl rfl hin hdg k
theorem aMl17 (C0 : Cx p s m args c own cc nL D cA) (hP : va_P D vwCl (WM cA ad si sa) H) {f : Nat → Int32} (hf : sa 17 = f) {i : Int32} (hin : vp_in i 8) (hdg : decode cc pc = .ok (.iaload, 1)) (k : W p l e R s m args below meth c H locs cells slots Q (F0 m (pc + 1) ls (.int (f i.toNatClampNeg) :: rest))) : W p l e R s m args below meth c H locs cells slots Q (F0 m pc ls (.int i :: .ref (ad 18) :: rest)) := by
  subst hf; exact va_iald (D := D) C0.1 C0.2.1 C0.2.2.2.2.2.1 hP 18 0 rfl rfl hin hdg k
theorem aMs17 (C0 : Cx p s m args c own cc nL D cA) (hP : va_P D vwCl (WM cA ad si sa) H) (hD : va_D A (WM cA ad si sa)) (hS : va_S A H0 H locs) {f : Nat → Int32} (hf : sa 17 = f) {i x : Int32} (hin : vp_in i 8) (hdg : decode cc pc = .ok (.iastore, 1)) (k : ∀ (H1 : Heap) (locs1 : List Loc), va_P D vwCl (WM cA ad si (va_up sa 17 (upd f i.toNatClampNeg x))) H1 → va_D A (WM cA ad si (va_up sa 17 (upd f i.toNatClampNeg x))) → va_S A H0 H1 locs1 → W p l e R s m args below meth c H1 locs1 cells slots Q (F0 m (pc + 1) ls rest)) : W p l e R s m args below meth c H locs cells slots Q (F0 m pc ls (.int x :: .int i :: .ref (ad 18) :: rest)) := by
  subst hf; exact va_iast (D := D) C0.1 C0.2.1 C0.2.2.2.2.2.1 hP hD hS 18 0 rfl rfl hin hdg k
theorem aMl18 (C0 : Cx p s m args c own cc nL D cA) (hP : va_P D vwCl (WM cA ad si sa) H) {f : Nat → Int32} (hf : sa 18 = f) {i : Int32} (hin : vp_in i 4) (hdg : decode cc pc = .ok (.iaload, 1)) (k : W p l e R s m args below meth c H locs cells slots Q (F0 m (pc + 1) ls (.int (f i.toNatClampNeg) :: rest))) : W p l e R s m args below meth c H locs cells slots Q (F0 m pc ls (.int i :: .ref (ad 19) :: rest)) := by
  subst hf; exact va_iald (D := D) C0.1 C0.2.1 C0.2.2.2.2.2.1 hP 19 0 rfl rfl hin hdg k
theorem aMs18 (C0 : Cx p s m args c own cc nL D cA) (hP : va_P D vwCl (WM cA ad si sa) H) (hD : va_D A (WM cA ad si sa)) (hS : va_S A H0 H locs) {f : Nat → Int32} (hf : sa 18 = f) {i x : Int32} (hin : vp_in i 4) (hdg : decode cc pc = .ok (.iastore, 1)) (k : ∀ (H1 : Heap) (locs1 : List Loc), va_P D vwCl (WM cA ad si (va_up sa 18 (upd f i.toNatClampNeg x))) H1 → va_D A (WM cA ad si (va_up sa 18 (upd f i.toNatClampNeg x))) → va_S A H0 H1 locs1 → W p l e R s m args below meth c H1 locs1 cells slots Q (F0 m (pc + 1) ls rest)) : W p l e R s m args below meth c H locs cells slots Q (F0 m pc ls (.int x :: .int i :: .ref (ad 19) :: rest)) := by
  subst hf; exact va_iast (D := D) C0.1 C0.2.1 C0.2.2.2.2.2.1 hP hD hS 19 0 rfl rfl hin hdg k
theorem aMl19 (C0 : Cx p s m args c own cc nL D cA) (hP : va_P D vwCl (WM cA ad si sa) H) {f : Nat → Int32} (hf : sa 19 = f) {i : Int32} (hin : vp_in i 4) (hdg : decode cc pc = .ok (.iaload, 1)) (k : W p l e R s m args below meth c H locs cells slots Q (F0 m (pc + 1) ls (.int (f i.toNatClampNeg) :: rest))) : W p l e R s m args below meth c H locs cells slots Q (F0 m pc ls (.int i :: .ref (ad 20) :: rest)) := by
  subst hf; exact va_iald (D := D) C0.1 C0.2.1 C0.2.2.2.2.2.1 hP 20 0 rfl rfl hin hdg k
theorem aMs19 (C0 : Cx p s m args c own cc nL D cA) (hP : va_P D vwCl (WM cA ad si sa) H) (hD : va_D A (WM cA ad si sa)) (hS : va_S A H0 H locs) {f : Nat → Int32} (hf : sa 19 = f) {i x : Int32} (hin : vp_in i 4) (hdg : decode cc pc = .ok (.iastore, 1)) (k : ∀ (H1 : Heap) (locs1 : List Loc), va_P D vwCl (WM cA ad si (va_up sa 19 (upd f i.toNatClampNeg x))) H1 → va_D A (WM cA ad si (va_up sa 19 (upd f i.toNatClampNeg x))) → va_S A H0 H1 locs1 → W p l e R s m args below meth c H1 locs1 cells slots Q (F0 m (pc + 1) ls rest)) : W p l e R s m args below meth c H locs cells slots Q (F0 m pc ls (.int x :: .int i :: .ref (ad 20) :: rest)) := by
  subst hf; exact va_iast (D := D) C0.1 C0.2.1 C0.2.2.2.2.2.1 hP hD hS 20 0 rfl rfl hin hdg k
theorem aMl20 (C0 : Cx p s m args c own cc nL D cA) (hP : va_P D vwCl (WM cA ad si sa) H) {f : Nat → Int32} (hf : sa 20 = f) {i : Int32} (hin : vp_in i 240) (hdg : decode cc pc = .ok (.iaload, 1)) (k : W p l e R s m args below meth c H locs cells slots Q (F0 m (pc + 1) ls (.int (f i.toNatClampNeg) :: rest))) : W p l e R s m args below meth c H locs cells slots Q (F0 m pc ls (.int i :: .ref (ad 21) :: rest)) := by
  subst hf; exact va_iald (D := D) C0.1 C0.2.1 C0.2.2.2.2.2.1 hP 21 0 rfl rfl hin hdg k
theorem aMs20 (C0 : Cx p s m args c own cc nL D cA) (hP : va_P D vwCl (WM cA ad si sa) H) (hD : va_D A (WM cA ad si sa)) (hS : va_S A H0 H locs) {f : Nat → Int32} (hf : sa 20 = f) {i x : Int32} (hin : vp_in i 240) (hdg : decode cc pc = .ok (.iastore, 1)) (k : ∀ (H1 : Heap) (locs1 : List Loc), va_P D vwCl (WM cA ad si (va_up sa 20 (upd f i.toNatClampNeg x))) H1 → va_D A (WM cA ad si (va_up sa 20 (upd f i.toNatClampNeg x))) → va_S A H0 H1 locs1 → W p l e R s m args below meth c H1 locs1 cells slots Q (F0 m (pc + 1) ls rest)) : W p l e R s m args below meth c H locs cells slots Q (F0 m pc ls (.int x :: .int i :: .ref (ad 21) :: rest)) := by
  subst hf; exact va_iast (D := D) C0.1 C0.2.1 C0.2.2.2.2.2.1 hP hD hS 21 0 rfl rfl hin hdg k
theorem aMl21 (C0 : Cx p s m args c own cc nL D cA) (hP : va_P D vwCl (WM cA ad si sa) H) {f : Nat → Int32} (hf : sa 21 = f) {i : Int32} (hin : vp_in i 60) (hdg : decode cc pc = .ok (.iaload, 1)) (k : W p l e R s m args below meth c H locs cells slots Q (F0 m (pc + 1) ls (.int (f i.toNatClampNeg) :: rest))) : W p l e R s m args below meth c H locs cells slots Q (F0 m pc ls (.int i :: .ref (ad 22) :: rest)) := by
  subst hf; exact va_iald (D := D) C0.1 C0.2.1 C0.2.2.2.2.2.1 hP 22 0 rfl rfl hin hdg k
theorem aMs21 (C0 : Cx p s m args c own cc nL D cA) (hP : va_P D vwCl (WM cA ad si sa) H) (hD : va_D A (WM cA ad si sa)) (hS : va_S A H0 H locs) {f : Nat → Int32} (hf : sa 21 = f) {i x : Int32} (hin : vp_in i 60) (hdg : decode cc pc = .ok (.iastore, 1)) (k : ∀ (H1 : Heap) (locs1 : List Loc), va_P D vwCl (WM cA ad si (va_up sa 21 (upd f i.toNatClampNeg x))) H1 → va_D A (WM cA ad si (va_up sa 21 (upd f i.toNatClampNeg x))) → va_S A H0 H1 locs1 → W p l e R s m args below meth c H1 locs1 cells slots Q (F0 m (pc + 1) ls rest)) : W p l e R s m args below meth c H locs cells slots Q (F0 m pc ls (.int x :: .int i :: .ref (ad 22) :: rest)) := by
  subst hf; exact va_iast (D := D) C0.1 C0.2.1 C0.2.2.2.2.2.1 hP hD hS 22 0 rfl rfl hin hdg k
end ROWS
end
