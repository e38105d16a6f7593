/-- a private method of a class that the tables say can be made, by its rows of tables_1 -/
def lw_okq (q : MethodName × Nat) : Prop := (q.1.cls ≠ "java/lang/invoke/MethodHandle" ∧ q.1.cls ≠ "java/lang/invoke/VarHandle") ∧ Cond.instantiable q.1.cls q.2 ∈ tables_1 ∧ Cond.privateMethod q.1 ∈ tables_1 ∧ Cond.instanceMethod q.1 ∈ tables_1
theorem lw_p0 : lw_okq (⟨"FloorType", "failed", "(I)I"⟩, 8) := ⟨⟨by decide +kernel, by decide +kernel⟩, List.mem_of_getElem? (i := 12) (by decide +kernel), List.mem_of_getElem? (i := 193) (by decide +kernel), List.mem_of_getElem? (i := 194) (by decide +kernel)⟩
theorem lw_p1 : lw_okq (⟨"FloorType$Text", "passes", "(II)Z"⟩, 5) := ⟨⟨by decide +kernel, by decide +kernel⟩, List.mem_of_getElem? (i := 84) (by decide +kernel), List.mem_of_getElem? (i := 208) (by decide +kernel), List.mem_of_getElem? (i := 209) (by decide +kernel)⟩
theorem lw_p2 : lw_okq (⟨"FloorType$Text", "isNext", "(II)Z"⟩, 5) := ⟨⟨by decide +kernel, by decide +kernel⟩, List.mem_of_getElem? (i := 84) (by decide +kernel), List.mem_of_getElem? (i := 212) (by decide +kernel), List.mem_of_getElem? (i := 213) (by decide +kernel)⟩
theorem lw_p3 : lw_okq (⟨"FloorType$Text", "passesSorts", "()Z"⟩, 5) := ⟨⟨by decide +kernel, by decide +kernel⟩, List.mem_of_getElem? (i := 84) (by decide +kernel), List.mem_of_getElem? (i := 216) (by decide +kernel), List.mem_of_getElem? (i := 217) (by decide +kernel)⟩
theorem lw_p4 : lw_okq (⟨"FloorType$Text", "passesSort", "()Z"⟩, 5) := ⟨⟨by decide +kernel, by decide +kernel⟩, List.mem_of_getElem? (i := 84) (by decide +kernel), List.mem_of_getElem? (i := 220) (by decide +kernel), List.mem_of_getElem? (i := 221) (by decide +kernel)⟩
theorem lw_p5 : lw_okq (⟨"FloorType$Text", "passesKind", "()Z"⟩, 5) := ⟨⟨by decide +kernel, by decide +kernel⟩, List.mem_of_getElem? (i := 84) (by decide +kernel), List.mem_of_getElem? (i := 224) (by decide +kernel), List.mem_of_getElem? (i := 225) (by decide +kernel)⟩
theorem lw_p6 : lw_okq (⟨"FloorType$Text", "passesSigns", "()Z"⟩, 5) := ⟨⟨by decide +kernel, by decide +kernel⟩, List.mem_of_getElem? (i := 84) (by decide +kernel), List.mem_of_getElem? (i := 228) (by decide +kernel), List.mem_of_getElem? (i := 229) (by decide +kernel)⟩
theorem lw_p7 : lw_okq (⟨"FloorType$Text", "passesSign", "()Z"⟩, 5) := ⟨⟨by decide +kernel, by decide +kernel⟩, List.mem_of_getElem? (i := 84) (by decide +kernel), List.mem_of_getElem? (i := 232) (by decide +kernel), List.mem_of_getElem? (i := 233) (by decide +kernel)⟩
theorem lw_p8 : lw_okq (⟨"FloorType$Page", "fillSort", "([III)V"⟩, 10) := ⟨⟨by decide +kernel, by decide +kernel⟩, List.mem_of_getElem? (i := 37) (by decide +kernel), List.mem_of_getElem? (i := 240) (by decide +kernel), List.mem_of_getElem? (i := 241) (by decide +kernel)⟩
theorem lw_p9 : lw_okq (⟨"FloorType", "refusalOfRow", "(IIII)I"⟩, 8) := ⟨⟨by decide +kernel, by decide +kernel⟩, List.mem_of_getElem? (i := 12) (by decide +kernel), List.mem_of_getElem? (i := 283) (by decide +kernel), List.mem_of_getElem? (i := 284) (by decide +kernel)⟩
theorem lw_p10 : lw_okq (⟨"FloorType", "takeNumbers", "(IIIII)I"⟩, 8) := ⟨⟨by decide +kernel, by decide +kernel⟩, List.mem_of_getElem? (i := 12) (by decide +kernel), List.mem_of_getElem? (i := 291) (by decide +kernel), List.mem_of_getElem? (i := 292) (by decide +kernel)⟩
theorem lw_p11 : lw_okq (⟨"FloorType$Walk", "passBy", "(LFloorType$Page;II)V"⟩, 4) := ⟨⟨by decide +kernel, by decide +kernel⟩, List.mem_of_getElem? (i := 110) (by decide +kernel), List.mem_of_getElem? (i := 299) (by decide +kernel), List.mem_of_getElem? (i := 300) (by decide +kernel)⟩
theorem lw_p12 : lw_okq (⟨"FloorType$Walk", "noteReady", "(I)V"⟩, 4) := ⟨⟨by decide +kernel, by decide +kernel⟩, List.mem_of_getElem? (i := 110) (by decide +kernel), List.mem_of_getElem? (i := 327) (by decide +kernel), List.mem_of_getElem? (i := 328) (by decide +kernel)⟩
theorem lw_p13 : lw_okq (⟨"FloorType", "readyBehind", "(I)I"⟩, 8) := ⟨⟨by decide +kernel, by decide +kernel⟩, List.mem_of_getElem? (i := 12) (by decide +kernel), List.mem_of_getElem? (i := 334) (by decide +kernel), List.mem_of_getElem? (i := 335) (by decide +kernel)⟩
theorem lw_p14 : lw_okq (⟨"FloorType", "leastBeside", "(I)I"⟩, 8) := ⟨⟨by decide +kernel, by decide +kernel⟩, List.mem_of_getElem? (i := 12) (by decide +kernel), List.mem_of_getElem? (i := 338) (by decide +kernel), List.mem_of_getElem? (i := 339) (by decide +kernel)⟩
theorem lw_p15 : lw_okq (⟨"FloorType$Search", "fewestFrom", "(LFloorType$Page;II)I"⟩, 2) := ⟨⟨by decide +kernel, by decide +kernel⟩, List.mem_of_getElem? (i := 133) (by decide +kernel), List.mem_of_getElem? (i := 376) (by decide +kernel), List.mem_of_getElem? (i := 377) (by decide +kernel)⟩
def lw_privs_1 : List (MethodName × Nat) := [(⟨"FloorType", "failed", "(I)I"⟩, 8), (⟨"FloorType$Text", "passes", "(II)Z"⟩, 5), (⟨"FloorType$Text", "isNext", "(II)Z"⟩, 5), (⟨"FloorType$Text", "passesSorts", "()Z"⟩, 5), (⟨"FloorType$Text", "passesSort", "()Z"⟩, 5), (⟨"FloorType$Text", "passesKind", "()Z"⟩, 5), (⟨"FloorType$Text", "passesSigns", "()Z"⟩, 5), (⟨"FloorType$Text", "passesSign", "()Z"⟩, 5), (⟨"FloorType$Page", "fillSort", "([III)V"⟩, 10), (⟨"FloorType", "refusalOfRow", "(IIII)I"⟩, 8), (⟨"FloorType", "takeNumbers", "(IIIII)I"⟩, 8), (⟨"FloorType$Walk", "passBy", "(LFloorType$Page;II)V"⟩, 4), (⟨"FloorType$Walk", "noteReady", "(I)V"⟩, 4), (⟨"FloorType", "readyBehind", "(I)I"⟩, 8), (⟨"FloorType", "leastBeside", "(I)I"⟩, 8), (⟨"FloorType$Search", "fewestFrom", "(LFloorType$Page;II)I"⟩, 2)]
theorem lw_r1 : ∀ q ∈ lw_privs_1, lw_okq q := List.forall_mem_cons.mpr ⟨lw_p0, List.forall_mem_cons.mpr ⟨lw_p1, List.forall_mem_cons.mpr ⟨lw_p2, List.forall_mem_cons.mpr ⟨lw_p3, List.forall_mem_cons.mpr ⟨lw_p4, List.forall_mem_cons.mpr ⟨lw_p5, List.forall_mem_cons.mpr ⟨lw_p6, List.forall_mem_cons.mpr ⟨lw_p7, List.forall_mem_cons.mpr ⟨lw_p8, List.forall_mem_cons.mpr ⟨lw_p9, List.forall_mem_cons.mpr ⟨lw_p10, List.forall_mem_cons.mpr ⟨lw_p11, List.forall_mem_cons.mpr ⟨lw_p12, List.forall_mem_cons.mpr ⟨lw_p13, List.forall_mem_cons.mpr ⟨lw_p14, List.forall_mem_cons.mpr ⟨lw_p15, fun _ h => absurd h List.not_mem_nil⟩⟩⟩⟩⟩⟩⟩⟩⟩⟩⟩⟩⟩⟩⟩⟩
theorem lw_p16 : lw_okq (⟨"FloorType$Search", "nextSign", "(LFloorType$Page;I)I"⟩, 2) := ⟨⟨by decide +kernel, by decide +kernel⟩, List.mem_of_getElem? (i := 133) (by decide +kernel), List.mem_of_getElem? (i := 396) (by decide +kernel), List.mem_of_getElem? (i := 397) (by decide +kernel)⟩
theorem lw_p17 : lw_okq (⟨"FloorType$Search", "fewestOf", "(LFloorType$Page;I)I"⟩, 2) := ⟨⟨by decide +kernel, by decide +kernel⟩, List.mem_of_getElem? (i := 133) (by decide +kernel), List.mem_of_getElem? (i := 415) (by decide +kernel), List.mem_of_getElem? (i := 416) (by decide +kernel)⟩
theorem lw_p18 : lw_okq (⟨"FloorType$Search", "behindParting", "(LFloorType$Page;II)I"⟩, 2) := ⟨⟨by decide +kernel, by decide +kernel⟩, List.mem_of_getElem? (i := 133) (by decide +kernel), List.mem_of_getElem? (i := 419) (by decide +kernel), List.mem_of_getElem? (i := 420) (by decide +kernel)⟩
theorem lw_p19 : lw_okq (⟨"FloorType", "tellDoubtful", "(I)I"⟩, 8) := ⟨⟨by decide +kernel, by decide +kernel⟩, List.mem_of_getElem? (i := 12) (by decide +kernel), List.mem_of_getElem? (i := 527) (by decide +kernel), List.mem_of_getElem? (i := 528) (by decide +kernel)⟩
theorem lw_p20 : lw_okq (⟨"FloorType", "leave", "(I)V"⟩, 8) := ⟨⟨by decide +kernel, by decide +kernel⟩, List.mem_of_getElem? (i := 12) (by decide +kernel), List.mem_of_getElem? (i := 531) (by decide +kernel), List.mem_of_getElem? (i := 532) (by decide +kernel)⟩
theorem lw_p21 : lw_okq (⟨"FloorType", "tellSure", "(I)I"⟩, 8) := ⟨⟨by decide +kernel, by decide +kernel⟩, List.mem_of_getElem? (i := 12) (by decide +kernel), List.mem_of_getElem? (i := 535) (by decide +kernel), List.mem_of_getElem? (i := 536) (by decide +kernel)⟩
theorem lw_p22 : lw_okq (⟨"FloorType", "tellPicking", "(I)I"⟩, 8) := ⟨⟨by decide +kernel, by decide +kernel⟩, List.mem_of_getElem? (i := 12) (by decide +kernel), List.mem_of_getElem? (i := 539) (by decide +kernel), List.mem_of_getElem? (i := 540) (by decide +kernel)⟩
theorem lw_p23 : lw_okq (⟨"FloorType", "dropByOwn", "()I"⟩, 8) := ⟨⟨by decide +kernel, by decide +kernel⟩, List.mem_of_getElem? (i := 12) (by decide +kernel), List.mem_of_getElem? (i := 547) (by decide +kernel), List.mem_of_getElem? (i := 548) (by decide +kernel)⟩
theorem lw_p24 : lw_okq (⟨"FloorType", "dropByLent", "(I)I"⟩, 8) := ⟨⟨by decide +kernel, by decide +kernel⟩, List.mem_of_getElem? (i := 12) (by decide +kernel), List.mem_of_getElem? (i := 551) (by decide +kernel), List.mem_of_getElem? (i := 552) (by decide +kernel)⟩
theorem lw_p25 : lw_okq (⟨"FloorTypeModel", "refused", "(I)I"⟩, 32) := ⟨⟨by decide +kernel, by decide +kernel⟩, List.mem_of_getElem? (i := 575) (by decide +kernel), List.mem_of_getElem? (i := 689) (by decide +kernel), List.mem_of_getElem? (i := 690) (by decide +kernel)⟩
theorem lw_p26 : lw_okq (⟨"FloorTypeModel", "cellsBarred", "(IIIJ)I"⟩, 32) := ⟨⟨by decide +kernel, by decide +kernel⟩, List.mem_of_getElem? (i := 575) (by decide +kernel), List.mem_of_getElem? (i := 694) (by decide +kernel), List.mem_of_getElem? (i := 695) (by decide +kernel)⟩
theorem lw_p27 : lw_okq (⟨"FloorTypeModel", "failed", "(I)I"⟩, 32) := ⟨⟨by decide +kernel, by decide +kernel⟩, List.mem_of_getElem? (i := 575) (by decide +kernel), List.mem_of_getElem? (i := 698) (by decide +kernel), List.mem_of_getElem? (i := 699) (by decide +kernel)⟩
theorem lw_p28 : lw_okq (⟨"FloorTypeModel", "readsFloor", "(II)Z"⟩, 32) := ⟨⟨by decide +kernel, by decide +kernel⟩, List.mem_of_getElem? (i := 575) (by decide +kernel), List.mem_of_getElem? (i := 705) (by decide +kernel), List.mem_of_getElem? (i := 706) (by decide +kernel)⟩
theorem lw_p29 : lw_okq (⟨"FloorTypeModel", "codeAt", "(II)I"⟩, 32) := ⟨⟨by decide +kernel, by decide +kernel⟩, List.mem_of_getElem? (i := 575) (by decide +kernel), List.mem_of_getElem? (i := 709) (by decide +kernel), List.mem_of_getElem? (i := 710) (by decide +kernel)⟩
theorem lw_p30 : lw_okq (⟨"FloorTypeModel", "readsSort", "(II)Z"⟩, 32) := ⟨⟨by decide +kernel, by decide +kernel⟩, List.mem_of_getElem? (i := 575) (by decide +kernel), List.mem_of_getElem? (i := 713) (by decide +kernel), List.mem_of_getElem? (i := 714) (by decide +kernel)⟩
theorem lw_p31 : lw_okq (⟨"FloorTypeModel", "figure", "(IIII)I"⟩, 32) := ⟨⟨by decide +kernel, by decide +kernel⟩, List.mem_of_getElem? (i := 575) (by decide +kernel), List.mem_of_getElem? (i := 717) (by decide +kernel), List.mem_of_getElem? (i := 718) (by decide +kernel)⟩
def lw_privs_2 : List (MethodName × Nat) := [(⟨"FloorType$Search", "nextSign", "(LFloorType$Page;I)I"⟩, 2), (⟨"FloorType$Search", "fewestOf", "(LFloorType$Page;I)I"⟩, 2), (⟨"FloorType$Search", "behindParting", "(LFloorType$Page;II)I"⟩, 2), (⟨"FloorType", "tellDoubtful", "(I)I"⟩, 8), (⟨"FloorType", "leave", "(I)V"⟩, 8), (⟨"FloorType", "tellSure", "(I)I"⟩, 8), (⟨"FloorType", "tellPicking", "(I)I"⟩, 8), (⟨"FloorType", "dropByOwn", "()I"⟩, 8), (⟨"FloorType", "dropByLent", "(I)I"⟩, 8), (⟨"FloorTypeModel", "refused", "(I)I"⟩, 32), (⟨"FloorTypeModel", "cellsBarred", "(IIIJ)I"⟩, 32), (⟨"FloorTypeModel", "failed", "(I)I"⟩, 32), (⟨"FloorTypeModel", "readsFloor", "(II)Z"⟩, 32), (⟨"FloorTypeModel", "codeAt", "(II)I"⟩, 32), (⟨"FloorTypeModel", "readsSort", "(II)Z"⟩, 32), (⟨"FloorTypeModel", "figure", "(IIII)I"⟩, 32)]
theorem lw_r2 : ∀ q ∈ lw_privs_2, lw_okq q := List.forall_mem_cons.mpr ⟨lw_p16, List.forall_mem_cons.mpr ⟨lw_p17, List.forall_mem_cons.mpr ⟨lw_p18, List.forall_mem_cons.mpr ⟨lw_p19, List.forall_mem_cons.mpr ⟨lw_p20, List.forall_mem_cons.mpr ⟨lw_p21, List.forall_mem_cons.mpr ⟨lw_p22, List.forall_mem_cons.mpr ⟨lw_p23, List.forall_mem_cons.mpr ⟨lw_p24, List.forall_mem_cons.mpr ⟨lw_p25, List.forall_mem_cons.mpr ⟨lw_p26, List.forall_mem_cons.mpr ⟨lw_p27, List.forall_mem_cons.mpr ⟨lw_p28, List.forall_mem_cons.mpr ⟨lw_p29, List.forall_mem_cons.mpr ⟨lw_p30, List.forall_mem_cons.mpr ⟨lw_p31, fun _ h => absurd h List.not_mem_nil⟩⟩⟩⟩⟩⟩⟩⟩⟩⟩⟩⟩⟩⟩⟩⟩
theorem lw_p32 : lw_okq (⟨"FloorTypeModel", "readsSign", "(II)Z"⟩, 32) := ⟨⟨by decide +kernel, by decide +kernel⟩, List.mem_of_getElem? (i := 575) (by decide +kernel), List.mem_of_getElem? (i := 721) (by decide +kernel), List.mem_of_getElem? (i := 722) (by decide +kernel)⟩
theorem lw_p33 : lw_okq (⟨"FloorTypeModel", "noSort", "(I)Z"⟩, 32) := ⟨⟨by decide +kernel, by decide +kernel⟩, List.mem_of_getElem? (i := 575) (by decide +kernel), List.mem_of_getElem? (i := 729) (by decide +kernel), List.mem_of_getElem? (i := 730) (by decide +kernel)⟩
theorem lw_p34 : lw_okq (⟨"FloorTypeModel", "lookOf", "(I)I"⟩, 32) := ⟨⟨by decide +kernel, by decide +kernel⟩, List.mem_of_getElem? (i := 575) (by decide +kernel), List.mem_of_getElem? (i := 733) (by decide +kernel), List.mem_of_getElem? (i := 734) (by decide +kernel)⟩
theorem lw_p35 : lw_okq (⟨"FloorTypeModel", "noSign", "(I)Z"⟩, 32) := ⟨⟨by decide +kernel, by decide +kernel⟩, List.mem_of_getElem? (i := 575) (by decide +kernel), List.mem_of_getElem? (i := 741) (by decide +kernel), List.mem_of_getElem? (i := 742) (by decide +kernel)⟩
theorem lw_p36 : lw_okq (⟨"FloorTypeModel", "all", "()I"⟩, 32) := ⟨⟨by decide +kernel, by decide +kernel⟩, List.mem_of_getElem? (i := 575) (by decide +kernel), List.mem_of_getElem? (i := 745) (by decide +kernel), List.mem_of_getElem? (i := 746) (by decide +kernel)⟩
theorem lw_p37 : lw_okq (⟨"FloorTypeModel", "rowBarred", "(IIIIZ)I"⟩, 32) := ⟨⟨by decide +kernel, by decide +kernel⟩, List.mem_of_getElem? (i := 575) (by decide +kernel), List.mem_of_getElem? (i := 767) (by decide +kernel), List.mem_of_getElem? (i := 768) (by decide +kernel)⟩
theorem lw_p38 : lw_okq (⟨"FloorTypeModel", "goPlan", "(II)V"⟩, 32) := ⟨⟨by decide +kernel, by decide +kernel⟩, List.mem_of_getElem? (i := 575) (by decide +kernel), List.mem_of_getElem? (i := 771) (by decide +kernel), List.mem_of_getElem? (i := 772) (by decide +kernel)⟩
theorem lw_p39 : lw_okq (⟨"FloorTypeModel", "begin", "()V"⟩, 32) := ⟨⟨by decide +kernel, by decide +kernel⟩, List.mem_of_getElem? (i := 575) (by decide +kernel), List.mem_of_getElem? (i := 775) (by decide +kernel), List.mem_of_getElem? (i := 776) (by decide +kernel)⟩
theorem lw_p40 : lw_okq (⟨"FloorTypeModel", "goPass", "(II)V"⟩, 32) := ⟨⟨by decide +kernel, by decide +kernel⟩, List.mem_of_getElem? (i := 575) (by decide +kernel), List.mem_of_getElem? (i := 779) (by decide +kernel), List.mem_of_getElem? (i := 780) (by decide +kernel)⟩
theorem lw_p41 : lw_okq (⟨"FloorTypeModel", "isAlone", "(I)Z"⟩, 32) := ⟨⟨by decide +kernel, by decide +kernel⟩, List.mem_of_getElem? (i := 575) (by decide +kernel), List.mem_of_getElem? (i := 783) (by decide +kernel), List.mem_of_getElem? (i := 784) (by decide +kernel)⟩
theorem lw_p42 : lw_okq (⟨"FloorTypeModel", "looksOf", "(I)I"⟩, 32) := ⟨⟨by decide +kernel, by decide +kernel⟩, List.mem_of_getElem? (i := 575) (by decide +kernel), List.mem_of_getElem? (i := 790) (by decide +kernel), List.mem_of_getElem? (i := 791) (by decide +kernel)⟩
theorem lw_p43 : lw_okq (⟨"FloorTypeModel", "leastOf", "(I)I"⟩, 32) := ⟨⟨by decide +kernel, by decide +kernel⟩, List.mem_of_getElem? (i := 575) (by decide +kernel), List.mem_of_getElem? (i := 794) (by decide +kernel), List.mem_of_getElem? (i := 795) (by decide +kernel)⟩
theorem lw_p44 : lw_okq (⟨"FloorTypeModel", "heapsNow", "()I"⟩, 32) := ⟨⟨by decide +kernel, by decide +kernel⟩, List.mem_of_getElem? (i := 575) (by decide +kernel), List.mem_of_getElem? (i := 798) (by decide +kernel), List.mem_of_getElem? (i := 799) (by decide +kernel)⟩
theorem lw_p45 : lw_okq (⟨"FloorTypeModel", "readyNow", "()I"⟩, 32) := ⟨⟨by decide +kernel, by decide +kernel⟩, List.mem_of_getElem? (i := 575) (by decide +kernel), List.mem_of_getElem? (i := 802) (by decide +kernel), List.mem_of_getElem? (i := 803) (by decide +kernel)⟩
theorem lw_p46 : lw_okq (⟨"FloorTypeModel", "lengthOf", "(I)I"⟩, 32) := ⟨⟨by decide +kernel, by decide +kernel⟩, List.mem_of_getElem? (i := 575) (by decide +kernel), List.mem_of_getElem? (i := 821) (by decide +kernel), List.mem_of_getElem? (i := 822) (by decide +kernel)⟩
theorem lw_p47 : lw_okq (⟨"FloorTypeModel", "growTree", "(I)V"⟩, 32) := ⟨⟨by decide +kernel, by decide +kernel⟩, List.mem_of_getElem? (i := 575) (by decide +kernel), List.mem_of_getElem? (i := 829) (by decide +kernel), List.mem_of_getElem? (i := 830) (by decide +kernel)⟩
def lw_privs_3 : List (MethodName × Nat) := [(⟨"FloorTypeModel", "readsSign", "(II)Z"⟩, 32), (⟨"FloorTypeModel", "noSort", "(I)Z"⟩, 32), (⟨"FloorTypeModel", "lookOf", "(I)I"⟩, 32), (⟨"FloorTypeModel", "noSign", "(I)Z"⟩, 32), (⟨"FloorTypeModel", "all", "()I"⟩, 32), (⟨"FloorTypeModel", "rowBarred", "(IIIIZ)I"⟩, 32), (⟨"FloorTypeModel", "goPlan", "(II)V"⟩, 32), (⟨"FloorTypeModel", "begin", "()V"⟩, 32), (⟨"FloorTypeModel", "goPass", "(II)V"⟩, 32), (⟨"FloorTypeModel", "isAlone", "(I)Z"⟩, 32), (⟨"FloorTypeModel", "looksOf", "(I)I"⟩, 32), (⟨"FloorTypeModel", "leastOf", "(I)I"⟩, 32), (⟨"FloorTypeModel", "heapsNow", "()I"⟩, 32), (⟨"FloorTypeModel", "readyNow", "()I"⟩, 32), (⟨"FloorTypeModel", "lengthOf", "(I)I"⟩, 32), (⟨"FloorTypeModel", "growTree", "(I)V"⟩, 32)]
theorem lw_r3 : ∀ q ∈ lw_privs_3, lw_okq q := List.forall_mem_cons.mpr ⟨lw_p32, List.forall_mem_cons.mpr ⟨lw_p33, List.forall_mem_cons.mpr ⟨lw_p34, List.forall_mem_cons.mpr ⟨lw_p35, List.forall_mem_cons.mpr ⟨lw_p36, List.forall_mem_cons.mpr ⟨lw_p37, List.forall_mem_cons.mpr ⟨lw_p38, List.forall_mem_cons.mpr ⟨lw_p39, List.forall_mem_cons.mpr ⟨lw_p40, List.forall_mem_cons.mpr ⟨lw_p41, List.forall_mem_cons.mpr ⟨lw_p42, List.forall_mem_cons.mpr ⟨lw_p43, List.forall_mem_cons.mpr ⟨lw_p44, List.forall_mem_cons.mpr ⟨lw_p45, List.forall_mem_cons.mpr ⟨lw_p46, List.forall_mem_cons.mpr ⟨lw_p47, fun _ h => absurd h List.not_mem_nil⟩⟩⟩⟩⟩⟩⟩⟩⟩⟩⟩⟩⟩⟩⟩⟩
theorem lw_p48 : lw_okq (⟨"FloorTypeModel", "areSo", "()Z"⟩, 32) := ⟨⟨by decide +kernel, by decide +kernel⟩, List.mem_of_getElem? (i := 575) (by decide +kernel), List.mem_of_getElem? (i := 858) (by decide +kernel), List.mem_of_getElem? (i := 859) (by decide +kernel)⟩
theorem lw_p49 : lw_okq (⟨"FloorTypeModel", "noCell", "(II)I"⟩, 32) := ⟨⟨by decide +kernel, by decide +kernel⟩, List.mem_of_getElem? (i := 575) (by decide +kernel), List.mem_of_getElem? (i := 882) (by decide +kernel), List.mem_of_getElem? (i := 883) (by decide +kernel)⟩
theorem lw_p50 : lw_okq (⟨"FloorTypeModel", "failedLong", "(I)J"⟩, 32) := ⟨⟨by decide +kernel, by decide +kernel⟩, List.mem_of_getElem? (i := 575) (by decide +kernel), List.mem_of_getElem? (i := 890) (by decide +kernel), List.mem_of_getElem? (i := 891) (by decide +kernel)⟩
theorem lw_p51 : lw_okq (⟨"FloorTypeModel", "traced", "(I)V"⟩, 32) := ⟨⟨by decide +kernel, by decide +kernel⟩, List.mem_of_getElem? (i := 575) (by decide +kernel), List.mem_of_getElem? (i := 902) (by decide +kernel), List.mem_of_getElem? (i := 903) (by decide +kernel)⟩
theorem lw_p52 : lw_okq (⟨"FloorTypeModel", "lettersNow", "()I"⟩, 32) := ⟨⟨by decide +kernel, by decide +kernel⟩, List.mem_of_getElem? (i := 575) (by decide +kernel), List.mem_of_getElem? (i := 926) (by decide +kernel), List.mem_of_getElem? (i := 927) (by decide +kernel)⟩
def lw_privs_4 : List (MethodName × Nat) := [(⟨"FloorTypeModel", "areSo", "()Z"⟩, 32), (⟨"FloorTypeModel", "noCell", "(II)I"⟩, 32), (⟨"FloorTypeModel", "failedLong", "(I)J"⟩, 32), (⟨"FloorTypeModel", "traced", "(I)V"⟩, 32), (⟨"FloorTypeModel", "lettersNow", "()I"⟩, 32)]
theorem lw_r4 : ∀ q ∈ lw_privs_4, lw_okq q := List.forall_mem_cons.mpr ⟨lw_p48, List.forall_mem_cons.mpr ⟨lw_p49, List.forall_mem_cons.mpr ⟨lw_p50, List.forall_mem_cons.mpr ⟨lw_p51, List.forall_mem_cons.mpr ⟨lw_p52, fun _ h => absurd h List.not_mem_nil⟩⟩⟩⟩⟩
def lw_privs : List (MethodName × Nat) := lw_privs_1 ++ (lw_privs_2 ++ (lw_privs_3 ++ (lw_privs_4)))
def lw_tbl : List Cond := k2_sels lw_privs ++ tables_1
theorem lw_privs_ok : ∀ q ∈ lw_privs, lw_okq q := by
  show ∀ q ∈ lw_privs_1 ++ (lw_privs_2 ++ (lw_privs_3 ++ (lw_privs_4))), lw_okq q
  exact List.forall_mem_append.mpr ⟨lw_r1, List.forall_mem_append.mpr ⟨lw_r2, List.forall_mem_append.mpr ⟨lw_r3, lw_r4⟩⟩⟩

abbrev RX0 : String := "FloorType$Page"
def TX0 : u_T := fun k => match k with
  | 0 => ("FloorType$Page", "sorts", "I", false)
  | 1 => ("FloorType$Page", "signs", "I", false)
  | 2 => ("FloorType$Page", "readings", "I", false)
  | 3 => ("FloorType$Page", "kind", "[I", true)
  | 4 => ("FloorType$Page", "count", "[I", true)
  | 5 => ("FloorType$Page", "seconds", "[I", true)
  | 6 => ("FloorType$Page", "alike", "[I", true)
  | 7 => ("FloorType$Page", "having", "[I", true)
  | 8 => ("FloorType$Page", "setRead", "[I", true)
  | _ => ("FloorType$Page", "timeRead", "[I", true)
def tyX0 : Nat → FieldType := fun k => match k with
  | 0 => .int
  | 1 => .int
  | 2 => .int
  | 3 => .array .int
  | 4 => .array .int
  | 5 => .array .int
  | 6 => .array .int
  | 7 => .array .int
  | 8 => .array .int
  | _ => .array .int
theorem nmX0 : ∀ a, a < 10 → ∀ b, b < 10 → a ≠ b → (TX0 a).2.1 ≠ (TX0 b).2.1 := by decide +kernel
theorem tyX0_ok : ∀ k, k < 10 → parseFieldDescriptor (TX0 k).2.2.1 = some (tyX0 k) := by decide +kernel
abbrev cX0_init : ByteArray := prog_2_method_1_code
def yX0_init : MethodName := ⟨RX0, "<init>", "()V"⟩
abbrev cX0_isThere : ByteArray := prog_2_method_2_code
def yX0_isThere : MethodName := ⟨RX0, "isThere", "()Z"⟩
abbrev cX0_isSort : ByteArray := prog_2_method_3_code
def yX0_isSort : MethodName := ⟨RX0, "isSort", "(I)Z"⟩
abbrev cX0_isSign : ByteArray := prog_2_method_4_code
def yX0_isSign : MethodName := ⟨RX0, "isSign", "(I)Z"⟩
abbrev cX0_isSet : ByteArray := prog_2_method_5_code
def yX0_isSet : MethodName := ⟨RX0, "isSet", "(I)Z"⟩
abbrev cX0_everySort : ByteArray := prog_2_method_6_code
def yX0_everySort : MethodName := ⟨RX0, "everySort", "()I"⟩
abbrev cX0_fill : ByteArray := prog_2_method_7_code
def yX0_fill : MethodName := ⟨RX0, "fill", "(LFloorType$Text;)V"⟩
abbrev cX0_fillSort : ByteArray := prog_2_method_8_code
def yX0_fillSort : MethodName := ⟨RX0, "fillSort", "([III)V"⟩
abbrev cX0_letters : ByteArray := prog_2_method_9_code
def yX0_letters : MethodName := ⟨RX0, "letters", "()I"⟩
abbrev cX0_secondsFor : ByteArray := prog_2_method_10_code
def yX0_secondsFor : MethodName := ⟨RX0, "secondsFor", "(I)I"⟩
abbrev cX0_lettersAlike : ByteArray := prog_2_method_11_code
def yX0_lettersAlike : MethodName := ⟨RX0, "lettersAlike", "(I)I"⟩
abbrev cX0_firstShort : ByteArray := prog_2_method_12_code
def yX0_firstShort : MethodName := ⟨RX0, "firstShort", "([II)I"⟩
abbrev cX0_heapOf : ByteArray := prog_2_method_13_code
def yX0_heapOf : MethodName := ⟨RX0, "heapOf", "(II)I"⟩
abbrev cX0_waiting : ByteArray := prog_2_method_14_code
def yX0_waiting : MethodName := ⟨RX0, "waiting", "(I)I"⟩
abbrev cX0_heaps : ByteArray := prog_2_method_15_code
def yX0_heaps : MethodName := ⟨RX0, "heaps", "(I)I"⟩
abbrev cX0_note : ByteArray := prog_2_method_16_code
def yX0_note : MethodName := ⟨RX0, "note", "(II)I"⟩
abbrev cX0_readingsHold : ByteArray := prog_2_method_17_code
def yX0_readingsHold : MethodName := ⟨RX0, "readingsHold", "(II)Z"⟩
abbrev RX1 : String := "FloorType$Search"
def TX1 : u_T := fun k => match k with
  | 0 => ("FloorType$Search", "byUsed", "[I", true)
  | _ => ("FloorType$Search", "byHeap", "[I", true)
def tyX1 : Nat → FieldType := fun k => match k with
  | 0 => .array .int
  | _ => .array .int
theorem nmX1 : ∀ a, a < 2 → ∀ b, b < 2 → a ≠ b → (TX1 a).2.1 ≠ (TX1 b).2.1 := by decide +kernel
theorem tyX1_ok : ∀ k, k < 2 → parseFieldDescriptor (TX1 k).2.2.1 = some (tyX1 k) := by decide +kernel
abbrev cX1_init : ByteArray := prog_3_method_1_code
def yX1_init : MethodName := ⟨RX1, "<init>", "()V"⟩
abbrev cX1_weighOrders : ByteArray := prog_3_method_2_code
def yX1_weighOrders : MethodName := ⟨RX1, "weighOrders", "(LFloorType$Page;)V"⟩
abbrev cX1_fewestFrom : ByteArray := prog_3_method_3_code
def yX1_fewestFrom : MethodName := ⟨RX1, "fewestFrom", "(LFloorType$Page;II)I"⟩
abbrev cX1_fewer : ByteArray := prog_3_method_4_code
def yX1_fewer : MethodName := ⟨RX1, "fewer", "(II)I"⟩
abbrev cX1_fewestByOrder : ByteArray := prog_3_method_5_code
def yX1_fewestByOrder : MethodName := ⟨RX1, "fewestByOrder", "()I"⟩
abbrev cX1_signOfOrder : ByteArray := prog_3_method_6_code
def yX1_signOfOrder : MethodName := ⟨RX1, "signOfOrder", "(LFloorType$Page;I)I"⟩
abbrev cX1_nextSign : ByteArray := prog_3_method_7_code
def yX1_nextSign : MethodName := ⟨RX1, "nextSign", "(LFloorType$Page;I)I"⟩
abbrev cX1_weighTrees : ByteArray := prog_3_method_8_code
def yX1_weighTrees : MethodName := ⟨RX1, "weighTrees", "(LFloorType$Page;)V"⟩
abbrev cX1_fewestOf : ByteArray := prog_3_method_9_code
def yX1_fewestOf : MethodName := ⟨RX1, "fewestOf", "(LFloorType$Page;I)I"⟩
abbrev cX1_behindParting : ByteArray := prog_3_method_10_code
def yX1_behindParting : MethodName := ⟨RX1, "behindParting", "(LFloorType$Page;II)I"⟩
abbrev cX1_fewestByTree : ByteArray := prog_3_method_11_code
def yX1_fewestByTree : MethodName := ⟨RX1, "fewestByTree", "(LFloorType$Page;)I"⟩
abbrev cX1_firstOfTree : ByteArray := prog_3_method_12_code
def yX1_firstOfTree : MethodName := ⟨RX1, "firstOfTree", "(LFloorType$Page;)I"⟩
abbrev RX2 : String := "FloorType$Sheets"
def TX2 : u_T := fun k => match k with
  | 0 => ("FloorType$Sheets", "cells", "[I", true)
  | 1 => ("FloorType$Sheets", "lanes", "[I", true)
  | _ => ("FloorType$Sheets", "sizes", "[I", true)
def tyX2 : Nat → FieldType := fun k => match k with
  | 0 => .array .int
  | 1 => .array .int
  | _ => .array .int
theorem nmX2 : ∀ a, a < 3 → ∀ b, b < 3 → a ≠ b → (TX2 a).2.1 ≠ (TX2 b).2.1 := by decide +kernel
theorem tyX2_ok : ∀ k, k < 3 → parseFieldDescriptor (TX2 k).2.2.1 = some (tyX2 k) := by decide +kernel
abbrev cX2_init : ByteArray := prog_4_method_1_code
def yX2_init : MethodName := ⟨RX2, "<init>", "()V"⟩
abbrev cX2_isSheet : ByteArray := prog_4_method_2_code
def yX2_isSheet : MethodName := ⟨RX2, "isSheet", "(I)Z"⟩
abbrev cX2_isLane : ByteArray := prog_4_method_3_code
def yX2_isLane : MethodName := ⟨RX2, "isLane", "(I)Z"⟩
abbrev cX2_isEmpty : ByteArray := prog_4_method_4_code
def yX2_isEmpty : MethodName := ⟨RX2, "isEmpty", "(I)Z"⟩
abbrev cX2_faultAsRow : ByteArray := prog_4_method_5_code
def yX2_faultAsRow : MethodName := ⟨RX2, "faultAsRow", "(II)I"⟩
abbrev cX2_faultOfPair : ByteArray := prog_4_method_6_code
def yX2_faultOfPair : MethodName := ⟨RX2, "faultOfPair", "(II)I"⟩
abbrev cX2_faultOfCell : ByteArray := prog_4_method_7_code
def yX2_faultOfCell : MethodName := ⟨RX2, "faultOfCell", "(II)I"⟩
abbrev cX2_faultOfSpan : ByteArray := prog_4_method_8_code
def yX2_faultOfSpan : MethodName := ⟨RX2, "faultOfSpan", "(III)I"⟩
abbrev cX2_renew : ByteArray := prog_4_method_9_code
def yX2_renew : MethodName := ⟨RX2, "renew", "(III)V"⟩
abbrev cX2_clear : ByteArray := prog_4_method_10_code
def yX2_clear : MethodName := ⟨RX2, "clear", "(I)Z"⟩
abbrev cX2_read : ByteArray := prog_4_method_11_code
def yX2_read : MethodName := ⟨RX2, "read", "(II)I"⟩
abbrev cX2_write : ByteArray := prog_4_method_12_code
def yX2_write : MethodName := ⟨RX2, "write", "(III)V"⟩
abbrev cX2_cut : ByteArray := prog_4_method_13_code
def yX2_cut : MethodName := ⟨RX2, "cut", "(II)I"⟩
abbrev cX2_move : ByteArray := prog_4_method_14_code
def yX2_move : MethodName := ⟨RX2, "move", "(IIIII)V"⟩
abbrev cX2_take : ByteArray := prog_4_method_15_code
def yX2_take : MethodName := ⟨RX2, "take", "(III[I)V"⟩
abbrev RX3 : String := "FloorType$Text"
def TX3 : u_T := fun k => match k with
  | 0 => ("FloorType$Text", "codes", "[I", true)
  | 1 => ("FloorType$Text", "length", "I", false)
  | 2 => ("FloorType$Text", "at", "I", false)
  | 3 => ("FloorType$Text", "sorts", "I", false)
  | _ => ("FloorType$Text", "signs", "I", false)
def tyX3 : Nat → FieldType := fun k => match k with
  | 0 => .array .int
  | 1 => .int
  | 2 => .int
  | 3 => .int
  | _ => .int
theorem nmX3 : ∀ a, a < 5 → ∀ b, b < 5 → a ≠ b → (TX3 a).2.1 ≠ (TX3 b).2.1 := by decide +kernel
theorem tyX3_ok : ∀ k, k < 5 → parseFieldDescriptor (TX3 k).2.2.1 = some (tyX3 k) := by decide +kernel
abbrev cX3_init : ByteArray := prog_5_method_1_code
def yX3_init : MethodName := ⟨RX3, "<init>", "()V"⟩
abbrev cX3_firstFault : ByteArray := prog_5_method_2_code
def yX3_firstFault : MethodName := ⟨RX3, "firstFault", "(I)I"⟩
abbrev cX3_passes : ByteArray := prog_5_method_3_code
def yX3_passes : MethodName := ⟨RX3, "passes", "(II)Z"⟩
abbrev cX3_isNext : ByteArray := prog_5_method_4_code
def yX3_isNext : MethodName := ⟨RX3, "isNext", "(II)Z"⟩
abbrev cX3_passesSorts : ByteArray := prog_5_method_5_code
def yX3_passesSorts : MethodName := ⟨RX3, "passesSorts", "()Z"⟩
abbrev cX3_passesSort : ByteArray := prog_5_method_6_code
def yX3_passesSort : MethodName := ⟨RX3, "passesSort", "()Z"⟩
abbrev cX3_passesKind : ByteArray := prog_5_method_7_code
def yX3_passesKind : MethodName := ⟨RX3, "passesKind", "()Z"⟩
abbrev cX3_passesSigns : ByteArray := prog_5_method_8_code
def yX3_passesSigns : MethodName := ⟨RX3, "passesSigns", "()Z"⟩
abbrev cX3_passesSign : ByteArray := prog_5_method_9_code
def yX3_passesSign : MethodName := ⟨RX3, "passesSign", "()Z"⟩
abbrev RX4 : String := "FloorType$Walk"
def TX4 : u_T := fun k => match k with
  | 0 => ("FloorType$Walk", "seconds", "I", false)
  | 1 => ("FloorType$Walk", "idle", "I", false)
  | 2 => ("FloorType$Walk", "used", "I", false)
  | _ => ("FloorType$Walk", "behind", "[I", true)
def tyX4 : Nat → FieldType := fun k => match k with
  | 0 => .int
  | 1 => .int
  | 2 => .int
  | _ => .array .int
theorem nmX4 : ∀ a, a < 4 → ∀ b, b < 4 → a ≠ b → (TX4 a).2.1 ≠ (TX4 b).2.1 := by decide +kernel
theorem tyX4_ok : ∀ k, k < 4 → parseFieldDescriptor (TX4 k).2.2.1 = some (tyX4 k) := by decide +kernel
abbrev cX4_init : ByteArray := prog_6_method_1_code
def yX4_init : MethodName := ⟨RX4, "<init>", "()V"⟩
abbrev cX4_go : ByteArray := prog_6_method_2_code
def yX4_go : MethodName := ⟨RX4, "go", "(LFloorType$Page;[II)V"⟩
abbrev cX4_passBy : ByteArray := prog_6_method_3_code
def yX4_passBy : MethodName := ⟨RX4, "passBy", "(LFloorType$Page;II)V"⟩
abbrev cX4_noteReady : ByteArray := prog_6_method_4_code
def yX4_noteReady : MethodName := ⟨RX4, "noteReady", "(I)V"⟩
abbrev cX4_allReadyBehind : ByteArray := prog_6_method_5_code
def yX4_allReadyBehind : MethodName := ⟨RX4, "allReadyBehind", "(I)I"⟩
abbrev RX5 : String := "FloorType"
def TX5 : u_T := fun k => match k with
  | 0 => ("FloorType", "sheets", "LFloorType$Sheets;", true)
  | 1 => ("FloorType", "page", "LFloorType$Page;", true)
  | 2 => ("FloorType", "text", "LFloorType$Text;", true)
  | 3 => ("FloorType", "walk", "LFloorType$Walk;", true)
  | 4 => ("FloorType", "search", "LFloorType$Search;", true)
  | 5 => ("FloorType", "row", "[I", true)
  | 6 => ("FloorType", "trace", "I", false)
  | _ => ("FloorType", "fault", "I", false)
def tyX5 : Nat → FieldType := fun k => match k with
  | 0 => .object "FloorType$Sheets"
  | 1 => .object "FloorType$Page"
  | 2 => .object "FloorType$Text"
  | 3 => .object "FloorType$Walk"
  | 4 => .object "FloorType$Search"
  | 5 => .array .int
  | 6 => .int
  | _ => .int
theorem nmX5 : ∀ a, a < 8 → ∀ b, b < 8 → a ≠ b → (TX5 a).2.1 ≠ (TX5 b).2.1 := by decide +kernel
theorem tyX5_ok : ∀ k, k < 8 → parseFieldDescriptor (TX5 k).2.2.1 = some (tyX5 k) := by decide +kernel
abbrev cX5_init : ByteArray := prog_1_method_1_code
def yX5_init : MethodName := ⟨RX5, "<init>", "()V"⟩
abbrev cX5_floor : ByteArray := prog_1_method_2_code
def yX5_floor : MethodName := ⟨RX5, "floor", "(IIII)I"⟩
abbrev cX5_ofSort : ByteArray := prog_1_method_3_code
def yX5_ofSort : MethodName := ⟨RX5, "ofSort", "(II)I"⟩
abbrev cX5_ofSign : ByteArray := prog_1_method_4_code
def yX5_ofSign : MethodName := ⟨RX5, "ofSign", "(I)I"⟩
abbrev cX5_lay : ByteArray := prog_1_method_5_code
def yX5_lay : MethodName := ⟨RX5, "lay", "(II)I"⟩
abbrev cX5_sign : ByteArray := prog_1_method_6_code
def yX5_sign : MethodName := ⟨RX5, "sign", "(II)I"⟩
abbrev cX5_plan : ByteArray := prog_1_method_7_code
def yX5_plan : MethodName := ⟨RX5, "plan", "(IIIII)I"⟩
abbrev cX5_line : ByteArray := prog_1_method_8_code
def yX5_line : MethodName := ⟨RX5, "line", "(IIII)I"⟩
abbrev cX5_soon : ByteArray := prog_1_method_9_code
def yX5_soon : MethodName := ⟨RX5, "soon", "(IIIII)I"⟩
abbrev cX5_order : ByteArray := prog_1_method_10_code
def yX5_order : MethodName := ⟨RX5, "order", "(I)I"⟩
abbrev cX5_tree : ByteArray := prog_1_method_11_code
def yX5_tree : MethodName := ⟨RX5, "tree", "(I)I"⟩
abbrev cX5_odds : ByteArray := prog_1_method_12_code
def yX5_odds : MethodName := ⟨RX5, "odds", "(III)J"⟩
abbrev cX5_reading : ByteArray := prog_1_method_13_code
def yX5_reading : MethodName := ⟨RX5, "reading", "(II)I"⟩
abbrev cX5_back : ByteArray := prog_1_method_14_code
def yX5_back : MethodName := ⟨RX5, "back", "(I)I"⟩
abbrev cX5_counts : ByteArray := prog_1_method_15_code
def yX5_counts : MethodName := ⟨RX5, "counts", "(I)I"⟩
abbrev cX5_kinds : ByteArray := prog_1_method_16_code
def yX5_kinds : MethodName := ⟨RX5, "kinds", "(I)I"⟩
abbrev cX5_speeds : ByteArray := prog_1_method_17_code
def yX5_speeds : MethodName := ⟨RX5, "speeds", "(I)I"⟩
abbrev cX5_sheet : ByteArray := prog_1_method_18_code
def yX5_sheet : MethodName := ⟨RX5, "sheet", "(III)I"⟩
abbrev cX5_lose : ByteArray := prog_1_method_19_code
def yX5_lose : MethodName := ⟨RX5, "lose", "(I)I"⟩
abbrev cX5_put : ByteArray := prog_1_method_20_code
def yX5_put : MethodName := ⟨RX5, "put", "(III)I"⟩
abbrev cX5_cell : ByteArray := prog_1_method_21_code
def yX5_cell : MethodName := ⟨RX5, "cell", "(III)J"⟩
abbrev cX5_copy : ByteArray := prog_1_method_22_code
def yX5_copy : MethodName := ⟨RX5, "copy", "(IIIII)I"⟩
abbrev cX5_tell : ByteArray := prog_1_method_23_code
def yX5_tell : MethodName := ⟨RX5, "tell", "(I)I"⟩
abbrev cX5_drop : ByteArray := prog_1_method_24_code
def yX5_drop : MethodName := ⟨RX5, "drop", "(I)I"⟩
abbrev cX5_as : ByteArray := prog_1_method_25_code
def yX5_as : MethodName := ⟨RX5, "as", "(II)I"⟩
abbrev cX5_trace : ByteArray := prog_1_method_26_code
def yX5_trace : MethodName := ⟨RX5, "trace", "()I"⟩
abbrev cX5_fault : ByteArray := prog_1_method_27_code
def yX5_fault : MethodName := ⟨RX5, "fault", "()I"⟩
abbrev cX5_many : ByteArray := prog_1_method_28_code
def yX5_many : MethodName := ⟨RX5, "many", "(I)I"⟩
abbrev cX5_failed : ByteArray := prog_1_method_29_code
def yX5_failed : MethodName := ⟨RX5, "failed", "(I)I"⟩
abbrev cX5_refusalOfRow : ByteArray := prog_1_method_30_code
def yX5_refusalOfRow : MethodName := ⟨RX5, "refusalOfRow", "(IIII)I"⟩
abbrev cX5_takeNumbers : ByteArray := prog_1_method_31_code
def yX5_takeNumbers : MethodName := ⟨RX5, "takeNumbers", "(IIIII)I"⟩
abbrev cX5_isOfPlans : ByteArray := prog_1_method_32_code
def yX5_isOfPlans : MethodName := ⟨RX5, "isOfPlans", "(I)Z"⟩
abbrev cX5_readyBehind : ByteArray := prog_1_method_33_code
def yX5_readyBehind : MethodName := ⟨RX5, "readyBehind", "(I)I"⟩
abbrev cX5_leastBeside : ByteArray := prog_1_method_34_code
def yX5_leastBeside : MethodName := ⟨RX5, "leastBeside", "(I)I"⟩
abbrev cX5_least : ByteArray := prog_1_method_35_code
def yX5_least : MethodName := ⟨RX5, "least", "(I)I"⟩
abbrev cX5_holds : ByteArray := prog_1_method_36_code
def yX5_holds : MethodName := ⟨RX5, "holds", "(II)Z"⟩
abbrev cX5_look : ByteArray := prog_1_method_37_code
def yX5_look : MethodName := ⟨RX5, "look", "(II)I"⟩
abbrev cX5_waysOfAtLeast : ByteArray := prog_1_method_38_code
def yX5_waysOfAtLeast : MethodName := ⟨RX5, "waysOfAtLeast", "(II)J"⟩
abbrev cX5_leave : ByteArray := prog_1_method_39_code
def yX5_leave : MethodName := ⟨RX5, "leave", "(I)V"⟩
abbrev cX5_tellPicking : ByteArray := prog_1_method_40_code
def yX5_tellPicking : MethodName := ⟨RX5, "tellPicking", "(I)I"⟩
abbrev cX5_tellSure : ByteArray := prog_1_method_41_code
def yX5_tellSure : MethodName := ⟨RX5, "tellSure", "(I)I"⟩
abbrev cX5_tellDoubtful : ByteArray := prog_1_method_42_code
def yX5_tellDoubtful : MethodName := ⟨RX5, "tellDoubtful", "(I)I"⟩
abbrev cX5_dropByLent : ByteArray := prog_1_method_43_code
def yX5_dropByLent : MethodName := ⟨RX5, "dropByLent", "(I)I"⟩
abbrev cX5_dropByOwn : ByteArray := prog_1_method_44_code
def yX5_dropByOwn : MethodName := ⟨RX5, "dropByOwn", "()I"⟩
abbrev RX6 : String := "FloorTypeModel"
def TX6 : u_T := fun k => match k with
  | 0 => ("FloorTypeModel", "fault", "I", false)
  | 1 => ("FloorTypeModel", "sorts", "I", false)
  | 2 => ("FloorTypeModel", "kindOf", "[I", true)
  | 3 => ("FloorTypeModel", "countOf", "[I", true)
  | 4 => ("FloorTypeModel", "secondsOf", "[I", true)
  | 5 => ("FloorTypeModel", "alikeOf", "[I", true)
  | 6 => ("FloorTypeModel", "signs", "I", false)
  | 7 => ("FloorTypeModel", "hadBy", "[I", true)
  | 8 => ("FloorTypeModel", "readAt", "I", false)
  | 9 => ("FloorTypeModel", "readSorts", "I", false)
  | 10 => ("FloorTypeModel", "readSigns", "I", false)
  | 11 => ("FloorTypeModel", "readKind", "[I", true)
  | 12 => ("FloorTypeModel", "readCount", "[I", true)
  | 13 => ("FloorTypeModel", "readSeconds", "[I", true)
  | 14 => ("FloorTypeModel", "readAlike", "[I", true)
  | 15 => ("FloorTypeModel", "readHad", "[I", true)
  | 16 => ("FloorTypeModel", "heapOf", "[I", true)
  | 17 => ("FloorTypeModel", "readyAt", "[I", true)
  | 18 => ("FloorTypeModel", "spent", "I", false)
  | 19 => ("FloorTypeModel", "idleAt", "I", false)
  | 20 => ("FloorTypeModel", "setOf", "[I", true)
  | 21 => ("FloorTypeModel", "triedOf", "[I", true)
  | 22 => ("FloorTypeModel", "treeOf", "[I", true)
  | 23 => ("FloorTypeModel", "firstOf", "[I", true)
  | 24 => ("FloorTypeModel", "readings", "I", false)
  | 25 => ("FloorTypeModel", "readingSet", "[I", true)
  | 26 => ("FloorTypeModel", "readingTook", "[I", true)
  | 27 => ("FloorTypeModel", "sheetSize", "[I", true)
  | 28 => ("FloorTypeModel", "sheetLane", "[I", true)
  | 29 => ("FloorTypeModel", "sheet", "[I", true)
  | 30 => ("FloorTypeModel", "hands", "[I", true)
  | _ => ("FloorTypeModel", "traceNow", "I", false)
def tyX6 : Nat → FieldType := fun k => match k with
  | 0 => .int
  | 1 => .int
  | 2 => .array .int
  | 3 => .array .int
  | 4 => .array .int
  | 5 => .array .int
  | 6 => .int
  | 7 => .array .int
  | 8 => .int
  | 9 => .int
  | 10 => .int
  | 11 => .array .int
  | 12 => .array .int
  | 13 => .array .int
  | 14 => .array .int
  | 15 => .array .int
  | 16 => .array .int
  | 17 => .array .int
  | 18 => .int
  | 19 => .int
  | 20 => .array .int
  | 21 => .array .int
  | 22 => .array .int
  | 23 => .array .int
  | 24 => .int
  | 25 => .array .int
  | 26 => .array .int
  | 27 => .array .int
  | 28 => .array .int
  | 29 => .array .int
  | 30 => .array .int
  | _ => .int
theorem nmX6 : ∀ a, a < 32 → ∀ b, b < 32 → a ≠ b → (TX6 a).2.1 ≠ (TX6 b).2.1 := by decide +kernel
theorem tyX6_ok : ∀ k, k < 32 → parseFieldDescriptor (TX6 k).2.2.1 = some (tyX6 k) := by decide +kernel
abbrev cX6_init : ByteArray := prog_8_method_1_code
def yX6_init : MethodName := ⟨RX6, "<init>", "()V"⟩
abbrev cX6_in : ByteArray := prog_8_method_2_code
def yX6_in : MethodName := ⟨RX6, "in", "(JJJ)Z"⟩
abbrev cX6_lost : ByteArray := prog_8_method_3_code
def yX6_lost : MethodName := ⟨RX6, "lost", "()J"⟩
abbrev cX6_isIn : ByteArray := prog_8_method_4_code
def yX6_isIn : MethodName := ⟨RX6, "isIn", "(II)Z"⟩
abbrev cX6_share : ByteArray := prog_8_method_5_code
def yX6_share : MethodName := ⟨RX6, "share", "(JJI)J"⟩
abbrev cX6_refused : ByteArray := prog_8_method_6_code
def yX6_refused : MethodName := ⟨RX6, "refused", "(I)I"⟩
abbrev cX6_failed : ByteArray := prog_8_method_7_code
def yX6_failed : MethodName := ⟨RX6, "failed", "(I)I"⟩
abbrev cX6_failedLong : ByteArray := prog_8_method_8_code
def yX6_failedLong : MethodName := ⟨RX6, "failedLong", "(I)J"⟩
abbrev cX6_noSort : ByteArray := prog_8_method_9_code
def yX6_noSort : MethodName := ⟨RX6, "noSort", "(I)Z"⟩
abbrev cX6_noSign : ByteArray := prog_8_method_10_code
def yX6_noSign : MethodName := ⟨RX6, "noSign", "(I)Z"⟩
abbrev cX6_all : ByteArray := prog_8_method_11_code
def yX6_all : MethodName := ⟨RX6, "all", "()I"⟩
abbrev cX6_codeAt : ByteArray := prog_8_method_12_code
def yX6_codeAt : MethodName := ⟨RX6, "codeAt", "(II)I"⟩
abbrev cX6_figure : ByteArray := prog_8_method_13_code
def yX6_figure : MethodName := ⟨RX6, "figure", "(IIII)I"⟩
abbrev cX6_readsSort : ByteArray := prog_8_method_14_code
def yX6_readsSort : MethodName := ⟨RX6, "readsSort", "(II)Z"⟩
abbrev cX6_readsSign : ByteArray := prog_8_method_15_code
def yX6_readsSign : MethodName := ⟨RX6, "readsSign", "(II)Z"⟩
abbrev cX6_readsFloor : ByteArray := prog_8_method_16_code
def yX6_readsFloor : MethodName := ⟨RX6, "readsFloor", "(II)Z"⟩
abbrev cX6_cellsBarred : ByteArray := prog_8_method_17_code
def yX6_cellsBarred : MethodName := ⟨RX6, "cellsBarred", "(IIIJ)I"⟩
abbrev cX6_floor : ByteArray := prog_8_method_18_code
def yX6_floor : MethodName := ⟨RX6, "floor", "(IIII)I"⟩
abbrev cX6_lookOf : ByteArray := prog_8_method_19_code
def yX6_lookOf : MethodName := ⟨RX6, "lookOf", "(I)I"⟩
abbrev cX6_looksOf : ByteArray := prog_8_method_20_code
def yX6_looksOf : MethodName := ⟨RX6, "looksOf", "(I)I"⟩
abbrev cX6_ofSort : ByteArray := prog_8_method_21_code
def yX6_ofSort : MethodName := ⟨RX6, "ofSort", "(II)I"⟩
abbrev cX6_ofSign : ByteArray := prog_8_method_22_code
def yX6_ofSign : MethodName := ⟨RX6, "ofSign", "(I)I"⟩
abbrev cX6_lay : ByteArray := prog_8_method_23_code
def yX6_lay : MethodName := ⟨RX6, "lay", "(II)I"⟩
abbrev cX6_sign : ByteArray := prog_8_method_24_code
def yX6_sign : MethodName := ⟨RX6, "sign", "(II)I"⟩
abbrev cX6_begin : ByteArray := prog_8_method_25_code
def yX6_begin : MethodName := ⟨RX6, "begin", "()V"⟩
abbrev cX6_isAlone : ByteArray := prog_8_method_26_code
def yX6_isAlone : MethodName := ⟨RX6, "isAlone", "(I)Z"⟩
abbrev cX6_goPass : ByteArray := prog_8_method_27_code
def yX6_goPass : MethodName := ⟨RX6, "goPass", "(II)V"⟩
abbrev cX6_goPlan : ByteArray := prog_8_method_28_code
def yX6_goPlan : MethodName := ⟨RX6, "goPlan", "(II)V"⟩
abbrev cX6_readyNow : ByteArray := prog_8_method_29_code
def yX6_readyNow : MethodName := ⟨RX6, "readyNow", "()I"⟩
abbrev cX6_leastOf : ByteArray := prog_8_method_30_code
def yX6_leastOf : MethodName := ⟨RX6, "leastOf", "(I)I"⟩
abbrev cX6_heapsNow : ByteArray := prog_8_method_31_code
def yX6_heapsNow : MethodName := ⟨RX6, "heapsNow", "()I"⟩
abbrev cX6_rowBarred : ByteArray := prog_8_method_32_code
def yX6_rowBarred : MethodName := ⟨RX6, "rowBarred", "(IIIIZ)I"⟩
abbrev cX6_plan : ByteArray := prog_8_method_33_code
def yX6_plan : MethodName := ⟨RX6, "plan", "(IIIII)I"⟩
abbrev cX6_line : ByteArray := prog_8_method_34_code
def yX6_line : MethodName := ⟨RX6, "line", "(IIII)I"⟩
abbrev cX6_soon : ByteArray := prog_8_method_35_code
def yX6_soon : MethodName := ⟨RX6, "soon", "(IIIII)I"⟩
abbrev cX6_lengthOf : ByteArray := prog_8_method_36_code
def yX6_lengthOf : MethodName := ⟨RX6, "lengthOf", "(I)I"⟩
abbrev cX6_order : ByteArray := prog_8_method_37_code
def yX6_order : MethodName := ⟨RX6, "order", "(I)I"⟩
abbrev cX6_growTree : ByteArray := prog_8_method_38_code
def yX6_growTree : MethodName := ⟨RX6, "growTree", "(I)V"⟩
abbrev cX6_tree : ByteArray := prog_8_method_39_code
def yX6_tree : MethodName := ⟨RX6, "tree", "(I)I"⟩
abbrev cX6_odds : ByteArray := prog_8_method_40_code
def yX6_odds : MethodName := ⟨RX6, "odds", "(III)J"⟩
abbrev cX6_reading : ByteArray := prog_8_method_41_code
def yX6_reading : MethodName := ⟨RX6, "reading", "(II)I"⟩
abbrev cX6_back : ByteArray := prog_8_method_42_code
def yX6_back : MethodName := ⟨RX6, "back", "(I)I"⟩
abbrev cX6_areSo : ByteArray := prog_8_method_43_code
def yX6_areSo : MethodName := ⟨RX6, "areSo", "()Z"⟩
abbrev cX6_counts : ByteArray := prog_8_method_44_code
def yX6_counts : MethodName := ⟨RX6, "counts", "(I)I"⟩
abbrev cX6_kinds : ByteArray := prog_8_method_45_code
def yX6_kinds : MethodName := ⟨RX6, "kinds", "(I)I"⟩
abbrev cX6_speeds : ByteArray := prog_8_method_46_code
def yX6_speeds : MethodName := ⟨RX6, "speeds", "(I)I"⟩
abbrev cX6_noSheet : ByteArray := prog_8_method_47_code
def yX6_noSheet : MethodName := ⟨RX6, "noSheet", "(I)Z"⟩
abbrev cX6_sheet : ByteArray := prog_8_method_48_code
def yX6_sheet : MethodName := ⟨RX6, "sheet", "(III)I"⟩
abbrev cX6_lose : ByteArray := prog_8_method_49_code
def yX6_lose : MethodName := ⟨RX6, "lose", "(I)I"⟩
abbrev cX6_noCell : ByteArray := prog_8_method_50_code
def yX6_noCell : MethodName := ⟨RX6, "noCell", "(II)I"⟩
abbrev cX6_put : ByteArray := prog_8_method_51_code
def yX6_put : MethodName := ⟨RX6, "put", "(III)I"⟩
abbrev cX6_cell : ByteArray := prog_8_method_52_code
def yX6_cell : MethodName := ⟨RX6, "cell", "(III)J"⟩
abbrev cX6_isBeyond : ByteArray := prog_8_method_53_code
def yX6_isBeyond : MethodName := ⟨RX6, "isBeyond", "(IJI)Z"⟩
abbrev cX6_copy : ByteArray := prog_8_method_54_code
def yX6_copy : MethodName := ⟨RX6, "copy", "(IIIII)I"⟩
abbrev cX6_traced : ByteArray := prog_8_method_55_code
def yX6_traced : MethodName := ⟨RX6, "traced", "(I)V"⟩
abbrev cX6_tell : ByteArray := prog_8_method_56_code
def yX6_tell : MethodName := ⟨RX6, "tell", "(I)I"⟩
abbrev cX6_drop : ByteArray := prog_8_method_57_code
def yX6_drop : MethodName := ⟨RX6, "drop", "(I)I"⟩
abbrev cX6_as : ByteArray := prog_8_method_58_code
def yX6_as : MethodName := ⟨RX6, "as", "(II)I"⟩
abbrev cX6_trace : ByteArray := prog_8_method_59_code
def yX6_trace : MethodName := ⟨RX6, "trace", "()I"⟩
abbrev cX6_fault : ByteArray := prog_8_method_60_code
def yX6_fault : MethodName := ⟨RX6, "fault", "()I"⟩
abbrev cX6_lettersNow : ByteArray := prog_8_method_61_code
def yX6_lettersNow : MethodName := ⟨RX6, "lettersNow", "()I"⟩
abbrev cX6_many : ByteArray := prog_8_method_62_code
def yX6_many : MethodName := ⟨RX6, "many", "(I)I"⟩
abbrev RJ6 : String := "java/lang/Integer"
abbrev cJ6_bitCount_0f7a4 : ByteArray := prog_9_method_49_code
def yJ6_bitCount_0f7a4 : MethodName := ⟨RJ6, "bitCount", "(I)I"⟩
abbrev RJ9 : String := "java/lang/Math"
abbrev cJ9_max_7cf53 : ByteArray := prog_10_method_65_code
def yJ9_max_7cf53 : MethodName := ⟨RJ9, "max", "(II)I"⟩
abbrev cJ9_min_7cf53 : ByteArray := prog_10_method_69_code
def yJ9_min_7cf53 : MethodName := ⟨RJ9, "min", "(II)I"⟩
abbrev RJ10 : String := "java/lang/System"
abbrev RL : String := "FloorTypeLaw"
abbrev cL_law : ByteArray := code
def yL_law : MethodName := ⟨RL, "law", "([I)Z"⟩
abbrev vwCl : List vw_C := [(RX0, TX0, 10), (RX1, TX1, 2), (RX2, TX2, 3), (RX3, TX3, 5), (RX4, TX4, 4), (RX5, TX5, 8), (RX6, TX6, 32)]
def lw_gd : List Cond := lw_tbl.filter goodWord
theorem lw_mg {i : Nat} {w : Cond} (h : tables_1[i]? = some w) (hg : goodWord w = true) : w ∈ lw_gd := List.mem_filter.mpr ⟨List.mem_append_right _ (List.mem_of_getElem? h), hg⟩
theorem lw_ms {i : Nat} {w : Cond} (h : (k2_sels lw_privs)[i]? = some w) (hg : goodWord w = true) : w ∈ lw_gd := List.mem_filter.mpr ⟨List.mem_append_left _ (List.mem_of_getElem? h), hg⟩
theorem q0 : (.initialized RL : Cond) ∈ lw_gd := lw_mg (i := 0) (by decide +kernel) rfl
theorem q1 : (.initialized RX5 : Cond) ∈ lw_gd := lw_mg (i := 1) (by decide +kernel) rfl
theorem q2 : (.initialized RX2 : Cond) ∈ lw_gd := lw_mg (i := 2) (by decide +kernel) rfl
theorem q3 : (.initialized RX0 : Cond) ∈ lw_gd := lw_mg (i := 3) (by decide +kernel) rfl
theorem q4 : (.initialized RX3 : Cond) ∈ lw_gd := lw_mg (i := 4) (by decide +kernel) rfl
theorem q5 : (.initialized RX4 : Cond) ∈ lw_gd := lw_mg (i := 5) (by decide +kernel) rfl
theorem q6 : (.initialized RX1 : Cond) ∈ lw_gd := lw_mg (i := 6) (by decide +kernel) rfl
theorem q7 : (.initialized RX6 : Cond) ∈ lw_gd := lw_mg (i := 7) (by decide +kernel) rfl
theorem q8 : (.initialized RJ10 : Cond) ∈ lw_gd := lw_mg (i := 8) (by decide +kernel) rfl
theorem q9 : (.initialized RJ9 : Cond) ∈ lw_gd := lw_mg (i := 9) (by decide +kernel) rfl
theorem q10 : (.initialized RJ6 : Cond) ∈ lw_gd := lw_mg (i := 10) (by decide +kernel) rfl
theorem q11 : (.classLink RL 7 RX5 : Cond) ∈ lw_gd := lw_mg (i := 11) (by decide +kernel) rfl
theorem q12 : (.instantiable RX5 8 : Cond) ∈ lw_gd := lw_mg (i := 12) (by decide +kernel) rfl
theorem q13 : (.methodLink RL 9 yX5_init : Cond) ∈ lw_gd := lw_mg (i := 13) (by decide +kernel) rfl
theorem q14 : (.instanceMethod yX5_init : Cond) ∈ lw_gd := lw_mg (i := 14) (by decide +kernel) rfl
theorem q15 : (.code yX5_init cX5_init 1 none : Cond) ∈ lw_gd := lw_mg (i := 15) (by decide +kernel) rfl
theorem q16 : (.methodLink RX5 3 (⟨"java/lang/Object", "<init>", "()V"⟩ : MethodName) : Cond) ∈ lw_gd := lw_mg (i := 16) (by decide +kernel) rfl
theorem q17 : (.instanceMethod (⟨"java/lang/Object", "<init>", "()V"⟩ : MethodName) : Cond) ∈ lw_gd := lw_mg (i := 17) (by decide +kernel) rfl
theorem q18 : (.code (⟨"java/lang/Object", "<init>", "()V"⟩ : MethodName) object_method_1_code 1 none : Cond) ∈ lw_gd := lw_mg (i := 18) (by decide +kernel) rfl
theorem q19 : (.classLink RX5 9 RX2 : Cond) ∈ lw_gd := lw_mg (i := 19) (by decide +kernel) rfl
theorem q20 : (.instantiable RX2 3 : Cond) ∈ lw_gd := lw_mg (i := 20) (by decide +kernel) rfl
theorem q21 : (.methodLink RX5 11 yX2_init : Cond) ∈ lw_gd := lw_mg (i := 21) (by decide +kernel) rfl
theorem q22 : (.instanceMethod yX2_init : Cond) ∈ lw_gd := lw_mg (i := 22) (by decide +kernel) rfl
theorem q23 : (.code yX2_init cX2_init 2 none : Cond) ∈ lw_gd := lw_mg (i := 23) (by decide +kernel) rfl
theorem q24 : (.methodLink RX2 3 (⟨"java/lang/Object", "<init>", "()V"⟩ : MethodName) : Cond) ∈ lw_gd := lw_mg (i := 24) (by decide +kernel) rfl
theorem q25 : (.fieldLink RX2 9 "FloorType$Sheets" "cells" "[I" : Cond) ∈ lw_gd := lw_mg (i := 25) (by decide +kernel) rfl
theorem q26 : (.fieldLink RX2 15 "FloorType$Sheets" "lanes" "[I" : Cond) ∈ lw_gd := lw_mg (i := 26) (by decide +kernel) rfl
theorem q27 : (.fieldLink RX2 18 "FloorType$Sheets" "sizes" "[I" : Cond) ∈ lw_gd := lw_mg (i := 27) (by decide +kernel) rfl
theorem q35 : (.arrayClass .int : Cond) ∈ lw_gd := lw_mg (i := 35) (by decide +kernel) rfl
theorem q36 : (.classLink RX5 18 RX0 : Cond) ∈ lw_gd := lw_mg (i := 36) (by decide +kernel) rfl
theorem q37 : (.instantiable RX0 10 : Cond) ∈ lw_gd := lw_mg (i := 37) (by decide +kernel) rfl
theorem q39 : (.instanceMethod yX0_init : Cond) ∈ lw_gd := lw_mg (i := 39) (by decide +kernel) rfl
theorem q40 : (.code yX0_init cX0_init 1 none : Cond) ∈ lw_gd := lw_mg (i := 40) (by decide +kernel) rfl
theorem q41 : (.methodLink RX0 3 (⟨"java/lang/Object", "<init>", "()V"⟩ : MethodName) : Cond) ∈ lw_gd := lw_mg (i := 41) (by decide +kernel) rfl
theorem q42 : (.fieldLink RX0 33 "FloorType$Page" "sorts" "I" : Cond) ∈ lw_gd := lw_mg (i := 42) (by decide +kernel) rfl
theorem q43 : (.fieldLink RX5 87 "FloorType$Page" "sorts" "I" : Cond) ∈ lw_gd := lw_mg (i := 43) (by decide +kernel) rfl
theorem q44 : (.fieldLink RX1 18 "FloorType$Page" "signs" "I" : Cond) ∈ lw_gd := lw_mg (i := 44) (by decide +kernel) rfl
theorem q45 : (.fieldLink RX0 37 "FloorType$Page" "signs" "I" : Cond) ∈ lw_gd := lw_mg (i := 45) (by decide +kernel) rfl
theorem q46 : (.fieldLink RX5 125 "FloorType$Page" "signs" "I" : Cond) ∈ lw_gd := lw_mg (i := 46) (by decide +kernel) rfl
theorem q47 : (.fieldLink RX0 48 "FloorType$Page" "readings" "I" : Cond) ∈ lw_gd := lw_mg (i := 47) (by decide +kernel) rfl
theorem q48 : (.fieldLink RX5 200 "FloorType$Page" "readings" "I" : Cond) ∈ lw_gd := lw_mg (i := 48) (by decide +kernel) rfl
theorem q49 : (.fieldLink RX0 9 "FloorType$Page" "kind" "[I" : Cond) ∈ lw_gd := lw_mg (i := 49) (by decide +kernel) rfl
theorem q50 : (.fieldLink RX5 93 "FloorType$Page" "kind" "[I" : Cond) ∈ lw_gd := lw_mg (i := 50) (by decide +kernel) rfl
theorem q51 : (.fieldLink RX0 15 "FloorType$Page" "count" "[I" : Cond) ∈ lw_gd := lw_mg (i := 51) (by decide +kernel) rfl
theorem q52 : (.fieldLink RX5 96 "FloorType$Page" "count" "[I" : Cond) ∈ lw_gd := lw_mg (i := 52) (by decide +kernel) rfl
theorem q53 : (.fieldLink RX0 18 "FloorType$Page" "seconds" "[I" : Cond) ∈ lw_gd := lw_mg (i := 53) (by decide +kernel) rfl
theorem q54 : (.fieldLink RX5 99 "FloorType$Page" "seconds" "[I" : Cond) ∈ lw_gd := lw_mg (i := 54) (by decide +kernel) rfl
theorem q55 : (.fieldLink RX0 21 "FloorType$Page" "alike" "[I" : Cond) ∈ lw_gd := lw_mg (i := 55) (by decide +kernel) rfl
theorem q56 : (.fieldLink RX5 102 "FloorType$Page" "alike" "[I" : Cond) ∈ lw_gd := lw_mg (i := 56) (by decide +kernel) rfl
theorem q57 : (.fieldLink RX0 24 "FloorType$Page" "having" "[I" : Cond) ∈ lw_gd := lw_mg (i := 57) (by decide +kernel) rfl
theorem q58 : (.fieldLink RX5 111 "FloorType$Page" "having" "[I" : Cond) ∈ lw_gd := lw_mg (i := 58) (by decide +kernel) rfl
theorem q59 : (.fieldLink RX1 67 "FloorType$Page" "having" "[I" : Cond) ∈ lw_gd := lw_mg (i := 59) (by decide +kernel) rfl
theorem q60 : (.fieldLink RX0 27 "FloorType$Page" "setRead" "[I" : Cond) ∈ lw_gd := lw_mg (i := 60) (by decide +kernel) rfl
theorem q61 : (.fieldLink RX0 30 "FloorType$Page" "timeRead" "[I" : Cond) ∈ lw_gd := lw_mg (i := 61) (by decide +kernel) rfl
theorem q83 : (.classLink RX5 25 RX3 : Cond) ∈ lw_gd := lw_mg (i := 83) (by decide +kernel) rfl
theorem q84 : (.instantiable RX3 5 : Cond) ∈ lw_gd := lw_mg (i := 84) (by decide +kernel) rfl
theorem q86 : (.instanceMethod yX3_init : Cond) ∈ lw_gd := lw_mg (i := 86) (by decide +kernel) rfl
theorem q87 : (.code yX3_init cX3_init 1 none : Cond) ∈ lw_gd := lw_mg (i := 87) (by decide +kernel) rfl
theorem q88 : (.methodLink RX3 3 (⟨"java/lang/Object", "<init>", "()V"⟩ : MethodName) : Cond) ∈ lw_gd := lw_mg (i := 88) (by decide +kernel) rfl
theorem q89 : (.fieldLink RX3 9 "FloorType$Text" "codes" "[I" : Cond) ∈ lw_gd := lw_mg (i := 89) (by decide +kernel) rfl
theorem q90 : (.fieldLink RX5 73 "FloorType$Text" "codes" "[I" : Cond) ∈ lw_gd := lw_mg (i := 90) (by decide +kernel) rfl
theorem q91 : (.fieldLink RX0 51 "FloorType$Text" "codes" "[I" : Cond) ∈ lw_gd := lw_mg (i := 91) (by decide +kernel) rfl
theorem q92 : (.fieldLink RX3 15 "FloorType$Text" "length" "I" : Cond) ∈ lw_gd := lw_mg (i := 92) (by decide +kernel) rfl
theorem q93 : (.fieldLink RX3 19 "FloorType$Text" "at" "I" : Cond) ∈ lw_gd := lw_mg (i := 93) (by decide +kernel) rfl
theorem q94 : (.fieldLink RX3 22 "FloorType$Text" "sorts" "I" : Cond) ∈ lw_gd := lw_mg (i := 94) (by decide +kernel) rfl
theorem q95 : (.fieldLink RX0 44 "FloorType$Text" "sorts" "I" : Cond) ∈ lw_gd := lw_mg (i := 95) (by decide +kernel) rfl
theorem q96 : (.fieldLink RX3 25 "FloorType$Text" "signs" "I" : Cond) ∈ lw_gd := lw_mg (i := 96) (by decide +kernel) rfl
theorem q97 : (.fieldLink RX0 47 "FloorType$Text" "signs" "I" : Cond) ∈ lw_gd := lw_mg (i := 97) (by decide +kernel) rfl
theorem q109 : (.classLink RX5 32 RX4 : Cond) ∈ lw_gd := lw_mg (i := 109) (by decide +kernel) rfl
theorem q110 : (.instantiable RX4 4 : Cond) ∈ lw_gd := lw_mg (i := 110) (by decide +kernel) rfl
theorem q112 : (.instanceMethod yX4_init : Cond) ∈ lw_gd := lw_mg (i := 112) (by decide +kernel) rfl
theorem q113 : (.code yX4_init cX4_init 1 none : Cond) ∈ lw_gd := lw_mg (i := 113) (by decide +kernel) rfl
theorem q114 : (.methodLink RX4 3 (⟨"java/lang/Object", "<init>", "()V"⟩ : MethodName) : Cond) ∈ lw_gd := lw_mg (i := 114) (by decide +kernel) rfl
theorem q115 : (.fieldLink RX4 15 "FloorType$Walk" "seconds" "I" : Cond) ∈ lw_gd := lw_mg (i := 115) (by decide +kernel) rfl
theorem q116 : (.fieldLink RX5 136 "FloorType$Walk" "seconds" "I" : Cond) ∈ lw_gd := lw_mg (i := 116) (by decide +kernel) rfl
theorem q117 : (.fieldLink RX4 19 "FloorType$Walk" "idle" "I" : Cond) ∈ lw_gd := lw_mg (i := 117) (by decide +kernel) rfl
theorem q118 : (.fieldLink RX5 138 "FloorType$Walk" "idle" "I" : Cond) ∈ lw_gd := lw_mg (i := 118) (by decide +kernel) rfl
theorem q119 : (.fieldLink RX4 22 "FloorType$Walk" "used" "I" : Cond) ∈ lw_gd := lw_mg (i := 119) (by decide +kernel) rfl
theorem q120 : (.fieldLink RX5 141 "FloorType$Walk" "used" "I" : Cond) ∈ lw_gd := lw_mg (i := 120) (by decide +kernel) rfl
theorem q121 : (.fieldLink RX4 9 "FloorType$Walk" "behind" "[I" : Cond) ∈ lw_gd := lw_mg (i := 121) (by decide +kernel) rfl
theorem q122 : (.fieldLink RX5 254 "FloorType$Walk" "behind" "[I" : Cond) ∈ lw_gd := lw_mg (i := 122) (by decide +kernel) rfl
theorem q132 : (.classLink RX5 39 RX1 : Cond) ∈ lw_gd := lw_mg (i := 132) (by decide +kernel) rfl
theorem q133 : (.instantiable RX1 2 : Cond) ∈ lw_gd := lw_mg (i := 133) (by decide +kernel) rfl
theorem q135 : (.instanceMethod yX1_init : Cond) ∈ lw_gd := lw_mg (i := 135) (by decide +kernel) rfl
theorem q136 : (.code yX1_init cX1_init 1 none : Cond) ∈ lw_gd := lw_mg (i := 136) (by decide +kernel) rfl
theorem q137 : (.methodLink RX1 3 (⟨"java/lang/Object", "<init>", "()V"⟩ : MethodName) : Cond) ∈ lw_gd := lw_mg (i := 137) (by decide +kernel) rfl
theorem q138 : (.fieldLink RX1 9 "FloorType$Search" "byUsed" "[I" : Cond) ∈ lw_gd := lw_mg (i := 138) (by decide +kernel) rfl
theorem q139 : (.fieldLink RX1 15 "FloorType$Search" "byHeap" "[I" : Cond) ∈ lw_gd := lw_mg (i := 139) (by decide +kernel) rfl
theorem q145 : (.fieldLink RX5 12 "FloorType" "sheets" "LFloorType$Sheets;" : Cond) ∈ lw_gd := lw_mg (i := 145) (by decide +kernel) rfl
theorem q146 : (.fieldLink RX5 21 "FloorType" "page" "LFloorType$Page;" : Cond) ∈ lw_gd := lw_mg (i := 146) (by decide +kernel) rfl
theorem q147 : (.fieldLink RX5 28 "FloorType" "text" "LFloorType$Text;" : Cond) ∈ lw_gd := lw_mg (i := 147) (by decide +kernel) rfl
theorem q148 : (.fieldLink RX5 35 "FloorType" "walk" "LFloorType$Walk;" : Cond) ∈ lw_gd := lw_mg (i := 148) (by decide +kernel) rfl
theorem q149 : (.fieldLink RX5 42 "FloorType" "search" "LFloorType$Search;" : Cond) ∈ lw_gd := lw_mg (i := 149) (by decide +kernel) rfl
theorem q150 : (.fieldLink RX5 46 "FloorType" "row" "[I" : Cond) ∈ lw_gd := lw_mg (i := 150) (by decide +kernel) rfl
theorem q151 : (.fieldLink RX5 248 "FloorType" "trace" "I" : Cond) ∈ lw_gd := lw_mg (i := 151) (by decide +kernel) rfl
theorem q152 : (.fieldLink RX5 50 "FloorType" "fault" "I" : Cond) ∈ lw_gd := lw_mg (i := 152) (by decide +kernel) rfl
theorem q170 : (.methodLink RL 13 yX5_floor : Cond) ∈ lw_gd := lw_mg (i := 170) (by decide +kernel) rfl
theorem q171 : (.instanceMethod yX5_floor : Cond) ∈ lw_gd := lw_mg (i := 171) (by decide +kernel) rfl
theorem q172 : (.selects RX5 yX5_floor yX5_floor : Cond) ∈ lw_gd := lw_mg (i := 172) (by decide +kernel) rfl
theorem q173 : (.code yX5_floor cX5_floor 7 (some .int) : Cond) ∈ lw_gd := lw_mg (i := 173) (by decide +kernel) rfl
theorem q174 : (.methodLink RX5 54 yX2_isSheet : Cond) ∈ lw_gd := lw_mg (i := 174) (by decide +kernel) rfl
theorem q175 : (.static yX2_isSheet : Cond) ∈ lw_gd := lw_mg (i := 175) (by decide +kernel) rfl
theorem q176 : (.code yX2_isSheet cX2_isSheet 1 (some .boolean) : Cond) ∈ lw_gd := lw_mg (i := 176) (by decide +kernel) rfl
theorem q177 : (.methodLink RX5 58 yX2_isLane : Cond) ∈ lw_gd := lw_mg (i := 177) (by decide +kernel) rfl
theorem q178 : (.static yX2_isLane : Cond) ∈ lw_gd := lw_mg (i := 178) (by decide +kernel) rfl
theorem q179 : (.code yX2_isLane cX2_isLane 1 (some .boolean) : Cond) ∈ lw_gd := lw_mg (i := 179) (by decide +kernel) rfl
theorem q180 : (.methodLink RX5 61 yX2_faultAsRow : Cond) ∈ lw_gd := lw_mg (i := 180) (by decide +kernel) rfl
theorem q181 : (.instanceMethod yX2_faultAsRow : Cond) ∈ lw_gd := lw_mg (i := 181) (by decide +kernel) rfl
theorem q182 : (.selects RX2 yX2_faultAsRow yX2_faultAsRow : Cond) ∈ lw_gd := lw_mg (i := 182) (by decide +kernel) rfl
theorem q183 : (.code yX2_faultAsRow cX2_faultAsRow 3 (some .int) : Cond) ∈ lw_gd := lw_mg (i := 183) (by decide +kernel) rfl
theorem q184 : (.methodLink RX2 21 yX2_isEmpty : Cond) ∈ lw_gd := lw_mg (i := 184) (by decide +kernel) rfl
theorem q185 : (.instanceMethod yX2_isEmpty : Cond) ∈ lw_gd := lw_mg (i := 185) (by decide +kernel) rfl
theorem q186 : (.selects RX2 yX2_isEmpty yX2_isEmpty : Cond) ∈ lw_gd := lw_mg (i := 186) (by decide +kernel) rfl
theorem q187 : (.code yX2_isEmpty cX2_isEmpty 2 (some .boolean) : Cond) ∈ lw_gd := lw_mg (i := 187) (by decide +kernel) rfl
theorem q188 : (.methodLink RX5 65 yX2_faultOfSpan : Cond) ∈ lw_gd := lw_mg (i := 188) (by decide +kernel) rfl
theorem q189 : (.instanceMethod yX2_faultOfSpan : Cond) ∈ lw_gd := lw_mg (i := 189) (by decide +kernel) rfl
theorem q190 : (.selects RX2 yX2_faultOfSpan yX2_faultOfSpan : Cond) ∈ lw_gd := lw_mg (i := 190) (by decide +kernel) rfl
theorem q191 : (.code yX2_faultOfSpan cX2_faultOfSpan 5 (some .int) : Cond) ∈ lw_gd := lw_mg (i := 191) (by decide +kernel) rfl
theorem q192 : (.methodLink RX5 69 yX5_failed : Cond) ∈ lw_gd := lw_mg (i := 192) (by decide +kernel) rfl
theorem q194 : (.instanceMethod yX5_failed : Cond) ∈ lw_gd := lw_mg (i := 194) (by decide +kernel) rfl
theorem q195 : (.code yX5_failed cX5_failed 2 (some .int) : Cond) ∈ lw_gd := lw_mg (i := 195) (by decide +kernel) rfl
theorem q196 : (.methodLink RX5 76 yX2_take : Cond) ∈ lw_gd := lw_mg (i := 196) (by decide +kernel) rfl
theorem q197 : (.instanceMethod yX2_take : Cond) ∈ lw_gd := lw_mg (i := 197) (by decide +kernel) rfl
theorem q198 : (.selects RX2 yX2_take yX2_take : Cond) ∈ lw_gd := lw_mg (i := 198) (by decide +kernel) rfl
theorem q199 : (.code yX2_take cX2_take 5 none : Cond) ∈ lw_gd := lw_mg (i := 199) (by decide +kernel) rfl
theorem q200 : (.methodLink RX2 29 (⟨RJ10, "arraycopy", "(Ljava/lang/Object;ILjava/lang/Object;II)V"⟩ : MethodName) : Cond) ∈ lw_gd := lw_mg (i := 200) (by decide +kernel) rfl
theorem q201 : (.static (⟨RJ10, "arraycopy", "(Ljava/lang/Object;ILjava/lang/Object;II)V"⟩ : MethodName) : Cond) ∈ lw_gd := lw_mg (i := 201) (by decide +kernel) rfl
theorem q202 : (.native (⟨RJ10, "arraycopy", "(Ljava/lang/Object;ILjava/lang/Object;II)V"⟩ : MethodName) : Cond) ∈ lw_gd := lw_mg (i := 202) (by decide +kernel) rfl
theorem q203 : (.methodLink RX5 80 yX3_firstFault : Cond) ∈ lw_gd := lw_mg (i := 203) (by decide +kernel) rfl
theorem q204 : (.instanceMethod yX3_firstFault : Cond) ∈ lw_gd := lw_mg (i := 204) (by decide +kernel) rfl
theorem q205 : (.selects RX3 yX3_firstFault yX3_firstFault : Cond) ∈ lw_gd := lw_mg (i := 205) (by decide +kernel) rfl
theorem q206 : (.code yX3_firstFault cX3_firstFault 2 (some .int) : Cond) ∈ lw_gd := lw_mg (i := 206) (by decide +kernel) rfl
theorem q207 : (.methodLink RX3 28 yX3_passes : Cond) ∈ lw_gd := lw_mg (i := 207) (by decide +kernel) rfl
theorem q209 : (.instanceMethod yX3_passes : Cond) ∈ lw_gd := lw_mg (i := 209) (by decide +kernel) rfl
theorem q210 : (.code yX3_passes cX3_passes 3 (some .boolean) : Cond) ∈ lw_gd := lw_mg (i := 210) (by decide +kernel) rfl
theorem q211 : (.methodLink RX3 39 yX3_isNext : Cond) ∈ lw_gd := lw_mg (i := 211) (by decide +kernel) rfl
theorem q213 : (.instanceMethod yX3_isNext : Cond) ∈ lw_gd := lw_mg (i := 213) (by decide +kernel) rfl
theorem q214 : (.code yX3_isNext cX3_isNext 3 (some .boolean) : Cond) ∈ lw_gd := lw_mg (i := 214) (by decide +kernel) rfl
theorem q215 : (.methodLink RX3 32 yX3_passesSorts : Cond) ∈ lw_gd := lw_mg (i := 215) (by decide +kernel) rfl
theorem q217 : (.instanceMethod yX3_passesSorts : Cond) ∈ lw_gd := lw_mg (i := 217) (by decide +kernel) rfl
theorem q218 : (.code yX3_passesSorts cX3_passesSorts 1 (some .boolean) : Cond) ∈ lw_gd := lw_mg (i := 218) (by decide +kernel) rfl
theorem q219 : (.methodLink RX3 42 yX3_passesSort : Cond) ∈ lw_gd := lw_mg (i := 219) (by decide +kernel) rfl
theorem q221 : (.instanceMethod yX3_passesSort : Cond) ∈ lw_gd := lw_mg (i := 221) (by decide +kernel) rfl
theorem q222 : (.code yX3_passesSort cX3_passesSort 1 (some .boolean) : Cond) ∈ lw_gd := lw_mg (i := 222) (by decide +kernel) rfl
theorem q223 : (.methodLink RX3 45 yX3_passesKind : Cond) ∈ lw_gd := lw_mg (i := 223) (by decide +kernel) rfl
theorem q225 : (.instanceMethod yX3_passesKind : Cond) ∈ lw_gd := lw_mg (i := 225) (by decide +kernel) rfl
theorem q226 : (.code yX3_passesKind cX3_passesKind 1 (some .boolean) : Cond) ∈ lw_gd := lw_mg (i := 226) (by decide +kernel) rfl
theorem q227 : (.methodLink RX3 36 yX3_passesSigns : Cond) ∈ lw_gd := lw_mg (i := 227) (by decide +kernel) rfl
theorem q229 : (.instanceMethod yX3_passesSigns : Cond) ∈ lw_gd := lw_mg (i := 229) (by decide +kernel) rfl
theorem q230 : (.code yX3_passesSigns cX3_passesSigns 1 (some .boolean) : Cond) ∈ lw_gd := lw_mg (i := 230) (by decide +kernel) rfl
theorem q231 : (.methodLink RX3 48 yX3_passesSign : Cond) ∈ lw_gd := lw_mg (i := 231) (by decide +kernel) rfl
theorem q233 : (.instanceMethod yX3_passesSign : Cond) ∈ lw_gd := lw_mg (i := 233) (by decide +kernel) rfl
theorem q234 : (.code yX3_passesSign cX3_passesSign 2 (some .boolean) : Cond) ∈ lw_gd := lw_mg (i := 234) (by decide +kernel) rfl
theorem q235 : (.methodLink RX5 83 yX0_fill : Cond) ∈ lw_gd := lw_mg (i := 235) (by decide +kernel) rfl
theorem q236 : (.instanceMethod yX0_fill : Cond) ∈ lw_gd := lw_mg (i := 236) (by decide +kernel) rfl
theorem q237 : (.selects RX0 yX0_fill yX0_fill : Cond) ∈ lw_gd := lw_mg (i := 237) (by decide +kernel) rfl
theorem q238 : (.code yX0_fill cX0_fill 5 none : Cond) ∈ lw_gd := lw_mg (i := 238) (by decide +kernel) rfl
theorem q239 : (.methodLink RX0 54 yX0_fillSort : Cond) ∈ lw_gd := lw_mg (i := 239) (by decide +kernel) rfl
theorem q241 : (.instanceMethod yX0_fillSort : Cond) ∈ lw_gd := lw_mg (i := 241) (by decide +kernel) rfl
theorem q242 : (.code yX0_fillSort cX0_fillSort 4 none : Cond) ∈ lw_gd := lw_mg (i := 242) (by decide +kernel) rfl
theorem q243 : (.methodLink RX0 40 yX0_everySort : Cond) ∈ lw_gd := lw_mg (i := 243) (by decide +kernel) rfl
theorem q244 : (.instanceMethod yX0_everySort : Cond) ∈ lw_gd := lw_mg (i := 244) (by decide +kernel) rfl
theorem q245 : (.selects RX0 yX0_everySort yX0_everySort : Cond) ∈ lw_gd := lw_mg (i := 245) (by decide +kernel) rfl
theorem q246 : (.code yX0_everySort cX0_everySort 1 (some .int) : Cond) ∈ lw_gd := lw_mg (i := 246) (by decide +kernel) rfl
theorem q247 : (.methodLink RL 18 yX5_ofSort : Cond) ∈ lw_gd := lw_mg (i := 247) (by decide +kernel) rfl
theorem q248 : (.instanceMethod yX5_ofSort : Cond) ∈ lw_gd := lw_mg (i := 248) (by decide +kernel) rfl
theorem q249 : (.selects RX5 yX5_ofSort yX5_ofSort : Cond) ∈ lw_gd := lw_mg (i := 249) (by decide +kernel) rfl
theorem q250 : (.code yX5_ofSort cX5_ofSort 3 (some .int) : Cond) ∈ lw_gd := lw_mg (i := 250) (by decide +kernel) rfl
theorem q251 : (.methodLink RX5 90 yX0_isSort : Cond) ∈ lw_gd := lw_mg (i := 251) (by decide +kernel) rfl
theorem q252 : (.instanceMethod yX0_isSort : Cond) ∈ lw_gd := lw_mg (i := 252) (by decide +kernel) rfl
theorem q253 : (.selects RX0 yX0_isSort yX0_isSort : Cond) ∈ lw_gd := lw_mg (i := 253) (by decide +kernel) rfl
theorem q254 : (.code yX0_isSort cX0_isSort 2 (some .boolean) : Cond) ∈ lw_gd := lw_mg (i := 254) (by decide +kernel) rfl
theorem q255 : (.methodLink RX5 105 yX5_look : Cond) ∈ lw_gd := lw_mg (i := 255) (by decide +kernel) rfl
theorem q256 : (.static yX5_look : Cond) ∈ lw_gd := lw_mg (i := 256) (by decide +kernel) rfl
theorem q257 : (.code yX5_look cX5_look 2 (some .int) : Cond) ∈ lw_gd := lw_mg (i := 257) (by decide +kernel) rfl
theorem q258 : (.methodLink RL 23 yX5_ofSign : Cond) ∈ lw_gd := lw_mg (i := 258) (by decide +kernel) rfl
theorem q259 : (.instanceMethod yX5_ofSign : Cond) ∈ lw_gd := lw_mg (i := 259) (by decide +kernel) rfl
theorem q260 : (.selects RX5 yX5_ofSign yX5_ofSign : Cond) ∈ lw_gd := lw_mg (i := 260) (by decide +kernel) rfl
theorem q261 : (.code yX5_ofSign cX5_ofSign 2 (some .int) : Cond) ∈ lw_gd := lw_mg (i := 261) (by decide +kernel) rfl
theorem q262 : (.methodLink RX5 108 yX0_isSign : Cond) ∈ lw_gd := lw_mg (i := 262) (by decide +kernel) rfl
theorem q263 : (.instanceMethod yX0_isSign : Cond) ∈ lw_gd := lw_mg (i := 263) (by decide +kernel) rfl
theorem q264 : (.selects RX0 yX0_isSign yX0_isSign : Cond) ∈ lw_gd := lw_mg (i := 264) (by decide +kernel) rfl
theorem q265 : (.code yX0_isSign cX0_isSign 2 (some .boolean) : Cond) ∈ lw_gd := lw_mg (i := 265) (by decide +kernel) rfl
theorem q266 : (.methodLink RL 28 yX5_lay : Cond) ∈ lw_gd := lw_mg (i := 266) (by decide +kernel) rfl
theorem q267 : (.instanceMethod yX5_lay : Cond) ∈ lw_gd := lw_mg (i := 267) (by decide +kernel) rfl
theorem q268 : (.selects RX5 yX5_lay yX5_lay : Cond) ∈ lw_gd := lw_mg (i := 268) (by decide +kernel) rfl
theorem q269 : (.code yX5_lay cX5_lay 4 (some .int) : Cond) ∈ lw_gd := lw_mg (i := 269) (by decide +kernel) rfl
theorem q270 : (.methodLink RL 32 yX5_sign : Cond) ∈ lw_gd := lw_mg (i := 270) (by decide +kernel) rfl
theorem q271 : (.instanceMethod yX5_sign : Cond) ∈ lw_gd := lw_mg (i := 271) (by decide +kernel) rfl
theorem q272 : (.selects RX5 yX5_sign yX5_sign : Cond) ∈ lw_gd := lw_mg (i := 272) (by decide +kernel) rfl
theorem q273 : (.code yX5_sign cX5_sign 4 (some .int) : Cond) ∈ lw_gd := lw_mg (i := 273) (by decide +kernel) rfl
theorem q274 : (.methodLink RX5 114 yX0_everySort : Cond) ∈ lw_gd := lw_mg (i := 274) (by decide +kernel) rfl
theorem q275 : (.methodLink RL 36 yX5_plan : Cond) ∈ lw_gd := lw_mg (i := 275) (by decide +kernel) rfl
theorem q276 : (.instanceMethod yX5_plan : Cond) ∈ lw_gd := lw_mg (i := 276) (by decide +kernel) rfl
theorem q277 : (.selects RX5 yX5_plan yX5_plan : Cond) ∈ lw_gd := lw_mg (i := 277) (by decide +kernel) rfl
theorem q278 : (.code yX5_plan cX5_plan 7 (some .int) : Cond) ∈ lw_gd := lw_mg (i := 278) (by decide +kernel) rfl
theorem q279 : (.methodLink RX5 118 yX5_isOfPlans : Cond) ∈ lw_gd := lw_mg (i := 279) (by decide +kernel) rfl
theorem q280 : (.static yX5_isOfPlans : Cond) ∈ lw_gd := lw_mg (i := 280) (by decide +kernel) rfl
theorem q281 : (.code yX5_isOfPlans cX5_isOfPlans 1 (some .boolean) : Cond) ∈ lw_gd := lw_mg (i := 281) (by decide +kernel) rfl
theorem q282 : (.methodLink RX5 121 yX5_refusalOfRow : Cond) ∈ lw_gd := lw_mg (i := 282) (by decide +kernel) rfl
theorem q284 : (.instanceMethod yX5_refusalOfRow : Cond) ∈ lw_gd := lw_mg (i := 284) (by decide +kernel) rfl
theorem q285 : (.code yX5_refusalOfRow cX5_refusalOfRow 5 (some .int) : Cond) ∈ lw_gd := lw_mg (i := 285) (by decide +kernel) rfl
theorem q286 : (.methodLink RX5 166 yX0_isThere : Cond) ∈ lw_gd := lw_mg (i := 286) (by decide +kernel) rfl
theorem q287 : (.instanceMethod yX0_isThere : Cond) ∈ lw_gd := lw_mg (i := 287) (by decide +kernel) rfl
theorem q288 : (.selects RX0 yX0_isThere yX0_isThere : Cond) ∈ lw_gd := lw_mg (i := 288) (by decide +kernel) rfl
theorem q289 : (.code yX0_isThere cX0_isThere 1 (some .boolean) : Cond) ∈ lw_gd := lw_mg (i := 289) (by decide +kernel) rfl
theorem q290 : (.methodLink RX5 128 yX5_takeNumbers : Cond) ∈ lw_gd := lw_mg (i := 290) (by decide +kernel) rfl
theorem q292 : (.instanceMethod yX5_takeNumbers : Cond) ∈ lw_gd := lw_mg (i := 292) (by decide +kernel) rfl
theorem q293 : (.code yX5_takeNumbers cX5_takeNumbers 8 (some .int) : Cond) ∈ lw_gd := lw_mg (i := 293) (by decide +kernel) rfl
theorem q294 : (.methodLink RX5 132 yX4_go : Cond) ∈ lw_gd := lw_mg (i := 294) (by decide +kernel) rfl
theorem q295 : (.instanceMethod yX4_go : Cond) ∈ lw_gd := lw_mg (i := 295) (by decide +kernel) rfl
theorem q296 : (.selects RX4 yX4_go yX4_go : Cond) ∈ lw_gd := lw_mg (i := 296) (by decide +kernel) rfl
theorem q297 : (.code yX4_go cX4_go 5 none : Cond) ∈ lw_gd := lw_mg (i := 297) (by decide +kernel) rfl
theorem q298 : (.methodLink RX4 25 yX4_passBy : Cond) ∈ lw_gd := lw_mg (i := 298) (by decide +kernel) rfl
theorem q300 : (.instanceMethod yX4_passBy : Cond) ∈ lw_gd := lw_mg (i := 300) (by decide +kernel) rfl
theorem q301 : (.code yX4_passBy cX4_passBy 6 none : Cond) ∈ lw_gd := lw_mg (i := 301) (by decide +kernel) rfl
theorem q302 : (.methodLink RX4 29 yX0_waiting : Cond) ∈ lw_gd := lw_mg (i := 302) (by decide +kernel) rfl
theorem q303 : (.instanceMethod yX0_waiting : Cond) ∈ lw_gd := lw_mg (i := 303) (by decide +kernel) rfl
theorem q304 : (.selects RX0 yX0_waiting yX0_waiting : Cond) ∈ lw_gd := lw_mg (i := 304) (by decide +kernel) rfl
theorem q305 : (.code yX0_waiting cX0_waiting 4 (some .int) : Cond) ∈ lw_gd := lw_mg (i := 305) (by decide +kernel) rfl
theorem q306 : (.methodLink RX0 66 yX0_heapOf : Cond) ∈ lw_gd := lw_mg (i := 306) (by decide +kernel) rfl
theorem q307 : (.instanceMethod yX0_heapOf : Cond) ∈ lw_gd := lw_mg (i := 307) (by decide +kernel) rfl
theorem q308 : (.selects RX0 yX0_heapOf yX0_heapOf : Cond) ∈ lw_gd := lw_mg (i := 308) (by decide +kernel) rfl
theorem q309 : (.code yX0_heapOf cX0_heapOf 5 (some .int) : Cond) ∈ lw_gd := lw_mg (i := 309) (by decide +kernel) rfl
theorem q311 : (.static yX5_holds : Cond) ∈ lw_gd := lw_mg (i := 311) (by decide +kernel) rfl
theorem q312 : (.code yX5_holds cX5_holds 2 (some .boolean) : Cond) ∈ lw_gd := lw_mg (i := 312) (by decide +kernel) rfl
theorem q313 : (.methodLink RX4 35 yX0_secondsFor : Cond) ∈ lw_gd := lw_mg (i := 313) (by decide +kernel) rfl
theorem q314 : (.instanceMethod yX0_secondsFor : Cond) ∈ lw_gd := lw_mg (i := 314) (by decide +kernel) rfl
theorem q315 : (.selects RX0 yX0_secondsFor yX0_secondsFor : Cond) ∈ lw_gd := lw_mg (i := 315) (by decide +kernel) rfl
theorem q316 : (.code yX0_secondsFor cX0_secondsFor 4 (some .int) : Cond) ∈ lw_gd := lw_mg (i := 316) (by decide +kernel) rfl
theorem q318 : (.methodLink RX4 38 yX0_heaps : Cond) ∈ lw_gd := lw_mg (i := 318) (by decide +kernel) rfl
theorem q319 : (.instanceMethod yX0_heaps : Cond) ∈ lw_gd := lw_mg (i := 319) (by decide +kernel) rfl
theorem q320 : (.selects RX0 yX0_heaps yX0_heaps : Cond) ∈ lw_gd := lw_mg (i := 320) (by decide +kernel) rfl
theorem q321 : (.code yX0_heaps cX0_heaps 4 (some .int) : Cond) ∈ lw_gd := lw_mg (i := 321) (by decide +kernel) rfl
theorem q323 : (.static yX5_least : Cond) ∈ lw_gd := lw_mg (i := 323) (by decide +kernel) rfl
theorem q324 : (.code yX5_least cX5_least 2 (some .int) : Cond) ∈ lw_gd := lw_mg (i := 324) (by decide +kernel) rfl
theorem q325 : (.methodLink RX5 263 yX5_holds : Cond) ∈ lw_gd := lw_mg (i := 325) (by decide +kernel) rfl
theorem q326 : (.methodLink RX4 41 yX4_noteReady : Cond) ∈ lw_gd := lw_mg (i := 326) (by decide +kernel) rfl
theorem q328 : (.instanceMethod yX4_noteReady : Cond) ∈ lw_gd := lw_mg (i := 328) (by decide +kernel) rfl
theorem q329 : (.code yX4_noteReady cX4_noteReady 3 none : Cond) ∈ lw_gd := lw_mg (i := 329) (by decide +kernel) rfl
theorem q331 : (.methodLink RX5 144 yX0_heaps : Cond) ∈ lw_gd := lw_mg (i := 331) (by decide +kernel) rfl
theorem q332 : (.methodLink RX5 147 yX0_waiting : Cond) ∈ lw_gd := lw_mg (i := 332) (by decide +kernel) rfl
theorem q333 : (.methodLink RX5 150 yX5_readyBehind : Cond) ∈ lw_gd := lw_mg (i := 333) (by decide +kernel) rfl
theorem q335 : (.instanceMethod yX5_readyBehind : Cond) ∈ lw_gd := lw_mg (i := 335) (by decide +kernel) rfl
theorem q336 : (.code yX5_readyBehind cX5_readyBehind 2 (some .int) : Cond) ∈ lw_gd := lw_mg (i := 336) (by decide +kernel) rfl
theorem q337 : (.methodLink RX5 153 yX5_leastBeside : Cond) ∈ lw_gd := lw_mg (i := 337) (by decide +kernel) rfl
theorem q339 : (.instanceMethod yX5_leastBeside : Cond) ∈ lw_gd := lw_mg (i := 339) (by decide +kernel) rfl
theorem q340 : (.code yX5_leastBeside cX5_leastBeside 2 (some .int) : Cond) ∈ lw_gd := lw_mg (i := 340) (by decide +kernel) rfl
theorem q341 : (.methodLink RX5 257 yX0_heapOf : Cond) ∈ lw_gd := lw_mg (i := 341) (by decide +kernel) rfl
theorem q342 : (.methodLink RX5 260 yX5_least : Cond) ∈ lw_gd := lw_mg (i := 342) (by decide +kernel) rfl
theorem q343 : (.methodLink RL 41 yX5_line : Cond) ∈ lw_gd := lw_mg (i := 343) (by decide +kernel) rfl
theorem q344 : (.instanceMethod yX5_line : Cond) ∈ lw_gd := lw_mg (i := 344) (by decide +kernel) rfl
theorem q345 : (.selects RX5 yX5_line yX5_line : Cond) ∈ lw_gd := lw_mg (i := 345) (by decide +kernel) rfl
theorem q346 : (.code yX5_line cX5_line 6 (some .int) : Cond) ∈ lw_gd := lw_mg (i := 346) (by decide +kernel) rfl
theorem q347 : (.methodLink RX5 156 yX0_firstShort : Cond) ∈ lw_gd := lw_mg (i := 347) (by decide +kernel) rfl
theorem q348 : (.instanceMethod yX0_firstShort : Cond) ∈ lw_gd := lw_mg (i := 348) (by decide +kernel) rfl
theorem q349 : (.selects RX0 yX0_firstShort yX0_firstShort : Cond) ∈ lw_gd := lw_mg (i := 349) (by decide +kernel) rfl
theorem q350 : (.code yX0_firstShort cX0_firstShort 6 (some .int) : Cond) ∈ lw_gd := lw_mg (i := 350) (by decide +kernel) rfl
theorem q351 : (.methodLink RL 45 yX5_soon : Cond) ∈ lw_gd := lw_mg (i := 351) (by decide +kernel) rfl
theorem q352 : (.instanceMethod yX5_soon : Cond) ∈ lw_gd := lw_mg (i := 352) (by decide +kernel) rfl
theorem q353 : (.selects RX5 yX5_soon yX5_soon : Cond) ∈ lw_gd := lw_mg (i := 353) (by decide +kernel) rfl
theorem q354 : (.code yX5_soon cX5_soon 7 (some .int) : Cond) ∈ lw_gd := lw_mg (i := 354) (by decide +kernel) rfl
theorem q355 : (.methodLink RX5 160 yX0_isSet : Cond) ∈ lw_gd := lw_mg (i := 355) (by decide +kernel) rfl
theorem q356 : (.instanceMethod yX0_isSet : Cond) ∈ lw_gd := lw_mg (i := 356) (by decide +kernel) rfl
theorem q357 : (.selects RX0 yX0_isSet yX0_isSet : Cond) ∈ lw_gd := lw_mg (i := 357) (by decide +kernel) rfl
theorem q358 : (.code yX0_isSet cX0_isSet 2 (some .boolean) : Cond) ∈ lw_gd := lw_mg (i := 358) (by decide +kernel) rfl
theorem q359 : (.methodLink RX5 163 yX4_allReadyBehind : Cond) ∈ lw_gd := lw_mg (i := 359) (by decide +kernel) rfl
theorem q360 : (.instanceMethod yX4_allReadyBehind : Cond) ∈ lw_gd := lw_mg (i := 360) (by decide +kernel) rfl
theorem q361 : (.selects RX4 yX4_allReadyBehind yX4_allReadyBehind : Cond) ∈ lw_gd := lw_mg (i := 361) (by decide +kernel) rfl
theorem q362 : (.code yX4_allReadyBehind cX4_allReadyBehind 4 (some .int) : Cond) ∈ lw_gd := lw_mg (i := 362) (by decide +kernel) rfl
theorem q363 : (.methodLink RX4 49 yJ9_max_7cf53 : Cond) ∈ lw_gd := lw_mg (i := 363) (by decide +kernel) rfl
theorem q364 : (.static yJ9_max_7cf53 : Cond) ∈ lw_gd := lw_mg (i := 364) (by decide +kernel) rfl
theorem q365 : (.code yJ9_max_7cf53 cJ9_max_7cf53 2 (some .int) : Cond) ∈ lw_gd := lw_mg (i := 365) (by decide +kernel) rfl
theorem q366 : (.methodLink RL 49 yX5_order : Cond) ∈ lw_gd := lw_mg (i := 366) (by decide +kernel) rfl
theorem q367 : (.instanceMethod yX5_order : Cond) ∈ lw_gd := lw_mg (i := 367) (by decide +kernel) rfl
theorem q368 : (.selects RX5 yX5_order yX5_order : Cond) ∈ lw_gd := lw_mg (i := 368) (by decide +kernel) rfl
theorem q369 : (.code yX5_order cX5_order 2 (some .int) : Cond) ∈ lw_gd := lw_mg (i := 369) (by decide +kernel) rfl
theorem q370 : (.methodLink RX5 170 yX1_weighOrders : Cond) ∈ lw_gd := lw_mg (i := 370) (by decide +kernel) rfl
theorem q371 : (.instanceMethod yX1_weighOrders : Cond) ∈ lw_gd := lw_mg (i := 371) (by decide +kernel) rfl
theorem q372 : (.selects RX1 yX1_weighOrders yX1_weighOrders : Cond) ∈ lw_gd := lw_mg (i := 372) (by decide +kernel) rfl
theorem q373 : (.code yX1_weighOrders cX1_weighOrders 4 none : Cond) ∈ lw_gd := lw_mg (i := 373) (by decide +kernel) rfl
theorem q374 : (.methodLink RX1 24 yX0_waiting : Cond) ∈ lw_gd := lw_mg (i := 374) (by decide +kernel) rfl
theorem q375 : (.methodLink RX1 28 yX1_fewestFrom : Cond) ∈ lw_gd := lw_mg (i := 375) (by decide +kernel) rfl
theorem q377 : (.instanceMethod yX1_fewestFrom : Cond) ∈ lw_gd := lw_mg (i := 377) (by decide +kernel) rfl
theorem q378 : (.code yX1_fewestFrom cX1_fewestFrom 6 (some .int) : Cond) ∈ lw_gd := lw_mg (i := 378) (by decide +kernel) rfl
theorem q380 : (.methodLink RX1 36 yX1_fewer : Cond) ∈ lw_gd := lw_mg (i := 380) (by decide +kernel) rfl
theorem q381 : (.static yX1_fewer : Cond) ∈ lw_gd := lw_mg (i := 381) (by decide +kernel) rfl
theorem q382 : (.code yX1_fewer cX1_fewer 2 (some .int) : Cond) ∈ lw_gd := lw_mg (i := 382) (by decide +kernel) rfl
theorem q383 : (.methodLink RX1 43 yJ9_min_7cf53 : Cond) ∈ lw_gd := lw_mg (i := 383) (by decide +kernel) rfl
theorem q384 : (.static yJ9_min_7cf53 : Cond) ∈ lw_gd := lw_mg (i := 384) (by decide +kernel) rfl
theorem q385 : (.code yJ9_min_7cf53 cJ9_min_7cf53 2 (some .int) : Cond) ∈ lw_gd := lw_mg (i := 385) (by decide +kernel) rfl
theorem q386 : (.methodLink RX1 40 yX0_secondsFor : Cond) ∈ lw_gd := lw_mg (i := 386) (by decide +kernel) rfl
theorem q387 : (.methodLink RX5 174 yX1_fewestByOrder : Cond) ∈ lw_gd := lw_mg (i := 387) (by decide +kernel) rfl
theorem q388 : (.instanceMethod yX1_fewestByOrder : Cond) ∈ lw_gd := lw_mg (i := 388) (by decide +kernel) rfl
theorem q389 : (.selects RX1 yX1_fewestByOrder yX1_fewestByOrder : Cond) ∈ lw_gd := lw_mg (i := 389) (by decide +kernel) rfl
theorem q390 : (.code yX1_fewestByOrder cX1_fewestByOrder 1 (some .int) : Cond) ∈ lw_gd := lw_mg (i := 390) (by decide +kernel) rfl
theorem q391 : (.methodLink RX5 177 yX1_signOfOrder : Cond) ∈ lw_gd := lw_mg (i := 391) (by decide +kernel) rfl
theorem q392 : (.instanceMethod yX1_signOfOrder : Cond) ∈ lw_gd := lw_mg (i := 392) (by decide +kernel) rfl
theorem q393 : (.selects RX1 yX1_signOfOrder yX1_signOfOrder : Cond) ∈ lw_gd := lw_mg (i := 393) (by decide +kernel) rfl
theorem q394 : (.code yX1_signOfOrder cX1_signOfOrder 6 (some .int) : Cond) ∈ lw_gd := lw_mg (i := 394) (by decide +kernel) rfl
theorem q395 : (.methodLink RX1 48 yX1_nextSign : Cond) ∈ lw_gd := lw_mg (i := 395) (by decide +kernel) rfl
theorem q397 : (.instanceMethod yX1_nextSign : Cond) ∈ lw_gd := lw_mg (i := 397) (by decide +kernel) rfl
theorem q398 : (.code yX1_nextSign cX1_nextSign 6 (some .int) : Cond) ∈ lw_gd := lw_mg (i := 398) (by decide +kernel) rfl
theorem q399 : (.methodLink RL 53 yX5_tree : Cond) ∈ lw_gd := lw_mg (i := 399) (by decide +kernel) rfl
theorem q400 : (.instanceMethod yX5_tree : Cond) ∈ lw_gd := lw_mg (i := 400) (by decide +kernel) rfl
theorem q401 : (.selects RX5 yX5_tree yX5_tree : Cond) ∈ lw_gd := lw_mg (i := 401) (by decide +kernel) rfl
theorem q402 : (.code yX5_tree cX5_tree 2 (some .int) : Cond) ∈ lw_gd := lw_mg (i := 402) (by decide +kernel) rfl
theorem q403 : (.methodLink RX5 181 yX1_weighTrees : Cond) ∈ lw_gd := lw_mg (i := 403) (by decide +kernel) rfl
theorem q404 : (.instanceMethod yX1_weighTrees : Cond) ∈ lw_gd := lw_mg (i := 404) (by decide +kernel) rfl
theorem q405 : (.selects RX1 yX1_weighTrees yX1_weighTrees : Cond) ∈ lw_gd := lw_mg (i := 405) (by decide +kernel) rfl
theorem q406 : (.code yX1_weighTrees cX1_weighTrees 3 none : Cond) ∈ lw_gd := lw_mg (i := 406) (by decide +kernel) rfl
theorem q407 : (.methodLink RX1 52 yX0_everySort : Cond) ∈ lw_gd := lw_mg (i := 407) (by decide +kernel) rfl
theorem q408 : (.methodLink RX1 56 yJ6_bitCount_0f7a4 : Cond) ∈ lw_gd := lw_mg (i := 408) (by decide +kernel) rfl
theorem q409 : (.static yJ6_bitCount_0f7a4 : Cond) ∈ lw_gd := lw_mg (i := 409) (by decide +kernel) rfl
theorem q410 : (.code yJ6_bitCount_0f7a4 cJ6_bitCount_0f7a4 1 (some .int) : Cond) ∈ lw_gd := lw_mg (i := 410) (by decide +kernel) rfl
theorem q411 : (.constant RJ6 265 (1431655765) : Cond) ∈ lw_gd := lw_mg (i := 411) (by decide +kernel) rfl
theorem q412 : (.constant RJ6 266 (858993459) : Cond) ∈ lw_gd := lw_mg (i := 412) (by decide +kernel) rfl
theorem q413 : (.constant RJ6 267 (252645135) : Cond) ∈ lw_gd := lw_mg (i := 413) (by decide +kernel) rfl
theorem q414 : (.methodLink RX1 61 yX1_fewestOf : Cond) ∈ lw_gd := lw_mg (i := 414) (by decide +kernel) rfl
theorem q416 : (.instanceMethod yX1_fewestOf : Cond) ∈ lw_gd := lw_mg (i := 416) (by decide +kernel) rfl
theorem q417 : (.code yX1_fewestOf cX1_fewestOf 5 (some .int) : Cond) ∈ lw_gd := lw_mg (i := 417) (by decide +kernel) rfl
theorem q418 : (.methodLink RX1 64 yX1_behindParting : Cond) ∈ lw_gd := lw_mg (i := 418) (by decide +kernel) rfl
theorem q420 : (.instanceMethod yX1_behindParting : Cond) ∈ lw_gd := lw_mg (i := 420) (by decide +kernel) rfl
theorem q421 : (.code yX1_behindParting cX1_behindParting 6 (some .int) : Cond) ∈ lw_gd := lw_mg (i := 421) (by decide +kernel) rfl
theorem q422 : (.methodLink RX5 184 yX1_fewestByTree : Cond) ∈ lw_gd := lw_mg (i := 422) (by decide +kernel) rfl
theorem q423 : (.instanceMethod yX1_fewestByTree : Cond) ∈ lw_gd := lw_mg (i := 423) (by decide +kernel) rfl
theorem q424 : (.selects RX1 yX1_fewestByTree yX1_fewestByTree : Cond) ∈ lw_gd := lw_mg (i := 424) (by decide +kernel) rfl
theorem q425 : (.code yX1_fewestByTree cX1_fewestByTree 2 (some .int) : Cond) ∈ lw_gd := lw_mg (i := 425) (by decide +kernel) rfl
theorem q426 : (.methodLink RX5 188 yX1_firstOfTree : Cond) ∈ lw_gd := lw_mg (i := 426) (by decide +kernel) rfl
theorem q427 : (.instanceMethod yX1_firstOfTree : Cond) ∈ lw_gd := lw_mg (i := 427) (by decide +kernel) rfl
theorem q428 : (.selects RX1 yX1_firstOfTree yX1_firstOfTree : Cond) ∈ lw_gd := lw_mg (i := 428) (by decide +kernel) rfl
theorem q429 : (.code yX1_firstOfTree cX1_firstOfTree 5 (some .int) : Cond) ∈ lw_gd := lw_mg (i := 429) (by decide +kernel) rfl
theorem q430 : (.methodLink RL 57 yX5_odds : Cond) ∈ lw_gd := lw_mg (i := 430) (by decide +kernel) rfl
theorem q431 : (.instanceMethod yX5_odds : Cond) ∈ lw_gd := lw_mg (i := 431) (by decide +kernel) rfl
theorem q432 : (.selects RX5 yX5_odds yX5_odds : Cond) ∈ lw_gd := lw_mg (i := 432) (by decide +kernel) rfl
theorem q433 : (.code yX5_odds cX5_odds 10 (some .long) : Cond) ∈ lw_gd := lw_mg (i := 433) (by decide +kernel) rfl
theorem q434 : (.constantLong RX5 191 (-9223372036854775808) : Cond) ∈ lw_gd := lw_mg (i := 434) (by decide +kernel) rfl
theorem q435 : (.methodLink RX5 193 yX0_lettersAlike : Cond) ∈ lw_gd := lw_mg (i := 435) (by decide +kernel) rfl
theorem q436 : (.instanceMethod yX0_lettersAlike : Cond) ∈ lw_gd := lw_mg (i := 436) (by decide +kernel) rfl
theorem q437 : (.selects RX0 yX0_lettersAlike yX0_lettersAlike : Cond) ∈ lw_gd := lw_mg (i := 437) (by decide +kernel) rfl
theorem q438 : (.code yX0_lettersAlike cX0_lettersAlike 4 (some .int) : Cond) ∈ lw_gd := lw_mg (i := 438) (by decide +kernel) rfl
theorem q439 : (.methodLink RX5 196 yX5_waysOfAtLeast : Cond) ∈ lw_gd := lw_mg (i := 439) (by decide +kernel) rfl
theorem q440 : (.static yX5_waysOfAtLeast : Cond) ∈ lw_gd := lw_mg (i := 440) (by decide +kernel) rfl
theorem q441 : (.code yX5_waysOfAtLeast cX5_waysOfAtLeast 7 (some .long) : Cond) ∈ lw_gd := lw_mg (i := 441) (by decide +kernel) rfl
theorem q442 : (.methodLink RL 62 yX5_reading : Cond) ∈ lw_gd := lw_mg (i := 442) (by decide +kernel) rfl
theorem q443 : (.instanceMethod yX5_reading : Cond) ∈ lw_gd := lw_mg (i := 443) (by decide +kernel) rfl
theorem q444 : (.selects RX5 yX5_reading yX5_reading : Cond) ∈ lw_gd := lw_mg (i := 444) (by decide +kernel) rfl
theorem q445 : (.code yX5_reading cX5_reading 3 (some .int) : Cond) ∈ lw_gd := lw_mg (i := 445) (by decide +kernel) rfl
theorem q446 : (.methodLink RX5 203 yX0_note : Cond) ∈ lw_gd := lw_mg (i := 446) (by decide +kernel) rfl
theorem q447 : (.instanceMethod yX0_note : Cond) ∈ lw_gd := lw_mg (i := 447) (by decide +kernel) rfl
theorem q448 : (.selects RX0 yX0_note yX0_note : Cond) ∈ lw_gd := lw_mg (i := 448) (by decide +kernel) rfl
theorem q449 : (.code yX0_note cX0_note 3 (some .int) : Cond) ∈ lw_gd := lw_mg (i := 449) (by decide +kernel) rfl
theorem q450 : (.methodLink RL 66 yX5_back : Cond) ∈ lw_gd := lw_mg (i := 450) (by decide +kernel) rfl
theorem q451 : (.instanceMethod yX5_back : Cond) ∈ lw_gd := lw_mg (i := 451) (by decide +kernel) rfl
theorem q452 : (.selects RX5 yX5_back yX5_back : Cond) ∈ lw_gd := lw_mg (i := 452) (by decide +kernel) rfl
theorem q453 : (.code yX5_back cX5_back 2 (some .int) : Cond) ∈ lw_gd := lw_mg (i := 453) (by decide +kernel) rfl
theorem q454 : (.methodLink RL 70 yX5_counts : Cond) ∈ lw_gd := lw_mg (i := 454) (by decide +kernel) rfl
theorem q455 : (.instanceMethod yX5_counts : Cond) ∈ lw_gd := lw_mg (i := 455) (by decide +kernel) rfl
theorem q456 : (.selects RX5 yX5_counts yX5_counts : Cond) ∈ lw_gd := lw_mg (i := 456) (by decide +kernel) rfl
theorem q457 : (.code yX5_counts cX5_counts 4 (some .int) : Cond) ∈ lw_gd := lw_mg (i := 457) (by decide +kernel) rfl
theorem q458 : (.methodLink RX5 206 yX0_readingsHold : Cond) ∈ lw_gd := lw_mg (i := 458) (by decide +kernel) rfl
theorem q459 : (.instanceMethod yX0_readingsHold : Cond) ∈ lw_gd := lw_mg (i := 459) (by decide +kernel) rfl
theorem q460 : (.selects RX0 yX0_readingsHold yX0_readingsHold : Cond) ∈ lw_gd := lw_mg (i := 460) (by decide +kernel) rfl
theorem q461 : (.code yX0_readingsHold cX0_readingsHold 5 (some .boolean) : Cond) ∈ lw_gd := lw_mg (i := 461) (by decide +kernel) rfl
theorem q462 : (.methodLink RX0 73 yX0_secondsFor : Cond) ∈ lw_gd := lw_mg (i := 462) (by decide +kernel) rfl
theorem q463 : (.methodLink RL 74 yX5_kinds : Cond) ∈ lw_gd := lw_mg (i := 463) (by decide +kernel) rfl
theorem q464 : (.instanceMethod yX5_kinds : Cond) ∈ lw_gd := lw_mg (i := 464) (by decide +kernel) rfl
theorem q465 : (.selects RX5 yX5_kinds yX5_kinds : Cond) ∈ lw_gd := lw_mg (i := 465) (by decide +kernel) rfl
theorem q466 : (.code yX5_kinds cX5_kinds 4 (some .int) : Cond) ∈ lw_gd := lw_mg (i := 466) (by decide +kernel) rfl
theorem q467 : (.methodLink RL 78 yX5_speeds : Cond) ∈ lw_gd := lw_mg (i := 467) (by decide +kernel) rfl
theorem q468 : (.instanceMethod yX5_speeds : Cond) ∈ lw_gd := lw_mg (i := 468) (by decide +kernel) rfl
theorem q469 : (.selects RX5 yX5_speeds yX5_speeds : Cond) ∈ lw_gd := lw_mg (i := 469) (by decide +kernel) rfl
theorem q470 : (.code yX5_speeds cX5_speeds 4 (some .int) : Cond) ∈ lw_gd := lw_mg (i := 470) (by decide +kernel) rfl
theorem q471 : (.methodLink RL 82 yX5_sheet : Cond) ∈ lw_gd := lw_mg (i := 471) (by decide +kernel) rfl
theorem q472 : (.instanceMethod yX5_sheet : Cond) ∈ lw_gd := lw_mg (i := 472) (by decide +kernel) rfl
theorem q473 : (.selects RX5 yX5_sheet yX5_sheet : Cond) ∈ lw_gd := lw_mg (i := 473) (by decide +kernel) rfl
theorem q474 : (.code yX5_sheet cX5_sheet 4 (some .int) : Cond) ∈ lw_gd := lw_mg (i := 474) (by decide +kernel) rfl
theorem q475 : (.methodLink RX5 210 yX2_renew : Cond) ∈ lw_gd := lw_mg (i := 475) (by decide +kernel) rfl
theorem q476 : (.instanceMethod yX2_renew : Cond) ∈ lw_gd := lw_mg (i := 476) (by decide +kernel) rfl
theorem q477 : (.selects RX2 yX2_renew yX2_renew : Cond) ∈ lw_gd := lw_mg (i := 477) (by decide +kernel) rfl
theorem q478 : (.code yX2_renew cX2_renew 5 none : Cond) ∈ lw_gd := lw_mg (i := 478) (by decide +kernel) rfl
theorem q479 : (.methodLink RL 87 yX5_lose : Cond) ∈ lw_gd := lw_mg (i := 479) (by decide +kernel) rfl
theorem q480 : (.instanceMethod yX5_lose : Cond) ∈ lw_gd := lw_mg (i := 480) (by decide +kernel) rfl
theorem q481 : (.selects RX5 yX5_lose yX5_lose : Cond) ∈ lw_gd := lw_mg (i := 481) (by decide +kernel) rfl
theorem q482 : (.code yX5_lose cX5_lose 2 (some .int) : Cond) ∈ lw_gd := lw_mg (i := 482) (by decide +kernel) rfl
theorem q483 : (.methodLink RX5 214 yX2_clear : Cond) ∈ lw_gd := lw_mg (i := 483) (by decide +kernel) rfl
theorem q484 : (.instanceMethod yX2_clear : Cond) ∈ lw_gd := lw_mg (i := 484) (by decide +kernel) rfl
theorem q485 : (.selects RX2 yX2_clear yX2_clear : Cond) ∈ lw_gd := lw_mg (i := 485) (by decide +kernel) rfl
theorem q486 : (.code yX2_clear cX2_clear 3 (some .boolean) : Cond) ∈ lw_gd := lw_mg (i := 486) (by decide +kernel) rfl
theorem q487 : (.methodLink RL 91 yX5_put : Cond) ∈ lw_gd := lw_mg (i := 487) (by decide +kernel) rfl
theorem q488 : (.instanceMethod yX5_put : Cond) ∈ lw_gd := lw_mg (i := 488) (by decide +kernel) rfl
theorem q489 : (.selects RX5 yX5_put yX5_put : Cond) ∈ lw_gd := lw_mg (i := 489) (by decide +kernel) rfl
theorem q490 : (.code yX5_put cX5_put 5 (some .int) : Cond) ∈ lw_gd := lw_mg (i := 490) (by decide +kernel) rfl
theorem q491 : (.methodLink RX5 217 yX2_faultOfCell : Cond) ∈ lw_gd := lw_mg (i := 491) (by decide +kernel) rfl
theorem q492 : (.instanceMethod yX2_faultOfCell : Cond) ∈ lw_gd := lw_mg (i := 492) (by decide +kernel) rfl
theorem q493 : (.selects RX2 yX2_faultOfCell yX2_faultOfCell : Cond) ∈ lw_gd := lw_mg (i := 493) (by decide +kernel) rfl
theorem q494 : (.code yX2_faultOfCell cX2_faultOfCell 3 (some .int) : Cond) ∈ lw_gd := lw_mg (i := 494) (by decide +kernel) rfl
theorem q495 : (.methodLink RX5 220 yX2_write : Cond) ∈ lw_gd := lw_mg (i := 495) (by decide +kernel) rfl
theorem q496 : (.instanceMethod yX2_write : Cond) ∈ lw_gd := lw_mg (i := 496) (by decide +kernel) rfl
theorem q497 : (.selects RX2 yX2_write yX2_write : Cond) ∈ lw_gd := lw_mg (i := 497) (by decide +kernel) rfl
theorem q498 : (.code yX2_write cX2_write 4 none : Cond) ∈ lw_gd := lw_mg (i := 498) (by decide +kernel) rfl
theorem q499 : (.methodLink RX2 25 yX2_cut : Cond) ∈ lw_gd := lw_mg (i := 499) (by decide +kernel) rfl
theorem q500 : (.static yX2_cut : Cond) ∈ lw_gd := lw_mg (i := 500) (by decide +kernel) rfl
theorem q501 : (.code yX2_cut cX2_cut 2 (some .int) : Cond) ∈ lw_gd := lw_mg (i := 501) (by decide +kernel) rfl
theorem q502 : (.methodLink RL 95 yX5_cell : Cond) ∈ lw_gd := lw_mg (i := 502) (by decide +kernel) rfl
theorem q503 : (.instanceMethod yX5_cell : Cond) ∈ lw_gd := lw_mg (i := 503) (by decide +kernel) rfl
theorem q504 : (.selects RX5 yX5_cell yX5_cell : Cond) ∈ lw_gd := lw_mg (i := 504) (by decide +kernel) rfl
theorem q505 : (.code yX5_cell cX5_cell 4 (some .long) : Cond) ∈ lw_gd := lw_mg (i := 505) (by decide +kernel) rfl
theorem q506 : (.methodLink RX5 223 yX2_read : Cond) ∈ lw_gd := lw_mg (i := 506) (by decide +kernel) rfl
theorem q507 : (.instanceMethod yX2_read : Cond) ∈ lw_gd := lw_mg (i := 507) (by decide +kernel) rfl
theorem q508 : (.selects RX2 yX2_read yX2_read : Cond) ∈ lw_gd := lw_mg (i := 508) (by decide +kernel) rfl
theorem q509 : (.code yX2_read cX2_read 3 (some .int) : Cond) ∈ lw_gd := lw_mg (i := 509) (by decide +kernel) rfl
theorem q510 : (.methodLink RL 99 yX5_copy : Cond) ∈ lw_gd := lw_mg (i := 510) (by decide +kernel) rfl
theorem q511 : (.instanceMethod yX5_copy : Cond) ∈ lw_gd := lw_mg (i := 511) (by decide +kernel) rfl
theorem q512 : (.selects RX5 yX5_copy yX5_copy : Cond) ∈ lw_gd := lw_mg (i := 512) (by decide +kernel) rfl
theorem q513 : (.code yX5_copy cX5_copy 7 (some .int) : Cond) ∈ lw_gd := lw_mg (i := 513) (by decide +kernel) rfl
theorem q514 : (.methodLink RX5 226 yX2_faultOfPair : Cond) ∈ lw_gd := lw_mg (i := 514) (by decide +kernel) rfl
theorem q515 : (.instanceMethod yX2_faultOfPair : Cond) ∈ lw_gd := lw_mg (i := 515) (by decide +kernel) rfl
theorem q516 : (.selects RX2 yX2_faultOfPair yX2_faultOfPair : Cond) ∈ lw_gd := lw_mg (i := 516) (by decide +kernel) rfl
theorem q517 : (.code yX2_faultOfPair cX2_faultOfPair 3 (some .int) : Cond) ∈ lw_gd := lw_mg (i := 517) (by decide +kernel) rfl
theorem q518 : (.methodLink RX5 229 yX2_move : Cond) ∈ lw_gd := lw_mg (i := 518) (by decide +kernel) rfl
theorem q519 : (.instanceMethod yX2_move : Cond) ∈ lw_gd := lw_mg (i := 519) (by decide +kernel) rfl
theorem q520 : (.selects RX2 yX2_move yX2_move : Cond) ∈ lw_gd := lw_mg (i := 520) (by decide +kernel) rfl
theorem q521 : (.code yX2_move cX2_move 6 none : Cond) ∈ lw_gd := lw_mg (i := 521) (by decide +kernel) rfl
theorem q522 : (.methodLink RL 103 yX5_tell : Cond) ∈ lw_gd := lw_mg (i := 522) (by decide +kernel) rfl
theorem q523 : (.instanceMethod yX5_tell : Cond) ∈ lw_gd := lw_mg (i := 523) (by decide +kernel) rfl
theorem q524 : (.selects RX5 yX5_tell yX5_tell : Cond) ∈ lw_gd := lw_mg (i := 524) (by decide +kernel) rfl
theorem q525 : (.code yX5_tell cX5_tell 2 (some .int) : Cond) ∈ lw_gd := lw_mg (i := 525) (by decide +kernel) rfl
theorem q526 : (.methodLink RX5 233 yX5_tellDoubtful : Cond) ∈ lw_gd := lw_mg (i := 526) (by decide +kernel) rfl
theorem q528 : (.instanceMethod yX5_tellDoubtful : Cond) ∈ lw_gd := lw_mg (i := 528) (by decide +kernel) rfl
theorem q529 : (.code yX5_tellDoubtful cX5_tellDoubtful 2 (some .int) : Cond) ∈ lw_gd := lw_mg (i := 529) (by decide +kernel) rfl
theorem q530 : (.methodLink RX5 266 yX5_leave : Cond) ∈ lw_gd := lw_mg (i := 530) (by decide +kernel) rfl
theorem q532 : (.instanceMethod yX5_leave : Cond) ∈ lw_gd := lw_mg (i := 532) (by decide +kernel) rfl
theorem q533 : (.code yX5_leave cX5_leave 2 none : Cond) ∈ lw_gd := lw_mg (i := 533) (by decide +kernel) rfl
theorem q534 : (.methodLink RX5 236 yX5_tellSure : Cond) ∈ lw_gd := lw_mg (i := 534) (by decide +kernel) rfl
theorem q536 : (.instanceMethod yX5_tellSure : Cond) ∈ lw_gd := lw_mg (i := 536) (by decide +kernel) rfl
theorem q537 : (.code yX5_tellSure cX5_tellSure 2 (some .int) : Cond) ∈ lw_gd := lw_mg (i := 537) (by decide +kernel) rfl
theorem q538 : (.methodLink RX5 239 yX5_tellPicking : Cond) ∈ lw_gd := lw_mg (i := 538) (by decide +kernel) rfl
theorem q540 : (.instanceMethod yX5_tellPicking : Cond) ∈ lw_gd := lw_mg (i := 540) (by decide +kernel) rfl
theorem q541 : (.code yX5_tellPicking cX5_tellPicking 2 (some .int) : Cond) ∈ lw_gd := lw_mg (i := 541) (by decide +kernel) rfl
theorem q542 : (.methodLink RL 107 yX5_drop : Cond) ∈ lw_gd := lw_mg (i := 542) (by decide +kernel) rfl
theorem q543 : (.instanceMethod yX5_drop : Cond) ∈ lw_gd := lw_mg (i := 543) (by decide +kernel) rfl
theorem q544 : (.selects RX5 yX5_drop yX5_drop : Cond) ∈ lw_gd := lw_mg (i := 544) (by decide +kernel) rfl
theorem q545 : (.code yX5_drop cX5_drop 2 (some .int) : Cond) ∈ lw_gd := lw_mg (i := 545) (by decide +kernel) rfl
theorem q546 : (.methodLink RX5 242 yX5_dropByOwn : Cond) ∈ lw_gd := lw_mg (i := 546) (by decide +kernel) rfl
theorem q548 : (.instanceMethod yX5_dropByOwn : Cond) ∈ lw_gd := lw_mg (i := 548) (by decide +kernel) rfl
theorem q549 : (.code yX5_dropByOwn cX5_dropByOwn 1 (some .int) : Cond) ∈ lw_gd := lw_mg (i := 549) (by decide +kernel) rfl
theorem q550 : (.methodLink RX5 245 yX5_dropByLent : Cond) ∈ lw_gd := lw_mg (i := 550) (by decide +kernel) rfl
theorem q552 : (.instanceMethod yX5_dropByLent : Cond) ∈ lw_gd := lw_mg (i := 552) (by decide +kernel) rfl
theorem q553 : (.code yX5_dropByLent cX5_dropByLent 2 (some .int) : Cond) ∈ lw_gd := lw_mg (i := 553) (by decide +kernel) rfl
theorem q554 : (.methodLink RL 111 yX5_as : Cond) ∈ lw_gd := lw_mg (i := 554) (by decide +kernel) rfl
theorem q555 : (.instanceMethod yX5_as : Cond) ∈ lw_gd := lw_mg (i := 555) (by decide +kernel) rfl
theorem q556 : (.selects RX5 yX5_as yX5_as : Cond) ∈ lw_gd := lw_mg (i := 556) (by decide +kernel) rfl
theorem q557 : (.code yX5_as cX5_as 3 (some .int) : Cond) ∈ lw_gd := lw_mg (i := 557) (by decide +kernel) rfl
theorem q558 : (.methodLink RL 115 yX5_trace : Cond) ∈ lw_gd := lw_mg (i := 558) (by decide +kernel) rfl
theorem q559 : (.instanceMethod yX5_trace : Cond) ∈ lw_gd := lw_mg (i := 559) (by decide +kernel) rfl
theorem q560 : (.selects RX5 yX5_trace yX5_trace : Cond) ∈ lw_gd := lw_mg (i := 560) (by decide +kernel) rfl
theorem q561 : (.code yX5_trace cX5_trace 1 (some .int) : Cond) ∈ lw_gd := lw_mg (i := 561) (by decide +kernel) rfl
theorem q562 : (.methodLink RL 120 yX5_fault : Cond) ∈ lw_gd := lw_mg (i := 562) (by decide +kernel) rfl
theorem q563 : (.instanceMethod yX5_fault : Cond) ∈ lw_gd := lw_mg (i := 563) (by decide +kernel) rfl
theorem q564 : (.selects RX5 yX5_fault yX5_fault : Cond) ∈ lw_gd := lw_mg (i := 564) (by decide +kernel) rfl
theorem q565 : (.code yX5_fault cX5_fault 1 (some .int) : Cond) ∈ lw_gd := lw_mg (i := 565) (by decide +kernel) rfl
theorem q566 : (.methodLink RL 124 yX5_many : Cond) ∈ lw_gd := lw_mg (i := 566) (by decide +kernel) rfl
theorem q567 : (.instanceMethod yX5_many : Cond) ∈ lw_gd := lw_mg (i := 567) (by decide +kernel) rfl
theorem q568 : (.selects RX5 yX5_many yX5_many : Cond) ∈ lw_gd := lw_mg (i := 568) (by decide +kernel) rfl
theorem q569 : (.code yX5_many cX5_many 2 (some .int) : Cond) ∈ lw_gd := lw_mg (i := 569) (by decide +kernel) rfl
theorem q570 : (.methodLink RX5 251 yX0_letters : Cond) ∈ lw_gd := lw_mg (i := 570) (by decide +kernel) rfl
theorem q571 : (.instanceMethod yX0_letters : Cond) ∈ lw_gd := lw_mg (i := 571) (by decide +kernel) rfl
theorem q572 : (.selects RX0 yX0_letters yX0_letters : Cond) ∈ lw_gd := lw_mg (i := 572) (by decide +kernel) rfl
theorem q573 : (.code yX0_letters cX0_letters 3 (some .int) : Cond) ∈ lw_gd := lw_mg (i := 573) (by decide +kernel) rfl
theorem q574 : (.classLink RL 10 RX6 : Cond) ∈ lw_gd := lw_mg (i := 574) (by decide +kernel) rfl
theorem q575 : (.instantiable RX6 32 : Cond) ∈ lw_gd := lw_mg (i := 575) (by decide +kernel) rfl
theorem q576 : (.methodLink RL 12 yX6_init : Cond) ∈ lw_gd := lw_mg (i := 576) (by decide +kernel) rfl
theorem q577 : (.instanceMethod yX6_init : Cond) ∈ lw_gd := lw_mg (i := 577) (by decide +kernel) rfl
theorem q578 : (.code yX6_init cX6_init 2 none : Cond) ∈ lw_gd := lw_mg (i := 578) (by decide +kernel) rfl
theorem q579 : (.methodLink RX6 1 (⟨"java/lang/Object", "<init>", "()V"⟩ : MethodName) : Cond) ∈ lw_gd := lw_mg (i := 579) (by decide +kernel) rfl
theorem q580 : (.fieldLink RX6 78 "FloorTypeModel" "fault" "I" : Cond) ∈ lw_gd := lw_mg (i := 580) (by decide +kernel) rfl
theorem q581 : (.fieldLink RX6 86 "FloorTypeModel" "sorts" "I" : Cond) ∈ lw_gd := lw_mg (i := 581) (by decide +kernel) rfl
theorem q582 : (.fieldLink RX6 7 "FloorTypeModel" "kindOf" "[I" : Cond) ∈ lw_gd := lw_mg (i := 582) (by decide +kernel) rfl
theorem q583 : (.fieldLink RX6 13 "FloorTypeModel" "countOf" "[I" : Cond) ∈ lw_gd := lw_mg (i := 583) (by decide +kernel) rfl
theorem q584 : (.fieldLink RX6 16 "FloorTypeModel" "secondsOf" "[I" : Cond) ∈ lw_gd := lw_mg (i := 584) (by decide +kernel) rfl
theorem q585 : (.fieldLink RX6 19 "FloorTypeModel" "alikeOf" "[I" : Cond) ∈ lw_gd := lw_mg (i := 585) (by decide +kernel) rfl
theorem q586 : (.fieldLink RX6 93 "FloorTypeModel" "signs" "I" : Cond) ∈ lw_gd := lw_mg (i := 586) (by decide +kernel) rfl
theorem q587 : (.fieldLink RX6 22 "FloorTypeModel" "hadBy" "[I" : Cond) ∈ lw_gd := lw_mg (i := 587) (by decide +kernel) rfl
theorem q588 : (.fieldLink RX6 96 "FloorTypeModel" "readAt" "I" : Cond) ∈ lw_gd := lw_mg (i := 588) (by decide +kernel) rfl
theorem q589 : (.fieldLink RX6 103 "FloorTypeModel" "readSorts" "I" : Cond) ∈ lw_gd := lw_mg (i := 589) (by decide +kernel) rfl
theorem q590 : (.fieldLink RX6 110 "FloorTypeModel" "readSigns" "I" : Cond) ∈ lw_gd := lw_mg (i := 590) (by decide +kernel) rfl
theorem q591 : (.fieldLink RX6 25 "FloorTypeModel" "readKind" "[I" : Cond) ∈ lw_gd := lw_mg (i := 591) (by decide +kernel) rfl
theorem q592 : (.fieldLink RX6 28 "FloorTypeModel" "readCount" "[I" : Cond) ∈ lw_gd := lw_mg (i := 592) (by decide +kernel) rfl
theorem q593 : (.fieldLink RX6 31 "FloorTypeModel" "readSeconds" "[I" : Cond) ∈ lw_gd := lw_mg (i := 593) (by decide +kernel) rfl
theorem q594 : (.fieldLink RX6 34 "FloorTypeModel" "readAlike" "[I" : Cond) ∈ lw_gd := lw_mg (i := 594) (by decide +kernel) rfl
theorem q595 : (.fieldLink RX6 37 "FloorTypeModel" "readHad" "[I" : Cond) ∈ lw_gd := lw_mg (i := 595) (by decide +kernel) rfl
theorem q596 : (.fieldLink RX6 40 "FloorTypeModel" "heapOf" "[I" : Cond) ∈ lw_gd := lw_mg (i := 596) (by decide +kernel) rfl
theorem q597 : (.fieldLink RX6 43 "FloorTypeModel" "readyAt" "[I" : Cond) ∈ lw_gd := lw_mg (i := 597) (by decide +kernel) rfl
theorem q598 : (.fieldLink RX6 167 "FloorTypeModel" "spent" "I" : Cond) ∈ lw_gd := lw_mg (i := 598) (by decide +kernel) rfl
theorem q599 : (.fieldLink RX6 170 "FloorTypeModel" "idleAt" "I" : Cond) ∈ lw_gd := lw_mg (i := 599) (by decide +kernel) rfl
theorem q600 : (.fieldLink RX6 46 "FloorTypeModel" "setOf" "[I" : Cond) ∈ lw_gd := lw_mg (i := 600) (by decide +kernel) rfl
theorem q601 : (.fieldLink RX6 49 "FloorTypeModel" "triedOf" "[I" : Cond) ∈ lw_gd := lw_mg (i := 601) (by decide +kernel) rfl
theorem q602 : (.fieldLink RX6 52 "FloorTypeModel" "treeOf" "[I" : Cond) ∈ lw_gd := lw_mg (i := 602) (by decide +kernel) rfl
theorem q603 : (.fieldLink RX6 55 "FloorTypeModel" "firstOf" "[I" : Cond) ∈ lw_gd := lw_mg (i := 603) (by decide +kernel) rfl
theorem q604 : (.fieldLink RX6 144 "FloorTypeModel" "readings" "I" : Cond) ∈ lw_gd := lw_mg (i := 604) (by decide +kernel) rfl
theorem q605 : (.fieldLink RX6 58 "FloorTypeModel" "readingSet" "[I" : Cond) ∈ lw_gd := lw_mg (i := 605) (by decide +kernel) rfl
theorem q606 : (.fieldLink RX6 61 "FloorTypeModel" "readingTook" "[I" : Cond) ∈ lw_gd := lw_mg (i := 606) (by decide +kernel) rfl
theorem q607 : (.fieldLink RX6 64 "FloorTypeModel" "sheetSize" "[I" : Cond) ∈ lw_gd := lw_mg (i := 607) (by decide +kernel) rfl
theorem q608 : (.fieldLink RX6 67 "FloorTypeModel" "sheetLane" "[I" : Cond) ∈ lw_gd := lw_mg (i := 608) (by decide +kernel) rfl
theorem q609 : (.fieldLink RX6 70 "FloorTypeModel" "sheet" "[I" : Cond) ∈ lw_gd := lw_mg (i := 609) (by decide +kernel) rfl
theorem q610 : (.fieldLink RX6 73 "FloorTypeModel" "hands" "[I" : Cond) ∈ lw_gd := lw_mg (i := 610) (by decide +kernel) rfl
theorem q611 : (.fieldLink RX6 244 "FloorTypeModel" "traceNow" "I" : Cond) ∈ lw_gd := lw_mg (i := 611) (by decide +kernel) rfl
theorem q677 : (.methodLink RL 17 yX6_floor : Cond) ∈ lw_gd := lw_mg (i := 677) (by decide +kernel) rfl
theorem q678 : (.instanceMethod yX6_floor : Cond) ∈ lw_gd := lw_mg (i := 678) (by decide +kernel) rfl
theorem q679 : (.selects RX6 yX6_floor yX6_floor : Cond) ∈ lw_gd := lw_mg (i := 679) (by decide +kernel) rfl
theorem q680 : (.code yX6_floor cX6_floor 7 (some .int) : Cond) ∈ lw_gd := lw_mg (i := 680) (by decide +kernel) rfl
theorem q681 : (.methodLink RX6 128 yX6_noSheet : Cond) ∈ lw_gd := lw_mg (i := 681) (by decide +kernel) rfl
theorem q682 : (.static yX6_noSheet : Cond) ∈ lw_gd := lw_mg (i := 682) (by decide +kernel) rfl
theorem q683 : (.code yX6_noSheet cX6_noSheet 1 (some .boolean) : Cond) ∈ lw_gd := lw_mg (i := 683) (by decide +kernel) rfl
theorem q684 : (.constantLong RX6 189 (3) : Cond) ∈ lw_gd := lw_mg (i := 684) (by decide +kernel) rfl
theorem q685 : (.methodLink RX6 89 yX6_in : Cond) ∈ lw_gd := lw_mg (i := 685) (by decide +kernel) rfl
theorem q686 : (.static yX6_in : Cond) ∈ lw_gd := lw_mg (i := 686) (by decide +kernel) rfl
theorem q687 : (.code yX6_in cX6_in 6 (some .boolean) : Cond) ∈ lw_gd := lw_mg (i := 687) (by decide +kernel) rfl
theorem q688 : (.methodLink RX6 132 yX6_refused : Cond) ∈ lw_gd := lw_mg (i := 688) (by decide +kernel) rfl
theorem q690 : (.instanceMethod yX6_refused : Cond) ∈ lw_gd := lw_mg (i := 690) (by decide +kernel) rfl
theorem q691 : (.code yX6_refused cX6_refused 2 (some .int) : Cond) ∈ lw_gd := lw_mg (i := 691) (by decide +kernel) rfl
theorem q692 : (.constantLong RX6 135 (2) : Cond) ∈ lw_gd := lw_mg (i := 692) (by decide +kernel) rfl
theorem q693 : (.methodLink RX6 137 yX6_cellsBarred : Cond) ∈ lw_gd := lw_mg (i := 693) (by decide +kernel) rfl
theorem q695 : (.instanceMethod yX6_cellsBarred : Cond) ∈ lw_gd := lw_mg (i := 695) (by decide +kernel) rfl
theorem q696 : (.code yX6_cellsBarred cX6_cellsBarred 6 (some .int) : Cond) ∈ lw_gd := lw_mg (i := 696) (by decide +kernel) rfl
theorem q697 : (.methodLink RX6 120 yX6_failed : Cond) ∈ lw_gd := lw_mg (i := 697) (by decide +kernel) rfl
theorem q699 : (.instanceMethod yX6_failed : Cond) ∈ lw_gd := lw_mg (i := 699) (by decide +kernel) rfl
theorem q700 : (.code yX6_failed cX6_failed 2 (some .int) : Cond) ∈ lw_gd := lw_mg (i := 700) (by decide +kernel) rfl
theorem q701 : (.methodLink RX6 124 yX6_isBeyond : Cond) ∈ lw_gd := lw_mg (i := 701) (by decide +kernel) rfl
theorem q702 : (.static yX6_isBeyond : Cond) ∈ lw_gd := lw_mg (i := 702) (by decide +kernel) rfl
theorem q703 : (.code yX6_isBeyond cX6_isBeyond 4 (some .boolean) : Cond) ∈ lw_gd := lw_mg (i := 703) (by decide +kernel) rfl
theorem q704 : (.methodLink RX6 141 yX6_readsFloor : Cond) ∈ lw_gd := lw_mg (i := 704) (by decide +kernel) rfl
theorem q706 : (.instanceMethod yX6_readsFloor : Cond) ∈ lw_gd := lw_mg (i := 706) (by decide +kernel) rfl
theorem q707 : (.code yX6_readsFloor cX6_readsFloor 4 (some .boolean) : Cond) ∈ lw_gd := lw_mg (i := 707) (by decide +kernel) rfl
theorem q708 : (.methodLink RX6 99 yX6_codeAt : Cond) ∈ lw_gd := lw_mg (i := 708) (by decide +kernel) rfl
theorem q710 : (.instanceMethod yX6_codeAt : Cond) ∈ lw_gd := lw_mg (i := 710) (by decide +kernel) rfl
theorem q711 : (.code yX6_codeAt cX6_codeAt 3 (some .int) : Cond) ∈ lw_gd := lw_mg (i := 711) (by decide +kernel) rfl
theorem q712 : (.methodLink RX6 113 yX6_readsSort : Cond) ∈ lw_gd := lw_mg (i := 712) (by decide +kernel) rfl
theorem q714 : (.instanceMethod yX6_readsSort : Cond) ∈ lw_gd := lw_mg (i := 714) (by decide +kernel) rfl
theorem q715 : (.code yX6_readsSort cX6_readsSort 7 (some .boolean) : Cond) ∈ lw_gd := lw_mg (i := 715) (by decide +kernel) rfl
theorem q716 : (.methodLink RX6 106 yX6_figure : Cond) ∈ lw_gd := lw_mg (i := 716) (by decide +kernel) rfl
theorem q718 : (.instanceMethod yX6_figure : Cond) ∈ lw_gd := lw_mg (i := 718) (by decide +kernel) rfl
theorem q719 : (.code yX6_figure cX6_figure 7 (some .int) : Cond) ∈ lw_gd := lw_mg (i := 719) (by decide +kernel) rfl
theorem q720 : (.methodLink RX6 117 yX6_readsSign : Cond) ∈ lw_gd := lw_mg (i := 720) (by decide +kernel) rfl
theorem q722 : (.instanceMethod yX6_readsSign : Cond) ∈ lw_gd := lw_mg (i := 722) (by decide +kernel) rfl
theorem q723 : (.code yX6_readsSign cX6_readsSign 5 (some .boolean) : Cond) ∈ lw_gd := lw_mg (i := 723) (by decide +kernel) rfl
theorem q724 : (.methodLink RL 22 yX6_ofSort : Cond) ∈ lw_gd := lw_mg (i := 724) (by decide +kernel) rfl
theorem q725 : (.instanceMethod yX6_ofSort : Cond) ∈ lw_gd := lw_mg (i := 725) (by decide +kernel) rfl
theorem q726 : (.selects RX6 yX6_ofSort yX6_ofSort : Cond) ∈ lw_gd := lw_mg (i := 726) (by decide +kernel) rfl
theorem q727 : (.code yX6_ofSort cX6_ofSort 3 (some .int) : Cond) ∈ lw_gd := lw_mg (i := 727) (by decide +kernel) rfl
theorem q728 : (.methodLink RX6 153 yX6_noSort : Cond) ∈ lw_gd := lw_mg (i := 728) (by decide +kernel) rfl
theorem q730 : (.instanceMethod yX6_noSort : Cond) ∈ lw_gd := lw_mg (i := 730) (by decide +kernel) rfl
theorem q731 : (.code yX6_noSort cX6_noSort 2 (some .boolean) : Cond) ∈ lw_gd := lw_mg (i := 731) (by decide +kernel) rfl
theorem q732 : (.methodLink RX6 150 yX6_lookOf : Cond) ∈ lw_gd := lw_mg (i := 732) (by decide +kernel) rfl
theorem q734 : (.instanceMethod yX6_lookOf : Cond) ∈ lw_gd := lw_mg (i := 734) (by decide +kernel) rfl
theorem q735 : (.code yX6_lookOf cX6_lookOf 3 (some .int) : Cond) ∈ lw_gd := lw_mg (i := 735) (by decide +kernel) rfl
theorem q736 : (.methodLink RL 27 yX6_ofSign : Cond) ∈ lw_gd := lw_mg (i := 736) (by decide +kernel) rfl
theorem q737 : (.instanceMethod yX6_ofSign : Cond) ∈ lw_gd := lw_mg (i := 737) (by decide +kernel) rfl
theorem q738 : (.selects RX6 yX6_ofSign yX6_ofSign : Cond) ∈ lw_gd := lw_mg (i := 738) (by decide +kernel) rfl
theorem q739 : (.code yX6_ofSign cX6_ofSign 2 (some .int) : Cond) ∈ lw_gd := lw_mg (i := 739) (by decide +kernel) rfl
theorem q740 : (.methodLink RX6 156 yX6_noSign : Cond) ∈ lw_gd := lw_mg (i := 740) (by decide +kernel) rfl
theorem q742 : (.instanceMethod yX6_noSign : Cond) ∈ lw_gd := lw_mg (i := 742) (by decide +kernel) rfl
theorem q743 : (.code yX6_noSign cX6_noSign 2 (some .boolean) : Cond) ∈ lw_gd := lw_mg (i := 743) (by decide +kernel) rfl
theorem q744 : (.methodLink RX6 159 yX6_all : Cond) ∈ lw_gd := lw_mg (i := 744) (by decide +kernel) rfl
theorem q746 : (.instanceMethod yX6_all : Cond) ∈ lw_gd := lw_mg (i := 746) (by decide +kernel) rfl
theorem q747 : (.code yX6_all cX6_all 1 (some .int) : Cond) ∈ lw_gd := lw_mg (i := 747) (by decide +kernel) rfl
theorem q748 : (.methodLink RL 31 yX6_lay : Cond) ∈ lw_gd := lw_mg (i := 748) (by decide +kernel) rfl
theorem q749 : (.instanceMethod yX6_lay : Cond) ∈ lw_gd := lw_mg (i := 749) (by decide +kernel) rfl
theorem q750 : (.selects RX6 yX6_lay yX6_lay : Cond) ∈ lw_gd := lw_mg (i := 750) (by decide +kernel) rfl
theorem q751 : (.code yX6_lay cX6_lay 4 (some .int) : Cond) ∈ lw_gd := lw_mg (i := 751) (by decide +kernel) rfl
theorem q752 : (.constantLong RX6 163 (9) : Cond) ∈ lw_gd := lw_mg (i := 752) (by decide +kernel) rfl
theorem q753 : (.methodLink RL 35 yX6_sign : Cond) ∈ lw_gd := lw_mg (i := 753) (by decide +kernel) rfl
theorem q754 : (.instanceMethod yX6_sign : Cond) ∈ lw_gd := lw_mg (i := 754) (by decide +kernel) rfl
theorem q755 : (.selects RX6 yX6_sign yX6_sign : Cond) ∈ lw_gd := lw_mg (i := 755) (by decide +kernel) rfl
theorem q756 : (.code yX6_sign cX6_sign 4 (some .int) : Cond) ∈ lw_gd := lw_mg (i := 756) (by decide +kernel) rfl
theorem q757 : (.constantLong RX6 165 (63) : Cond) ∈ lw_gd := lw_mg (i := 757) (by decide +kernel) rfl
theorem q758 : (.methodLink RL 40 yX6_plan : Cond) ∈ lw_gd := lw_mg (i := 758) (by decide +kernel) rfl
theorem q759 : (.instanceMethod yX6_plan : Cond) ∈ lw_gd := lw_mg (i := 759) (by decide +kernel) rfl
theorem q760 : (.selects RX6 yX6_plan yX6_plan : Cond) ∈ lw_gd := lw_mg (i := 760) (by decide +kernel) rfl
theorem q761 : (.code yX6_plan cX6_plan 9 (some .int) : Cond) ∈ lw_gd := lw_mg (i := 761) (by decide +kernel) rfl
theorem q762 : (.constantLong RX6 191 (10) : Cond) ∈ lw_gd := lw_mg (i := 762) (by decide +kernel) rfl
theorem q763 : (.constantLong RX6 193 (15) : Cond) ∈ lw_gd := lw_mg (i := 763) (by decide +kernel) rfl
theorem q764 : (.constantLong RX6 195 (20) : Cond) ∈ lw_gd := lw_mg (i := 764) (by decide +kernel) rfl
theorem q765 : (.constantLong RX6 197 (25) : Cond) ∈ lw_gd := lw_mg (i := 765) (by decide +kernel) rfl
theorem q766 : (.methodLink RX6 199 yX6_rowBarred : Cond) ∈ lw_gd := lw_mg (i := 766) (by decide +kernel) rfl
theorem q768 : (.instanceMethod yX6_rowBarred : Cond) ∈ lw_gd := lw_mg (i := 768) (by decide +kernel) rfl
theorem q769 : (.code yX6_rowBarred cX6_rowBarred 9 (some .int) : Cond) ∈ lw_gd := lw_mg (i := 769) (by decide +kernel) rfl
theorem q770 : (.methodLink RX6 203 yX6_goPlan : Cond) ∈ lw_gd := lw_mg (i := 770) (by decide +kernel) rfl
theorem q772 : (.instanceMethod yX6_goPlan : Cond) ∈ lw_gd := lw_mg (i := 772) (by decide +kernel) rfl
theorem q773 : (.code yX6_goPlan cX6_goPlan 4 none : Cond) ∈ lw_gd := lw_mg (i := 773) (by decide +kernel) rfl
theorem q774 : (.methodLink RX6 179 yX6_begin : Cond) ∈ lw_gd := lw_mg (i := 774) (by decide +kernel) rfl
theorem q776 : (.instanceMethod yX6_begin : Cond) ∈ lw_gd := lw_mg (i := 776) (by decide +kernel) rfl
theorem q777 : (.code yX6_begin cX6_begin 2 none : Cond) ∈ lw_gd := lw_mg (i := 777) (by decide +kernel) rfl
theorem q778 : (.methodLink RX6 182 yX6_goPass : Cond) ∈ lw_gd := lw_mg (i := 778) (by decide +kernel) rfl
theorem q780 : (.instanceMethod yX6_goPass : Cond) ∈ lw_gd := lw_mg (i := 780) (by decide +kernel) rfl
theorem q781 : (.code yX6_goPass cX6_goPass 7 none : Cond) ∈ lw_gd := lw_mg (i := 781) (by decide +kernel) rfl
theorem q782 : (.methodLink RX6 173 yX6_isAlone : Cond) ∈ lw_gd := lw_mg (i := 782) (by decide +kernel) rfl
theorem q784 : (.instanceMethod yX6_isAlone : Cond) ∈ lw_gd := lw_mg (i := 784) (by decide +kernel) rfl
theorem q785 : (.code yX6_isAlone cX6_isAlone 2 (some .boolean) : Cond) ∈ lw_gd := lw_mg (i := 785) (by decide +kernel) rfl
theorem q786 : (.methodLink RX6 147 yX6_isIn : Cond) ∈ lw_gd := lw_mg (i := 786) (by decide +kernel) rfl
theorem q787 : (.static yX6_isIn : Cond) ∈ lw_gd := lw_mg (i := 787) (by decide +kernel) rfl
theorem q788 : (.code yX6_isIn cX6_isIn 2 (some .boolean) : Cond) ∈ lw_gd := lw_mg (i := 788) (by decide +kernel) rfl
theorem q789 : (.methodLink RX6 176 yX6_looksOf : Cond) ∈ lw_gd := lw_mg (i := 789) (by decide +kernel) rfl
theorem q791 : (.instanceMethod yX6_looksOf : Cond) ∈ lw_gd := lw_mg (i := 791) (by decide +kernel) rfl
theorem q792 : (.code yX6_looksOf cX6_looksOf 4 (some .int) : Cond) ∈ lw_gd := lw_mg (i := 792) (by decide +kernel) rfl
theorem q793 : (.methodLink RX6 186 yX6_leastOf : Cond) ∈ lw_gd := lw_mg (i := 793) (by decide +kernel) rfl
theorem q795 : (.instanceMethod yX6_leastOf : Cond) ∈ lw_gd := lw_mg (i := 795) (by decide +kernel) rfl
theorem q796 : (.code yX6_leastOf cX6_leastOf 3 (some .int) : Cond) ∈ lw_gd := lw_mg (i := 796) (by decide +kernel) rfl
theorem q797 : (.methodLink RX6 206 yX6_heapsNow : Cond) ∈ lw_gd := lw_mg (i := 797) (by decide +kernel) rfl
theorem q799 : (.instanceMethod yX6_heapsNow : Cond) ∈ lw_gd := lw_mg (i := 799) (by decide +kernel) rfl
theorem q800 : (.code yX6_heapsNow cX6_heapsNow 3 (some .int) : Cond) ∈ lw_gd := lw_mg (i := 800) (by decide +kernel) rfl
theorem q801 : (.methodLink RX6 209 yX6_readyNow : Cond) ∈ lw_gd := lw_mg (i := 801) (by decide +kernel) rfl
theorem q803 : (.instanceMethod yX6_readyNow : Cond) ∈ lw_gd := lw_mg (i := 803) (by decide +kernel) rfl
theorem q804 : (.code yX6_readyNow cX6_readyNow 3 (some .int) : Cond) ∈ lw_gd := lw_mg (i := 804) (by decide +kernel) rfl
theorem q805 : (.methodLink RL 44 yX6_line : Cond) ∈ lw_gd := lw_mg (i := 805) (by decide +kernel) rfl
theorem q806 : (.instanceMethod yX6_line : Cond) ∈ lw_gd := lw_mg (i := 806) (by decide +kernel) rfl
theorem q807 : (.selects RX6 yX6_line yX6_line : Cond) ∈ lw_gd := lw_mg (i := 807) (by decide +kernel) rfl
theorem q808 : (.code yX6_line cX6_line 8 (some .int) : Cond) ∈ lw_gd := lw_mg (i := 808) (by decide +kernel) rfl
theorem q809 : (.constantLong RX6 212 (60) : Cond) ∈ lw_gd := lw_mg (i := 809) (by decide +kernel) rfl
theorem q810 : (.methodLink RL 48 yX6_soon : Cond) ∈ lw_gd := lw_mg (i := 810) (by decide +kernel) rfl
theorem q811 : (.instanceMethod yX6_soon : Cond) ∈ lw_gd := lw_mg (i := 811) (by decide +kernel) rfl
theorem q812 : (.selects RX6 yX6_soon yX6_soon : Cond) ∈ lw_gd := lw_mg (i := 812) (by decide +kernel) rfl
theorem q813 : (.code yX6_soon cX6_soon 10 (some .int) : Cond) ∈ lw_gd := lw_mg (i := 813) (by decide +kernel) rfl
theorem q814 : (.methodLink RL 52 yX6_order : Cond) ∈ lw_gd := lw_mg (i := 814) (by decide +kernel) rfl
theorem q815 : (.instanceMethod yX6_order : Cond) ∈ lw_gd := lw_mg (i := 815) (by decide +kernel) rfl
theorem q816 : (.selects RX6 yX6_order yX6_order : Cond) ∈ lw_gd := lw_mg (i := 816) (by decide +kernel) rfl
theorem q817 : (.code yX6_order cX6_order 7 (some .int) : Cond) ∈ lw_gd := lw_mg (i := 817) (by decide +kernel) rfl
theorem q818 : (.constantLong RX6 214 (-1) : Cond) ∈ lw_gd := lw_mg (i := 818) (by decide +kernel) rfl
theorem q819 : (.constantLong RX6 216 (4) : Cond) ∈ lw_gd := lw_mg (i := 819) (by decide +kernel) rfl
theorem q820 : (.methodLink RX6 218 yX6_lengthOf : Cond) ∈ lw_gd := lw_mg (i := 820) (by decide +kernel) rfl
theorem q822 : (.instanceMethod yX6_lengthOf : Cond) ∈ lw_gd := lw_mg (i := 822) (by decide +kernel) rfl
theorem q823 : (.code yX6_lengthOf cX6_lengthOf 8 (some .int) : Cond) ∈ lw_gd := lw_mg (i := 823) (by decide +kernel) rfl
theorem q824 : (.methodLink RL 56 yX6_tree : Cond) ∈ lw_gd := lw_mg (i := 824) (by decide +kernel) rfl
theorem q825 : (.instanceMethod yX6_tree : Cond) ∈ lw_gd := lw_mg (i := 825) (by decide +kernel) rfl
theorem q826 : (.selects RX6 yX6_tree yX6_tree : Cond) ∈ lw_gd := lw_mg (i := 826) (by decide +kernel) rfl
theorem q827 : (.code yX6_tree cX6_tree 3 (some .int) : Cond) ∈ lw_gd := lw_mg (i := 827) (by decide +kernel) rfl
theorem q828 : (.methodLink RX6 221 yX6_growTree : Cond) ∈ lw_gd := lw_mg (i := 828) (by decide +kernel) rfl
theorem q830 : (.instanceMethod yX6_growTree : Cond) ∈ lw_gd := lw_mg (i := 830) (by decide +kernel) rfl
theorem q831 : (.code yX6_growTree cX6_growTree 7 none : Cond) ∈ lw_gd := lw_mg (i := 831) (by decide +kernel) rfl
theorem q832 : (.methodLink RL 61 yX6_odds : Cond) ∈ lw_gd := lw_mg (i := 832) (by decide +kernel) rfl
theorem q833 : (.instanceMethod yX6_odds : Cond) ∈ lw_gd := lw_mg (i := 833) (by decide +kernel) rfl
theorem q834 : (.selects RX6 yX6_odds yX6_odds : Cond) ∈ lw_gd := lw_mg (i := 834) (by decide +kernel) rfl
theorem q835 : (.code yX6_odds cX6_odds 10 (some .long) : Cond) ∈ lw_gd := lw_mg (i := 835) (by decide +kernel) rfl
theorem q836 : (.constantLong RX6 225 (99) : Cond) ∈ lw_gd := lw_mg (i := 836) (by decide +kernel) rfl
theorem q837 : (.methodLink RX6 82 yX6_lost : Cond) ∈ lw_gd := lw_mg (i := 837) (by decide +kernel) rfl
theorem q838 : (.static yX6_lost : Cond) ∈ lw_gd := lw_mg (i := 838) (by decide +kernel) rfl
theorem q839 : (.code yX6_lost cX6_lost 0 (some .long) : Cond) ∈ lw_gd := lw_mg (i := 839) (by decide +kernel) rfl
theorem q840 : (.constantLong RX6 76 (-9223372036854775808) : Cond) ∈ lw_gd := lw_mg (i := 840) (by decide +kernel) rfl
theorem q841 : (.methodLink RX6 227 yX6_share : Cond) ∈ lw_gd := lw_mg (i := 841) (by decide +kernel) rfl
theorem q842 : (.static yX6_share : Cond) ∈ lw_gd := lw_mg (i := 842) (by decide +kernel) rfl
theorem q843 : (.code yX6_share cX6_share 11 (some .long) : Cond) ∈ lw_gd := lw_mg (i := 843) (by decide +kernel) rfl
theorem q844 : (.methodLink RL 65 yX6_reading : Cond) ∈ lw_gd := lw_mg (i := 844) (by decide +kernel) rfl
theorem q845 : (.instanceMethod yX6_reading : Cond) ∈ lw_gd := lw_mg (i := 845) (by decide +kernel) rfl
theorem q846 : (.selects RX6 yX6_reading yX6_reading : Cond) ∈ lw_gd := lw_mg (i := 846) (by decide +kernel) rfl
theorem q847 : (.code yX6_reading cX6_reading 3 (some .int) : Cond) ∈ lw_gd := lw_mg (i := 847) (by decide +kernel) rfl
theorem q848 : (.constantLong RX6 231 (9999) : Cond) ∈ lw_gd := lw_mg (i := 848) (by decide +kernel) rfl
theorem q849 : (.methodLink RL 69 yX6_back : Cond) ∈ lw_gd := lw_mg (i := 849) (by decide +kernel) rfl
theorem q850 : (.instanceMethod yX6_back : Cond) ∈ lw_gd := lw_mg (i := 850) (by decide +kernel) rfl
theorem q851 : (.selects RX6 yX6_back yX6_back : Cond) ∈ lw_gd := lw_mg (i := 851) (by decide +kernel) rfl
theorem q852 : (.code yX6_back cX6_back 2 (some .int) : Cond) ∈ lw_gd := lw_mg (i := 852) (by decide +kernel) rfl
theorem q853 : (.methodLink RL 73 yX6_counts : Cond) ∈ lw_gd := lw_mg (i := 853) (by decide +kernel) rfl
theorem q854 : (.instanceMethod yX6_counts : Cond) ∈ lw_gd := lw_mg (i := 854) (by decide +kernel) rfl
theorem q855 : (.selects RX6 yX6_counts yX6_counts : Cond) ∈ lw_gd := lw_mg (i := 855) (by decide +kernel) rfl
theorem q856 : (.code yX6_counts cX6_counts 5 (some .int) : Cond) ∈ lw_gd := lw_mg (i := 856) (by decide +kernel) rfl
theorem q857 : (.methodLink RX6 233 yX6_areSo : Cond) ∈ lw_gd := lw_mg (i := 857) (by decide +kernel) rfl
theorem q859 : (.instanceMethod yX6_areSo : Cond) ∈ lw_gd := lw_mg (i := 859) (by decide +kernel) rfl
theorem q860 : (.code yX6_areSo cX6_areSo 3 (some .boolean) : Cond) ∈ lw_gd := lw_mg (i := 860) (by decide +kernel) rfl
theorem q861 : (.methodLink RL 77 yX6_kinds : Cond) ∈ lw_gd := lw_mg (i := 861) (by decide +kernel) rfl
theorem q862 : (.instanceMethod yX6_kinds : Cond) ∈ lw_gd := lw_mg (i := 862) (by decide +kernel) rfl
theorem q863 : (.selects RX6 yX6_kinds yX6_kinds : Cond) ∈ lw_gd := lw_mg (i := 863) (by decide +kernel) rfl
theorem q864 : (.code yX6_kinds cX6_kinds 5 (some .int) : Cond) ∈ lw_gd := lw_mg (i := 864) (by decide +kernel) rfl
theorem q865 : (.methodLink RL 81 yX6_speeds : Cond) ∈ lw_gd := lw_mg (i := 865) (by decide +kernel) rfl
theorem q866 : (.instanceMethod yX6_speeds : Cond) ∈ lw_gd := lw_mg (i := 866) (by decide +kernel) rfl
theorem q867 : (.selects RX6 yX6_speeds yX6_speeds : Cond) ∈ lw_gd := lw_mg (i := 867) (by decide +kernel) rfl
theorem q868 : (.code yX6_speeds cX6_speeds 5 (some .int) : Cond) ∈ lw_gd := lw_mg (i := 868) (by decide +kernel) rfl
theorem q869 : (.methodLink RL 86 yX6_sheet : Cond) ∈ lw_gd := lw_mg (i := 869) (by decide +kernel) rfl
theorem q870 : (.instanceMethod yX6_sheet : Cond) ∈ lw_gd := lw_mg (i := 870) (by decide +kernel) rfl
theorem q871 : (.selects RX6 yX6_sheet yX6_sheet : Cond) ∈ lw_gd := lw_mg (i := 871) (by decide +kernel) rfl
theorem q872 : (.code yX6_sheet cX6_sheet 5 (some .int) : Cond) ∈ lw_gd := lw_mg (i := 872) (by decide +kernel) rfl
theorem q873 : (.methodLink RL 90 yX6_lose : Cond) ∈ lw_gd := lw_mg (i := 873) (by decide +kernel) rfl
theorem q874 : (.instanceMethod yX6_lose : Cond) ∈ lw_gd := lw_mg (i := 874) (by decide +kernel) rfl
theorem q875 : (.selects RX6 yX6_lose yX6_lose : Cond) ∈ lw_gd := lw_mg (i := 875) (by decide +kernel) rfl
theorem q876 : (.code yX6_lose cX6_lose 3 (some .int) : Cond) ∈ lw_gd := lw_mg (i := 876) (by decide +kernel) rfl
theorem q877 : (.methodLink RL 94 yX6_put : Cond) ∈ lw_gd := lw_mg (i := 877) (by decide +kernel) rfl
theorem q878 : (.instanceMethod yX6_put : Cond) ∈ lw_gd := lw_mg (i := 878) (by decide +kernel) rfl
theorem q879 : (.selects RX6 yX6_put yX6_put : Cond) ∈ lw_gd := lw_mg (i := 879) (by decide +kernel) rfl
theorem q880 : (.code yX6_put cX6_put 4 (some .int) : Cond) ∈ lw_gd := lw_mg (i := 880) (by decide +kernel) rfl
theorem q881 : (.methodLink RX6 237 yX6_noCell : Cond) ∈ lw_gd := lw_mg (i := 881) (by decide +kernel) rfl
theorem q883 : (.instanceMethod yX6_noCell : Cond) ∈ lw_gd := lw_mg (i := 883) (by decide +kernel) rfl
theorem q884 : (.code yX6_noCell cX6_noCell 3 (some .int) : Cond) ∈ lw_gd := lw_mg (i := 884) (by decide +kernel) rfl
theorem q885 : (.methodLink RL 98 yX6_cell : Cond) ∈ lw_gd := lw_mg (i := 885) (by decide +kernel) rfl
theorem q886 : (.instanceMethod yX6_cell : Cond) ∈ lw_gd := lw_mg (i := 886) (by decide +kernel) rfl
theorem q887 : (.selects RX6 yX6_cell yX6_cell : Cond) ∈ lw_gd := lw_mg (i := 887) (by decide +kernel) rfl
theorem q888 : (.code yX6_cell cX6_cell 4 (some .long) : Cond) ∈ lw_gd := lw_mg (i := 888) (by decide +kernel) rfl
theorem q889 : (.methodLink RX6 240 yX6_failedLong : Cond) ∈ lw_gd := lw_mg (i := 889) (by decide +kernel) rfl
theorem q891 : (.instanceMethod yX6_failedLong : Cond) ∈ lw_gd := lw_mg (i := 891) (by decide +kernel) rfl
theorem q892 : (.code yX6_failedLong cX6_failedLong 2 (some .long) : Cond) ∈ lw_gd := lw_mg (i := 892) (by decide +kernel) rfl
theorem q893 : (.methodLink RL 102 yX6_copy : Cond) ∈ lw_gd := lw_mg (i := 893) (by decide +kernel) rfl
theorem q894 : (.instanceMethod yX6_copy : Cond) ∈ lw_gd := lw_mg (i := 894) (by decide +kernel) rfl
theorem q895 : (.selects RX6 yX6_copy yX6_copy : Cond) ∈ lw_gd := lw_mg (i := 895) (by decide +kernel) rfl
theorem q896 : (.code yX6_copy cX6_copy 7 (some .int) : Cond) ∈ lw_gd := lw_mg (i := 896) (by decide +kernel) rfl
theorem q897 : (.methodLink RL 106 yX6_tell : Cond) ∈ lw_gd := lw_mg (i := 897) (by decide +kernel) rfl
theorem q898 : (.instanceMethod yX6_tell : Cond) ∈ lw_gd := lw_mg (i := 898) (by decide +kernel) rfl
theorem q899 : (.selects RX6 yX6_tell yX6_tell : Cond) ∈ lw_gd := lw_mg (i := 899) (by decide +kernel) rfl
theorem q900 : (.code yX6_tell cX6_tell 4 (some .int) : Cond) ∈ lw_gd := lw_mg (i := 900) (by decide +kernel) rfl
theorem q901 : (.methodLink RX6 247 yX6_traced : Cond) ∈ lw_gd := lw_mg (i := 901) (by decide +kernel) rfl
theorem q903 : (.instanceMethod yX6_traced : Cond) ∈ lw_gd := lw_mg (i := 903) (by decide +kernel) rfl
theorem q904 : (.code yX6_traced cX6_traced 2 none : Cond) ∈ lw_gd := lw_mg (i := 904) (by decide +kernel) rfl
theorem q905 : (.methodLink RL 110 yX6_drop : Cond) ∈ lw_gd := lw_mg (i := 905) (by decide +kernel) rfl
theorem q906 : (.instanceMethod yX6_drop : Cond) ∈ lw_gd := lw_mg (i := 906) (by decide +kernel) rfl
theorem q907 : (.selects RX6 yX6_drop yX6_drop : Cond) ∈ lw_gd := lw_mg (i := 907) (by decide +kernel) rfl
theorem q908 : (.code yX6_drop cX6_drop 2 (some .int) : Cond) ∈ lw_gd := lw_mg (i := 908) (by decide +kernel) rfl
theorem q909 : (.methodLink RL 114 yX6_as : Cond) ∈ lw_gd := lw_mg (i := 909) (by decide +kernel) rfl
theorem q910 : (.instanceMethod yX6_as : Cond) ∈ lw_gd := lw_mg (i := 910) (by decide +kernel) rfl
theorem q911 : (.selects RX6 yX6_as yX6_as : Cond) ∈ lw_gd := lw_mg (i := 911) (by decide +kernel) rfl
theorem q912 : (.code yX6_as cX6_as 3 (some .int) : Cond) ∈ lw_gd := lw_mg (i := 912) (by decide +kernel) rfl
theorem q913 : (.methodLink RL 119 yX6_trace : Cond) ∈ lw_gd := lw_mg (i := 913) (by decide +kernel) rfl
theorem q914 : (.instanceMethod yX6_trace : Cond) ∈ lw_gd := lw_mg (i := 914) (by decide +kernel) rfl
theorem q915 : (.selects RX6 yX6_trace yX6_trace : Cond) ∈ lw_gd := lw_mg (i := 915) (by decide +kernel) rfl
theorem q916 : (.code yX6_trace cX6_trace 1 (some .int) : Cond) ∈ lw_gd := lw_mg (i := 916) (by decide +kernel) rfl
theorem q917 : (.methodLink RL 123 yX6_fault : Cond) ∈ lw_gd := lw_mg (i := 917) (by decide +kernel) rfl
theorem q918 : (.instanceMethod yX6_fault : Cond) ∈ lw_gd := lw_mg (i := 918) (by decide +kernel) rfl
theorem q919 : (.selects RX6 yX6_fault yX6_fault : Cond) ∈ lw_gd := lw_mg (i := 919) (by decide +kernel) rfl
theorem q920 : (.code yX6_fault cX6_fault 1 (some .int) : Cond) ∈ lw_gd := lw_mg (i := 920) (by decide +kernel) rfl
theorem q921 : (.methodLink RL 127 yX6_many : Cond) ∈ lw_gd := lw_mg (i := 921) (by decide +kernel) rfl
theorem q922 : (.instanceMethod yX6_many : Cond) ∈ lw_gd := lw_mg (i := 922) (by decide +kernel) rfl
theorem q923 : (.selects RX6 yX6_many yX6_many : Cond) ∈ lw_gd := lw_mg (i := 923) (by decide +kernel) rfl
theorem q924 : (.code yX6_many cX6_many 2 (some .int) : Cond) ∈ lw_gd := lw_mg (i := 924) (by decide +kernel) rfl
theorem q925 : (.methodLink RX6 250 yX6_lettersNow : Cond) ∈ lw_gd := lw_mg (i := 925) (by decide +kernel) rfl
theorem q927 : (.instanceMethod yX6_lettersNow : Cond) ∈ lw_gd := lw_mg (i := 927) (by decide +kernel) rfl
theorem q928 : (.code yX6_lettersNow cX6_lettersNow 3 (some .int) : Cond) ∈ lw_gd := lw_mg (i := 928) (by decide +kernel) rfl
theorem s0 : (.selects RX5 yX5_failed yX5_failed : Cond) ∈ lw_gd := lw_ms (i := 0) (by decide +kernel) rfl
theorem s1 : (.selects RX3 yX3_passes yX3_passes : Cond) ∈ lw_gd := lw_ms (i := 1) (by decide +kernel) rfl
theorem s2 : (.selects RX3 yX3_isNext yX3_isNext : Cond) ∈ lw_gd := lw_ms (i := 2) (by decide +kernel) rfl
theorem s3 : (.selects RX3 yX3_passesSorts yX3_passesSorts : Cond) ∈ lw_gd := lw_ms (i := 3) (by decide +kernel) rfl
theorem s4 : (.selects RX3 yX3_passesSort yX3_passesSort : Cond) ∈ lw_gd := lw_ms (i := 4) (by decide +kernel) rfl
theorem s5 : (.selects RX3 yX3_passesKind yX3_passesKind : Cond) ∈ lw_gd := lw_ms (i := 5) (by decide +kernel) rfl
theorem s6 : (.selects RX3 yX3_passesSigns yX3_passesSigns : Cond) ∈ lw_gd := lw_ms (i := 6) (by decide +kernel) rfl
theorem s7 : (.selects RX3 yX3_passesSign yX3_passesSign : Cond) ∈ lw_gd := lw_ms (i := 7) (by decide +kernel) rfl
theorem s8 : (.selects RX0 yX0_fillSort yX0_fillSort : Cond) ∈ lw_gd := lw_ms (i := 8) (by decide +kernel) rfl
theorem s9 : (.selects RX5 yX5_refusalOfRow yX5_refusalOfRow : Cond) ∈ lw_gd := lw_ms (i := 9) (by decide +kernel) rfl
theorem s10 : (.selects RX5 yX5_takeNumbers yX5_takeNumbers : Cond) ∈ lw_gd := lw_ms (i := 10) (by decide +kernel) rfl
theorem s11 : (.selects RX4 yX4_passBy yX4_passBy : Cond) ∈ lw_gd := lw_ms (i := 11) (by decide +kernel) rfl
theorem s12 : (.selects RX4 yX4_noteReady yX4_noteReady : Cond) ∈ lw_gd := lw_ms (i := 12) (by decide +kernel) rfl
theorem s13 : (.selects RX5 yX5_readyBehind yX5_readyBehind : Cond) ∈ lw_gd := lw_ms (i := 13) (by decide +kernel) rfl
theorem s14 : (.selects RX5 yX5_leastBeside yX5_leastBeside : Cond) ∈ lw_gd := lw_ms (i := 14) (by decide +kernel) rfl
theorem s15 : (.selects RX1 yX1_fewestFrom yX1_fewestFrom : Cond) ∈ lw_gd := lw_ms (i := 15) (by decide +kernel) rfl
theorem s16 : (.selects RX1 yX1_nextSign yX1_nextSign : Cond) ∈ lw_gd := lw_ms (i := 16) (by decide +kernel) rfl
theorem s17 : (.selects RX1 yX1_fewestOf yX1_fewestOf : Cond) ∈ lw_gd := lw_ms (i := 17) (by decide +kernel) rfl
theorem s18 : (.selects RX1 yX1_behindParting yX1_behindParting : Cond) ∈ lw_gd := lw_ms (i := 18) (by decide +kernel) rfl
theorem s19 : (.selects RX5 yX5_tellDoubtful yX5_tellDoubtful : Cond) ∈ lw_gd := lw_ms (i := 19) (by decide +kernel) rfl
theorem s20 : (.selects RX5 yX5_leave yX5_leave : Cond) ∈ lw_gd := lw_ms (i := 20) (by decide +kernel) rfl
theorem s21 : (.selects RX5 yX5_tellSure yX5_tellSure : Cond) ∈ lw_gd := lw_ms (i := 21) (by decide +kernel) rfl
theorem s22 : (.selects RX5 yX5_tellPicking yX5_tellPicking : Cond) ∈ lw_gd := lw_ms (i := 22) (by decide +kernel) rfl
theorem s23 : (.selects RX5 yX5_dropByOwn yX5_dropByOwn : Cond) ∈ lw_gd := lw_ms (i := 23) (by decide +kernel) rfl
theorem s24 : (.selects RX5 yX5_dropByLent yX5_dropByLent : Cond) ∈ lw_gd := lw_ms (i := 24) (by decide +kernel) rfl
theorem s25 : (.selects RX6 yX6_refused yX6_refused : Cond) ∈ lw_gd := lw_ms (i := 25) (by decide +kernel) rfl
theorem s26 : (.selects RX6 yX6_cellsBarred yX6_cellsBarred : Cond) ∈ lw_gd := lw_ms (i := 26) (by decide +kernel) rfl
theorem s27 : (.selects RX6 yX6_failed yX6_failed : Cond) ∈ lw_gd := lw_ms (i := 27) (by decide +kernel) rfl
theorem s28 : (.selects RX6 yX6_readsFloor yX6_readsFloor : Cond) ∈ lw_gd := lw_ms (i := 28) (by decide +kernel) rfl
theorem s29 : (.selects RX6 yX6_codeAt yX6_codeAt : Cond) ∈ lw_gd := lw_ms (i := 29) (by decide +kernel) rfl
theorem s30 : (.selects RX6 yX6_readsSort yX6_readsSort : Cond) ∈ lw_gd := lw_ms (i := 30) (by decide +kernel) rfl
theorem s31 : (.selects RX6 yX6_figure yX6_figure : Cond) ∈ lw_gd := lw_ms (i := 31) (by decide +kernel) rfl
theorem s32 : (.selects RX6 yX6_readsSign yX6_readsSign : Cond) ∈ lw_gd := lw_ms (i := 32) (by decide +kernel) rfl
theorem s33 : (.selects RX6 yX6_noSort yX6_noSort : Cond) ∈ lw_gd := lw_ms (i := 33) (by decide +kernel) rfl
theorem s34 : (.selects RX6 yX6_lookOf yX6_lookOf : Cond) ∈ lw_gd := lw_ms (i := 34) (by decide +kernel) rfl
theorem s35 : (.selects RX6 yX6_noSign yX6_noSign : Cond) ∈ lw_gd := lw_ms (i := 35) (by decide +kernel) rfl
theorem s36 : (.selects RX6 yX6_all yX6_all : Cond) ∈ lw_gd := lw_ms (i := 36) (by decide +kernel) rfl
theorem s37 : (.selects RX6 yX6_rowBarred yX6_rowBarred : Cond) ∈ lw_gd := lw_ms (i := 37) (by decide +kernel) rfl
theorem s38 : (.selects RX6 yX6_goPlan yX6_goPlan : Cond) ∈ lw_gd := lw_ms (i := 38) (by decide +kernel) rfl
theorem s39 : (.selects RX6 yX6_begin yX6_begin : Cond) ∈ lw_gd := lw_ms (i := 39) (by decide +kernel) rfl
theorem s40 : (.selects RX6 yX6_goPass yX6_goPass : Cond) ∈ lw_gd := lw_ms (i := 40) (by decide +kernel) rfl
theorem s41 : (.selects RX6 yX6_isAlone yX6_isAlone : Cond) ∈ lw_gd := lw_ms (i := 41) (by decide +kernel) rfl
theorem s42 : (.selects RX6 yX6_looksOf yX6_looksOf : Cond) ∈ lw_gd := lw_ms (i := 42) (by decide +kernel) rfl
theorem s43 : (.selects RX6 yX6_leastOf yX6_leastOf : Cond) ∈ lw_gd := lw_ms (i := 43) (by decide +kernel) rfl
theorem s44 : (.selects RX6 yX6_heapsNow yX6_heapsNow : Cond) ∈ lw_gd := lw_ms (i := 44) (by decide +kernel) rfl
theorem s45 : (.selects RX6 yX6_readyNow yX6_readyNow : Cond) ∈ lw_gd := lw_ms (i := 45) (by decide +kernel) rfl
theorem s46 : (.selects RX6 yX6_lengthOf yX6_lengthOf : Cond) ∈ lw_gd := lw_ms (i := 46) (by decide +kernel) rfl
theorem s47 : (.selects RX6 yX6_growTree yX6_growTree : Cond) ∈ lw_gd := lw_ms (i := 47) (by decide +kernel) rfl
theorem s48 : (.selects RX6 yX6_areSo yX6_areSo : Cond) ∈ lw_gd := lw_ms (i := 48) (by decide +kernel) rfl
theorem s49 : (.selects RX6 yX6_noCell yX6_noCell : Cond) ∈ lw_gd := lw_ms (i := 49) (by decide +kernel) rfl
theorem s50 : (.selects RX6 yX6_failedLong yX6_failedLong : Cond) ∈ lw_gd := lw_ms (i := 50) (by decide +kernel) rfl
theorem s51 : (.selects RX6 yX6_traced yX6_traced : Cond) ∈ lw_gd := lw_ms (i := 51) (by decide +kernel) rfl
theorem s52 : (.selects RX6 yX6_lettersNow yX6_lettersNow : Cond) ∈ lw_gd := lw_ms (i := 52) (by decide +kernel) rfl
theorem wsIn0 : ∀ w ∈ u_ws RX0 TX0 10, w ∈ lw_gd := by decide +kernel
theorem wsIn1 : ∀ w ∈ u_ws RX1 TX1 2, w ∈ lw_gd := by decide +kernel
theorem wsIn2 : ∀ w ∈ u_ws RX2 TX2 3, w ∈ lw_gd := by decide +kernel
theorem wsIn3 : ∀ w ∈ u_ws RX3 TX3 5, w ∈ lw_gd := by decide +kernel
theorem wsIn4 : ∀ w ∈ u_ws RX4 TX4 4, w ∈ lw_gd := by decide +kernel
theorem wsIn5 : ∀ w ∈ u_ws RX5 TX5 8, w ∈ lw_gd := by decide +kernel
theorem wsIn6 : ∀ w ∈ u_ws RX6 TX6 32, w ∈ lw_gd := by decide +kernel
