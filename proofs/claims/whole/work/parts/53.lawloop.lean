/-! THE CLAIM OUT OF ONE WALK OF THE LAW'S BODY. Your part is whole_start (and what it stands on); all else here is the same for every law, but numbers. -/
def R_law : String := "FloorTypeLaw"
def lw_P (b : Addr) (xs : List Int32) (args : Array Value) (s : State) : Prop := args = #[.ref b] ∧ s.IntsAt b xs ∧ xs.length ≤ 384 ∧ (Jvm.Cond.and given_1 narrow_1).before args s = true
def lw_Q (_ : Array Value) (s : State) (o : Outcome) (t : State) : Prop := o = .returned (some (.int 1)) ∧ Framed s o t [] 44 1112
def lw_Z (below : List Frame) (a : Array Value) (s : State) : State → Prop := fun t => ∃ o, t.status = .running ∧ Ended t below o ∧ lw_Q a s o t
/-- the law's own end, with 1 on the stack, nothing written that was there before, its room as the claim has it -/
theorem lw_ret {p : Program} {l : Launch} {e : Env} {s : State} {m : MethodId} {below : List Frame} {meth : Method} {c : Code} {b : Nat} (hx : p.tables.exec = Jvm.exec) (hb : c.code = code) (hr : meth.sig.returnType = ret) (hlocks : meth.locks = false) {pc : Nat} {H : Heap} {ls : Array Slot} (hdg : decode code pc = .ok (.ireturn, 1)) : W p l e room_1 s m #[Value.ref b] below meth c H [] 44 1112 (lw_Z below #[Value.ref b] s) (F0 m pc ls [.int 1]) := by
  intro T hT X
  obtain ⟨fs, hret, hrun, hended, hW, hframe⟩ := X.leave (v := some (.int 1)) (hlocks := hlocks) (fun h => by rw [hr] at h; cases h)
  have hmeth' : T.vm.method? m = some meth := X.method'
  refine ⟨T.setFrames fs, ?_, .returned (some (.int 1)), hrun, hended, rfl, ⟨_, rfl⟩, hW, hframe⟩
  jvm_step X.here [X.here.top, hx, hb, hdg, hmeth', hr, ret, narrow_b1]
  (try refine ⟨rfl, ?_⟩); (try refine ⟨rfl, ?_⟩)
  first | (intro acts; rw [hret _ acts rfl rfl rfl]) | rw [hret _ _ rfl rfl rfl]
  exact Steps.refl _
/-- what holds at the law's entry: the machine, the code, the tables' words (any of lw_tbl by 'hts w (by decide +kernel)'), the script of L ints xs at the cell b, what the Statement gives of the start (any of its parts by flat_of_before) -/
def lw_At (p : Program) (s : State) (m : MethodId) (meth : Method) (c : Code) (b L : Nat) (xs : Nat → Int32) : Prop :=
  p.tables.exec = Jvm.exec ∧ c.code = code ∧ meth.sig.returnType = ret ∧ c.maxLocals = 4 ∧ s.vm.findClass R_law = some m.cls ∧ (∀ w ∈ lw_tbl, w.before #[Value.ref b] s = true) ∧ va_X b L xs s s.heap ∧ b < s.heap.size ∧ meth.locks = false ∧ (Jvm.Cond.and given_1 narrow_1).before #[Value.ref b] s = true
theorem and31 (a : Int32) : ∃ n, n < 32 ∧ a &&& 31 = nI n := by
  have h0 : (a &&& 31).toBitVec.toNat < 32 := by
    rw [Int32.toBitVec_and, BitVec.toNat_and]
    exact Nat.lt_of_le_of_lt Nat.and_le_right (by decide)
  refine ⟨(a &&& 31).toBitVec.toNat, h0, ?_⟩
  apply Int32.toBitVec_inj.mp
  apply BitVec.eq_of_toNat_eq
  show _ = (BitVec.ofInt 32 ((a &&& 31).toBitVec.toNat : Int)).toNat
  rw [BitVec.ofInt_natCast, BitVec.toNat_ofNat, Nat.mod_eq_of_lt (Nat.lt_trans h0 (by decide))]
theorem sub6 : ∀ n, n ≤ 384 → (nI n - 6).toInt = (n : Int) - 6 := by decide +kernel
section LLOOP
variable {p : Program} {l : Launch} {e : Env} {s : State} {m : MethodId} {below : List Frame} {meth : Method} {c : Code} {D : va_G} {cA : ClassId} {ad bd : Nat → Nat} {b L : Nat} {xs : Nat → Int32}
set_option maxHeartbeats 4000000 in
set_option maxRecDepth 100000 in
theorem law_go {Q : State → Prop} {i : Nat} (hL : L ≤ 384) (C0 : Cx p s m #[Value.ref b] c RL cL_law 4 D cA) (hX : va_X b L xs s s.heap) (hbl : b < s.heap.size) (hi : i + 6 ≤ L) (hN : LN p l e s m b below meth c Q D cA ad bd i 1069) : LN p l e s m b below meth c Q D cA ad bd i 27 := by
  intro si sa ti ta R H locs ls hP hD hS hl
  have hbA : ¬ (fun q : Nat => s.heap.size ≤ q) b := Nat.not_le.mpr hbl
  refine lv_aload_n C0.1 C0.2.1 dL_law_27 rfl (lv_at hl 3 rfl) ?_
  refine lv_iload_n C0.1 C0.2.1 dL_law_28 rfl (lv_at hl 0 rfl) ?_
  refine va_sld C0.1 C0.2.1 hX hbl hbA hS (vp_in_nI (show i < L by omega) (by omega)) dL_law_29 ?_
  refine lv_bipush (v := (31 : Int32)) C0.1 C0.2.1 dL_law_30 (by decide) ?_
  refine lv_iand C0.1 C0.2.1 dL_law_32 ?_
  obtain ⟨n, hn, en⟩ := and31 (xs (nI i).toNatClampNeg)
  rw [en]
  rcases (show n = 0 ∨ n = 1 ∨ n = 2 ∨ n = 3 ∨ n = 4 ∨ n = 5 ∨ n = 6 ∨ n = 7 ∨ n = 8 ∨ n = 9 ∨ n = 10 ∨ n = 11 ∨ n = 12 ∨ n = 13 ∨ n = 14 ∨ n = 15 ∨ n = 16 ∨ n = 17 ∨ n = 18 ∨ n = 19 ∨ n = 20 ∨ n = 21 ∨ n = 22 ∨ n = 23 ∨ n = 24 ∨ n = 25 ∨ n = 26 ∨ n = 27 ∨ n = 28 ∨ n = 29 ∨ n = 30 ∨ n = 31 by omega) with rfl | rfl | rfl | rfl | rfl | rfl | rfl | rfl | rfl | rfl | rfl | rfl | rfl | rfl | rfl | rfl | rfl | rfl | rfl | rfl | rfl | rfl | rfl | rfl | rfl | rfl | rfl | rfl | rfl | rfl | rfl | rfl
  · exact lv_tableIn (off := 123) (tgt := 156) C0.1 C0.2.1 dL_law_33 (by decide) (by decide) (by decide) (by decide) (law_floor hL C0 hX hbl hi hN si sa ti ta R H locs ls hP hD hS hl)
  · exact lv_tableIn (off := 176) (tgt := 209) C0.1 C0.2.1 dL_law_33 (by decide) (by decide) (by decide) (by decide) (law_ofSort hL C0 hX hbl hi hN si sa ti ta R H locs ls hP hD hS hl)
  · exact lv_tableIn (off := 209) (tgt := 242) C0.1 C0.2.1 dL_law_33 (by decide) (by decide) (by decide) (by decide) (law_ofSign hL C0 hX hbl hi hN si sa ti ta R H locs ls hP hD hS hl)
  · exact lv_tableIn (off := 232) (tgt := 265) C0.1 C0.2.1 dL_law_33 (by decide) (by decide) (by decide) (by decide) (law_lay hL C0 hX hbl hi hN si sa ti ta R H locs ls hP hD hS hl)
  · exact lv_tableIn (off := 265) (tgt := 298) C0.1 C0.2.1 dL_law_33 (by decide) (by decide) (by decide) (by decide) (law_sign hL C0 hX hbl hi hN si sa ti ta R H locs ls hP hD hS hl)
  · exact lv_tableIn (off := 298) (tgt := 331) C0.1 C0.2.1 dL_law_33 (by decide) (by decide) (by decide) (by decide) (law_plan hL C0 hX hbl hi hN si sa ti ta R H locs ls hP hD hS hl)
  · exact lv_tableIn (off := 361) (tgt := 394) C0.1 C0.2.1 dL_law_33 (by decide) (by decide) (by decide) (by decide) (law_line hL C0 hX hbl hi hN si sa ti ta R H locs ls hP hD hS hl)
  · exact lv_tableIn (off := 414) (tgt := 447) C0.1 C0.2.1 dL_law_33 (by decide) (by decide) (by decide) (by decide) (law_soon hL C0 hX hbl hi hN si sa ti ta R H locs ls hP hD hS hl)
  · exact lv_tableIn (off := 477) (tgt := 510) C0.1 C0.2.1 dL_law_33 (by decide) (by decide) (by decide) (by decide) (law_order hL C0 hX hbl hi hN si sa ti ta R H locs ls hP hD hS hl)
  · exact lv_tableIn (off := 500) (tgt := 533) C0.1 C0.2.1 dL_law_33 (by decide) (by decide) (by decide) (by decide) (law_tree hL C0 hX hbl hi hN si sa ti ta R H locs ls hP hD hS hl)
  · exact lv_tableIn (off := 523) (tgt := 556) C0.1 C0.2.1 dL_law_33 (by decide) (by decide) (by decide) (by decide) (law_odds hL C0 hX hbl hi hN si sa ti ta R H locs ls hP hD hS hl)
  · exact lv_tableIn (off := 567) (tgt := 600) C0.1 C0.2.1 dL_law_33 (by decide) (by decide) (by decide) (by decide) (law_reading hL C0 hX hbl hi hN si sa ti ta R H locs ls hP hD hS hl)
  · exact lv_tableIn (off := 600) (tgt := 633) C0.1 C0.2.1 dL_law_33 (by decide) (by decide) (by decide) (by decide) (law_back hL C0 hX hbl hi hN si sa ti ta R H locs ls hP hD hS hl)
  · exact lv_tableIn (off := 623) (tgt := 656) C0.1 C0.2.1 dL_law_33 (by decide) (by decide) (by decide) (by decide) (law_counts hL C0 hX hbl hi hN si sa ti ta R H locs ls hP hD hS hl)
  · exact lv_tableIn (off := 646) (tgt := 679) C0.1 C0.2.1 dL_law_33 (by decide) (by decide) (by decide) (by decide) (law_kinds hL C0 hX hbl hi hN si sa ti ta R H locs ls hP hD hS hl)
  · exact lv_tableIn (off := 669) (tgt := 702) C0.1 C0.2.1 dL_law_33 (by decide) (by decide) (by decide) (by decide) (law_speeds hL C0 hX hbl hi hN si sa ti ta R H locs ls hP hD hS hl)
  · exact lv_tableIn (off := 692) (tgt := 725) C0.1 C0.2.1 dL_law_33 (by decide) (by decide) (by decide) (by decide) (law_sheet hL C0 hX hbl hi hN si sa ti ta R H locs ls hP hD hS hl)
  · exact lv_tableIn (off := 735) (tgt := 768) C0.1 C0.2.1 dL_law_33 (by decide) (by decide) (by decide) (by decide) (law_lose hL C0 hX hbl hi hN si sa ti ta R H locs ls hP hD hS hl)
  · exact lv_tableIn (off := 758) (tgt := 791) C0.1 C0.2.1 dL_law_33 (by decide) (by decide) (by decide) (by decide) (law_put hL C0 hX hbl hi hN si sa ti ta R H locs ls hP hD hS hl)
  · exact lv_tableIn (off := 801) (tgt := 834) C0.1 C0.2.1 dL_law_33 (by decide) (by decide) (by decide) (by decide) (law_cell hL C0 hX hbl hi hN si sa ti ta R H locs ls hP hD hS hl)
  · exact lv_tableIn (off := 845) (tgt := 878) C0.1 C0.2.1 dL_law_33 (by decide) (by decide) (by decide) (by decide) (law_copy hL C0 hX hbl hi hN si sa ti ta R H locs ls hP hD hS hl)
  · exact lv_tableIn (off := 908) (tgt := 941) C0.1 C0.2.1 dL_law_33 (by decide) (by decide) (by decide) (by decide) (law_tell hL C0 hX hbl hi hN si sa ti ta R H locs ls hP hD hS hl)
  · exact lv_tableIn (off := 931) (tgt := 964) C0.1 C0.2.1 dL_law_33 (by decide) (by decide) (by decide) (by decide) (law_drop hL C0 hX hbl hi hN si sa ti ta R H locs ls hP hD hS hl)
  · exact lv_tableIn (off := 954) (tgt := 987) C0.1 C0.2.1 dL_law_33 (by decide) (by decide) (by decide) (by decide) (law_as hL C0 hX hbl hi hN si sa ti ta R H locs ls hP hD hS hl)
  · exact lv_tableIn (off := 987) (tgt := 1020) C0.1 C0.2.1 dL_law_33 (by decide) (by decide) (by decide) (by decide) (law_trace hL C0 hX hbl hi hN si sa ti ta R H locs ls hP hD hS hl)
  · exact lv_tableIn (off := 1000) (tgt := 1033) C0.1 C0.2.1 dL_law_33 (by decide) (by decide) (by decide) (by decide) (law_fault hL C0 hX hbl hi hN si sa ti ta R H locs ls hP hD hS hl)
  · exact lv_tableIn (off := 1013) (tgt := 1046) C0.1 C0.2.1 dL_law_33 (by decide) (by decide) (by decide) (by decide) (law_many hL C0 hX hbl hi hN si sa ti ta R H locs ls hP hD hS hl)
  · exact lv_tableOut (tgt := 1069) C0.1 C0.2.1 dL_law_33 (by decide) (by decide) (hN si sa ti ta R H locs ls hP hD hS hl)
  · exact lv_tableOut (tgt := 1069) C0.1 C0.2.1 dL_law_33 (by decide) (by decide) (hN si sa ti ta R H locs ls hP hD hS hl)
  · exact lv_tableOut (tgt := 1069) C0.1 C0.2.1 dL_law_33 (by decide) (by decide) (hN si sa ti ta R H locs ls hP hD hS hl)
  · exact lv_tableOut (tgt := 1069) C0.1 C0.2.1 dL_law_33 (by decide) (by decide) (hN si sa ti ta R H locs ls hP hD hS hl)
  · exact lv_tableOut (tgt := 1069) C0.1 C0.2.1 dL_law_33 (by decide) (by decide) (hN si sa ti ta R H locs ls hP hD hS hl)
set_option maxHeartbeats 4000000 in
set_option maxRecDepth 100000 in
theorem law_loop (hL : L ≤ 384) (A0 : lw_At p s m meth c b L xs) (C0 : Cx p s m #[Value.ref b] c RL cL_law 4 D cA) : ∀ k i, i ≤ 400 → L ≤ i + k → LN p l e s m b below meth c (lw_Z below #[Value.ref b] s) D cA ad bd i 18 := by
  obtain ⟨hx, hb, hr, hml, hown, hts, hX, hbl, hlocks, hgv⟩ := A0
  have hbA : ¬ (fun q : Nat => s.heap.size ≤ q) b := Nat.not_le.mpr hbl
  have hA : ∀ q : Nat, s.heap.size ≤ q → (fun q : Nat => s.heap.size ≤ q) q := fun _ h => h
  intro k
  induction k with
  | zero =>
    intro i h4 hLi si sa ti ta R H locs ls hP hD hS hl
    refine lv_iload_n C0.1 C0.2.1 dL_law_18 rfl (lv_at hl 0 rfl) ?_
    refine lv_aload_n C0.1 C0.2.1 dL_law_19 rfl (lv_at hl 3 rfl) ?_
    refine va_slen C0.1 C0.2.1 hX hbl hbA hS dL_law_20 ?_
    refine lv_bipush (v := (6 : Int32)) C0.1 C0.2.1 dL_law_21 (by decide) ?_
    refine lv_isub C0.1 C0.2.1 dL_law_23 ?_
    refine lv_icmp_gt (tgt := 1075) C0.1 C0.2.1 dL_law_24 (by decide) (fun z => ?_) (fun z => ?_)
    · refine lv_iconst (v := 1) C0.1 C0.2.1 dL_law_1075 (by decide) ?_
      refine va_forget (fun q hq => hS.2.2 q hq) ?_
      exact lw_ret hx hb hr hlocks dL_law_1076
    · exfalso
      have z : ¬ nI L - 6 < nI i := z
      rw [Int32.lt_iff_toInt_lt, sub6 L hL, nI_toInt (show i < 2 ^ 31 by omega)] at z
      omega
  | succ k ih =>
    intro i h4 hLi si sa ti ta R H locs ls hP hD hS hl
    refine lv_iload_n C0.1 C0.2.1 dL_law_18 rfl (lv_at hl 0 rfl) ?_
    refine lv_aload_n C0.1 C0.2.1 dL_law_19 rfl (lv_at hl 3 rfl) ?_
    refine va_slen C0.1 C0.2.1 hX hbl hbA hS dL_law_20 ?_
    refine lv_bipush (v := (6 : Int32)) C0.1 C0.2.1 dL_law_21 (by decide) ?_
    refine lv_isub C0.1 C0.2.1 dL_law_23 ?_
    refine lv_icmp_gt (tgt := 1075) C0.1 C0.2.1 dL_law_24 (by decide) (fun z => ?_) (fun z => ?_)
    · refine lv_iconst (v := 1) C0.1 C0.2.1 dL_law_1075 (by decide) ?_
      refine va_forget (fun q hq => hS.2.2 q hq) ?_
      exact lw_ret hx hb hr hlocks dL_law_1076
    · have z : ¬ nI L - 6 < nI i := z
      rw [Int32.lt_iff_toInt_lt, sub6 L hL, nI_toInt (show i < 2 ^ 31 by omega)] at z
      have hi : i + 6 ≤ L := by omega
      refine law_go hL C0 hX hbl hi ?_ si sa ti ta R H locs ls hP hD hS hl
      intro si sa ti ta R H locs ls hP hD hS hl
      refine lv_iinc (v := nI (i + 6)) (lv' := [(3, .int (nI (i + 6))), (2, .ref (bd 0)), (1, .ref (ad 0)), (0, .ref b)]) C0.1 C0.2.1 dL_law_1069 hl (k := 0) rfl (nI_add i 6) (by decide) rfl (fun ls hl => ?_)
      refine lv_goto (tgt := 18) C0.1 C0.2.1 dL_law_1072 (by decide) ?_
      exact ih (i + 6) (by omega) (by omega) si sa ti ta R H locs ls hP hD hS hl
end LLOOP
