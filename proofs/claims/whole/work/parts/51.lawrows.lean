-- the law: two systems side by side in one list of cells
section KLAW
variable {p : Program} {l : Launch} {e : Env} {R : Room} {s : State} {m : MethodId} {args : Array Value} {below : List Frame} {meth : Method} {c : Code} {H : Heap} {locs : List Loc} {cells slots : Nat} {Q : State → Prop}
variable {cc : ByteArray} {pc nL : Nat} {ls : Array Slot} {st0 rest : List Value} {D : va_G} {cA : ClassId} {A : Nat → Prop} {H0 : Heap} {own : String}
variable {y : MethodName} {b : ByteArray} {n : Nat} {rt : Option FieldType} {fr lo idx N : Nat} {As : List Value} {res : Option Value} {ad bd : Nat → Nat} {si si' ti ti' : tSI} {sa sa' ta ta' : tSA}
theorem kl_go {mcs : List Value} {ws wc wr w1 : va_W} (isC isR : List Nat) (hC : isC.map (fun i => ws[i]?) = wc.map some) (hR : isR.map (fun i => ws[i]?) = wr.map some) (hn : va_nd isR = true) (hdis : ∀ i ∈ isR, i ∉ isC) (hP : va_P D vwCl ws H) (hD : va_D A ws) (hr : va_Run p l e R s m args below meth c H locs cells slots 0 0 (F0 m pc ls st0) rest (QG res (fun t => va_P D vwCl w1 t.heap ∧ va_D (va_A wc H.size) w1) (va_A wc H.size) mcs.toArray) (va_A wc H.size)) (hF : ∀ q, va_A wc H.size q → A q) (hS : va_S A H0 H locs)
    (k : ∀ (H1 : Heap) (locs1 : List Loc), va_P D vwCl (wr ++ w1) H1 → va_D A (wr ++ w1) → va_S A H0 H1 locs1 → W p l e R s m args below meth c H1 locs1 cells slots Q (F0 m (pc + 3) ls (res.toList ++ rest))) : W p l e R s m args below meth c H locs cells slots Q (F0 m pc ls st0) := by
  intro T hT X
  obtain ⟨v, st₀, t, T', L, h0, X', hL, e1, e2, ⟨hv, ⟨hP1, hD1⟩, hz, hk⟩, st⟩ := hr T hT X
  cases hv
  rw [h0] at hz hk
  obtain ⟨hP2, hD2⟩ := va_join (wr := wr) (w1 := w1) (wc := wc) hP hD isC isR hC hR hn hdis hk hF hP1 hD1
  obtain ⟨t2, a1, b1⟩ := k T'.heap (locs ++ L) (by rw [e1]; exact hP2) hD2
    ⟨Nat.le_trans hS.1 (by rw [e1]; exact hz), fun q h1 h2 => by rw [e1, hk q (Nat.lt_of_lt_of_le h1 hS.1) (fun z => h2 (hF q z))]; exact hS.2.1 q h1 h2, fun q hq => by
      rcases List.mem_append.mp hq with h | h
      · exact hS.2.2 q h
      · exact hF _ (hL q h)⟩ T' rfl X'
  exact ⟨t2, st t2 a1, b1⟩
/-- a call on the class -/
theorem kcX (C0 : Cx p s m args c own cc nL D cA) (hA : ∀ q, H0.size ≤ q → A q) (hP : va_P D vwCl (WX cA ad si sa ++ WM cA bd ti ta) H) (hD : va_D A (WX cA ad si sa ++ WM cA bd ti ta)) (hS : va_S A H0 H locs) (hC : CG l y b n rt fr lo D cA (.ref (ad 0) :: As) (WX cA ad si sa) (WX cA ad si' sa') res) (lk : LK y b n rt N) (hi : .instanceMethod y ∈ lw_gd) (hs : .selects y.cls y y ∈ lw_gd) (hl : .methodLink own idx y ∈ lw_gd)
    (hcl : RX5 = y.cls) (hsz : ls.size = nL) (hN : As.length = N) (hst : st0 = As.reverse ++ .ref (ad 0) :: rest) (hW : (rest.map fun v => v.category).sum ≤ 8) (hR : fr + 1 ≤ R.frames ∧ 8 + (n + 11) + lo ≤ R.locals) (hf : cells ≤ R.cells ∧ slots ≤ R.slots)
    (hdg : decode cc pc = .ok (.invokevirtual idx, 3))
    (k : ∀ (H1 : Heap) (locs1 : List Loc), va_P D vwCl (WX cA ad si' sa' ++ WM cA bd ti ta) H1 → va_D A (WX cA ad si' sa' ++ WM cA bd ti ta) → va_S A H0 H1 locs1 → W p l e R s m args below meth c H1 locs1 cells slots Q (F0 m (pc + 3) ls (res.toList ++ rest))) : W p l e R s m args below meth c H locs cells slots Q (F0 m pc ls st0) := by
  obtain ⟨hx, hb, hml, hown, ht, hK⟩ := C0
  obtain ⟨hc, hini, hy1, hy2, hdn⟩ := lk
  have hPc : va_P D vwCl (WX cA ad si sa) H := hP.sub [0, 1, 2, 3, 4, 5, 6, 7, 8, 9, 10, 11, 12, 13, 14, 15, 16, 17, 18, 19, 20] rfl
  have hDc : va_D A (WX cA ad si sa) := hD.sub [0, 1, 2, 3, 4, 5, 6, 7, 8, 9, 10, 11, 12, 13, 14, 15, 16, 17, 18, 19, 20] (by decide) rfl
  have hF := ka_free hA hDc hS
  have hpre := ka_pre (A := A) hK hPc hDc (.ref (ad 0) :: As)
  have hrecv : ∃ cell : Cell, H[ad 0]? = some cell ∧ cell.vm.isStatics = false ∧ s.vm.findClass y.cls = some cell.cls := by
    rw [← hcl]
    exact va_recv hK.1 hPc (ci := 5) (q0 := 0) rfl rfl
  refine kl_go (wc := WX cA ad si sa) (wr := WM cA bd ti ta) (w1 := WX cA ad si' sa') (mcs := .ref (ad 0) :: As) [0, 1, 2, 3, 4, 5, 6, 7, 8, 9, 10, 11, 12, 13, 14, 15, 16, 17, 18, 19, 20] [21, 22, 23, 24, 25, 26, 27, 28, 29, 30, 31, 32, 33, 34, 35, 36, 37, 38, 39, 40, 41, 42, 43] rfl rfl rfl (by decide) hP hD (va_runV (As := As) (rest := rest) (n := N) (maxL := n) (bytes := b) (ret := rt) ⟨hx, hb, hml, hown, ht⟩ (hC H.size) ⟨⟨rfl, rfl, hR.1, hR.2, wd_pay hc ht, List.mem_cons_self, ht _ hc, ht _ hini, ⟨hy1, hy2⟩, ka_len hdn, ht _ hl⟩, ht _ hi, ht _ hs⟩ ⟨hpre.1, hrecv, hpre.2⟩ rfl hN hsz hst (lv_room hW) hdg hf) hF hS ?_
  intro H1 locs1 hP1 hD1 hS1
  exact k H1 locs1 (hP1.sub [23, 24, 25, 26, 27, 28, 29, 30, 31, 32, 33, 34, 35, 36, 37, 38, 39, 40, 41, 42, 43, 0, 1, 2, 3, 4, 5, 6, 7, 8, 9, 10, 11, 12, 13, 14, 15, 16, 17, 18, 19, 20, 21, 22] rfl) (hD1.sub [23, 24, 25, 26, 27, 28, 29, 30, 31, 32, 33, 34, 35, 36, 37, 38, 39, 40, 41, 42, 43, 0, 1, 2, 3, 4, 5, 6, 7, 8, 9, 10, 11, 12, 13, 14, 15, 16, 17, 18, 19, 20, 21, 22] (by decide) rfl) hS1
/-- a call on the reference -/
theorem kcM (C0 : Cx p s m args c own cc nL D cA) (hA : ∀ q, H0.size ≤ q → A q) (hP : va_P D vwCl (WX cA ad si sa ++ WM cA bd ti ta) H) (hD : va_D A (WX cA ad si sa ++ WM cA bd ti ta)) (hS : va_S A H0 H locs) (hC : CG l y b n rt fr lo D cA (.ref (bd 0) :: As) (WM cA bd ti ta) (WM cA bd ti' ta') res) (lk : LK y b n rt N) (hi : .instanceMethod y ∈ lw_gd) (hs : .selects y.cls y y ∈ lw_gd) (hl : .methodLink own idx y ∈ lw_gd)
    (hcl : RX6 = y.cls) (hsz : ls.size = nL) (hN : As.length = N) (hst : st0 = As.reverse ++ .ref (bd 0) :: rest) (hW : (rest.map fun v => v.category).sum ≤ 8) (hR : fr + 1 ≤ R.frames ∧ 8 + (n + 11) + lo ≤ R.locals) (hf : cells ≤ R.cells ∧ slots ≤ R.slots)
    (hdg : decode cc pc = .ok (.invokevirtual idx, 3))
    (k : ∀ (H1 : Heap) (locs1 : List Loc), va_P D vwCl (WX cA ad si sa ++ WM cA bd ti' ta') H1 → va_D A (WX cA ad si sa ++ WM cA bd ti' ta') → va_S A H0 H1 locs1 → W p l e R s m args below meth c H1 locs1 cells slots Q (F0 m (pc + 3) ls (res.toList ++ rest))) : W p l e R s m args below meth c H locs cells slots Q (F0 m pc ls st0) := by
  obtain ⟨hx, hb, hml, hown, ht, hK⟩ := C0
  obtain ⟨hc, hini, hy1, hy2, hdn⟩ := lk
  have hPc : va_P D vwCl (WM cA bd ti ta) H := hP.sub [21, 22, 23, 24, 25, 26, 27, 28, 29, 30, 31, 32, 33, 34, 35, 36, 37, 38, 39, 40, 41, 42, 43] rfl
  have hDc : va_D A (WM cA bd ti ta) := hD.sub [21, 22, 23, 24, 25, 26, 27, 28, 29, 30, 31, 32, 33, 34, 35, 36, 37, 38, 39, 40, 41, 42, 43] (by decide) rfl
  have hF := ka_free hA hDc hS
  have hpre := ka_pre (A := A) hK hPc hDc (.ref (bd 0) :: As)
  have hrecv : ∃ cell : Cell, H[bd 0]? = some cell ∧ cell.vm.isStatics = false ∧ s.vm.findClass y.cls = some cell.cls := by
    rw [← hcl]
    exact va_recv hK.1 hPc (ci := 6) (q0 := 0) rfl rfl
  exact kl_go (wc := WM cA bd ti ta) (wr := WX cA ad si sa) (w1 := WM cA bd ti' ta') (mcs := .ref (bd 0) :: As) [21, 22, 23, 24, 25, 26, 27, 28, 29, 30, 31, 32, 33, 34, 35, 36, 37, 38, 39, 40, 41, 42, 43] [0, 1, 2, 3, 4, 5, 6, 7, 8, 9, 10, 11, 12, 13, 14, 15, 16, 17, 18, 19, 20] rfl rfl rfl (by decide) hP hD (va_runV (As := As) (rest := rest) (n := N) (maxL := n) (bytes := b) (ret := rt) ⟨hx, hb, hml, hown, ht⟩ (hC H.size) ⟨⟨rfl, rfl, hR.1, hR.2, wd_pay hc ht, List.mem_cons_self, ht _ hc, ht _ hini, ⟨hy1, hy2⟩, ka_len hdn, ht _ hl⟩, ht _ hi, ht _ hs⟩ ⟨hpre.1, hrecv, hpre.2⟩ rfl hN hsz hst (lv_room hW) hdg hf) hF hS k
/-- a number of the script is pushed -/
theorem rArg {bb L i : Nat} {xs : Nat → Int32} (C0 : Cx p s m args c own cc nL D cA) (hX : va_X bb L xs s H0) (hbl : bb < H0.size) (hbA : ¬ A bb) (hS : va_S A H0 H locs) (hl : lv_has ls 4 [(3, .int (nI i)), (2, .ref (bd 0)), (1, .ref (ad 0)), (0, .ref bb)]) (k : Nat) (hk : i + k < L) (hL : L ≤ 384) {z : Int} (ek : Int32.ofInt z = nI k)
    (d0 : decode cc pc = .ok (.aload_n 0, 1)) (d1 : decode cc (pc + 1) = .ok (.iload_n 3, 1)) (d2 : decode cc (pc + 2) = .ok (.iconst z, 1)) (d3 : decode cc (pc + 3) = .ok (.iadd, 1)) (d4 : decode cc (pc + 4) = .ok (.iaload, 1))
    (w : W p l e R s m args below meth c H locs cells slots Q (F0 m (pc + 5) ls (.int (xs (i + k)) :: rest))) : W p l e R s m args below meth c H locs cells slots Q (F0 m pc ls rest) := by
  refine lv_aload_n C0.1 C0.2.1 d0 rfl (lv_at hl 3 rfl) ?_
  refine lv_iload_n C0.1 C0.2.1 d1 rfl (lv_at hl 0 rfl) ?_
  refine lv_iconst (v := nI k) C0.1 C0.2.1 d2 ek ?_
  refine lv_iadd C0.1 C0.2.1 d3 ?_
  rw [nI_add]
  refine va_sld C0.1 C0.2.1 hX hbl hbA hS (vp_in_nI hk (by omega)) d4 ?_
  rw [nI_clamp (show i + k < 2 ^ 31 by omega)]
  exact w
end KLAW
