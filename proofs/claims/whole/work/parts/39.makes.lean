-- constructors: what is made, by its addresses
def CI (l : Launch) (y : MethodName) (b : ByteArray) (n fr lo mc ms : Nat) (D : va_G) (h0 : Nat) (o : va_E) (cA : ClassId) (W0 : (Nat → Nat) → va_W) : Prop :=
  ∀ sz : Nat, Met l y (wd y b n none) { frames := fr, cells := mc, slots := ms, locals := lo } (va_Pc [.ref h0] (fun U => U.heap.size = sz ∧ va_P D vwCl [(h0, o)] U.heap ∧ kx D cA U ∧ va_D (fun _ => True) [(h0, o)])) (va_Qv (fun _ : Nat → Nat => True) (fun ad t => va_P D vwCl (W0 ad) t.heap ∧ va_D (va_A [(h0, o)] sz) (W0 ad)) (va_A [(h0, o)] sz)) mc ms (va_A [(h0, o)] sz)
theorem CI.of {l : Launch} {y : MethodName} {b : ByteArray} {n fr lo mc ms : Nat} {D : va_G} {h0 : Nat} {o : va_E} {cA : ClassId} {W0 : (Nat → Nat) → va_W} (hy : plainName y.cls = true) (hyn : y.name = "<init>") (hn : 1 ≤ n)
    (body : ∀ (p : Program) (e : Env) (s : State) (m : MethodId) (args : Array Value) (below : List Frame) (meth : Method) (c : Code) (A : Nat → Prop) (Q : State → Prop) (H0 : Heap) (ls : Array Slot), Cx p s m args c y.cls b n D cA → meth.name = "<init>" → (∀ q, H0.size ≤ q → A q) → va_P D vwCl [(h0, o)] H0 → va_D A [(h0, o)] → va_S A H0 H0 [] → lv_has ls n [(0, .ref h0)] →
      (∀ (H1 : Heap) (locs1 : List Loc) (pc : Nat) (ls1 : Array Slot) (ad : Nat → Nat), va_P D vwCl (W0 ad) H1 → va_D A (W0 ad) → va_S A H0 H1 locs1 → decode b pc = .ok (.return_, 1) → W p l e { frames := fr, cells := mc, slots := ms, locals := lo } s m args below meth c H1 locs1 mc ms Q (F0 m pc ls1 [])) →
      W p l e { frames := fr, cells := mc, slots := ms, locals := lo } s m args below meth c H0 [] 0 0 Q (F0 m 0 ls [])) : CI l y b n fr lo mc ms D h0 o cA W0 := by
  intro sz
  refine Met.ofW (cc := b) (maxL := n) (ret := none) hy rfl ?_
  intro p e s m args below meth c s₁ B hml hv
  obtain ⟨rfl, hsz, hP, hK, hD0⟩ := hv
  subst hsz
  have hts := atoms_spec (ws := wd y b n none) B.pre
  have hin : meth.name = "<init>" := (name_of_methodNamed B.named B.method).1.trans hyn
  have hl := lv_entry ([.ref h0]) (n := n) hn
  rw [lg_entry_eq]
  refine body p e s m _ below meth c (va_A [(h0, o)] s.heap.size) _ s.heap _ ⟨B.exec, B.bytes, hml, findClass_of_methodNamed B.named, fun w hw => hts w (List.mem_cons_of_mem _ hw), hK⟩ hin (fun q h => Or.inr h) hP (hD0.self (sz := s.heap.size)) va_S.rf hl ?_
  intro H1 locs1 pc ls1 ad hP1 hD1 hS1 hdg
  exact W.vret B.exec B.bytes B.returns (fun t ht hW => ⟨⟨ad, rfl, trivial, by rw [ht]; exact hP1, hD1⟩, hS1.F ht⟩) hS1.2.2 hdg
section KMAKE
variable {p : Program} {l : Launch} {e : Env} {R : Room} {s : State} {m : MethodId} {args : Array Value} {below : List Frame} {meth : Method} {c : Code} {H : Heap} {locs : List Loc} {cells slots : Nat} {Q : State → Prop}
variable {cc : ByteArray} {pc nL : Nat} {ls : Array Slot} {st0 rest : List Value} {D : va_G} {cA : ClassId} {A : Nat → Prop} {H0 : Heap} {ws : va_W} {own : String}
variable {y : MethodName} {b : ByteArray} {n : Nat} {fr lo mc ms idx a : Nat} {o : va_E} {W0 : (Nat → Nat) → va_W}
theorem rObj (C0 : Cx p s m args c own cc nL D cA) (hl : .methodLink own idx (⟨"java/lang/Object", "<init>", "()V"⟩ : MethodName) ∈ lw_gd) (hsz : ls.size = nL) (hd : decode cc pc = .ok (.invokespecial idx, 3)) (hfr : 1 ≤ R.frames) (hlo : 12 ≤ R.locals)
    (k : W p l e R s m args below meth c H locs cells slots Q (F0 m (pc + 3) ls [])) : W p l e R s m args below meth c H locs cells slots Q (F0 m pc ls [.ref a]) := by
  obtain ⟨hx, hb, hml, hown, ht, hK⟩ := C0
  refine W.objInit hx hb hown (ht _ hl) (ht _ q17) (ht _ q18) rfl (by rw [hml]; exact hsz) rfl hd hfr (Nat.le_trans (Nat.le_of_eq rfl) hlo) ?_
  exact W.eq (g2 := F0 m (pc + 3) ls []) rfl k
theorem rNew (C0 : Cx p s m args c own cc nL D cA) (hA : ∀ q, H0.size ≤ q → A q) (hP : va_P D vwCl ws H) (hD : va_D A ws) (hS : va_S A H0 H locs) {i : Int32} {N' : Nat} (hn : ¬ i < 0) (hN : i.toNatClampNeg = N') (hbytes : N' * componentBytes .int ≤ 536870912) (hcells : cells + 1 ≤ R.cells) (hslots : slots + N' ≤ R.slots) (hdg : decode cc pc = .ok (.newarray .int, 2))
    (k : ∀ (q : Nat) (H1 : Heap), va_P D vwCl (ws ++ [(q, .inl (cA, N', .inl fun _ => 0))]) H1 → va_D A (ws ++ [(q, .inl (cA, N', .inl fun _ => 0))]) → va_S A H0 H1 locs → W p l e R s m args below meth c H1 locs (cells + 1) (slots + N') Q (F0 m (pc + 2) ls (.ref q :: rest))) : W p l e R s m args below meth c H locs cells slots Q (F0 m pc ls (.int i :: rest)) := by
  obtain ⟨hx, hb, hml, hown, ht, hK⟩ := C0
  refine va_newa (atype := .int) (ty := .int) (a0 := (N', .inl fun _ => 0)) hx hb (ht _ q35) rfl hK.1 hP hD hS hA (fun cA => rfl) hn hN hbytes hcells hslots hdg ?_
  intro q cA' H1 hK' hP1 hD1 hS1
  have e1 := va_nm_int (hK'.2 1 (cA', .int) rfl).2
  have e2 := va_nm_int (hK.1.2 0 (cA, .int) rfl).2
  have e : cA' = cA := Option.some.inj (e1.symm.trans e2)
  subst e
  exact k q H1 hP1 hD1 hS1
theorem ki_pre (hK : kx D cA s) (hP : va_P D vwCl ws H) (hD : va_D A ws) {j : Nat} (he : ws[j]? = some (a, o)) : PreS s H (va_Pc [.ref a] (fun U => U.heap.size = H.size ∧ va_P D vwCl [(a, o)] U.heap ∧ kx D cA U ∧ va_D (fun _ => True) [(a, o)])) [.ref a] := by
  have hPc : va_P D vwCl [(a, o)] H := hP.sub [j] (by simp [he])
  refine ⟨fun a U g mk q => by obtain ⟨q0, q1, qP, qK, qD⟩ := q; exact ⟨q0, q1, qP, kx_call qK, qD⟩, fun U hU hW => ⟨rfl, by rw [hU], by rw [hU]; exact hPc, kx_warm hW hK, ?_⟩⟩
  refine ⟨fun i k p q hi hk _ => ?_, fun _ _ _ => trivial⟩
  have h1 := (List.getElem?_eq_some_iff.mp hi).1
  have h2 := (List.getElem?_eq_some_iff.mp hk).1
  simp at h1 h2
  omega
theorem kcI (C0 : Cx p s m args c own cc nL D cA) (hA : ∀ q, H0.size ≤ q → A q) (hP : va_P D vwCl ws H) (hD : va_D A ws) (hS : va_S A H0 H locs) (hC : CI l y b n fr lo mc ms D a o cA W0) (lk : LK y b n none 0) (hyn : y.name = "<init>") (hi : .instanceMethod y ∈ lw_gd) (hl : .methodLink own idx y ∈ lw_gd)
    (j : Nat) (is : List Nat) {wr : va_W} (he : ws[j]? = some (a, o)) (hR : is.map (fun i => ws[i]?) = wr.map some) (hn : va_nd is = true) (hdis : ∀ i ∈ is, i ∉ [j]) (hsz : ls.size = nL) (hst : st0 = .ref a :: rest) (hW : (rest.map fun v => v.category).sum ≤ 8) (hRm : fr + 1 ≤ R.frames ∧ 8 + (n + 11) + lo ≤ R.locals) (hf : cells + mc ≤ R.cells ∧ slots + ms ≤ R.slots)
    (hdg : decode cc pc = .ok (.invokespecial idx, 3))
    (k : ∀ (H1 : Heap) (locs1 : List Loc) (ad : Nat → Nat), va_P D vwCl (wr ++ W0 ad) H1 → va_D A (wr ++ W0 ad) → va_S A H0 H1 locs1 → W p l e R s m args below meth c H1 locs1 (cells + mc) (slots + ms) Q (F0 m (pc + 3) ls rest)) : W p l e R s m args below meth c H locs cells slots Q (F0 m pc ls st0) := by
  obtain ⟨hx, hb, hml, hown, ht, hK⟩ := C0
  obtain ⟨hc, hini, hy1, hy2, hdn⟩ := lk
  have hF : ∀ q, va_A [(a, o)] H.size q → A q := va_free (wc := [(a, o)]) hD hS hA [j] (by simp [he])
  have hpre := ki_pre (A := A) hK hP hD he
  refine va_callv (va_runI (As := []) (rest := rest) (n := 0) (maxL := n) (bytes := b) ⟨hx, hb, hml, hown, ht⟩ (hC H.size) ⟨⟨rfl, rfl, hRm.1, hRm.2, wd_pay hc ht, List.mem_cons_self, ht _ hc, ht _ hini, ⟨hy1, hy2⟩, ka_len hdn, ht _ hl⟩, hyn, ht _ hi⟩ hpre rfl rfl hsz hst (lv_room hW) hdg hf) hS (fun q _ h => hF q h) hF ?_
  intro ad t H1 locs1 hth hvm hw hB hz hk hS1
  obtain ⟨hP1, hD1⟩ := hB
  rw [hth] at hP1
  obtain ⟨hP2, hD2⟩ := va_join (wr := wr) (w1 := W0 ad) (wc := [(a, o)]) hP hD [j] is (by simp [he]) hR hn hdis hk hF hP1 hD1
  exact k H1 locs1 ad hP2 hD2 hS1
theorem kcIN {host : String} (C0 : Cx p s m args c own cc nL D cA) (hA : ∀ q, H0.size ≤ q → A q) (hP : va_P D vwCl ws H) (hD : va_D A ws) (hS : va_S A H0 H locs) (hC : CI l y b n fr lo mc ms D a o cA W0) (lk : LK y b n none 0) (hyn : y.name = "<init>") (hi : .instanceMethod y ∈ lw_gd) (hl : .methodLinkNest own idx y host ∈ nwL)
    (j : Nat) (is : List Nat) {wr : va_W} (he : ws[j]? = some (a, o)) (hR : is.map (fun i => ws[i]?) = wr.map some) (hn : va_nd is = true) (hdis : ∀ i ∈ is, i ∉ [j]) (hsz : ls.size = nL) (hst : st0 = .ref a :: rest) (hW : (rest.map fun v => v.category).sum ≤ 8) (hRm : fr + 1 ≤ R.frames ∧ 8 + (n + 11) + lo ≤ R.locals) (hf : cells + mc ≤ R.cells ∧ slots + ms ≤ R.slots)
    (hdg : decode cc pc = .ok (.invokespecial idx, 3))
    (k : ∀ (H1 : Heap) (locs1 : List Loc) (ad : Nat → Nat), va_P D vwCl (wr ++ W0 ad) H1 → va_D A (wr ++ W0 ad) → va_S A H0 H1 locs1 → W p l e R s m args below meth c H1 locs1 (cells + mc) (slots + ms) Q (F0 m (pc + 3) ls rest)) : W p l e R s m args below meth c H locs cells slots Q (F0 m pc ls st0) := by
  obtain ⟨hx, hb, hml, hown, ht, hK⟩ := C0
  obtain ⟨hc, hini, hy1, hy2, hdn⟩ := lk
  have hF : ∀ q, va_A [(a, o)] H.size q → A q := va_free (wc := [(a, o)]) hD hS hA [j] (by simp [he])
  have hpre := ki_pre (A := A) hK hP hD he
  refine va_callv (va_runIN (As := []) (rest := rest) (n := 0) (maxL := n) (bytes := b) ⟨hx, hb, hml, hown, ht⟩ (hC H.size) ⟨⟨⟨rfl, rfl, hRm.1, hRm.2, wd_pay hc ht, List.mem_cons_self⟩, ht _ hc, ht _ hini, ⟨hy1, hy2⟩, ka_len hdn, va_Nw.use rfl (hK.2 _ hl)⟩, hyn, ht _ hi⟩ hpre rfl rfl hsz hst (lv_room hW) hdg hf) hS (fun q _ h => hF q h) hF ?_
  intro ad t H1 locs1 hth hvm hw hB hz hk hS1
  obtain ⟨hP1, hD1⟩ := hB
  rw [hth] at hP1
  obtain ⟨hP2, hD2⟩ := va_join (wr := wr) (w1 := W0 ad) (wc := [(a, o)]) hP hD [j] is (by simp [he]) hR hn hdis hk hF hP1 hD1
  exact k H1 locs1 ad hP2 hD2 hS1
end KMAKE
