-- contracts over a fixed list of cells: a method takes the world ws to the world ws' and answers res
def nwL : List Cond := [(.methodLinkNest RX5 20 yX0_init RX5 : Cond), (.methodLinkNest RX5 27 yX3_init RX5 : Cond), (.methodLinkNest RX5 34 yX4_init RX5 : Cond), (.methodLinkNest RX5 41 yX1_init RX5 : Cond), (.methodLinkNest RX0 58 yX5_holds RX5 : Cond), (.methodLinkNest RX0 62 yX5_look RX5 : Cond), (.methodLinkNest RX0 69 yX5_least RX5 : Cond), (.methodLinkNest RX4 45 yX5_holds RX5 : Cond), (.methodLinkNest RX1 32 yX5_holds RX5 : Cond)]
def nw (U : State) : Prop := ∀ w ∈ nwL, va_Nw w U
theorem nw_shape : ∀ w ∈ nwL, ∃ (a : String) (i : Nat) (x : MethodName) (h : String), w = .methodLinkNest a i x h := by
  intro w hw
  simp only [nwL, List.mem_cons, List.not_mem_nil, or_false] at hw
  rcases hw with rfl | rfl | rfl | rfl | rfl | rfl | rfl | rfl | rfl <;> exact ⟨_, _, _, _, rfl⟩
theorem nw_warm {s U : State} (hW : s.WarmedH U.vm) (h : nw s) : nw U := by
  intro w hw
  obtain ⟨a, i, x, hh, rfl⟩ := nw_shape w hw
  exact va_Nw.warmM hW (h _ hw)
theorem nw_same {u U : State} (hv : u.vm = U.vm) (h : nw u) : nw U := by
  intro w hw
  obtain ⟨a, i, x, hh, rfl⟩ := nw_shape w hw
  exact va_Nw.same rfl hv (h _ hw)
def kx (D : va_G) (cA : ClassId) (U : State) : Prop := va_K D vwCl [(cA, .int)] U ∧ nw U
theorem kx_warm {D : va_G} {cA : ClassId} {s U : State} (hW : s.WarmedH U.vm) (h : kx D cA s) : kx D cA U := ⟨va_K.moved hW.alike h.1, nw_warm hW h.2⟩
theorem kx_call {D : va_G} {cA : ClassId} {U : State} {g : JFrame} {mk : MethodId} {a : Array Value} (h : kx D cA U) : kx D cA (U.calling g mk a) := ⟨va_K.moved (u := U) (U := U.calling g mk a) (Vm.Alike.refl U.vm) h.1, nw_same (u := U) (U := U.calling g mk a) rfl h.2⟩
theorem lw_gd_ok : ∀ w ∈ lw_gd, (w.onTables && w.keeps) = true ∨ ∃ ty, w = .arrayClass ty := fun _ h => good_of_word (List.mem_filter.mp h).2
abbrev wd (y : MethodName) (b : ByteArray) (n : Nat) (r : Option FieldType) : List Cond := .code y b n r :: lw_gd
theorem wd_pay {y : MethodName} {b : ByteArray} {n : Nat} {r : Option FieldType} (hc : .code y b n r ∈ lw_gd) {args : Array Value} {s : State} (ht : ∀ w ∈ lw_gd, w.before args s = true) : ∀ w ∈ wd y b n r, ∀ (a' : Array Value) (U : State), s.WarmedH U.vm → w.before a' U = true := by
  intro w hw a' U hW
  have hm : w ∈ lw_gd := by
    rcases List.mem_cons.mp hw with h | h
    · rw [h]; exact hc
    · exact h
  exact word_at hW (lw_gd_ok w hm) (ht w hm)
def QG (res : Option Value) (B : State → Prop) (A : Nat → Prop) : Array Value → State → Outcome → State → Prop := fun _ st oc t => oc = .returned res ∧ B t ∧ va_F A st t
abbrev rmx (fr lo : Nat) : Room := { frames := fr, cells := 0, slots := 0, locals := lo }
def CG (l : Launch) (y : MethodName) (b : ByteArray) (n : Nat) (rt : Option FieldType) (fr lo : Nat) (D : va_G) (cA : ClassId) (as : List Value) (ws ws' : va_W) (res : Option Value) : Prop :=
  ∀ sz : Nat, Met l y (wd y b n rt) (rmx fr lo) (va_Pc as (fun U => U.heap.size = sz ∧ va_P D vwCl ws U.heap ∧ kx D cA U ∧ va_D (fun _ => True) ws)) (QG res (fun t => va_P D vwCl ws' t.heap ∧ va_D (va_A ws sz) ws') (va_A ws sz)) 0 0 (va_A ws sz)
def Cx (p : Program) (s : State) (m : MethodId) (args : Array Value) (c : Code) (own : String) (b : ByteArray) (n : Nat) (D : va_G) (cA : ClassId) : Prop :=
  p.tables.exec = Jvm.exec ∧ c.code = b ∧ c.maxLocals = n ∧ s.vm.findClass own = some m.cls ∧ (∀ w ∈ lw_gd, w.before args s = true) ∧ kx D cA s
theorem CG.base {l : Launch} {y : MethodName} {b : ByteArray} {n : Nat} {rt : Option FieldType} {fr lo : Nat} {D : va_G} {cA : ClassId} {as : List Value} {ws ws' : va_W} {res : Option Value} (hy : plainName y.cls = true) (hn : (lg_sl as).length ≤ n)
    (body : ∀ (p : Program) (e : Env) (s : State) (m : MethodId) (args : Array Value) (below : List Frame) (meth : Method) (c : Code) (A : Nat → Prop) (ls : Array Slot), Cx p s m args c y.cls b n D cA → meth.sig.returnType = rt → meth.locks = false → (∀ q, s.heap.size ≤ q → A q) → va_P D vwCl ws s.heap → va_D A ws → va_S A s.heap s.heap [] → lv_has ls n (lv_args 0 as) →
      W p l e (rmx fr lo) s m args below meth c s.heap [] 0 0 (MQ below (QG res (fun t => va_P D vwCl ws' t.heap ∧ va_D A ws') A) args s 0 0 A) (F0 m 0 ls [])) : CG l y b n rt fr lo D cA as ws ws' res := by
  intro sz
  refine Met.ofW (cc := b) (maxL := n) (ret := rt) hy rfl ?_
  intro p e s m args below meth c s₁ B hml hv
  obtain ⟨rfl, hsz, hP, hK, hD0⟩ := hv
  subst hsz
  have hts := atoms_spec (ws := wd y b n rt) B.pre
  have hl := lv_entry as (n := n) hn
  rw [lg_entry_eq]
  exact body p e s m _ below meth c (va_A ws s.heap.size) _ ⟨B.exec, B.bytes, hml, findClass_of_methodNamed B.named, fun w hw => hts w (List.mem_cons_of_mem _ hw), hK⟩ B.returns B.notSynchronized (fun q h => Or.inr h) hP (hD0.self (sz := s.heap.size)) va_S.rf hl
theorem CG.ofi {l : Launch} {y : MethodName} {b : ByteArray} {n : Nat} {rt : FieldType} {fr lo : Nat} {D : va_G} {cA : ClassId} {as : List Value} {ws ws' : va_W} {r : Int32} (hy : plainName y.cls = true) (hn : (lg_sl as).length ≤ n)
    (body : ∀ (p : Program) (e : Env) (s : State) (m : MethodId) (args : Array Value) (below : List Frame) (meth : Method) (c : Code) (A : Nat → Prop) (Q : State → Prop) (H0 : Heap) (ls : Array Slot), Cx p s m args c y.cls b n D cA → (∀ q, H0.size ≤ q → A q) → va_P D vwCl ws H0 → va_D A ws → va_S A H0 H0 [] → lv_has ls n (lv_args 0 as) →
      (∀ (H1 : Heap) (locs1 : List Loc) (pc : Nat) (ls1 : Array Slot) (v : Int32), va_P D vwCl ws' H1 → va_D A ws' → va_S A H0 H1 locs1 → decode b pc = .ok (.ireturn, 1) → narrow rt (.int v) = .int v → v = r → W p l e (rmx fr lo) s m args below meth c H1 locs1 0 0 Q (F0 m pc ls1 [.int v])) →
      W p l e (rmx fr lo) s m args below meth c H0 [] 0 0 Q (F0 m 0 ls [])) : CG l y b n (some rt) fr lo D cA as ws ws' (some (.int r)) := by
  refine CG.base hy hn ?_
  intro p e s m args below meth c A ls C0 hr hlocks hA hP hD hS hl
  refine body p e s m args below meth c A _ s.heap ls C0 hA hP hD hS hl ?_
  intro H1 locs1 pc ls1 v hP1 hD1 hS1 hdg hnar hv
  subst hv
  exact W.zret C0.1 C0.2.1 hr hnar (fun t ht hW => ⟨rfl, ⟨by rw [ht]; exact hP1, hD1⟩, hS1.F ht⟩) hS1.2.2 hdg hlocks
theorem CG.ofl {l : Launch} {y : MethodName} {b : ByteArray} {n : Nat} {fr lo : Nat} {D : va_G} {cA : ClassId} {as : List Value} {ws ws' : va_W} {r : Int64} (hy : plainName y.cls = true) (hn : (lg_sl as).length ≤ n)
    (body : ∀ (p : Program) (e : Env) (s : State) (m : MethodId) (args : Array Value) (below : List Frame) (meth : Method) (c : Code) (A : Nat → Prop) (Q : State → Prop) (H0 : Heap) (ls : Array Slot), Cx p s m args c y.cls b n D cA → (∀ q, H0.size ≤ q → A q) → va_P D vwCl ws H0 → va_D A ws → va_S A H0 H0 [] → lv_has ls n (lv_args 0 as) →
      (∀ (H1 : Heap) (locs1 : List Loc) (pc : Nat) (ls1 : Array Slot) (v : Int64), va_P D vwCl ws' H1 → va_D A ws' → va_S A H0 H1 locs1 → decode b pc = .ok (.lreturn, 1) → v = r → W p l e (rmx fr lo) s m args below meth c H1 locs1 0 0 Q (F0 m pc ls1 [.long v])) →
      W p l e (rmx fr lo) s m args below meth c H0 [] 0 0 Q (F0 m 0 ls [])) : CG l y b n (some .long) fr lo D cA as ws ws' (some (.long r)) := by
  refine CG.base hy hn ?_
  intro p e s m args below meth c A ls C0 hr hlocks hA hP hD hS hl
  refine body p e s m args below meth c A _ s.heap ls C0 hA hP hD hS hl ?_
  intro H1 locs1 pc ls1 v hP1 hD1 hS1 hdg hv
  subst hv
  exact W.lret C0.1 C0.2.1 hr (fun t ht hW => ⟨rfl, ⟨by rw [ht]; exact hP1, hD1⟩, hS1.F ht⟩) hS1.2.2 hdg hlocks
theorem CG.ofv {l : Launch} {y : MethodName} {b : ByteArray} {n : Nat} {fr lo : Nat} {D : va_G} {cA : ClassId} {as : List Value} {ws ws' : va_W} (hy : plainName y.cls = true) (hn : (lg_sl as).length ≤ n)
    (body : ∀ (p : Program) (e : Env) (s : State) (m : MethodId) (args : Array Value) (below : List Frame) (meth : Method) (c : Code) (A : Nat → Prop) (Q : State → Prop) (H0 : Heap) (ls : Array Slot), Cx p s m args c y.cls b n D cA → (∀ q, H0.size ≤ q → A q) → va_P D vwCl ws H0 → va_D A ws → va_S A H0 H0 [] → lv_has ls n (lv_args 0 as) →
      (∀ (H1 : Heap) (locs1 : List Loc) (pc : Nat) (ls1 : Array Slot), va_P D vwCl ws' H1 → va_D A ws' → va_S A H0 H1 locs1 → decode b pc = .ok (.return_, 1) → W p l e (rmx fr lo) s m args below meth c H1 locs1 0 0 Q (F0 m pc ls1 [])) →
      W p l e (rmx fr lo) s m args below meth c H0 [] 0 0 Q (F0 m 0 ls [])) : CG l y b n none fr lo D cA as ws ws' none := by
  refine CG.base hy hn ?_
  intro p e s m args below meth c A ls C0 hr hlocks hA hP hD hS hl
  refine body p e s m args below meth c A _ s.heap ls C0 hA hP hD hS hl ?_
  intro H1 locs1 pc ls1 hP1 hD1 hS1 hdg
  exact W.vret C0.1 C0.2.1 hr (fun t ht hW => ⟨rfl, ⟨by rw [ht]; exact hP1, hD1⟩, hS1.F ht⟩) hS1.2.2 hdg hlocks
/-- what the tables say of a method that is called -/
def LK (y : MethodName) (b : ByteArray) (n : Nat) (rt : Option FieldType) (N : Nat) : Prop := .code y b n rt ∈ lw_gd ∧ .initialized y.cls ∈ lw_gd ∧ (y.cls ≠ "java/lang/invoke/MethodHandle" ∧ y.cls ≠ "java/lang/invoke/VarHandle" ∧ (parseMethodDescriptor y.desc).map (fun d => d.parameters.length) = some N)
section KCALL
variable {p : Program} {l : Launch} {e : Env} {R : Room} {s : State} {m : MethodId} {args : Array Value} {below : List Frame} {meth : Method} {c : Code} {H : Heap} {locs : List Loc} {cells slots : Nat} {Q : State → Prop}
variable {cc : ByteArray} {pc nL : Nat} {ls : Array Slot} {st0 rest : List Value} {D : va_G} {cA : ClassId} {A : Nat → Prop} {H0 : Heap} {ws ws' : va_W} {own : String}
variable {y : MethodName} {b : ByteArray} {n : Nat} {rt : Option FieldType} {fr lo idx N q0 ci a : Nat} {As fs : List Value} {res : Option Value}
theorem ka_free (hA : ∀ q, H0.size ≤ q → A q) (hD : va_D A ws) (hS : va_S A H0 H locs) : ∀ q, va_A ws H.size q → A q := by
  intro q h
  rcases h with ⟨k, e, h⟩ | h
  · exact hD.2 k (q, e) h
  · exact hA q (Nat.le_trans hS.1 h)
theorem ka_pre (hK : kx D cA s) (hP : va_P D vwCl ws H) (hD : va_D A ws) (as : List Value) : PreS s H (va_Pc as (fun U => U.heap.size = H.size ∧ va_P D vwCl ws U.heap ∧ kx D cA U ∧ va_D (fun _ => True) ws)) as :=
  ⟨fun a U g mk q => by obtain ⟨q0, q1, qP, qK, qD⟩ := q; exact ⟨q0, q1, qP, kx_call qK, qD⟩, fun U hU hW => ⟨rfl, by rw [hU], by rw [hU]; exact hP, kx_warm hW hK, hD.weaken (fun _ _ _ _ => trivial)⟩⟩
theorem ka_go {mcs : List Value} (hr : va_Run p l e R s m args below meth c H locs cells slots 0 0 (F0 m pc ls st0) rest (QG res (fun t => va_P D vwCl ws' t.heap ∧ va_D (va_A ws H.size) ws') (va_A ws H.size) mcs.toArray) (va_A ws H.size)) (hF : ∀ q, va_A ws H.size q → A q) (hS : va_S A H0 H locs)
    (k : ∀ (H1 : Heap) (locs1 : List Loc), va_P D vwCl ws' H1 → va_D A ws' → va_S A H0 H1 locs1 → W p l e R s m args below meth c H1 locs1 cells slots Q (F0 m (pc + 3) ls (res.toList ++ rest))) : W p l e R s m args below meth c H locs cells slots Q (F0 m pc ls st0) := by
  intro T hT X
  obtain ⟨v, st₀, t, T', L, h0, X', hL, e1, e2, ⟨hv, ⟨hP1, hD1⟩, hz, hk⟩, st⟩ := hr T hT X
  cases hv
  rw [h0] at hz hk
  obtain ⟨t2, a1, b1⟩ := k T'.heap (locs ++ L) (by rw [e1]; exact hP1) (hD1.weaken (fun _ _ _ h => hF _ h))
    ⟨Nat.le_trans hS.1 (by rw [e1]; exact hz), fun q h1 h2 => by rw [e1, hk q (Nat.lt_of_lt_of_le h1 hS.1) (fun z => h2 (hF q z))]; exact hS.2.1 q h1 h2, fun q hq => by
      rcases List.mem_append.mp hq with h | h
      · exact hS.2.2 q h
      · exact hF _ (hL q h)⟩ T' rfl X'
  exact ⟨t2, st t2 a1, b1⟩
theorem ka_len (hd : (parseMethodDescriptor y.desc).map (fun d => d.parameters.length) = some N) : ∀ sig, parseMethodDescriptor y.desc = some sig → N = sig.parameters.length := by
  intro sig h
  rw [h] at hd
  exact (Option.some.inj hd).symm
/-- invokevirtual -/
theorem kcV (C0 : Cx p s m args c own cc nL D cA) (hA : ∀ q, H0.size ≤ q → A q) (hP : va_P D vwCl ws H) (hD : va_D A ws) (hS : va_S A H0 H locs) (hC : CG l y b n rt fr lo D cA (.ref a :: As) ws ws' res) (lk : LK y b n rt N) (hi : .instanceMethod y ∈ lw_gd) (hs : .selects y.cls y y ∈ lw_gd) (hl : .methodLink own idx y ∈ lw_gd)
    (q0 ci : Nat) (he : ws[q0]? = some (a, .inr (ci, fs))) (hci : (vwCl[ci]?).map (fun q => q.1) = some y.cls) (hsz : ls.size = nL) (hN : As.length = N) (hst : st0 = As.reverse ++ .ref a :: rest) (hW : (rest.map fun v => v.category).sum ≤ 8) (hR : fr + 1 ≤ R.frames ∧ 8 + (n + 11) + lo ≤ R.locals) (hf : cells ≤ R.cells ∧ slots ≤ R.slots)
    (hdg : decode cc pc = .ok (.invokevirtual idx, 3))
    (k : ∀ (H1 : Heap) (locs1 : List Loc), va_P D vwCl ws' H1 → va_D A ws' → va_S A H0 H1 locs1 → W p l e R s m args below meth c H1 locs1 cells slots Q (F0 m (pc + 3) ls (res.toList ++ rest))) : W p l e R s m args below meth c H locs cells slots Q (F0 m pc ls st0) := by
  obtain ⟨hx, hb, hml, hown, ht, hK⟩ := C0
  obtain ⟨hc, hini, hy1, hy2, hdn⟩ := lk
  have hF := ka_free hA hD hS
  have hpre := ka_pre (A := A) hK hP hD (.ref a :: As)
  have hrecv : ∃ cell : Cell, H[a]? = some cell ∧ cell.vm.isStatics = false ∧ s.vm.findClass y.cls = some cell.cls := by
    cases hq : vwCl[ci]? with
    | none => rw [hq] at hci; cases hci
    | some q =>
      rw [hq] at hci
      have h1 := va_recv hK.1 hP hq he
      rw [show q.1 = y.cls from Option.some.inj hci] at h1
      exact h1
  exact ka_go (mcs := .ref a :: As) (va_runV (As := As) (rest := rest) (n := N) (maxL := n) (bytes := b) (ret := rt) ⟨hx, hb, hml, hown, ht⟩ (hC H.size) ⟨⟨rfl, rfl, hR.1, hR.2, wd_pay hc ht, List.mem_cons_self, ht _ hc, ht _ hini, ⟨hy1, hy2⟩, ka_len hdn, ht _ hl⟩, ht _ hi, ht _ hs⟩ ⟨hpre.1, hrecv, hpre.2⟩ rfl hN hsz hst (lv_room hW) hdg hf) hF hS k
/-- invokestatic -/
theorem kcS (C0 : Cx p s m args c own cc nL D cA) (hA : ∀ q, H0.size ≤ q → A q) (hP : va_P D vwCl ws H) (hD : va_D A ws) (hS : va_S A H0 H locs) (hC : CG l y b n rt fr lo D cA As ws ws' res) (lk : LK y b n rt N) (hi : .static y ∈ lw_gd) (hl : .methodLink own idx y ∈ lw_gd)
    (hsz : ls.size = nL) (hN : As.length = N) (hst : st0 = As.reverse ++ rest) (hW : (rest.map fun v => v.category).sum ≤ 8) (hR : fr + 1 ≤ R.frames ∧ 8 + (n + 11) + lo ≤ R.locals) (hf : cells ≤ R.cells ∧ slots ≤ R.slots)
    (hdg : decode cc pc = .ok (.invokestatic idx, 3))
    (k : ∀ (H1 : Heap) (locs1 : List Loc), va_P D vwCl ws' H1 → va_D A ws' → va_S A H0 H1 locs1 → W p l e R s m args below meth c H1 locs1 cells slots Q (F0 m (pc + 3) ls (res.toList ++ rest))) : W p l e R s m args below meth c H locs cells slots Q (F0 m pc ls st0) := by
  obtain ⟨hx, hb, hml, hown, ht, hK⟩ := C0
  obtain ⟨hc, hini, hy1, hy2, hdn⟩ := lk
  have hF := ka_free hA hD hS
  have hpre := ka_pre (A := A) hK hP hD As
  exact ka_go (mcs := As) (va_runS (As := As) (rest := rest) (n := N) (maxL := n) (bytes := b) (ret := rt) ⟨hx, hb, hml, hown, ht⟩ (hC H.size) ⟨⟨rfl, rfl, hR.1, hR.2, wd_pay hc ht, List.mem_cons_self, ht _ hc, ht _ hini, ⟨hy1, hy2⟩, ka_len hdn, ht _ hl⟩, ht _ hi⟩ hpre rfl hN hsz hst (lv_room hW) hdg hf) hF hS k
/-- invokestatic of a nest mate's private one -/
theorem kcSN {host : String} (C0 : Cx p s m args c own cc nL D cA) (hA : ∀ q, H0.size ≤ q → A q) (hP : va_P D vwCl ws H) (hD : va_D A ws) (hS : va_S A H0 H locs) (hC : CG l y b n rt fr lo D cA As ws ws' res) (lk : LK y b n rt N) (hi : .static y ∈ lw_gd) (hl : .methodLinkNest own idx y host ∈ nwL)
    (hsz : ls.size = nL) (hN : As.length = N) (hst : st0 = As.reverse ++ rest) (hW : (rest.map fun v => v.category).sum ≤ 8) (hR : fr + 1 ≤ R.frames ∧ 8 + (n + 11) + lo ≤ R.locals) (hf : cells ≤ R.cells ∧ slots ≤ R.slots)
    (hdg : decode cc pc = .ok (.invokestatic idx, 3))
    (k : ∀ (H1 : Heap) (locs1 : List Loc), va_P D vwCl ws' H1 → va_D A ws' → va_S A H0 H1 locs1 → W p l e R s m args below meth c H1 locs1 cells slots Q (F0 m (pc + 3) ls (res.toList ++ rest))) : W p l e R s m args below meth c H locs cells slots Q (F0 m pc ls st0) := by
  obtain ⟨hx, hb, hml, hown, ht, hK⟩ := C0
  obtain ⟨hc, hini, hy1, hy2, hdn⟩ := lk
  have hF := ka_free hA hD hS
  have hpre := ka_pre (A := A) hK hP hD As
  exact ka_go (mcs := As) (va_runSN (As := As) (rest := rest) (n := N) (maxL := n) (bytes := b) (ret := rt) ⟨hx, hb, hml, hown, ht⟩ (hC H.size) ⟨⟨⟨rfl, rfl, hR.1, hR.2, wd_pay hc ht, List.mem_cons_self⟩, ht _ hc, ht _ hini, ⟨hy1, hy2⟩, ka_len hdn, va_Nw.use rfl (hK.2 _ hl)⟩, ht _ hi, trivial⟩ hpre rfl hN hsz hst (lv_room hW) hdg hf) hF hS k
end KCALL
