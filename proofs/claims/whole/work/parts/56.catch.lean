/-! a call that throws into the caller's only handler -/
theorem z_find {e : Env} {V : State} {f : JFrame} {a : Addr} {meth : Method} {code : Code} {x0 : ExceptionTableEntry} {cT : ClassId} {cell : Cell} (hm : V.vm.method? f.method = some meth) (hc : meth.code = some code) (ht : code.exceptionTable.toList = [x0]) (hx : covers x0 f.pc = true) (h0 : x0.catchType ≠ 0)
    (hl : V.vm.ClassLinks e.platform f.method.cls x0.catchType cT) (hcell : V.heap[a]? = some cell) (hobj : ∀ k, cell.vm ≠ .statics k) (hk : ∃ k, V.vm.classes[cell.cls]? = some k) (hcl : ∃ k, V.vm.classes[cT]? = some k) (hfit : V.vm.assignable cell.cls cT = true) (Qh : Handler → Pre) (Eh : CtlPost) (d : Bool) (acts : List Action) :
    wp (findHandler f a) Qh Eh e d acts V ↔ Qh (.found x0.handlerPc) d acts (V.setVm (V.vm.noted f.method.cls x0.catchType (.cls cT))) := by
  rw [_root_.Jvm.W.findHandler_eq hm hc, ht]
  simp only [covers] at hx
  have hal : V.vm.Alike (V.vm.noted f.method.cls x0.catchType (.cls cT)) := (Vm.Alike.refl V.vm).noted _ _ _
  obtain ⟨g1, g2⟩ := (resolveClass_links e.toSetting hl).op (op := VmOp.resolveClass f.method.cls x0.catchType) rfl
  obtain ⟨k1, hk1⟩ := hk
  obtain ⟨k2, hk2⟩ := hcl
  obtain ⟨k1', hk1', -⟩ := hal.2.2 _ _ hk1
  obtain ⟨k2', hk2', -⟩ := hal.2.2 _ _ hk2
  have hf : (V.vm.noted f.method.cls x0.catchType (.cls cT)).assignable cell.cls cT = true := by rw [hal.assignable]; exact hfit
  simp [findHandler.go, hx, h0, g1, g2, hcell, hobj, hk1', hk2', hf, VmOp.dirties, VmOp.acts]
theorem z_caught {tb : Tables} {e : Env} {V t : State} {g : JFrame} {c : Code} {below : List Frame} {a : Addr} (h : At V g.method c below) {hpc : Nat} {vm' : Vm}
    (hfind : ∀ (Qh : Handler → Pre) (Eh : CtlPost) (d : Bool) (acts : List Action), wp (findHandler g a) Qh Eh e d acts ((V.setTop g).pushFrame (.throwing a)) ↔ Qh (.found hpc) d acts (((V.setTop g).pushFrame (.throwing a)).setVm vm'))
    (hrest : Steps tb e below ((V.setVm vm').setTop { g with pc := hpc, stack := [.ref a] }) t) : Steps tb e below ((V.setTop g).pushFrame (.throwing a)) t := by
  have key : (stepThrowing e ((V.setTop g).pushFrame (.throwing a)) a (.java g :: V.frames.tail)).Is ((((V.setTop g).pushFrame (.throwing a)).setVm vm').setFrames (.java { g with pc := hpc, stack := [.ref a] } :: V.frames.tail)) [] := by
    simp only [stepThrowing, searchFrame, vmDo]
    generalize hr : Sem.go _ e false [] ((V.setTop g).pushFrame (.throwing a)) = res
    obtain ⟨as, rfl, ha⟩ := Sem.eq_ok_of hr (a := Handler.found hpc) (s' := ((V.setTop g).pushFrame (.throwing a)).setVm vm') (acts' := []) (by simp [hfind _ _ _ _])
    exact ⟨rfl, ha⟩
  obtain ⟨hgo, hw⟩ := h.throwing a
  obtain ⟨g₀, hg⟩ := Option.isSome_iff_exists.mp h.top
  obtain ⟨r, hr⟩ := State.topJava?_eq_some.mp hg
  have sf : ∀ (u : State) (F J : List Frame), ((u.setFrames F).setVm vm').setFrames J = (u.setVm vm').setFrames J := fun u F J => by
    rw [show (u.setFrames F).setVm vm' = (u.setVm vm').setFrames F from rfl, State.setFrames_setFrames]
  refine Steps.head hgo hw ?_
  rw [stepThread_throwing (frames_entered h.top _), key.1]
  have hr' : (V.setVm vm').frames = .java g₀ :: r := hr
  rw [State.setTop_of_frames _ hr'] at hrest
  rw [hr, List.tail_cons, State.pushFrame, sf, State.setTop_of_frames _ hr, sf]
  exact hrest
section
variable {p : Program} {l : Launch} {e : Env} {R : Room} {s : State} {m : MethodId} {args : Array Value} {below : List Frame} {meth : Method} {c : Code} {Q : State → Prop} {G : GX} {A : Nat → Prop} {H : Heap} {locs : List Loc} {cells slots : Nat} {cc : ByteArray} {pc : Nat} {ls : Array Slot} {rest : List Value}
theorem z_callT {x0 y : MethodName} {nL mL F L idx : Nat} {b : ByteArray} {ret0 ret : Option FieldType} {K Z : Nat} {ws wc wr : va_W} {As st0 : List Value} {a : Nat} {tg : Nat} {rv : Option Value} {X : String} {E : va_W → Prop} {sp ep hp ct : Nat}
    (C0 : Cx p s m args meth c cc nL x0 ret0) (htab : c.exceptionTable.toList.map (fun h => (h.startPc, h.endPc, h.handlerPc, h.catchType)) = [(sp, ep, hp, ct)]) (hK : KX G s) (hT : TX G A s) (hA : ∀ q, s.heap.size ≤ q → A q) (hP : va_P G.1 classes ws H) (hD : va_D A ws) (hS : va_S A s.heap H locs) (hsz : ls.size = nL)
    (hM : MetT l y (wd y b mL ret) { frames := F, cells := K, slots := Z, locals := L } (PX G (.ref a :: As) H.size wc) (QT G tg rv X E (va_A wc H.size)) K Z (va_A wc H.size)) (ht : tg ≠ 0)
    (hg : Cond.methodLink x0.cls idx y ∈ lwG ∧ Cond.instanceMethod y ∈ lwG ∧ Cond.selects y.cls y y ∈ lwG ∧ Cond.initialized y.cls ∈ lwG ∧ Cond.code y b mL ret ∈ lwG) (n : Nat) (hAs : As.length = n) (hd : y.cls ≠ "java/lang/invoke/MethodHandle" ∧ y.cls ≠ "java/lang/invoke/VarHandle" ∧ (parseMethodDescriptor y.desc).map (fun d => d.parameters.length) = some n)
    (hF : F + 1 ≤ R.frames) (hL : 8 + (mL + 11) + L ≤ R.locals) (isC isR : List Nat) (hC : isC.map (fun i => ws[i]?) = wc.map some) (hR : isR.map (fun i => ws[i]?) = wr.map some) (hnC : va_nd isC = true) (hn : va_nd isR = true) (hdis : ∀ i ∈ isR, i ∉ isC)
    (ci q0 : Nat) {T0 : u_T} {NF : Nat} {fs : List Value} (hq : classes[ci]? = some (y.cls, T0, NF)) (he : ws[q0]? = some (a, .inr (ci, fs)))
    (hst : st0 = As.reverse ++ .ref a :: rest) (hrest : (rest.map fun v => v.category).sum ≤ 8) (hdg : decode cc pc = .ok (.invokevirtual idx, 3)) (hc : cells + K ≤ R.cells) (hs : slots + Z ≤ R.slots)
    (hcov : sp ≤ pc ∧ pc < ep) (hct : ct ≠ 0) (hw0 : Cond.classLink x0.cls ct X ∈ lwG) (hw1 : Cond.castable X X ∈ lwG)
    (kk : ∀ (x : Nat) (w1 : va_W) (H1 : Heap) (locs1 : List Loc), E w1 → va_P G.1 classes (wr ++ w1) H1 → va_D A (wr ++ w1) → va_S A s.heap H1 locs1 → W p l e R s m args below meth c H1 locs1 (cells + K) (slots + Z) Q (F0 m hp ls [.ref x])) :
    W p l e R s m args below meth c H locs cells slots Q (F0 m pc ls st0) := by
  obtain ⟨hx, hb, hml, hown, hts, hr, hlocks, hin0⟩ := id C0
  have hFc := va_free (wc := wc) hD hS hA isC hC
  have hat := PX_at (av := .ref a :: As) hK hT hA hP hD hS isC hC hnC
  have cw : CallW R s args x0.cls y.cls idx y b mL ret (wd y b mL ret) { frames := F, cells := K, slots := Z, locals := L } K Z n := ⟨call_G hts hg.1 hg.2.2.2.1 hg.2.2.2.2 hd hF hL, hts _ hg.2.1, hts _ hg.2.2.1⟩
  obtain ⟨⟨hrc, hrs, hfr, hlo, hws, hcw, hcode, hini, hy, hlen, hl⟩, hin, hse⟩ := cw
  obtain ⟨cellB, hcB, hoB, hclB⟩ := va_recv hK hP hq he
  obtain ⟨xe, hxe⟩ : ∃ xe, c.exceptionTable.toList = [xe] := by
    cases hl1 : c.exceptionTable.toList with
    | nil => rw [hl1] at htab; cases htab
    | cons xe r =>
      cases r with
      | nil => exact ⟨xe, rfl⟩
      | cons z r => rw [hl1] at htab; simp at htab
  rw [hxe] at htab
  have htb : (xe.startPc, xe.endPc, xe.handlerPc, xe.catchType) = (sp, ep, hp, ct) := by simpa using htab
  obtain ⟨e1, e2, e3, e4⟩ : xe.startPc = sp ∧ xe.endPc = ep ∧ xe.handlerPc = hp ∧ xe.catchType = ct := by
    refine ⟨congrArg (·.1) htb, congrArg (·.2.1) htb, congrArg (·.2.2.1) htb, congrArg (·.2.2.2) htb⟩
  intro T hT0 X1
  obtain ⟨mk, methM, hnamed, hmethM, hstM, habM⟩ := Cond.instanceMethod_spec hin
  obtain ⟨methM', cM, hmethM', hcM, -, hlM, -, -, -, hsigM⟩ := Cond.code_spec hnamed hcode
  cases hmethM.symm.trans hmethM'
  obtain ⟨c2, r2, m2, q1, q2, q3, q4, kP, hkP, hkPi⟩ := Cond.selects_spec hse
  cases hclB.symm.trans q1
  cases (State.methodFound?_of_named hnamed hy).symm.trans q2
  cases hnamed.symm.trans q3
  have hselP : selectMethod e.platform s.vm cellB.cls mk = .method mk := by rw [Launch.admits_selectMethod X1.admits]; exact q4
  obtain ⟨vm₁, X₁, hstep⟩ := X1.invokevirtual hx hown hl hnamed hmethM hstM hkP hkPi hy (a := a) (cell := cellB) (by rw [hT0]; exact hcB) (fun z h => by rw [h] at hoB; cases hoB) hselP hmethM habM hkP hkPi (g := F0 m pc ls st0) rfl (argsL := As) (rest := rest) (hAs.trans (hlen _ hsigM)) hst (by rw [hb]; exact hdg)
  have hh : At (T.setVm vm₁) m c below := X₁.here
  obtain ⟨kY, hkY, -⟩ := className_of_methodNamed (X₁.named hnamed)
  have hiniY : (Cond.initialized y.cls).before args (T.setVm vm₁) = true := word_at X₁.warmed (Or.inl (by first | rfl | simp [Cond.onTables, Cond.keeps, Cond.steady])) hini
  have hinitY : kY.init = .initialized := Cond.initialized_spec (findClass_of_methodNamed (X₁.named hnamed)) hkY hiniY
  have hmY : (T.setVm vm₁).vm.method? mk = some methM := by
    have := X₁.warmed.alike.method? (m := mk)
    rw [this]
    exact hmethM
  have happ : (headSpec (wd y b mL ret) { frames := F, cells := K, slots := Z, locals := L }).appliesLoose y e.platform ((T.setVm vm₁).calling (F0 m pc ls rest) mk (Value.ref a :: As).toArray) = true :=
    Spec.appliesLoose_calling (g := F0 m pc ls rest) hh (by rw [hb]; exact hdg) (X₁.named hnamed) hkY hinitY
      (X₁.room_calling (g := F0 m pc ls rest) (R' := { frames := F, cells := K, slots := Z, locals := L }) (hsz.trans hml.symm) hmY hcM hF (by rw [hlM]; show 2 * 0 + (rest.map fun v => v.category).sum + (mL + 11) + L ≤ R.locals; omega) hc hs)
      (atoms_intro fun w hw => hws w hw _ _ X₁.warmed)
  obtain ⟨mid, hmid⟩ := hh.above
  have hfr9 : ((T.setVm vm₁).setTop (F0 m pc ls rest)).frames = (.java (F0 m pc ls rest) :: mid) ++ below := by rw [State.frames_setTop' _ hh.top, hmid]; rfl
  obtain ⟨o, s₂, hsteps, -, hend, ⟨hdis1, hBX, hvF⟩, L9, ⟨hW2, hsame⟩, hLf⟩ := Steps.callFree hM p X₁.admits X₁.cas X₁.clock (acts := []) hfr9 happ (PX_blind _ _ _ _ _ _ _ _ (hat (T.setVm vm₁) hT0 X₁.warmed)) trivial
  rcases hdis1 with ⟨h0, -⟩ | ⟨-, x, ce, rfl, hxs, hce, hcv, hcc⟩
  · exact absurd h0 ht
  rw [State.frames_setTop' _ hh.top, X₁.tail] at hend
  obtain ⟨T', X', hTW, hTs, et⟩ := X₁.outOfThrown (g := F0 m pc ls rest) rfl hend hW2 hsame
  have hheap : T'.heap = s₂.heap := by rw [et]; exact (Stand.throwing_heap T' _ x).symm
  obtain ⟨w1, hE, hP1, hD1⟩ := hBX
  rw [← hheap] at hP1
  have hz1 : H.size ≤ T'.heap.size := by rw [hheap, ← hT0]; exact hvF.1
  have hk1 : ∀ q : Nat, q < H.size → ¬ va_A wc H.size q → T'.heap[q]? = H[q]? := fun q h1 h2 => by
    rw [hheap, ← hT0]
    exact hvF.2 q (by rw [← hT0] at h1; exact h1) (by rw [← hT0] at h2; rw [← hT0]; exact h2)
  obtain ⟨hP2, hD2⟩ := va_join hP hD isC isR hC hR hn hdis hk1 hFc hP1 hD1
  have hS2 : va_S A s.heap T'.heap (locs ++ L9) := ⟨Nat.le_trans hS.1 hz1, fun q h1 h2 => (hk1 q (Nat.lt_of_lt_of_le h1 hS.1) (fun z => h2 (hFc q z))).trans (hS.2.1 q h1 h2), fun q hq => by
    rcases List.mem_append.mp hq with h | h
    · exact hS.2.2 q h
    · exact hFc _ (hLf q h)⟩
  have hpl : e.platform.magicAccessors = ({} : Platform).magicAccessors := by rw [X'.admits.platform]
  obtain ⟨cT, hcT, hcl⟩ := Cond.classLink_spec hown (hts _ hw0) e.platform hpl
  obtain ⟨dk, _, _, kt, hdk, _, _, _, _, hkt, _, hopen⟩ := hcl.here
  have hW9 : s.WarmedH (T'.vm.noted m.cls ct (.cls cT)) := X'.warmed.noted hdk hopen (State.rightAt_cls hcl)
  have hal := X'.warmed.alike
  obtain ⟨kt', hkt', -⟩ := hal.2.2 _ _ hkt
  obtain ⟨c3, c4, hc3, hc4, hasg⟩ := Cond.castable_spec (hts _ hw1)
  have hcc' : s.vm.findClass X = some ce.cls := by
    have h1 : ((T.setVm vm₁).calling (F0 m pc ls rest) mk (Value.ref a :: As).toArray).vm.findClass X = some ce.cls := hcc
    have h2 : (T.setVm vm₁).vm.findClass X = s.vm.findClass X := X₁.warmed.alike.findClass _ _
    rw [← h2]
    exact h1
  cases hc3.symm.trans hcc'
  cases hc4.symm.trans hcT
  have e9 : cT = ce.cls := Option.some.inj (hcT.symm.trans hcc')
  subst e9
  have hfit : T'.vm.assignable ce.cls ce.cls = true := by rw [hal.assignable]; exact hasg
  have hce' : T'.heap[x]? = some ce := by rw [hheap]; exact hce
  obtain ⟨t, a1, b1⟩ := kk x w1 T'.heap (locs ++ L9) hE hP2 hD2 hS2 (T'.setVm (T'.vm.noted m.cls ct (.cls ce.cls))) rfl (X'.noted hW9)
  refine ⟨t, hstep t (fun acts => ?_), b1⟩
  rw [doInvoke_state]
  refine hsteps.trans ?_
  rw [et]
  refine z_caught (g := F0 m pc ls rest) (vm' := T'.vm.noted m.cls ct (.cls ce.cls)) (hpc := hp) X'.here (fun Qh Eh d acts => ?_) a1
  have := z_find (e := e) (V := (T'.setTop (F0 m pc ls rest)).pushFrame (.throwing x)) (f := F0 m pc ls rest) (a := x) (x0 := xe) (cT := ce.cls) (cell := ce) (meth := meth) (code := c) X'.method' X'.code hxe (by simp [covers, e1, e2, hcov.1, hcov.2]) (by rw [e4]; exact hct) (by rw [e4]; exact X'.warmed.classLinks hcl) hce' (fun k h => by rw [hcv] at h; cases h) ⟨kt', hkt'⟩ ⟨kt', hkt'⟩ hfit Qh Eh d acts
  rw [e3, e4] at this
  exact this
theorem MetW_in {y : MethodName} {b : ByteArray} {nL : Nat} {ret : Option FieldType} {hh : List (Nat × Nat × Nat × Nat)} {F L K Z : Nat} {av : List Value} {sz : Nat} {wc : va_W} {QQ : (Nat → Prop) → Array Value → State → Outcome → State → Prop} (hy : plainName y.cls = true) (hn : (lg_sl av).length ≤ nL)
    (body : ∀ (p : Program) (e : Env) (s : State) (m : MethodId) (below : List Frame) (meth : Method) (c : Code) (R : Room) (Q : State → Prop) (A : Nat → Prop) (ls : Array Slot), Cx p s m av.toArray meth c b nL y ret → c.exceptionTable.toList.map (fun h => (h.startPc, h.endPc, h.handlerPc, h.catchType)) = hh → F ≤ R.frames → L ≤ R.locals → R.cells = K → R.slots = Z → va_P G.1 classes wc s.heap → KX G s → va_D A wc → TX G A s → (∀ q, s.heap.size ≤ q → A q) → va_S A s.heap s.heap [] → lv_has ls nL (lv_args 0 av) → Q = MQ below (QQ A) av.toArray s K Z A →
      W p l e R s m av.toArray below meth c s.heap [] 0 0 Q (F0 m 0 ls [])) :
    Met l y (Cond.codeWith y b nL ret hh :: lwG) { frames := F, cells := K, slots := Z, locals := L } (PX G av sz wc) (QQ (va_A wc sz)) K Z (va_A wc sz) := by
  refine va_MetW (cc := b) (maxL := nL) (ret := ret) (hh := hh) hy rfl ?_
  intro p e s m args below meth c s₁ B hml hv
  obtain ⟨rfl, rfl, hP, hK, hD, hT⟩ := hv
  have hts := atoms_spec (ws := Cond.codeWith y b nL ret hh :: lwG) B.pre
  obtain ⟨m9, meth9, c9, hn9, hm9, hc9, -, -, htab, -⟩ := Cond.codeWith_spec (hts _ List.mem_cons_self)
  cases B.named.symm.trans hn9
  cases B.method.symm.trans hm9
  cases (Stand.of_body B).code.symm.trans hc9
  rw [lg_entry_eq]
  exact body p e s m below meth c _ _ (va_A wc s.heap.size) _ ⟨B.exec, B.bytes, hml, findClass_of_methodNamed B.named, fun w hw => hts w (List.mem_cons_of_mem _ hw), B.returns, B.notSynchronized, fun _ => (name_of_methodNamed B.named B.method).1⟩ htab (Nat.le_refl _) (Nat.le_refl _) rfl rfl hP hK hD.self hT (fun q h => Or.inr h) va_S.rf (lv_entry av hn) rfl
end
section
variable {p : Program} {l : Launch} {e : Env} {R : Room} {s : State} {m : MethodId} {args : Array Value} {below : List Frame} {meth : Method} {c : Code} {Q : State → Prop} {G : GX} {A : Nat → Prop} {H : Heap} {locs : List Loc} {cells slots : Nat} {cc : ByteArray} {pc : Nat} {ls : Array Slot} {rest : List Value}
theorem xW_i {x0 y : MethodName} {nL mL F L idx : Nat} {b : ByteArray} {ret0 ret : Option FieldType} {hh : List (Nat × Nat × Nat × Nat)} {K Z : Nat} {ws wc wr : va_W} {As st0 : List Value} {v : Int32} {E : va_W → Prop}
    (C0 : Cx p s m args meth c cc nL x0 ret0) (hK : KX G s) (hT : TX G A s) (hA : ∀ q, s.heap.size ≤ q → A q) (hP : va_P G.1 classes ws H) (hD : va_D A ws) (hS : va_S A s.heap H locs) (hsz : ls.size = nL)
    (hM : Met l y (Cond.codeWith y b mL ret hh :: lwG) { frames := F, cells := K, slots := Z, locals := L } (PX G As H.size wc) (QXi G v E (va_A wc H.size)) K Z (va_A wc H.size))
    (hw0 : Cond.methodLink x0.cls idx y ∈ lwG) (hw1 : Cond.static y ∈ lwG) (hw2 : Cond.initialized y.cls ∈ lwG) (hw3 : Cond.codeWith y b mL ret hh ∈ lwG)
    (n : Nat) (hAs : As.length = n) (hd : y.cls ≠ "java/lang/invoke/MethodHandle" ∧ y.cls ≠ "java/lang/invoke/VarHandle" ∧ (parseMethodDescriptor y.desc).map (fun d => d.parameters.length) = some n)
    (hF : F + 1 ≤ R.frames) (hL : 8 + (mL + 11) + L ≤ R.locals) (isC isR : List Nat) (hC : isC.map (fun i => ws[i]?) = wc.map some) (hR : isR.map (fun i => ws[i]?) = wr.map some) (hnC : va_nd isC = true) (hn : va_nd isR = true) (hdis : ∀ i ∈ isR, i ∉ isC)
    (hst : st0 = As.reverse ++ rest) (hrest : (rest.map fun v => v.category).sum ≤ 8) (hdg : decode cc pc = .ok (.invokestatic idx, 3)) (hc : cells + K ≤ R.cells) (hs : slots + Z ≤ R.slots)
    (kk : ∀ (w1 : va_W) (H1 : Heap) (locs1 : List Loc), E w1 → va_P G.1 classes (wr ++ w1) H1 → va_D A (wr ++ w1) → va_S A s.heap H1 locs1 → W p l e R s m args below meth c H1 locs1 (cells + K) (slots + Z) Q (F0 m (pc + 3) ls (.int v :: rest))) :
    W p l e R s m args below meth c H locs cells slots Q (F0 m pc ls st0) := by
  obtain ⟨hx, hb, hml, hown, hts, hr, hlocks, hin⟩ := id C0
  have hFc := va_free (wc := wc) hD hS hA isC hC
  have hat := PX_at (av := As) hK hT hA hP hD hS isC hC hnC
  have hdg' : decode c.code pc = .ok (.invokestatic idx, 3) := by rw [hb]; exact hdg
  have hlen : ∀ sig, parseMethodDescriptor y.desc = some sig → As.length = sig.parameters.length := fun sig h => by
    have h2 := hd.2.2
    rw [h] at h2
    exact hAs.trans (Option.some.inj h2).symm
  have hmem : ∀ w ∈ Cond.codeWith y b mL ret hh :: lwG, w ∈ lwG := fun w hw => by
    rcases List.mem_cons.mp hw with rfl | h
    · exact hw3
    · exact h
  have hBk : Back l R p e below s args y 3 8 (PreOf R K Z (PX G As H.size wc)) (PostOf (QXi G v E (va_A wc H.size)) K Z (va_A wc H.size)) :=
    va_backW (hh := hh) (bytes := b) (maxL := mL) (ret := ret) hM (PX_blind _ _ _ _) rfl rfl hF hL (fun w hw a' U hW => lw_at (hmem w hw) hW (hts w (hmem w hw))) List.mem_cons_self (fun a' U hW => lw_at hw2 hW (hts _ hw2))
  have hrun : va_Run p l e R s m args below meth c H locs cells slots K Z (F0 m pc ls st0) rest (QXi G v E (va_A wc H.size) As.toArray) (va_A wc H.size) := by
    intro T hT0 X
    obtain ⟨mk, methM, cM, hnamed, hmethM, -, -, -, -, -, -, hsigM⟩ := Cond.codeWith_spec (hts _ hw3)
    have hstatic : methM.isStatic = true := Cond.static_spec hnamed hmethM (hts _ hw1)
    obtain ⟨kP, hkP, -⟩ := className_of_methodNamed hnamed
    have hinitP : kP.init = .initialized := Cond.initialized_spec (findClass_of_methodNamed hnamed) hkP (hts _ hw2)
    obtain ⟨vm₁, X₁, hstep⟩ := X.invokestatic hx hown (hts _ hw0) hnamed hmethM hstatic hkP hinitP ⟨hd.1, hd.2.1⟩ (g := F0 m pc ls st0) rfl (argsL := As) (rest := rest) (hlen _ hsigM) hst hdg'
    obtain ⟨v9, ⟨U', l2, c2, s2⟩, X', ⟨g', mk', t, L9, e1, e2, hq, h1, hL9, h2, h3⟩, hsteps⟩ := hBk m meth c ⟨T.setVm vm₁, locs, cells, slots⟩ { F0 m pc ls st0 with stack := rest } (.invokestatic idx) mk As.toArray X₁ rfl (hsz.trans hml.symm) hdg' (lv_room hrest) (X₁.named hnamed) ⟨hc, hs, hat (T.setVm vm₁) hT0 X₁.warmed⟩
    dsimp only [Pt.U, Pt.locs, Pt.cells, Pt.slots] at X' e1 e2 h1 h2 h3 hsteps
    subst h1; subst h2; subst h3
    exact ⟨v9, (T.setVm vm₁).calling g' mk' As.toArray, t, U', L9, hT0, X', hL9, e1, e2, hq, fun target h => hstep _ fun acts => by rw [doInvoke_state]; exact hsteps.trans h⟩
  refine va_calli hrun hS (fun q _ h => hFc q h) hFc (fun r u t H1 locs1 ht hvm hw hB hz hk hS1 => ?_)
  obtain ⟨w1, hE, hP1, hD1⟩ := hB
  rw [ht] at hP1
  obtain ⟨hP2, hD2⟩ := va_join hP hD isC isR hC hR hn hdis hk hFc hP1 hD1
  have hw : r = v := hw
  rw [hw]
  exact kk w1 H1 locs1 hE hP2 hD2 hS1
end

