theorem TX_move {G : GX} {A B : Nat → Prop} {u U : State} {locs : List Loc} (hvm : u.vm.Alike U.vm) (hS : va_S A u.heap U.heap locs) (hB : ∀ q, B q → A q) (h : TX G A u) : TX G B U := by
  have key : ∀ (k : Nat) (nm : String) (n : Nat), t1X G A u k nm n → t1X G B U k nm n := by
    intro k nm n ⟨hz, ht⟩
    refine ⟨va_Z.moved hvm ?_, va_T.moved hvm ?_⟩
    · obtain ⟨cf, kf, fi, f, a, cell, h1, h2, h3, h4, h5, h6, h7, h8⟩ := hz
      exact ⟨cf, kf, fi, f, a, cell, h1, h2, h3, h4, (hS.2.1 a (Array.getElem?_eq_some_iff.mp h5).1 h8).trans h5, h6, h7, fun q => h8 (hB _ q)⟩
    · obtain ⟨cell, h1, h2, h3, h4, h5, h6, h7⟩ := ht
      exact ⟨cell, (hS.2.1 _ (Array.getElem?_eq_some_iff.mp h1).1 h7).trans h1, h2, h3, h4, h5, h6, fun q => h7 (hB _ q)⟩
  have keyz : ∀ (nm d : String), zX A u nm d → zX B U nm d := by
    intro nm d hz
    obtain ⟨v, c, k, i, f, a, ce, g1, g2, g3, g4, g5, g6, g7, g8, g9, g10, g11⟩ := hz
    obtain ⟨k', hi', he⟩ := State.fieldFound?_setVm hvm g2
    exact ⟨v, c, k', i, f, a, ce, by rw [hvm.findClass]; exact g1, hi', g3, by rw [he]; exact g4, (hS.2.1 a (Array.getElem?_eq_some_iff.mp g5).1 g11).trans g5, g6, g7, g8, by rw [he]; exact g9, g10, fun q => g11 (hB _ q)⟩
  exact ⟨key _ _ _ h.1, key _ _ _ h.2.1, key _ _ _ h.2.2.1, key _ _ _ h.2.2.2.1, key _ _ _ h.2.2.2.2.1, keyz _ _ h.2.2.2.2.2.1, keyz _ _ h.2.2.2.2.2.2⟩
theorem PX_blind (G : GX) (av : List Value) (sz : Nat) (wc : va_W) : FrameBlind (PX G av sz wc) := by
  intro a U g mk q
  obtain ⟨q0, q1, qP, qK, qD, qT⟩ := q
  have hal : U.vm.Alike (U.calling g mk a).vm := Vm.Alike.refl U.vm
  refine ⟨q0, q1, qP, va_K.moved (u := U) (U := U.calling g mk a) hal qK, qD, ?_⟩
  exact TX_move (u := U) (U := U.calling g mk a) (locs := []) hal (va_S.rf) (fun _ h => h) qT
theorem fm_of {α : Type} {f : Nat → Option α} : ∀ {is : List Nat} {w : List α}, is.map f = w.map some → is.filterMap f = w
  | [], [], _ => rfl
  | [], _ :: _, h => by cases h
  | _ :: _, [], h => by cases h
  | i :: is, x :: w, h => by
    rw [List.map_cons, List.map_cons, List.cons.injEq] at h
    rw [List.filterMap_cons, h.1, fm_of h.2]
theorem PX_at {G : GX} {A : Nat → Prop} {s : State} {H : Heap} {locs : List Loc} {ws wc : va_W} {av : List Value} (hK : KX G s) (hT : TX G A s) (hA : ∀ q, s.heap.size ≤ q → A q) (hP : va_P G.1 classes ws H) (hD : va_D A ws) (hS : va_S A s.heap H locs) (isC : List Nat) (hC : isC.map (fun i => ws[i]?) = wc.map some) (hnC : va_nd isC = true) :
    ∀ U : State, U.heap = H → s.WarmedH U.vm → PX G av H.size wc av.toArray U := by
  intro U hU hW
  have hPc : va_P G.1 classes wc H := hP.sub isC (fm_of hC)
  have hDc := hD.sub isC hnC hC
  have hFc := va_free (wc := wc) hD hS hA isC hC
  refine ⟨rfl, by rw [hU], by rw [hU]; exact hPc, va_K.moved hW.alike hK, hDc.weaken (fun _ _ _ _ => trivial), ?_⟩
  exact TX_move (u := s) (U := U) (locs := locs) hW.alike (by rw [hU]; exact hS) hFc hT
theorem xV_i {p : Program} {l : Launch} {e : Env} {R : Room} {s : State} {m : MethodId} {args : Array Value} {below : List Frame} {meth : Method} {c : Code} {Q : State → Prop} {G : GX} {A : Nat → Prop} {H : Heap} {locs : List Loc} {cells slots : Nat} {cc : ByteArray} {pc : Nat} {ls : Array Slot} {rest : List Value} {x0 y : MethodName} {nL mL F L idx : Nat} {b : ByteArray} {ret0 ret : Option FieldType} {K Z : Nat} {ws wc wr : va_W} {As st0 : List Value} {a : Nat} {v : Int32} {E : va_W → Prop} 
    (C0 : Cx p s m args meth c cc nL x0 ret0) (hK : KX G s) (hT : TX G A s) (hA : ∀ q, s.heap.size ≤ q → A q) (hP : va_P G.1 classes ws H) (hD : va_D A ws) (hS : va_S A s.heap H locs) (hsz : ls.size = nL)
    (hM : Met l y (wd y b mL ret) { frames := F, cells := K, slots := Z, locals := L } (PX G (.ref a :: As) H.size wc) (QXi G v E (va_A wc H.size)) K Z (va_A wc H.size))
    (hg : Cond.methodLink x0.cls idx y ∈ lwG ∧ Cond.instanceMethod y ∈ lwG ∧ Cond.selects y.cls y y ∈ lwG ∧ Cond.initialized y.cls ∈ lwG ∧ Cond.code y b mL ret ∈ lwG) (n : Nat) (hAs : As.length = n) (hd : y.cls ≠ "java/lang/invoke/MethodHandle" ∧ y.cls ≠ "java/lang/invoke/VarHandle" ∧ (parseMethodDescriptor y.desc).map (fun d => d.parameters.length) = some n) 
    (hF : F + 1 ≤ R.frames) (hL : 8 + (mL + 11) + L ≤ R.locals) (isC isR : List Nat) (hC : isC.map (fun i => ws[i]?) = wc.map some) (hR : isR.map (fun i => ws[i]?) = wr.map some) (hnC : va_nd isC = true) (hn : va_nd isR = true) (hdis : ∀ i ∈ isR, i ∉ isC)
    (ci q0 : Nat) {T : u_T} {NF : Nat} {fs : List Value} (hq : classes[ci]? = some (y.cls, T, NF)) (he : ws[q0]? = some (a, .inr (ci, fs)))
    (hst : st0 = As.reverse ++ .ref a :: rest) (hrest : (rest.map fun v => v.category).sum ≤ 8) (hdg : decode cc pc = .ok (.invokevirtual idx, 3)) (hc : cells + K ≤ R.cells) (hs : slots + Z ≤ R.slots)
    (kk : ∀ (w1 : va_W) (H1 : Heap) (locs1 : List Loc), E w1 → va_P G.1 classes (wr ++ w1) H1 → va_D A (wr ++ w1) → va_S A s.heap H1 locs1 → W p l e R s m args below meth c H1 locs1 (cells + K) (slots + Z) Q (F0 m (pc + 3) ls (.int v :: rest))) :
    W p l e R s m args below meth c H locs cells slots Q (F0 m pc ls st0) := by
  obtain ⟨hx, hb, hml, hown, hts, hr, hlocks, hin⟩ := id C0
  have hFc := va_free (wc := wc) hD hS hA isC hC
  have hat := PX_at (av := (.ref a :: As)) hK hT hA hP hD hS isC hC hnC
  have hrun := va_runV (As := As) (rest := rest) (g := F0 m pc ls st0) (H := H) (locs := locs) (cells := cells) (slots := slots) (below := below) (meth := meth) (e := e) ⟨hx, hb, hml, hown, hts⟩ hM ⟨call_G hts hg.1 hg.2.2.2.1 hg.2.2.2.2 hd hF hL, hts _ hg.2.1, hts _ hg.2.2.1⟩ ⟨PX_blind _ _ _ _, va_recv hK hP hq he, hat⟩ rfl hAs hsz hst (lv_room hrest) hdg ⟨hc, hs⟩
  refine va_calli hrun hS (fun q _ h => hFc q h) hFc (fun r u t H1 locs1 ht hvm hw hB hz hk hS1 => ?_)
  obtain ⟨w1, hE, hP1, hD1⟩ := hB
  rw [ht] at hP1
  obtain ⟨hP2, hD2⟩ := va_join hP hD isC isR hC hR hn hdis hk hFc hP1 hD1
  have hw : r = v := hw
  rw [hw]
  exact kk w1 H1 locs1 hE hP2 hD2 hS1
theorem xV_i0 {p : Program} {l : Launch} {e : Env} {R : Room} {s : State} {m : MethodId} {args : Array Value} {below : List Frame} {meth : Method} {c : Code} {Q : State → Prop} {G : GX} {A : Nat → Prop} {H : Heap} {locs : List Loc} {cells slots : Nat} {cc : ByteArray} {pc : Nat} {ls : Array Slot} {rest : List Value} {x0 y : MethodName} {nL mL F L idx : Nat} {b : ByteArray} {ret0 ret : Option FieldType} {ws wc wr : va_W} {As st0 : List Value} {a : Nat} {v : Int32} {E : va_W → Prop} 
    (C0 : Cx p s m args meth c cc nL x0 ret0) (hK : KX G s) (hT : TX G A s) (hA : ∀ q, s.heap.size ≤ q → A q) (hP : va_P G.1 classes ws H) (hD : va_D A ws) (hS : va_S A s.heap H locs) (hsz : ls.size = nL)
    (hM : Met l y (wd y b mL ret) { frames := F, cells := 0, slots := 0, locals := L } (PX G (.ref a :: As) H.size wc) (QXi G v E (va_A wc H.size)) 0 0 (va_A wc H.size))
    (hg : Cond.methodLink x0.cls idx y ∈ lwG ∧ Cond.instanceMethod y ∈ lwG ∧ Cond.selects y.cls y y ∈ lwG ∧ Cond.initialized y.cls ∈ lwG ∧ Cond.code y b mL ret ∈ lwG) (n : Nat) (hAs : As.length = n) (hd : y.cls ≠ "java/lang/invoke/MethodHandle" ∧ y.cls ≠ "java/lang/invoke/VarHandle" ∧ (parseMethodDescriptor y.desc).map (fun d => d.parameters.length) = some n) 
    (hF : F + 1 ≤ R.frames) (hL : 8 + (mL + 11) + L ≤ R.locals) (isC isR : List Nat) (hC : isC.map (fun i => ws[i]?) = wc.map some) (hR : isR.map (fun i => ws[i]?) = wr.map some) (hnC : va_nd isC = true) (hn : va_nd isR = true) (hdis : ∀ i ∈ isR, i ∉ isC)
    (ci q0 : Nat) {T : u_T} {NF : Nat} {fs : List Value} (hq : classes[ci]? = some (y.cls, T, NF)) (he : ws[q0]? = some (a, .inr (ci, fs)))
    (hst : st0 = As.reverse ++ .ref a :: rest) (hrest : (rest.map fun v => v.category).sum ≤ 8) (hdg : decode cc pc = .ok (.invokevirtual idx, 3)) (hc : cells + 0 ≤ R.cells) (hs : slots + 0 ≤ R.slots)
    (kk : ∀ (w1 : va_W) (H1 : Heap) (locs1 : List Loc), E w1 → va_P G.1 classes (wr ++ w1) H1 → va_D A (wr ++ w1) → va_S A s.heap H1 locs1 → W p l e R s m args below meth c H1 locs1 cells slots Q (F0 m (pc + 3) ls (.int v :: rest))) :
    W p l e R s m args below meth c H locs cells slots Q (F0 m pc ls st0) := by
  obtain ⟨hx, hb, hml, hown, hts, hr, hlocks, hin⟩ := id C0
  have hFc := va_free (wc := wc) hD hS hA isC hC
  have hat := PX_at (av := (.ref a :: As)) hK hT hA hP hD hS isC hC hnC
  have hrun := va_runV (As := As) (rest := rest) (g := F0 m pc ls st0) (H := H) (locs := locs) (cells := cells) (slots := slots) (below := below) (meth := meth) (e := e) ⟨hx, hb, hml, hown, hts⟩ hM ⟨call_G hts hg.1 hg.2.2.2.1 hg.2.2.2.2 hd hF hL, hts _ hg.2.1, hts _ hg.2.2.1⟩ ⟨PX_blind _ _ _ _, va_recv hK hP hq he, hat⟩ rfl hAs hsz hst (lv_room hrest) hdg ⟨hc, hs⟩
  refine va_calli hrun hS (fun q _ h => hFc q h) hFc (fun r u t H1 locs1 ht hvm hw hB hz hk hS1 => ?_)
  obtain ⟨w1, hE, hP1, hD1⟩ := hB
  rw [ht] at hP1
  obtain ⟨hP2, hD2⟩ := va_join hP hD isC isR hC hR hn hdis hk hFc hP1 hD1
  have hw : r = v := hw
  rw [hw]
  exact kk w1 H1 locs1 hE hP2 hD2 hS1
theorem xV_l {p : Program} {l : Launch} {e : Env} {R : Room} {s : State} {m : MethodId} {args : Array Value} {below : List Frame} {meth : Method} {c : Code} {Q : State → Prop} {G : GX} {A : Nat → Prop} {H : Heap} {locs : List Loc} {cells slots : Nat} {cc : ByteArray} {pc : Nat} {ls : Array Slot} {rest : List Value} {x0 y : MethodName} {nL mL F L idx : Nat} {b : ByteArray} {ret0 ret : Option FieldType} {K Z : Nat} {ws wc wr : va_W} {As st0 : List Value} {a : Nat} {v : Int64} {E : va_W → Prop} 
    (C0 : Cx p s m args meth c cc nL x0 ret0) (hK : KX G s) (hT : TX G A s) (hA : ∀ q, s.heap.size ≤ q → A q) (hP : va_P G.1 classes ws H) (hD : va_D A ws) (hS : va_S A s.heap H locs) (hsz : ls.size = nL)
    (hM : Met l y (wd y b mL ret) { frames := F, cells := K, slots := Z, locals := L } (PX G (.ref a :: As) H.size wc) (QXl G v E (va_A wc H.size)) K Z (va_A wc H.size))
    (hg : Cond.methodLink x0.cls idx y ∈ lwG ∧ Cond.instanceMethod y ∈ lwG ∧ Cond.selects y.cls y y ∈ lwG ∧ Cond.initialized y.cls ∈ lwG ∧ Cond.code y b mL ret ∈ lwG) (n : Nat) (hAs : As.length = n) (hd : y.cls ≠ "java/lang/invoke/MethodHandle" ∧ y.cls ≠ "java/lang/invoke/VarHandle" ∧ (parseMethodDescriptor y.desc).map (fun d => d.parameters.length) = some n) 
    (hF : F + 1 ≤ R.frames) (hL : 8 + (mL + 11) + L ≤ R.locals) (isC isR : List Nat) (hC : isC.map (fun i => ws[i]?) = wc.map some) (hR : isR.map (fun i => ws[i]?) = wr.map some) (hnC : va_nd isC = true) (hn : va_nd isR = true) (hdis : ∀ i ∈ isR, i ∉ isC)
    (ci q0 : Nat) {T : u_T} {NF : Nat} {fs : List Value} (hq : classes[ci]? = some (y.cls, T, NF)) (he : ws[q0]? = some (a, .inr (ci, fs)))
    (hst : st0 = As.reverse ++ .ref a :: rest) (hrest : (rest.map fun v => v.category).sum ≤ 8) (hdg : decode cc pc = .ok (.invokevirtual idx, 3)) (hc : cells + K ≤ R.cells) (hs : slots + Z ≤ R.slots)
    (kk : ∀ (w1 : va_W) (H1 : Heap) (locs1 : List Loc), E w1 → va_P G.1 classes (wr ++ w1) H1 → va_D A (wr ++ w1) → va_S A s.heap H1 locs1 → W p l e R s m args below meth c H1 locs1 (cells + K) (slots + Z) Q (F0 m (pc + 3) ls (.long v :: rest))) :
    W p l e R s m args below meth c H locs cells slots Q (F0 m pc ls st0) := by
  obtain ⟨hx, hb, hml, hown, hts, hr, hlocks, hin⟩ := id C0
  have hFc := va_free (wc := wc) hD hS hA isC hC
  have hat := PX_at (av := (.ref a :: As)) hK hT hA hP hD hS isC hC hnC
  have hrun := va_runV (As := As) (rest := rest) (g := F0 m pc ls st0) (H := H) (locs := locs) (cells := cells) (slots := slots) (below := below) (meth := meth) (e := e) ⟨hx, hb, hml, hown, hts⟩ hM ⟨call_G hts hg.1 hg.2.2.2.1 hg.2.2.2.2 hd hF hL, hts _ hg.2.1, hts _ hg.2.2.1⟩ ⟨PX_blind _ _ _ _, va_recv hK hP hq he, hat⟩ rfl hAs hsz hst (lv_room hrest) hdg ⟨hc, hs⟩
  refine va_calll hrun hS (fun q _ h => hFc q h) hFc (fun r u t H1 locs1 ht hvm hw hB hz hk hS1 => ?_)
  obtain ⟨w1, hE, hP1, hD1⟩ := hB
  rw [ht] at hP1
  obtain ⟨hP2, hD2⟩ := va_join hP hD isC isR hC hR hn hdis hk hFc hP1 hD1
  have hw : r = v := hw
  rw [hw]
  exact kk w1 H1 locs1 hE hP2 hD2 hS1
theorem xV_l0 {p : Program} {l : Launch} {e : Env} {R : Room} {s : State} {m : MethodId} {args : Array Value} {below : List Frame} {meth : Method} {c : Code} {Q : State → Prop} {G : GX} {A : Nat → Prop} {H : Heap} {locs : List Loc} {cells slots : Nat} {cc : ByteArray} {pc : Nat} {ls : Array Slot} {rest : List Value} {x0 y : MethodName} {nL mL F L idx : Nat} {b : ByteArray} {ret0 ret : Option FieldType} {ws wc wr : va_W} {As st0 : List Value} {a : Nat} {v : Int64} {E : va_W → Prop} 
    (C0 : Cx p s m args meth c cc nL x0 ret0) (hK : KX G s) (hT : TX G A s) (hA : ∀ q, s.heap.size ≤ q → A q) (hP : va_P G.1 classes ws H) (hD : va_D A ws) (hS : va_S A s.heap H locs) (hsz : ls.size = nL)
    (hM : Met l y (wd y b mL ret) { frames := F, cells := 0, slots := 0, locals := L } (PX G (.ref a :: As) H.size wc) (QXl G v E (va_A wc H.size)) 0 0 (va_A wc H.size))
    (hg : Cond.methodLink x0.cls idx y ∈ lwG ∧ Cond.instanceMethod y ∈ lwG ∧ Cond.selects y.cls y y ∈ lwG ∧ Cond.initialized y.cls ∈ lwG ∧ Cond.code y b mL ret ∈ lwG) (n : Nat) (hAs : As.length = n) (hd : y.cls ≠ "java/lang/invoke/MethodHandle" ∧ y.cls ≠ "java/lang/invoke/VarHandle" ∧ (parseMethodDescriptor y.desc).map (fun d => d.parameters.length) = some n) 
    (hF : F + 1 ≤ R.frames) (hL : 8 + (mL + 11) + L ≤ R.locals) (isC isR : List Nat) (hC : isC.map (fun i => ws[i]?) = wc.map some) (hR : isR.map (fun i => ws[i]?) = wr.map some) (hnC : va_nd isC = true) (hn : va_nd isR = true) (hdis : ∀ i ∈ isR, i ∉ isC)
    (ci q0 : Nat) {T : u_T} {NF : Nat} {fs : List Value} (hq : classes[ci]? = some (y.cls, T, NF)) (he : ws[q0]? = some (a, .inr (ci, fs)))
    (hst : st0 = As.reverse ++ .ref a :: rest) (hrest : (rest.map fun v => v.category).sum ≤ 8) (hdg : decode cc pc = .ok (.invokevirtual idx, 3)) (hc : cells + 0 ≤ R.cells) (hs : slots + 0 ≤ R.slots)
    (kk : ∀ (w1 : va_W) (H1 : Heap) (locs1 : List Loc), E w1 → va_P G.1 classes (wr ++ w1) H1 → va_D A (wr ++ w1) → va_S A s.heap H1 locs1 → W p l e R s m args below meth c H1 locs1 cells slots Q (F0 m (pc + 3) ls (.long v :: rest))) :
    W p l e R s m args below meth c H locs cells slots Q (F0 m pc ls st0) := by
  obtain ⟨hx, hb, hml, hown, hts, hr, hlocks, hin⟩ := id C0
  have hFc := va_free (wc := wc) hD hS hA isC hC
  have hat := PX_at (av := (.ref a :: As)) hK hT hA hP hD hS isC hC hnC
  have hrun := va_runV (As := As) (rest := rest) (g := F0 m pc ls st0) (H := H) (locs := locs) (cells := cells) (slots := slots) (below := below) (meth := meth) (e := e) ⟨hx, hb, hml, hown, hts⟩ hM ⟨call_G hts hg.1 hg.2.2.2.1 hg.2.2.2.2 hd hF hL, hts _ hg.2.1, hts _ hg.2.2.1⟩ ⟨PX_blind _ _ _ _, va_recv hK hP hq he, hat⟩ rfl hAs hsz hst (lv_room hrest) hdg ⟨hc, hs⟩
  refine va_calll hrun hS (fun q _ h => hFc q h) hFc (fun r u t H1 locs1 ht hvm hw hB hz hk hS1 => ?_)
  obtain ⟨w1, hE, hP1, hD1⟩ := hB
  rw [ht] at hP1
  obtain ⟨hP2, hD2⟩ := va_join hP hD isC isR hC hR hn hdis hk hFc hP1 hD1
  have hw : r = v := hw
  rw [hw]
  exact kk w1 H1 locs1 hE hP2 hD2 hS1
theorem xV_v {p : Program} {l : Launch} {e : Env} {R : Room} {s : State} {m : MethodId} {args : Array Value} {below : List Frame} {meth : Method} {c : Code} {Q : State → Prop} {G : GX} {A : Nat → Prop} {H : Heap} {locs : List Loc} {cells slots : Nat} {cc : ByteArray} {pc : Nat} {ls : Array Slot} {rest : List Value} {x0 y : MethodName} {nL mL F L idx : Nat} {b : ByteArray} {ret0 ret : Option FieldType} {K Z : Nat} {ws wc wr : va_W} {As st0 : List Value} {a : Nat} {E : va_W → Prop} 
    (C0 : Cx p s m args meth c cc nL x0 ret0) (hK : KX G s) (hT : TX G A s) (hA : ∀ q, s.heap.size ≤ q → A q) (hP : va_P G.1 classes ws H) (hD : va_D A ws) (hS : va_S A s.heap H locs) (hsz : ls.size = nL)
    (hM : Met l y (wd y b mL ret) { frames := F, cells := K, slots := Z, locals := L } (PX G (.ref a :: As) H.size wc) (QXv G E (va_A wc H.size)) K Z (va_A wc H.size))
    (hg : Cond.methodLink x0.cls idx y ∈ lwG ∧ Cond.instanceMethod y ∈ lwG ∧ Cond.selects y.cls y y ∈ lwG ∧ Cond.initialized y.cls ∈ lwG ∧ Cond.code y b mL ret ∈ lwG) (n : Nat) (hAs : As.length = n) (hd : y.cls ≠ "java/lang/invoke/MethodHandle" ∧ y.cls ≠ "java/lang/invoke/VarHandle" ∧ (parseMethodDescriptor y.desc).map (fun d => d.parameters.length) = some n) 
    (hF : F + 1 ≤ R.frames) (hL : 8 + (mL + 11) + L ≤ R.locals) (isC isR : List Nat) (hC : isC.map (fun i => ws[i]?) = wc.map some) (hR : isR.map (fun i => ws[i]?) = wr.map some) (hnC : va_nd isC = true) (hn : va_nd isR = true) (hdis : ∀ i ∈ isR, i ∉ isC)
    (ci q0 : Nat) {T : u_T} {NF : Nat} {fs : List Value} (hq : classes[ci]? = some (y.cls, T, NF)) (he : ws[q0]? = some (a, .inr (ci, fs)))
    (hst : st0 = As.reverse ++ .ref a :: rest) (hrest : (rest.map fun v => v.category).sum ≤ 8) (hdg : decode cc pc = .ok (.invokevirtual idx, 3)) (hc : cells + K ≤ R.cells) (hs : slots + Z ≤ R.slots)
    (kk : ∀ (w1 : va_W) (H1 : Heap) (locs1 : List Loc), E w1 → va_P G.1 classes (wr ++ w1) H1 → va_D A (wr ++ w1) → va_S A s.heap H1 locs1 → W p l e R s m args below meth c H1 locs1 (cells + K) (slots + Z) Q (F0 m (pc + 3) ls (rest))) :
    W p l e R s m args below meth c H locs cells slots Q (F0 m pc ls st0) := by
  obtain ⟨hx, hb, hml, hown, hts, hr, hlocks, hin⟩ := id C0
  have hFc := va_free (wc := wc) hD hS hA isC hC
  have hat := PX_at (av := (.ref a :: As)) hK hT hA hP hD hS isC hC hnC
  have hrun := va_runV (As := As) (rest := rest) (g := F0 m pc ls st0) (H := H) (locs := locs) (cells := cells) (slots := slots) (below := below) (meth := meth) (e := e) ⟨hx, hb, hml, hown, hts⟩ hM ⟨call_G hts hg.1 hg.2.2.2.1 hg.2.2.2.2 hd hF hL, hts _ hg.2.1, hts _ hg.2.2.1⟩ ⟨PX_blind _ _ _ _, va_recv hK hP hq he, hat⟩ rfl hAs hsz hst (lv_room hrest) hdg ⟨hc, hs⟩
  refine va_callv hrun hS (fun q _ h => hFc q h) hFc (fun u t H1 locs1 ht hvm hw hB hz hk hS1 => ?_)
  obtain ⟨w1, hE, hP1, hD1⟩ := hB
  rw [ht] at hP1
  obtain ⟨hP2, hD2⟩ := va_join hP hD isC isR hC hR hn hdis hk hFc hP1 hD1
  exact kk w1 H1 locs1 hE hP2 hD2 hS1
theorem xV_v0 {p : Program} {l : Launch} {e : Env} {R : Room} {s : State} {m : MethodId} {args : Array Value} {below : List Frame} {meth : Method} {c : Code} {Q : State → Prop} {G : GX} {A : Nat → Prop} {H : Heap} {locs : List Loc} {cells slots : Nat} {cc : ByteArray} {pc : Nat} {ls : Array Slot} {rest : List Value} {x0 y : MethodName} {nL mL F L idx : Nat} {b : ByteArray} {ret0 ret : Option FieldType} {ws wc wr : va_W} {As st0 : List Value} {a : Nat} {E : va_W → Prop} 
    (C0 : Cx p s m args meth c cc nL x0 ret0) (hK : KX G s) (hT : TX G A s) (hA : ∀ q, s.heap.size ≤ q → A q) (hP : va_P G.1 classes ws H) (hD : va_D A ws) (hS : va_S A s.heap H locs) (hsz : ls.size = nL)
    (hM : Met l y (wd y b mL ret) { frames := F, cells := 0, slots := 0, locals := L } (PX G (.ref a :: As) H.size wc) (QXv G E (va_A wc H.size)) 0 0 (va_A wc H.size))
    (hg : Cond.methodLink x0.cls idx y ∈ lwG ∧ Cond.instanceMethod y ∈ lwG ∧ Cond.selects y.cls y y ∈ lwG ∧ Cond.initialized y.cls ∈ lwG ∧ Cond.code y b mL ret ∈ lwG) (n : Nat) (hAs : As.length = n) (hd : y.cls ≠ "java/lang/invoke/MethodHandle" ∧ y.cls ≠ "java/lang/invoke/VarHandle" ∧ (parseMethodDescriptor y.desc).map (fun d => d.parameters.length) = some n) 
    (hF : F + 1 ≤ R.frames) (hL : 8 + (mL + 11) + L ≤ R.locals) (isC isR : List Nat) (hC : isC.map (fun i => ws[i]?) = wc.map some) (hR : isR.map (fun i => ws[i]?) = wr.map some) (hnC : va_nd isC = true) (hn : va_nd isR = true) (hdis : ∀ i ∈ isR, i ∉ isC)
    (ci q0 : Nat) {T : u_T} {NF : Nat} {fs : List Value} (hq : classes[ci]? = some (y.cls, T, NF)) (he : ws[q0]? = some (a, .inr (ci, fs)))
    (hst : st0 = As.reverse ++ .ref a :: rest) (hrest : (rest.map fun v => v.category).sum ≤ 8) (hdg : decode cc pc = .ok (.invokevirtual idx, 3)) (hc : cells + 0 ≤ R.cells) (hs : slots + 0 ≤ R.slots)
    (kk : ∀ (w1 : va_W) (H1 : Heap) (locs1 : List Loc), E w1 → va_P G.1 classes (wr ++ w1) H1 → va_D A (wr ++ w1) → va_S A s.heap H1 locs1 → W p l e R s m args below meth c H1 locs1 cells slots Q (F0 m (pc + 3) ls (rest))) :
    W p l e R s m args below meth c H locs cells slots Q (F0 m pc ls st0) := by
  obtain ⟨hx, hb, hml, hown, hts, hr, hlocks, hin⟩ := id C0
  have hFc := va_free (wc := wc) hD hS hA isC hC
  have hat := PX_at (av := (.ref a :: As)) hK hT hA hP hD hS isC hC hnC
  have hrun := va_runV (As := As) (rest := rest) (g := F0 m pc ls st0) (H := H) (locs := locs) (cells := cells) (slots := slots) (below := below) (meth := meth) (e := e) ⟨hx, hb, hml, hown, hts⟩ hM ⟨call_G hts hg.1 hg.2.2.2.1 hg.2.2.2.2 hd hF hL, hts _ hg.2.1, hts _ hg.2.2.1⟩ ⟨PX_blind _ _ _ _, va_recv hK hP hq he, hat⟩ rfl hAs hsz hst (lv_room hrest) hdg ⟨hc, hs⟩
  refine va_callv hrun hS (fun q _ h => hFc q h) hFc (fun u t H1 locs1 ht hvm hw hB hz hk hS1 => ?_)
  obtain ⟨w1, hE, hP1, hD1⟩ := hB
  rw [ht] at hP1
  obtain ⟨hP2, hD2⟩ := va_join hP hD isC isR hC hR hn hdis hk hFc hP1 hD1
  exact kk w1 H1 locs1 hE hP2 hD2 hS1
theorem xV_r {p : Program} {l : Launch} {e : Env} {R : Room} {s : State} {m : MethodId} {args : Array Value} {below : List Frame} {meth : Method} {c : Code} {Q : State → Prop} {G : GX} {A : Nat → Prop} {H : Heap} {locs : List Loc} {cells slots : Nat} {cc : ByteArray} {pc : Nat} {ls : Array Slot} {rest : List Value} {x0 y : MethodName} {nL mL F L idx : Nat} {b : ByteArray} {ret0 ret : Option FieldType} {K Z : Nat} {ws wc wr : va_W} {As st0 : List Value} {a : Nat} {E : Nat → va_W → Prop} 
    (C0 : Cx p s m args meth c cc nL x0 ret0) (hK : KX G s) (hT : TX G A s) (hA : ∀ q, s.heap.size ≤ q → A q) (hP : va_P G.1 classes ws H) (hD : va_D A ws) (hS : va_S A s.heap H locs) (hsz : ls.size = nL)
    (hM : Met l y (wd y b mL ret) { frames := F, cells := K, slots := Z, locals := L } (PX G (.ref a :: As) H.size wc) (QXr G E (va_A wc H.size)) K Z (va_A wc H.size))
    (hg : Cond.methodLink x0.cls idx y ∈ lwG ∧ Cond.instanceMethod y ∈ lwG ∧ Cond.selects y.cls y y ∈ lwG ∧ Cond.initialized y.cls ∈ lwG ∧ Cond.code y b mL ret ∈ lwG) (n : Nat) (hAs : As.length = n) (hd : y.cls ≠ "java/lang/invoke/MethodHandle" ∧ y.cls ≠ "java/lang/invoke/VarHandle" ∧ (parseMethodDescriptor y.desc).map (fun d => d.parameters.length) = some n) 
    (hF : F + 1 ≤ R.frames) (hL : 8 + (mL + 11) + L ≤ R.locals) (isC isR : List Nat) (hC : isC.map (fun i => ws[i]?) = wc.map some) (hR : isR.map (fun i => ws[i]?) = wr.map some) (hnC : va_nd isC = true) (hn : va_nd isR = true) (hdis : ∀ i ∈ isR, i ∉ isC)
    (ci q0 : Nat) {T : u_T} {NF : Nat} {fs : List Value} (hq : classes[ci]? = some (y.cls, T, NF)) (he : ws[q0]? = some (a, .inr (ci, fs)))
    (hst : st0 = As.reverse ++ .ref a :: rest) (hrest : (rest.map fun v => v.category).sum ≤ 8) (hdg : decode cc pc = .ok (.invokevirtual idx, 3)) (hc : cells + K ≤ R.cells) (hs : slots + Z ≤ R.slots)
    (kk : ∀ (ra : Nat) (w1 : va_W) (H1 : Heap) (locs1 : List Loc), E ra w1 → va_P G.1 classes (wr ++ w1) H1 → va_D A (wr ++ w1) → va_S A s.heap H1 locs1 → W p l e R s m args below meth c H1 locs1 (cells + K) (slots + Z) Q (F0 m (pc + 3) ls (.ref ra :: rest))) :
    W p l e R s m args below meth c H locs cells slots Q (F0 m pc ls st0) := by
  obtain ⟨hx, hb, hml, hown, hts, hr, hlocks, hin⟩ := id C0
  have hFc := va_free (wc := wc) hD hS hA isC hC
  have hat := PX_at (av := (.ref a :: As)) hK hT hA hP hD hS isC hC hnC
  have hrun := va_runV (As := As) (rest := rest) (g := F0 m pc ls st0) (H := H) (locs := locs) (cells := cells) (slots := slots) (below := below) (meth := meth) (e := e) ⟨hx, hb, hml, hown, hts⟩ hM ⟨call_G hts hg.1 hg.2.2.2.1 hg.2.2.2.2 hd hF hL, hts _ hg.2.1, hts _ hg.2.2.1⟩ ⟨PX_blind _ _ _ _, va_recv hK hP hq he, hat⟩ rfl hAs hsz hst (lv_room hrest) hdg ⟨hc, hs⟩
  refine va_callr hrun hS (fun q _ h => hFc q h) hFc (fun u ra t H1 locs1 ht hvm hw hB hz hk hS1 => ?_)
  obtain ⟨w1, hE, hP1, hD1⟩ := hB
  rw [ht] at hP1
  obtain ⟨hP2, hD2⟩ := va_join hP hD isC isR hC hR hn hdis hk hFc hP1 hD1
  exact kk ra w1 H1 locs1 hE hP2 hD2 hS1
theorem xV_r0 {p : Program} {l : Launch} {e : Env} {R : Room} {s : State} {m : MethodId} {args : Array Value} {below : List Frame} {meth : Method} {c : Code} {Q : State → Prop} {G : GX} {A : Nat → Prop} {H : Heap} {locs : List Loc} {cells slots : Nat} {cc : ByteArray} {pc : Nat} {ls : Array Slot} {rest : List Value} {x0 y : MethodName} {nL mL F L idx : Nat} {b : ByteArray} {ret0 ret : Option FieldType} {ws wc wr : va_W} {As st0 : List Value} {a : Nat} {E : Nat → va_W → Prop} 
    (C0 : Cx p s m args meth c cc nL x0 ret0) (hK : KX G s) (hT : TX G A s) (hA : ∀ q, s.heap.size ≤ q → A q) (hP : va_P G.1 classes ws H) (hD : va_D A ws) (hS : va_S A s.heap H locs) (hsz : ls.size = nL)
    (hM : Met l y (wd y b mL ret) { frames := F, cells := 0, slots := 0, locals := L } (PX G (.ref a :: As) H.size wc) (QXr G E (va_A wc H.size)) 0 0 (va_A wc H.size))
    (hg : Cond.methodLink x0.cls idx y ∈ lwG ∧ Cond.instanceMethod y ∈ lwG ∧ Cond.selects y.cls y y ∈ lwG ∧ Cond.initialized y.cls ∈ lwG ∧ Cond.code y b mL ret ∈ lwG) (n : Nat) (hAs : As.length = n) (hd : y.cls ≠ "java/lang/invoke/MethodHandle" ∧ y.cls ≠ "java/lang/invoke/VarHandle" ∧ (parseMethodDescriptor y.desc).map (fun d => d.parameters.length) = some n) 
    (hF : F + 1 ≤ R.frames) (hL : 8 + (mL + 11) + L ≤ R.locals) (isC isR : List Nat) (hC : isC.map (fun i => ws[i]?) = wc.map some) (hR : isR.map (fun i => ws[i]?) = wr.map some) (hnC : va_nd isC = true) (hn : va_nd isR = true) (hdis : ∀ i ∈ isR, i ∉ isC)
    (ci q0 : Nat) {T : u_T} {NF : Nat} {fs : List Value} (hq : classes[ci]? = some (y.cls, T, NF)) (he : ws[q0]? = some (a, .inr (ci, fs)))
    (hst : st0 = As.reverse ++ .ref a :: rest) (hrest : (rest.map fun v => v.category).sum ≤ 8) (hdg : decode cc pc = .ok (.invokevirtual idx, 3)) (hc : cells + 0 ≤ R.cells) (hs : slots + 0 ≤ R.slots)
    (kk : ∀ (ra : Nat) (w1 : va_W) (H1 : Heap) (locs1 : List Loc), E ra w1 → va_P G.1 classes (wr ++ w1) H1 → va_D A (wr ++ w1) → va_S A s.heap H1 locs1 → W p l e R s m args below meth c H1 locs1 cells slots Q (F0 m (pc + 3) ls (.ref ra :: rest))) :
    W p l e R s m args below meth c H locs cells slots Q (F0 m pc ls st0) := by
  obtain ⟨hx, hb, hml, hown, hts, hr, hlocks, hin⟩ := id C0
  have hFc := va_free (wc := wc) hD hS hA isC hC
  have hat := PX_at (av := (.ref a :: As)) hK hT hA hP hD hS isC hC hnC
  have hrun := va_runV (As := As) (rest := rest) (g := F0 m pc ls st0) (H := H) (locs := locs) (cells := cells) (slots := slots) (below := below) (meth := meth) (e := e) ⟨hx, hb, hml, hown, hts⟩ hM ⟨call_G hts hg.1 hg.2.2.2.1 hg.2.2.2.2 hd hF hL, hts _ hg.2.1, hts _ hg.2.2.1⟩ ⟨PX_blind _ _ _ _, va_recv hK hP hq he, hat⟩ rfl hAs hsz hst (lv_room hrest) hdg ⟨hc, hs⟩
  refine va_callr hrun hS (fun q _ h => hFc q h) hFc (fun u ra t H1 locs1 ht hvm hw hB hz hk hS1 => ?_)
  obtain ⟨w1, hE, hP1, hD1⟩ := hB
  rw [ht] at hP1
  obtain ⟨hP2, hD2⟩ := va_join hP hD isC isR hC hR hn hdis hk hFc hP1 hD1
  exact kk ra w1 H1 locs1 hE hP2 hD2 hS1
theorem xS_i {p : Program} {l : Launch} {e : Env} {R : Room} {s : State} {m : MethodId} {args : Array Value} {below : List Frame} {meth : Method} {c : Code} {Q : State → Prop} {G : GX} {A : Nat → Prop} {H : Heap} {locs : List Loc} {cells slots : Nat} {cc : ByteArray} {pc : Nat} {ls : Array Slot} {rest : List Value} {x0 y : MethodName} {nL mL F L idx : Nat} {b : ByteArray} {ret0 ret : Option FieldType} {K Z : Nat} {ws wc wr : va_W} {As st0 : List Value} {v : Int32} {E : va_W → Prop} 
    (C0 : Cx p s m args meth c cc nL x0 ret0) (hK : KX G s) (hT : TX G A s) (hA : ∀ q, s.heap.size ≤ q → A q) (hP : va_P G.1 classes ws H) (hD : va_D A ws) (hS : va_S A s.heap H locs) (hsz : ls.size = nL)
    (hM : Met l y (wd y b mL ret) { frames := F, cells := K, slots := Z, locals := L } (PX G As H.size wc) (QXi G v E (va_A wc H.size)) K Z (va_A wc H.size))
    (hg : Cond.methodLink x0.cls idx y ∈ lwG ∧ Cond.static y ∈ lwG ∧ Cond.initialized y.cls ∈ lwG ∧ Cond.code y b mL ret ∈ lwG) (n : Nat) (hAs : As.length = n) (hd : y.cls ≠ "java/lang/invoke/MethodHandle" ∧ y.cls ≠ "java/lang/invoke/VarHandle" ∧ (parseMethodDescriptor y.desc).map (fun d => d.parameters.length) = some n) 
    (hF : F + 1 ≤ R.frames) (hL : 8 + (mL + 11) + L ≤ R.locals) (isC isR : List Nat) (hC : isC.map (fun i => ws[i]?) = wc.map some) (hR : isR.map (fun i => ws[i]?) = wr.map some) (hnC : va_nd isC = true) (hn : va_nd isR = true) (hdis : ∀ i ∈ isR, i ∉ isC)
    (hst : st0 = As.reverse ++ rest) (hrest : (rest.map fun v => v.category).sum ≤ 8) (hdg : decode cc pc = .ok (.invokestatic idx, 3)) (hc : cells + K ≤ R.cells) (hs : slots + Z ≤ R.slots)
    (kk : ∀ (w1 : va_W) (H1 : Heap) (locs1 : List Loc), E w1 → va_P G.1 classes (wr ++ w1) H1 → va_D A (wr ++ w1) → va_S A s.heap H1 locs1 → W p l e R s m args below meth c H1 locs1 (cells + K) (slots + Z) Q (F0 m (pc + 3) ls (.int v :: rest))) :
    W p l e R s m args below meth c H locs cells slots Q (F0 m pc ls st0) := by
  obtain ⟨hx, hb, hml, hown, hts, hr, hlocks, hin⟩ := id C0
  have hFc := va_free (wc := wc) hD hS hA isC hC
  have hat := PX_at (av := As) hK hT hA hP hD hS isC hC hnC
  have hrun := va_runS (As := As) (rest := rest) (g := F0 m pc ls st0) (H := H) (locs := locs) (cells := cells) (slots := slots) (below := below) (meth := meth) (e := e) ⟨hx, hb, hml, hown, hts⟩ hM ⟨call_G hts hg.1 hg.2.2.1 hg.2.2.2 hd hF hL, hts _ hg.2.1⟩ ⟨PX_blind _ _ _ _, hat⟩ rfl hAs hsz hst (lv_room hrest) hdg ⟨hc, hs⟩
  refine va_calli hrun hS (fun q _ h => hFc q h) hFc (fun r u t H1 locs1 ht hvm hw hB hz hk hS1 => ?_)
  obtain ⟨w1, hE, hP1, hD1⟩ := hB
  rw [ht] at hP1
  obtain ⟨hP2, hD2⟩ := va_join hP hD isC isR hC hR hn hdis hk hFc hP1 hD1
  have hw : r = v := hw
  rw [hw]
  exact kk w1 H1 locs1 hE hP2 hD2 hS1
theorem xS_i0 {p : Program} {l : Launch} {e : Env} {R : Room} {s : State} {m : MethodId} {args : Array Value} {below : List Frame} {meth : Method} {c : Code} {Q : State → Prop} {G : GX} {A : Nat → Prop} {H : Heap} {locs : List Loc} {cells slots : Nat} {cc : ByteArray} {pc : Nat} {ls : Array Slot} {rest : List Value} {x0 y : MethodName} {nL mL F L idx : Nat} {b : ByteArray} {ret0 ret : Option FieldType} {ws wc wr : va_W} {As st0 : List Value} {v : Int32} {E : va_W → Prop} 
    (C0 : Cx p s m args meth c cc nL x0 ret0) (hK : KX G s) (hT : TX G A s) (hA : ∀ q, s.heap.size ≤ q → A q) (hP : va_P G.1 classes ws H) (hD : va_D A ws) (hS : va_S A s.heap H locs) (hsz : ls.size = nL)
    (hM : Met l y (wd y b mL ret) { frames := F, cells := 0, slots := 0, locals := L } (PX G As H.size wc) (QXi G v E (va_A wc H.size)) 0 0 (va_A wc H.size))
    (hg : Cond.methodLink x0.cls idx y ∈ lwG ∧ Cond.static y ∈ lwG ∧ Cond.initialized y.cls ∈ lwG ∧ Cond.code y b mL ret ∈ lwG) (n : Nat) (hAs : As.length = n) (hd : y.cls ≠ "java/lang/invoke/MethodHandle" ∧ y.cls ≠ "java/lang/invoke/VarHandle" ∧ (parseMethodDescriptor y.desc).map (fun d => d.parameters.length) = some n) 
    (hF : F + 1 ≤ R.frames) (hL : 8 + (mL + 11) + L ≤ R.locals) (isC isR : List Nat) (hC : isC.map (fun i => ws[i]?) = wc.map some) (hR : isR.map (fun i => ws[i]?) = wr.map some) (hnC : va_nd isC = true) (hn : va_nd isR = true) (hdis : ∀ i ∈ isR, i ∉ isC)
    (hst : st0 = As.reverse ++ rest) (hrest : (rest.map fun v => v.category).sum ≤ 8) (hdg : decode cc pc = .ok (.invokestatic idx, 3)) (hc : cells + 0 ≤ R.cells) (hs : slots + 0 ≤ R.slots)
    (kk : ∀ (w1 : va_W) (H1 : Heap) (locs1 : List Loc), E w1 → va_P G.1 classes (wr ++ w1) H1 → va_D A (wr ++ w1) → va_S A s.heap H1 locs1 → W p l e R s m args below meth c H1 locs1 cells slots Q (F0 m (pc + 3) ls (.int v :: rest))) :
    W p l e R s m args below meth c H locs cells slots Q (F0 m pc ls st0) := by
  obtain ⟨hx, hb, hml, hown, hts, hr, hlocks, hin⟩ := id C0
  have hFc := va_free (wc := wc) hD hS hA isC hC
  have hat := PX_at (av := As) hK hT hA hP hD hS isC hC hnC
  have hrun := va_runS (As := As) (rest := rest) (g := F0 m pc ls st0) (H := H) (locs := locs) (cells := cells) (slots := slots) (below := below) (meth := meth) (e := e) ⟨hx, hb, hml, hown, hts⟩ hM ⟨call_G hts hg.1 hg.2.2.1 hg.2.2.2 hd hF hL, hts _ hg.2.1⟩ ⟨PX_blind _ _ _ _, hat⟩ rfl hAs hsz hst (lv_room hrest) hdg ⟨hc, hs⟩
  refine va_calli hrun hS (fun q _ h => hFc q h) hFc (fun r u t H1 locs1 ht hvm hw hB hz hk hS1 => ?_)
  obtain ⟨w1, hE, hP1, hD1⟩ := hB
  rw [ht] at hP1
  obtain ⟨hP2, hD2⟩ := va_join hP hD isC isR hC hR hn hdis hk hFc hP1 hD1
  have hw : r = v := hw
  rw [hw]
  exact kk w1 H1 locs1 hE hP2 hD2 hS1
theorem xS_l {p : Program} {l : Launch} {e : Env} {R : Room} {s : State} {m : MethodId} {args : Array Value} {below : List Frame} {meth : Method} {c : Code} {Q : State → Prop} {G : GX} {A : Nat → Prop} {H : Heap} {locs : List Loc} {cells slots : Nat} {cc : ByteArray} {pc : Nat} {ls : Array Slot} {rest : List Value} {x0 y : MethodName} {nL mL F L idx : Nat} {b : ByteArray} {ret0 ret : Option FieldType} {K Z : Nat} {ws wc wr : va_W} {As st0 : List Value} {v : Int64} {E : va_W → Prop} 
    (C0 : Cx p s m args meth c cc nL x0 ret0) (hK : KX G s) (hT : TX G A s) (hA : ∀ q, s.heap.size ≤ q → A q) (hP : va_P G.1 classes ws H) (hD : va_D A ws) (hS : va_S A s.heap H locs) (hsz : ls.size = nL)
    (hM : Met l y (wd y b mL ret) { frames := F, cells := K, slots := Z, locals := L } (PX G As H.size wc) (QXl G v E (va_A wc H.size)) K Z (va_A wc H.size))
    (hg : Cond.methodLink x0.cls idx y ∈ lwG ∧ Cond.static y ∈ lwG ∧ Cond.initialized y.cls ∈ lwG ∧ Cond.code y b mL ret ∈ lwG) (n : Nat) (hAs : As.length = n) (hd : y.cls ≠ "java/lang/invoke/MethodHandle" ∧ y.cls ≠ "java/lang/invoke/VarHandle" ∧ (parseMethodDescriptor y.desc).map (fun d => d.parameters.length) = some n) 
    (hF : F + 1 ≤ R.frames) (hL : 8 + (mL + 11) + L ≤ R.locals) (isC isR : List Nat) (hC : isC.map (fun i => ws[i]?) = wc.map some) (hR : isR.map (fun i => ws[i]?) = wr.map some) (hnC : va_nd isC = true) (hn : va_nd isR = true) (hdis : ∀ i ∈ isR, i ∉ isC)
    (hst : st0 = As.reverse ++ rest) (hrest : (rest.map fun v => v.category).sum ≤ 8) (hdg : decode cc pc = .ok (.invokestatic idx, 3)) (hc : cells + K ≤ R.cells) (hs : slots + Z ≤ R.slots)
    (kk : ∀ (w1 : va_W) (H1 : Heap) (locs1 : List Loc), E w1 → va_P G.1 classes (wr ++ w1) H1 → va_D A (wr ++ w1) → va_S A s.heap H1 locs1 → W p l e R s m args below meth c H1 locs1 (cells + K) (slots + Z) Q (F0 m (pc + 3) ls (.long v :: rest))) :
    W p l e R s m args below meth c H locs cells slots Q (F0 m pc ls st0) := by
  obtain ⟨hx, hb, hml, hown, hts, hr, hlocks, hin⟩ := id C0
  have hFc := va_free (wc := wc) hD hS hA isC hC
  have hat := PX_at (av := As) hK hT hA hP hD hS isC hC hnC
  have hrun := va_runS (As := As) (rest := rest) (g := F0 m pc ls st0) (H := H) (locs := locs) (cells := cells) (slots := slots) (below := below) (meth := meth) (e := e) ⟨hx, hb, hml, hown, hts⟩ hM ⟨call_G hts hg.1 hg.2.2.1 hg.2.2.2 hd hF hL, hts _ hg.2.1⟩ ⟨PX_blind _ _ _ _, hat⟩ rfl hAs hsz hst (lv_room hrest) hdg ⟨hc, hs⟩
  refine va_calll hrun hS (fun q _ h => hFc q h) hFc (fun r u t H1 locs1 ht hvm hw hB hz hk hS1 => ?_)
  obtain ⟨w1, hE, hP1, hD1⟩ := hB
  rw [ht] at hP1
  obtain ⟨hP2, hD2⟩ := va_join hP hD isC isR hC hR hn hdis hk hFc hP1 hD1
  have hw : r = v := hw
  rw [hw]
  exact kk w1 H1 locs1 hE hP2 hD2 hS1
theorem xS_l0 {p : Program} {l : Launch} {e : Env} {R : Room} {s : State} {m : MethodId} {args : Array Value} {below : List Frame} {meth : Method} {c : Code} {Q : State → Prop} {G : GX} {A : Nat → Prop} {H : Heap} {locs : List Loc} {cells slots : Nat} {cc : ByteArray} {pc : Nat} {ls : Array Slot} {rest : List Value} {x0 y : MethodName} {nL mL F L idx : Nat} {b : ByteArray} {ret0 ret : Option FieldType} {ws wc wr : va_W} {As st0 : List Value} {v : Int64} {E : va_W → Prop} 
    (C0 : Cx p s m args meth c cc nL x0 ret0) (hK : KX G s) (hT : TX G A s) (hA : ∀ q, s.heap.size ≤ q → A q) (hP : va_P G.1 classes ws H) (hD : va_D A ws) (hS : va_S A s.heap H locs) (hsz : ls.size = nL)
    (hM : Met l y (wd y b mL ret) { frames := F, cells := 0, slots := 0, locals := L } (PX G As H.size wc) (QXl G v E (va_A wc H.size)) 0 0 (va_A wc H.size))
    (hg : Cond.methodLink x0.cls idx y ∈ lwG ∧ Cond.static y ∈ lwG ∧ Cond.initialized y.cls ∈ lwG ∧ Cond.code y b mL ret ∈ lwG) (n : Nat) (hAs : As.length = n) (hd : y.cls ≠ "java/lang/invoke/MethodHandle" ∧ y.cls ≠ "java/lang/invoke/VarHandle" ∧ (parseMethodDescriptor y.desc).map (fun d => d.parameters.length) = some n) 
    (hF : F + 1 ≤ R.frames) (hL : 8 + (mL + 11) + L ≤ R.locals) (isC isR : List Nat) (hC : isC.map (fun i => ws[i]?) = wc.map some) (hR : isR.map (fun i => ws[i]?) = wr.map some) (hnC : va_nd isC = true) (hn : va_nd isR = true) (hdis : ∀ i ∈ isR, i ∉ isC)
    (hst : st0 = As.reverse ++ rest) (hrest : (rest.map fun v => v.category).sum ≤ 8) (hdg : decode cc pc = .ok (.invokestatic idx, 3)) (hc : cells + 0 ≤ R.cells) (hs : slots + 0 ≤ R.slots)
    (kk : ∀ (w1 : va_W) (H1 : Heap) (locs1 : List Loc), E w1 → va_P G.1 classes (wr ++ w1) H1 → va_D A (wr ++ w1) → va_S A s.heap H1 locs1 → W p l e R s m args below meth c H1 locs1 cells slots Q (F0 m (pc + 3) ls (.long v :: rest))) :
    W p l e R s m args below meth c H locs cells slots Q (F0 m pc ls st0) := by
  obtain ⟨hx, hb, hml, hown, hts, hr, hlocks, hin⟩ := id C0
  have hFc := va_free (wc := wc) hD hS hA isC hC
  have hat := PX_at (av := As) hK hT hA hP hD hS isC hC hnC
  have hrun := va_runS (As := As) (rest := rest) (g := F0 m pc ls st0) (H := H) (locs := locs) (cells := cells) (slots := slots) (below := below) (meth := meth) (e := e) ⟨hx, hb, hml, hown, hts⟩ hM ⟨call_G hts hg.1 hg.2.2.1 hg.2.2.2 hd hF hL, hts _ hg.2.1⟩ ⟨PX_blind _ _ _ _, hat⟩ rfl hAs hsz hst (lv_room hrest) hdg ⟨hc, hs⟩
  refine va_calll hrun hS (fun q _ h => hFc q h) hFc (fun r u t H1 locs1 ht hvm hw hB hz hk hS1 => ?_)
  obtain ⟨w1, hE, hP1, hD1⟩ := hB
  rw [ht] at hP1
  obtain ⟨hP2, hD2⟩ := va_join hP hD isC isR hC hR hn hdis hk hFc hP1 hD1
  have hw : r = v := hw
  rw [hw]
  exact kk w1 H1 locs1 hE hP2 hD2 hS1
theorem xS_v {p : Program} {l : Launch} {e : Env} {R : Room} {s : State} {m : MethodId} {args : Array Value} {below : List Frame} {meth : Method} {c : Code} {Q : State → Prop} {G : GX} {A : Nat → Prop} {H : Heap} {locs : List Loc} {cells slots : Nat} {cc : ByteArray} {pc : Nat} {ls : Array Slot} {rest : List Value} {x0 y : MethodName} {nL mL F L idx : Nat} {b : ByteArray} {ret0 ret : Option FieldType} {K Z : Nat} {ws wc wr : va_W} {As st0 : List Value} {E : va_W → Prop} 
    (C0 : Cx p s m args meth c cc nL x0 ret0) (hK : KX G s) (hT : TX G A s) (hA : ∀ q, s.heap.size ≤ q → A q) (hP : va_P G.1 classes ws H) (hD : va_D A ws) (hS : va_S A s.heap H locs) (hsz : ls.size = nL)
    (hM : Met l y (wd y b mL ret) { frames := F, cells := K, slots := Z, locals := L } (PX G As H.size wc) (QXv G E (va_A wc H.size)) K Z (va_A wc H.size))
    (hg : Cond.methodLink x0.cls idx y ∈ lwG ∧ Cond.static y ∈ lwG ∧ Cond.initialized y.cls ∈ lwG ∧ Cond.code y b mL ret ∈ lwG) (n : Nat) (hAs : As.length = n) (hd : y.cls ≠ "java/lang/invoke/MethodHandle" ∧ y.cls ≠ "java/lang/invoke/VarHandle" ∧ (parseMethodDescriptor y.desc).map (fun d => d.parameters.length) = some n) 
    (hF : F + 1 ≤ R.frames) (hL : 8 + (mL + 11) + L ≤ R.locals) (isC isR : List Nat) (hC : isC.map (fun i => ws[i]?) = wc.map some) (hR : isR.map (fun i => ws[i]?) = wr.map some) (hnC : va_nd isC = true) (hn : va_nd isR = true) (hdis : ∀ i ∈ isR, i ∉ isC)
    (hst : st0 = As.reverse ++ rest) (hrest : (rest.map fun v => v.category).sum ≤ 8) (hdg : decode cc pc = .ok (.invokestatic idx, 3)) (hc : cells + K ≤ R.cells) (hs : slots + Z ≤ R.slots)
    (kk : ∀ (w1 : va_W) (H1 : Heap) (locs1 : List Loc), E w1 → va_P G.1 classes (wr ++ w1) H1 → va_D A (wr ++ w1) → va_S A s.heap H1 locs1 → W p l e R s m args below meth c H1 locs1 (cells + K) (slots + Z) Q (F0 m (pc + 3) ls (rest))) :
    W p l e R s m args below meth c H locs cells slots Q (F0 m pc ls st0) := by
  obtain ⟨hx, hb, hml, hown, hts, hr, hlocks, hin⟩ := id C0
  have hFc := va_free (wc := wc) hD hS hA isC hC
  have hat := PX_at (av := As) hK hT hA hP hD hS isC hC hnC
  have hrun := va_runS (As := As) (rest := rest) (g := F0 m pc ls st0) (H := H) (locs := locs) (cells := cells) (slots := slots) (below := below) (meth := meth) (e := e) ⟨hx, hb, hml, hown, hts⟩ hM ⟨call_G hts hg.1 hg.2.2.1 hg.2.2.2 hd hF hL, hts _ hg.2.1⟩ ⟨PX_blind _ _ _ _, hat⟩ rfl hAs hsz hst (lv_room hrest) hdg ⟨hc, hs⟩
  refine va_callv hrun hS (fun q _ h => hFc q h) hFc (fun u t H1 locs1 ht hvm hw hB hz hk hS1 => ?_)
  obtain ⟨w1, hE, hP1, hD1⟩ := hB
  rw [ht] at hP1
  obtain ⟨hP2, hD2⟩ := va_join hP hD isC isR hC hR hn hdis hk hFc hP1 hD1
  exact kk w1 H1 locs1 hE hP2 hD2 hS1
theorem xS_v0 {p : Program} {l : Launch} {e : Env} {R : Room} {s : State} {m : MethodId} {args : Array Value} {below : List Frame} {meth : Method} {c : Code} {Q : State → Prop} {G : GX} {A : Nat → Prop} {H : Heap} {locs : List Loc} {cells slots : Nat} {cc : ByteArray} {pc : Nat} {ls : Array Slot} {rest : List Value} {x0 y : MethodName} {nL mL F L idx : Nat} {b : ByteArray} {ret0 ret : Option FieldType} {ws wc wr : va_W} {As st0 : List Value} {E : va_W → Prop} 
    (C0 : Cx p s m args meth c cc nL x0 ret0) (hK : KX G s) (hT : TX G A s) (hA : ∀ q, s.heap.size ≤ q → A q) (hP : va_P G.1 classes ws H) (hD : va_D A ws) (hS : va_S A s.heap H locs) (hsz : ls.size = nL)
    (hM : Met l y (wd y b mL ret) { frames := F, cells := 0, slots := 0, locals := L } (PX G As H.size wc) (QXv G E (va_A wc H.size)) 0 0 (va_A wc H.size))
    (hg : Cond.methodLink x0.cls idx y ∈ lwG ∧ Cond.static y ∈ lwG ∧ Cond.initialized y.cls ∈ lwG ∧ Cond.code y b mL ret ∈ lwG) (n : Nat) (hAs : As.length = n) (hd : y.cls ≠ "java/lang/invoke/MethodHandle" ∧ y.cls ≠ "java/lang/invoke/VarHandle" ∧ (parseMethodDescriptor y.desc).map (fun d => d.parameters.length) = some n) 
    (hF : F + 1 ≤ R.frames) (hL : 8 + (mL + 11) + L ≤ R.locals) (isC isR : List Nat) (hC : isC.map (fun i => ws[i]?) = wc.map some) (hR : isR.map (fun i => ws[i]?) = wr.map some) (hnC : va_nd isC = true) (hn : va_nd isR = true) (hdis : ∀ i ∈ isR, i ∉ isC)
    (hst : st0 = As.reverse ++ rest) (hrest : (rest.map fun v => v.category).sum ≤ 8) (hdg : decode cc pc = .ok (.invokestatic idx, 3)) (hc : cells + 0 ≤ R.cells) (hs : slots + 0 ≤ R.slots)
    (kk : ∀ (w1 : va_W) (H1 : Heap) (locs1 : List Loc), E w1 → va_P G.1 classes (wr ++ w1) H1 → va_D A (wr ++ w1) → va_S A s.heap H1 locs1 → W p l e R s m args below meth c H1 locs1 cells slots Q (F0 m (pc + 3) ls (rest))) :
    W p l e R s m args below meth c H locs cells slots Q (F0 m pc ls st0) := by
  obtain ⟨hx, hb, hml, hown, hts, hr, hlocks, hin⟩ := id C0
  have hFc := va_free (wc := wc) hD hS hA isC hC
  have hat := PX_at (av := As) hK hT hA hP hD hS isC hC hnC
  have hrun := va_runS (As := As) (rest := rest) (g := F0 m pc ls st0) (H := H) (locs := locs) (cells := cells) (slots := slots) (below := below) (meth := meth) (e := e) ⟨hx, hb, hml, hown, hts⟩ hM ⟨call_G hts hg.1 hg.2.2.1 hg.2.2.2 hd hF hL, hts _ hg.2.1⟩ ⟨PX_blind _ _ _ _, hat⟩ rfl hAs hsz hst (lv_room hrest) hdg ⟨hc, hs⟩
  refine va_callv hrun hS (fun q _ h => hFc q h) hFc (fun u t H1 locs1 ht hvm hw hB hz hk hS1 => ?_)
  obtain ⟨w1, hE, hP1, hD1⟩ := hB
  rw [ht] at hP1
  obtain ⟨hP2, hD2⟩ := va_join hP hD isC isR hC hR hn hdis hk hFc hP1 hD1
  exact kk w1 H1 locs1 hE hP2 hD2 hS1
theorem xS_r {p : Program} {l : Launch} {e : Env} {R : Room} {s : State} {m : MethodId} {args : Array Value} {below : List Frame} {meth : Method} {c : Code} {Q : State → Prop} {G : GX} {A : Nat → Prop} {H : Heap} {locs : List Loc} {cells slots : Nat} {cc : ByteArray} {pc : Nat} {ls : Array Slot} {rest : List Value} {x0 y : MethodName} {nL mL F L idx : Nat} {b : ByteArray} {ret0 ret : Option FieldType} {K Z : Nat} {ws wc wr : va_W} {As st0 : List Value} {E : Nat → va_W → Prop} 
    (C0 : Cx p s m args meth c cc nL x0 ret0) (hK : KX G s) (hT : TX G A s) (hA : ∀ q, s.heap.size ≤ q → A q) (hP : va_P G.1 classes ws H) (hD : va_D A ws) (hS : va_S A s.heap H locs) (hsz : ls.size = nL)
    (hM : Met l y (wd y b mL ret) { frames := F, cells := K, slots := Z, locals := L } (PX G As H.size wc) (QXr G E (va_A wc H.size)) K Z (va_A wc H.size))
    (hg : Cond.methodLink x0.cls idx y ∈ lwG ∧ Cond.static y ∈ lwG ∧ Cond.initialized y.cls ∈ lwG ∧ Cond.code y b mL ret ∈ lwG) (n : Nat) (hAs : As.length = n) (hd : y.cls ≠ "java/lang/invoke/MethodHandle" ∧ y.cls ≠ "java/lang/invoke/VarHandle" ∧ (parseMethodDescriptor y.desc).map (fun d => d.parameters.length) = some n) 
    (hF : F + 1 ≤ R.frames) (hL : 8 + (mL + 11) + L ≤ R.locals) (isC isR : List Nat) (hC : isC.map (fun i => ws[i]?) = wc.map some) (hR : isR.map (fun i => ws[i]?) = wr.map some) (hnC : va_nd isC = true) (hn : va_nd isR = true) (hdis : ∀ i ∈ isR, i ∉ isC)
    (hst : st0 = As.reverse ++ rest) (hrest : (rest.map fun v => v.category).sum ≤ 8) (hdg : decode cc pc = .ok (.invokestatic idx, 3)) (hc : cells + K ≤ R.cells) (hs : slots + Z ≤ R.slots)
    (kk : ∀ (ra : Nat) (w1 : va_W) (H1 : Heap) (locs1 : List Loc), E ra w1 → va_P G.1 classes (wr ++ w1) H1 → va_D A (wr ++ w1) → va_S A s.heap H1 locs1 → W p l e R s m args below meth c H1 locs1 (cells + K) (slots + Z) Q (F0 m (pc + 3) ls (.ref ra :: rest))) :
    W p l e R s m args below meth c H locs cells slots Q (F0 m pc ls st0) := by
  obtain ⟨hx, hb, hml, hown, hts, hr, hlocks, hin⟩ := id C0
  have hFc := va_free (wc := wc) hD hS hA isC hC
  have hat := PX_at (av := As) hK hT hA hP hD hS isC hC hnC
  have hrun := va_runS (As := As) (rest := rest) (g := F0 m pc ls st0) (H := H) (locs := locs) (cells := cells) (slots := slots) (below := below) (meth := meth) (e := e) ⟨hx, hb, hml, hown, hts⟩ hM ⟨call_G hts hg.1 hg.2.2.1 hg.2.2.2 hd hF hL, hts _ hg.2.1⟩ ⟨PX_blind _ _ _ _, hat⟩ rfl hAs hsz hst (lv_room hrest) hdg ⟨hc, hs⟩
  refine va_callr hrun hS (fun q _ h => hFc q h) hFc (fun u ra t H1 locs1 ht hvm hw hB hz hk hS1 => ?_)
  obtain ⟨w1, hE, hP1, hD1⟩ := hB
  rw [ht] at hP1
  obtain ⟨hP2, hD2⟩ := va_join hP hD isC isR hC hR hn hdis hk hFc hP1 hD1
  exact kk ra w1 H1 locs1 hE hP2 hD2 hS1
theorem xS_r0 {p : Program} {l : Launch} {e : Env} {R : Room} {s : State} {m : MethodId} {args : Array Value} {below : List Frame} {meth : Method} {c : Code} {Q : State → Prop} {G : GX} {A : Nat → Prop} {H : Heap} {locs : List Loc} {cells slots : Nat} {cc : ByteArray} {pc : Nat} {ls : Array Slot} {rest : List Value} {x0 y : MethodName} {nL mL F L idx : Nat} {b : ByteArray} {ret0 ret : Option FieldType} {ws wc wr : va_W} {As st0 : List Value} {E : Nat → va_W → Prop} 
    (C0 : Cx p s m args meth c cc nL x0 ret0) (hK : KX G s) (hT : TX G A s) (hA : ∀ q, s.heap.size ≤ q → A q) (hP : va_P G.1 classes ws H) (hD : va_D A ws) (hS : va_S A s.heap H locs) (hsz : ls.size = nL)
    (hM : Met l y (wd y b mL ret) { frames := F, cells := 0, slots := 0, locals := L } (PX G As H.size wc) (QXr G E (va_A wc H.size)) 0 0 (va_A wc H.size))
    (hg : Cond.methodLink x0.cls idx y ∈ lwG ∧ Cond.static y ∈ lwG ∧ Cond.initialized y.cls ∈ lwG ∧ Cond.code y b mL ret ∈ lwG) (n : Nat) (hAs : As.length = n) (hd : y.cls ≠ "java/lang/invoke/MethodHandle" ∧ y.cls ≠ "java/lang/invoke/VarHandle" ∧ (parseMethodDescriptor y.desc).map (fun d => d.parameters.length) = some n) 
    (hF : F + 1 ≤ R.frames) (hL : 8 + (mL + 11) + L ≤ R.locals) (isC isR : List Nat) (hC : isC.map (fun i => ws[i]?) = wc.map some) (hR : isR.map (fun i => ws[i]?) = wr.map some) (hnC : va_nd isC = true) (hn : va_nd isR = true) (hdis : ∀ i ∈ isR, i ∉ isC)
    (hst : st0 = As.reverse ++ rest) (hrest : (rest.map fun v => v.category).sum ≤ 8) (hdg : decode cc pc = .ok (.invokestatic idx, 3)) (hc : cells + 0 ≤ R.cells) (hs : slots + 0 ≤ R.slots)
    (kk : ∀ (ra : Nat) (w1 : va_W) (H1 : Heap) (locs1 : List Loc), E ra w1 → va_P G.1 classes (wr ++ w1) H1 → va_D A (wr ++ w1) → va_S A s.heap H1 locs1 → W p l e R s m args below meth c H1 locs1 cells slots Q (F0 m (pc + 3) ls (.ref ra :: rest))) :
    W p l e R s m args below meth c H locs cells slots Q (F0 m pc ls st0) := by
  obtain ⟨hx, hb, hml, hown, hts, hr, hlocks, hin⟩ := id C0
  have hFc := va_free (wc := wc) hD hS hA isC hC
  have hat := PX_at (av := As) hK hT hA hP hD hS isC hC hnC
  have hrun := va_runS (As := As) (rest := rest) (g := F0 m pc ls st0) (H := H) (locs := locs) (cells := cells) (slots := slots) (below := below) (meth := meth) (e := e) ⟨hx, hb, hml, hown, hts⟩ hM ⟨call_G hts hg.1 hg.2.2.1 hg.2.2.2 hd hF hL, hts _ hg.2.1⟩ ⟨PX_blind _ _ _ _, hat⟩ rfl hAs hsz hst (lv_room hrest) hdg ⟨hc, hs⟩
  refine va_callr hrun hS (fun q _ h => hFc q h) hFc (fun u ra t H1 locs1 ht hvm hw hB hz hk hS1 => ?_)
  obtain ⟨w1, hE, hP1, hD1⟩ := hB
  rw [ht] at hP1
  obtain ⟨hP2, hD2⟩ := va_join hP hD isC isR hC hR hn hdis hk hFc hP1 hD1
  exact kk ra w1 H1 locs1 hE hP2 hD2 hS1
theorem xI_v {p : Program} {l : Launch} {e : Env} {R : Room} {s : State} {m : MethodId} {args : Array Value} {below : List Frame} {meth : Method} {c : Code} {Q : State → Prop} {G : GX} {A : Nat → Prop} {H : Heap} {locs : List Loc} {cells slots : Nat} {cc : ByteArray} {pc : Nat} {ls : Array Slot} {rest : List Value} {x0 y : MethodName} {nL mL F L idx : Nat} {b : ByteArray} {ret0 : Option FieldType} {K Z : Nat} {ws wc wr : va_W} {As st0 : List Value} {a : Nat} {E : va_W → Prop} 
    (C0 : Cx p s m args meth c cc nL x0 ret0) (hK : KX G s) (hT : TX G A s) (hA : ∀ q, s.heap.size ≤ q → A q) (hP : va_P G.1 classes ws H) (hD : va_D A ws) (hS : va_S A s.heap H locs) (hsz : ls.size = nL)
    (hM : Met l y (wd y b mL none) { frames := F, cells := K, slots := Z, locals := L } (PX G (.ref a :: As) H.size wc) (QXv G E (va_A wc H.size)) K Z (va_A wc H.size))
    (hg : Cond.methodLink x0.cls idx y ∈ lwG ∧ Cond.instanceMethod y ∈ lwG ∧ Cond.initialized y.cls ∈ lwG ∧ Cond.code y b mL none ∈ lwG) (n : Nat) (hAs : As.length = n) (hd : y.cls ≠ "java/lang/invoke/MethodHandle" ∧ y.cls ≠ "java/lang/invoke/VarHandle" ∧ (parseMethodDescriptor y.desc).map (fun d => d.parameters.length) = some n) (hy1 : y.name = "<init>") 
    (hF : F + 1 ≤ R.frames) (hL : 8 + (mL + 11) + L ≤ R.locals) (isC isR : List Nat) (hC : isC.map (fun i => ws[i]?) = wc.map some) (hR : isR.map (fun i => ws[i]?) = wr.map some) (hnC : va_nd isC = true) (hn : va_nd isR = true) (hdis : ∀ i ∈ isR, i ∉ isC)
    (hst : st0 = As.reverse ++ .ref a :: rest) (hrest : (rest.map fun v => v.category).sum ≤ 8) (hdg : decode cc pc = .ok (.invokespecial idx, 3)) (hc : cells + K ≤ R.cells) (hs : slots + Z ≤ R.slots)
    (kk : ∀ (w1 : va_W) (H1 : Heap) (locs1 : List Loc), E w1 → va_P G.1 classes (wr ++ w1) H1 → va_D A (wr ++ w1) → va_S A s.heap H1 locs1 → W p l e R s m args below meth c H1 locs1 (cells + K) (slots + Z) Q (F0 m (pc + 3) ls (rest))) :
    W p l e R s m args below meth c H locs cells slots Q (F0 m pc ls st0) := by
  obtain ⟨hx, hb, hml, hown, hts, hr, hlocks, hin⟩ := id C0
  have hFc := va_free (wc := wc) hD hS hA isC hC
  have hat := PX_at (av := (.ref a :: As)) hK hT hA hP hD hS isC hC hnC
  have hrun := va_runI (As := As) (rest := rest) (g := F0 m pc ls st0) (H := H) (locs := locs) (cells := cells) (slots := slots) (below := below) (meth := meth) (e := e) ⟨hx, hb, hml, hown, hts⟩ hM ⟨call_G hts hg.1 hg.2.2.1 hg.2.2.2 hd hF hL, hy1, hts _ hg.2.1⟩ ⟨PX_blind _ _ _ _, hat⟩ rfl hAs hsz hst (lv_room hrest) hdg ⟨hc, hs⟩
  refine va_callv hrun hS (fun q _ h => hFc q h) hFc (fun u t H1 locs1 ht hvm hw hB hz hk hS1 => ?_)
  obtain ⟨w1, hE, hP1, hD1⟩ := hB
  rw [ht] at hP1
  obtain ⟨hP2, hD2⟩ := va_join hP hD isC isR hC hR hn hdis hk hFc hP1 hD1
  exact kk w1 H1 locs1 hE hP2 hD2 hS1
theorem xI_v0 {p : Program} {l : Launch} {e : Env} {R : Room} {s : State} {m : MethodId} {args : Array Value} {below : List Frame} {meth : Method} {c : Code} {Q : State → Prop} {G : GX} {A : Nat → Prop} {H : Heap} {locs : List Loc} {cells slots : Nat} {cc : ByteArray} {pc : Nat} {ls : Array Slot} {rest : List Value} {x0 y : MethodName} {nL mL F L idx : Nat} {b : ByteArray} {ret0 : Option FieldType} {ws wc wr : va_W} {As st0 : List Value} {a : Nat} {E : va_W → Prop} 
    (C0 : Cx p s m args meth c cc nL x0 ret0) (hK : KX G s) (hT : TX G A s) (hA : ∀ q, s.heap.size ≤ q → A q) (hP : va_P G.1 classes ws H) (hD : va_D A ws) (hS : va_S A s.heap H locs) (hsz : ls.size = nL)
    (hM : Met l y (wd y b mL none) { frames := F, cells := 0, slots := 0, locals := L } (PX G (.ref a :: As) H.size wc) (QXv G E (va_A wc H.size)) 0 0 (va_A wc H.size))
    (hg : Cond.methodLink x0.cls idx y ∈ lwG ∧ Cond.instanceMethod y ∈ lwG ∧ Cond.initialized y.cls ∈ lwG ∧ Cond.code y b mL none ∈ lwG) (n : Nat) (hAs : As.length = n) (hd : y.cls ≠ "java/lang/invoke/MethodHandle" ∧ y.cls ≠ "java/lang/invoke/VarHandle" ∧ (parseMethodDescriptor y.desc).map (fun d => d.parameters.length) = some n) (hy1 : y.name = "<init>") 
    (hF : F + 1 ≤ R.frames) (hL : 8 + (mL + 11) + L ≤ R.locals) (isC isR : List Nat) (hC : isC.map (fun i => ws[i]?) = wc.map some) (hR : isR.map (fun i => ws[i]?) = wr.map some) (hnC : va_nd isC = true) (hn : va_nd isR = true) (hdis : ∀ i ∈ isR, i ∉ isC)
    (hst : st0 = As.reverse ++ .ref a :: rest) (hrest : (rest.map fun v => v.category).sum ≤ 8) (hdg : decode cc pc = .ok (.invokespecial idx, 3)) (hc : cells + 0 ≤ R.cells) (hs : slots + 0 ≤ R.slots)
    (kk : ∀ (w1 : va_W) (H1 : Heap) (locs1 : List Loc), E w1 → va_P G.1 classes (wr ++ w1) H1 → va_D A (wr ++ w1) → va_S A s.heap H1 locs1 → W p l e R s m args below meth c H1 locs1 cells slots Q (F0 m (pc + 3) ls (rest))) :
    W p l e R s m args below meth c H locs cells slots Q (F0 m pc ls st0) := by
  obtain ⟨hx, hb, hml, hown, hts, hr, hlocks, hin⟩ := id C0
  have hFc := va_free (wc := wc) hD hS hA isC hC
  have hat := PX_at (av := (.ref a :: As)) hK hT hA hP hD hS isC hC hnC
  have hrun := va_runI (As := As) (rest := rest) (g := F0 m pc ls st0) (H := H) (locs := locs) (cells := cells) (slots := slots) (below := below) (meth := meth) (e := e) ⟨hx, hb, hml, hown, hts⟩ hM ⟨call_G hts hg.1 hg.2.2.1 hg.2.2.2 hd hF hL, hy1, hts _ hg.2.1⟩ ⟨PX_blind _ _ _ _, hat⟩ rfl hAs hsz hst (lv_room hrest) hdg ⟨hc, hs⟩
  refine va_callv hrun hS (fun q _ h => hFc q h) hFc (fun u t H1 locs1 ht hvm hw hB hz hk hS1 => ?_)
  obtain ⟨w1, hE, hP1, hD1⟩ := hB
  rw [ht] at hP1
  obtain ⟨hP2, hD2⟩ := va_join hP hD isC isR hC hR hn hdis hk hFc hP1 hD1
  exact kk w1 H1 locs1 hE hP2 hD2 hS1
theorem x_vret {p : Program} {l : Launch} {e : Env} {R : Room} {s : State} {m : MethodId} {args : Array Value} {below : List Frame} {meth : Method} {c : Code} {Q : State → Prop} {G : GX} {A : Nat → Prop} {H : Heap} {locs : List Loc} {cells slots : Nat} {cc : ByteArray} {pc : Nat} {ls : Array Slot} {y0 : MethodName} {nL K Z : Nat} {ws : va_W} {E : va_W → Prop} 
    (C0 : Cx p s m args meth c cc nL y0 none) (hQ : Q = MQ below (QXv G E A) args s K Z A) (hP : va_P G.1 classes ws H) (hD : va_D A ws) (hS : va_S A s.heap H locs) (hE : E ws) (hk : cells ≤ K) (hz : slots ≤ Z) (hdg : decode cc pc = .ok (.return_, 1)) :
    W p l e R s m args below meth c H locs cells slots Q (F0 m pc ls []) := by
  obtain ⟨hx, hb, hml, hown, hts, hr, hlocks, hin⟩ := C0
  rw [hQ]
  refine W.widen (k := K) (n := Z) hk hz ?_
  exact W.vret hx hb hr (fun t ht hW => ⟨⟨(), rfl, trivial, ws, hE, by rw [ht]; exact hP, hD⟩, hS.F ht⟩) hS.2.2 hdg
theorem x_iret {p : Program} {l : Launch} {e : Env} {R : Room} {s : State} {m : MethodId} {args : Array Value} {below : List Frame} {meth : Method} {c : Code} {Q : State → Prop} {G : GX} {A : Nat → Prop} {H : Heap} {locs : List Loc} {cells slots : Nat} {cc : ByteArray} {pc : Nat} {ls : Array Slot} {y0 : MethodName} {nL K Z : Nat} {ws : va_W} {v : Int32} {E : va_W → Prop} 
    (C0 : Cx p s m args meth c cc nL y0 (some .int)) (hQ : Q = MQ below (QXi G v E A) args s K Z A) (hP : va_P G.1 classes ws H) (hD : va_D A ws) (hS : va_S A s.heap H locs) (hE : E ws) (hk : cells ≤ K) (hz : slots ≤ Z) (hdg : decode cc pc = .ok (.ireturn, 1)) :
    W p l e R s m args below meth c H locs cells slots Q (F0 m pc ls [.int v]) := by
  obtain ⟨hx, hb, hml, hown, hts, hr, hlocks, hin⟩ := C0
  rw [hQ]
  refine W.widen (k := K) (n := Z) hk hz ?_
  exact W.iret (v := v) hx hb hr (fun t ht hW => ⟨⟨v, (), rfl, rfl, ws, hE, by rw [ht]; exact hP, hD⟩, hS.F ht⟩) hS.2.2 hdg
theorem x_zret {p : Program} {l : Launch} {e : Env} {R : Room} {s : State} {m : MethodId} {args : Array Value} {below : List Frame} {meth : Method} {c : Code} {Q : State → Prop} {G : GX} {A : Nat → Prop} {H : Heap} {locs : List Loc} {cells slots : Nat} {cc : ByteArray} {pc : Nat} {ls : Array Slot} {y0 : MethodName} {nL K Z : Nat} {ws : va_W} {v : Int32} {E : va_W → Prop} 
    (C0 : Cx p s m args meth c cc nL y0 (some .boolean)) (hQ : Q = MQ below (QXi G v E A) args s K Z A) (hnz : narrow .boolean (.int v) = .int v) (hP : va_P G.1 classes ws H) (hD : va_D A ws) (hS : va_S A s.heap H locs) (hE : E ws) (hk : cells ≤ K) (hz : slots ≤ Z) (hdg : decode cc pc = .ok (.ireturn, 1)) :
    W p l e R s m args below meth c H locs cells slots Q (F0 m pc ls [.int v]) := by
  obtain ⟨hx, hb, hml, hown, hts, hr, hlocks, hin⟩ := C0
  rw [hQ]
  refine W.widen (k := K) (n := Z) hk hz ?_
  exact W.zret (v := v) hx hb hr hnz (fun t ht hW => ⟨⟨v, (), rfl, rfl, ws, hE, by rw [ht]; exact hP, hD⟩, hS.F ht⟩) hS.2.2 hdg
theorem x_lret {p : Program} {l : Launch} {e : Env} {R : Room} {s : State} {m : MethodId} {args : Array Value} {below : List Frame} {meth : Method} {c : Code} {Q : State → Prop} {G : GX} {A : Nat → Prop} {H : Heap} {locs : List Loc} {cells slots : Nat} {cc : ByteArray} {pc : Nat} {ls : Array Slot} {y0 : MethodName} {nL K Z : Nat} {ws : va_W} {v : Int64} {E : va_W → Prop} 
    (C0 : Cx p s m args meth c cc nL y0 (some .long)) (hQ : Q = MQ below (QXl G v E A) args s K Z A) (hP : va_P G.1 classes ws H) (hD : va_D A ws) (hS : va_S A s.heap H locs) (hE : E ws) (hk : cells ≤ K) (hz : slots ≤ Z) (hdg : decode cc pc = .ok (.lreturn, 1)) :
    W p l e R s m args below meth c H locs cells slots Q (F0 m pc ls [.long v]) := by
  obtain ⟨hx, hb, hml, hown, hts, hr, hlocks, hin⟩ := C0
  rw [hQ]
  refine W.widen (k := K) (n := Z) hk hz ?_
  exact W.lret (v := v) hx hb hr (fun t ht hW => ⟨⟨v, (), rfl, rfl, ws, hE, by rw [ht]; exact hP, hD⟩, hS.F ht⟩) hS.2.2 hdg
theorem x_aret {p : Program} {l : Launch} {e : Env} {R : Room} {s : State} {m : MethodId} {args : Array Value} {below : List Frame} {meth : Method} {c : Code} {Q : State → Prop} {G : GX} {A : Nat → Prop} {H : Heap} {locs : List Loc} {cells slots : Nat} {cc : ByteArray} {pc : Nat} {ls : Array Slot} {y0 : MethodName} {nL K Z : Nat} {ety : FieldType} {ws : va_W} {a : Nat} {E : Nat → va_W → Prop} 
    (C0 : Cx p s m args meth c cc nL y0 (some (.array ety))) (hQ : Q = MQ below (QXr G E A) args s K Z A) (hP : va_P G.1 classes ws H) (hD : va_D A ws) (hS : va_S A s.heap H locs) (hE : E a ws) (hk : cells ≤ K) (hz : slots ≤ Z) (hdg : decode cc pc = .ok (.areturn, 1)) :
    W p l e R s m args below meth c H locs cells slots Q (F0 m pc ls [.ref a]) := by
  obtain ⟨hx, hb, hml, hown, hts, hr, hlocks, hin⟩ := C0
  rw [hQ]
  refine W.widen (k := K) (n := Z) hk hz ?_
  exact W.aret (v := .ref a) hx hb hr (Or.inr ⟨_, rfl⟩) (Or.inr ⟨_, rfl⟩) (fun t ht hW => ⟨⟨(), a, rfl, trivial, ws, hE, by rw [ht]; exact hP, hD⟩, hS.F ht⟩) hS.2.2 hdg
theorem y_iast {p : Program} {l : Launch} {e : Env} {R : Room} {s : State} {m : MethodId} {args : Array Value} {below : List Frame} {meth : Method} {c : Code} {Q : State → Prop} {A : Nat → Prop} {H : Heap} {locs : List Loc} {cells slots : Nat} {cc : ByteArray} {pc : Nat} {ls : Array Slot} {rest : List Value} {D : va_G} {cl : List vw_C} {tys : List (ClassId × FieldType)} {ws : va_W} {H0 : Heap} {a : Nat} (hexec : p.tables.exec = Jvm.exec) (hb : c.code = cc) (hK : va_K D cl tys s) (hP : va_P D cl ws H) (hD : va_D A ws) (hS : va_S A H0 H locs) (q0 t0 : Nat) {cA : ClassId} {n : Nat} {f : Nat → Int32} (ha : ws[q0]? = some (a, .inl (cA, n, .inl f))) (ht : tys[t0]? = some (cA, .int)) {i : Int32} {x : Int32} (hin : vp_in i n) (hdg : decode cc pc = .ok (.iastore, 1))
    (kk : ∀ (g : Nat → Int32) (H1 : Heap) (locs1 : List Loc), g = upd f i.toNatClampNeg x → va_P D cl (ws.set q0 (a, .inl (cA, n, .inl g))) H1 → va_D A (ws.set q0 (a, .inl (cA, n, .inl g))) → va_S A H0 H1 locs1 → W p l e R s m args below meth c H1 locs1 cells slots Q (F0 m (pc + 1) ls rest)) :
    W p l e R s m args below meth c H locs cells slots Q (F0 m pc ls (.int x :: .int i :: .ref a :: rest)) :=
  va_iast hexec hb hK hP hD hS q0 t0 ha ht hin hdg (fun H1 locs1 h1 h2 h3 => kk _ H1 locs1 rfl h1 h2 h3)
theorem y_bast {p : Program} {l : Launch} {e : Env} {R : Room} {s : State} {m : MethodId} {args : Array Value} {below : List Frame} {meth : Method} {c : Code} {Q : State → Prop} {A : Nat → Prop} {H : Heap} {locs : List Loc} {cells slots : Nat} {cc : ByteArray} {pc : Nat} {ls : Array Slot} {rest : List Value} {D : va_G} {cl : List vw_C} {tys : List (ClassId × FieldType)} {ws : va_W} {H0 : Heap} {a : Nat} (hexec : p.tables.exec = Jvm.exec) (hb : c.code = cc) (hK : va_K D cl tys s) (hP : va_P D cl ws H) (hD : va_D A ws) (hS : va_S A H0 H locs) (q0 t0 : Nat) {cA : ClassId} {n : Nat} {f : Nat → Int32} (ha : ws[q0]? = some (a, .inl (cA, n, .inl f))) (ht : tys[t0]? = some (cA, .byte)) {i : Int32} {x : Int32} (hin : vp_in i n) (hdg : decode cc pc = .ok (.bastore, 1))
    (kk : ∀ (g : Nat → Int32) (H1 : Heap) (locs1 : List Loc), g = upd f i.toNatClampNeg (vp_nar .byte x) → va_P D cl (ws.set q0 (a, .inl (cA, n, .inl g))) H1 → va_D A (ws.set q0 (a, .inl (cA, n, .inl g))) → va_S A H0 H1 locs1 → W p l e R s m args below meth c H1 locs1 cells slots Q (F0 m (pc + 1) ls rest)) :
    W p l e R s m args below meth c H locs cells slots Q (F0 m pc ls (.int x :: .int i :: .ref a :: rest)) :=
  va_bast hexec hb hK hP hD hS q0 t0 ha ht hin hdg (fun H1 locs1 h1 h2 h3 => kk _ H1 locs1 rfl h1 h2 h3)
theorem y_last {p : Program} {l : Launch} {e : Env} {R : Room} {s : State} {m : MethodId} {args : Array Value} {below : List Frame} {meth : Method} {c : Code} {Q : State → Prop} {A : Nat → Prop} {H : Heap} {locs : List Loc} {cells slots : Nat} {cc : ByteArray} {pc : Nat} {ls : Array Slot} {rest : List Value} {D : va_G} {cl : List vw_C} {tys : List (ClassId × FieldType)} {ws : va_W} {H0 : Heap} {a : Nat} (hexec : p.tables.exec = Jvm.exec) (hb : c.code = cc) (hK : va_K D cl tys s) (hP : va_P D cl ws H) (hD : va_D A ws) (hS : va_S A H0 H locs) (q0 t0 : Nat) {cA : ClassId} {n : Nat} {f : Nat → Int64} (ha : ws[q0]? = some (a, .inl (cA, n, .inr (.inl f)))) (ht : tys[t0]? = some (cA, .long)) {i : Int32} {x : Int64} (hin : vp_in i n) (hdg : decode cc pc = .ok (.lastore, 1))
    (kk : ∀ (g : Nat → Int64) (H1 : Heap) (locs1 : List Loc), g = vp_updL f i.toNatClampNeg x → va_P D cl (ws.set q0 (a, .inl (cA, n, .inr (.inl g)))) H1 → va_D A (ws.set q0 (a, .inl (cA, n, .inr (.inl g)))) → va_S A H0 H1 locs1 → W p l e R s m args below meth c H1 locs1 cells slots Q (F0 m (pc + 1) ls rest)) :
    W p l e R s m args below meth c H locs cells slots Q (F0 m pc ls (.long x :: .int i :: .ref a :: rest)) :=
  va_last hexec hb hK hP hD hS q0 t0 ha ht hin hdg (fun H1 locs1 h1 h2 h3 => kk _ H1 locs1 rfl h1 h2 h3)
theorem y_copyb {p : Program} {l : Launch} {e : Env} {R : Room} {s : State} {m : MethodId} {args : Array Value} {below : List Frame} {meth : Method} {c : Code} {Q : State → Prop} {A : Nat → Prop} {H : Heap} {locs : List Loc} {cells slots : Nat} {cc : ByteArray} {pc : Nat} {ls : Array Slot} {rest : List Value} {D : va_G} {cl : List vw_C} {tys : List (ClassId × FieldType)} {ws : va_W} {H0 : Heap} {a : Nat} (hexec : p.tables.exec = Jvm.exec) (hb : c.code = cc) (hml : c.maxLocals = ls.size) {own : String} {index : Nat} (hown : s.vm.findClass own = some m.cls) (hlink : (Cond.methodLink own index arraycopyName).before args s = true) (hnat : (Cond.native arraycopyName).before args s = true) (hstat : (Cond.static arraycopyName).before args s = true) (hini : (Cond.initialized "java/lang/System").before args s = true)
    (hK : va_K D cl tys s) (hP : va_P D cl ws H) (hD : va_D A ws) (hS : va_S A H0 H locs) (q0 q1 t0 t1 : Nat) {a0 : Nat} {c0 c1 : ClassId} {n0 n1 : Nat} {f g : Nat → Int32} (ha0 : ws[q0]? = some (a0, .inl (c0, n0, .inl f))) (ha1 : ws[q1]? = some (a, .inl (c1, n1, .inl g))) (ht0 : tys[t0]? = some (c0, .byte)) (ht1 : tys[t1]? = some (c1, .byte)) {sp dp n : Int32}
    (hz : ¬ sp < 0 ∧ ¬ dp < 0 ∧ ¬ n < 0 ∧ sp.toNatClampNeg + n.toNatClampNeg ≤ n0 ∧ dp.toNatClampNeg + n.toNatClampNeg ≤ n1 ∧ ∀ i, i < n.toNatClampNeg → fits .byte (.int (f (sp.toNatClampNeg + i))) = true) (hframes : 1 ≤ R.frames) (hlocals : (rest.map fun v => v.category).sum + (nativeFrameWords "java/lang/System" "arraycopy" 5 + 11) ≤ R.locals) (hdg : decode cc pc = .ok (.invokestatic index, 3))
    (kk : ∀ (g1 : Nat → Int32) (H1 : Heap) (locs1 : List Loc), g1 = va_cpy f g sp.toNatClampNeg dp.toNatClampNeg n.toNatClampNeg → va_P D cl (ws.set q1 (a, .inl (c1, n1, .inl g1))) H1 → va_D A (ws.set q1 (a, .inl (c1, n1, .inl g1))) → va_S A H0 H1 locs1 → W p l e R s m args below meth c H1 locs1 cells slots Q (F0 m (pc + 3) ls rest)) :
    W p l e R s m args below meth c H locs cells slots Q (F0 m pc ls (.int n :: .int dp :: .ref a :: .int sp :: .ref a0 :: rest)) :=
  va_copyi hexec hb hml hown hlink hnat hstat hini hK hP hD hS q0 q1 t0 t1 ha0 ha1 ht0 ht1 rfl hz.1 hz.2.1 hz.2.2.1 hz.2.2.2.1 hz.2.2.2.2.1 hz.2.2.2.2.2 hframes hlocals hdg (fun H1 locs1 h1 h2 h3 => kk _ H1 locs1 rfl h1 h2 h3)
theorem y_newaB {p : Program} {l : Launch} {e : Env} {R : Room} {s : State} {m : MethodId} {args : Array Value} {below : List Frame} {meth : Method} {c : Code} {Q : State → Prop} {G : GX} {A : Nat → Prop} {H : Heap} {locs : List Loc} {cells slots : Nat} {cc : ByteArray} {pc : Nat} {ls : Array Slot} {rest : List Value} {ws : va_W} (hexec : p.tables.exec = Jvm.exec) (hb : c.code = cc) (harr : (Cond.arrayClass .byte).before args s = true) (hK : KX G s) (hP : va_P G.1 classes ws H) (hD : va_D A ws) (hS : va_S A s.heap H locs) (hA : ∀ q, s.heap.size ≤ q → A q) {n : Int32} {N' : Nat} (hn : ¬ n < 0) (hN : n.toNatClampNeg = N') (hbytes : N' ≤ 60000000) (hcells : cells + 1 ≤ R.cells) (hslots : slots + N' ≤ R.slots) (hdg : decode cc pc = .ok (.newarray .byte, 2))
    (kk : ∀ (q : Nat) (H1 : Heap), va_P G.1 classes (ws ++ [(q, .inl (G.2.1 0, N', .inl (fun _ => 0)))]) H1 → va_D A (ws ++ [(q, .inl (G.2.1 0, N', .inl (fun _ => 0)))]) → va_S A s.heap H1 locs → W p l e R s m args below meth c H1 locs (cells + 1) (slots + N') Q (F0 m (pc + 2) ls (.ref q :: rest))) :
    W p l e R s m args below meth c H locs cells slots Q (F0 m pc ls (.int n :: rest)) := by
  refine va_newa (atype := .byte) (ty := .byte) (a0 := (N', .inl (fun _ => 0))) hexec hb harr rfl hK hP hD hS hA (fun _ => rfl) hn hN (show N' * 1 ≤ 536870912 by omega) hcells hslots hdg (fun q cA H1 hK1 hP1 hD1 hS1 => ?_)
  have h1 : s.vm.findClass ("[" ++ (FieldType.byte).toString) = some cA := (hK1.2 3 (cA, .byte) rfl).2
  have h2 : s.vm.findClass ("[" ++ (FieldType.byte).toString) = some (G.2.1 0) := (hK.2 0 (G.2.1 0, .byte) rfl).2
  have h3 : cA = G.2.1 0 := Option.some.inj (h1.symm.trans h2)
  subst h3
  exact kk q H1 hP1 hD1 hS1
theorem y_newaI {p : Program} {l : Launch} {e : Env} {R : Room} {s : State} {m : MethodId} {args : Array Value} {below : List Frame} {meth : Method} {c : Code} {Q : State → Prop} {G : GX} {A : Nat → Prop} {H : Heap} {locs : List Loc} {cells slots : Nat} {cc : ByteArray} {pc : Nat} {ls : Array Slot} {rest : List Value} {ws : va_W} (hexec : p.tables.exec = Jvm.exec) (hb : c.code = cc) (harr : (Cond.arrayClass .int).before args s = true) (hK : KX G s) (hP : va_P G.1 classes ws H) (hD : va_D A ws) (hS : va_S A s.heap H locs) (hA : ∀ q, s.heap.size ≤ q → A q) {n : Int32} {N' : Nat} (hn : ¬ n < 0) (hN : n.toNatClampNeg = N') (hbytes : N' ≤ 60000000) (hcells : cells + 1 ≤ R.cells) (hslots : slots + N' ≤ R.slots) (hdg : decode cc pc = .ok (.newarray .int, 2))
    (kk : ∀ (q : Nat) (H1 : Heap), va_P G.1 classes (ws ++ [(q, .inl (G.2.1 1, N', .inl (fun _ => 0)))]) H1 → va_D A (ws ++ [(q, .inl (G.2.1 1, N', .inl (fun _ => 0)))]) → va_S A s.heap H1 locs → W p l e R s m args below meth c H1 locs (cells + 1) (slots + N') Q (F0 m (pc + 2) ls (.ref q :: rest))) :
    W p l e R s m args below meth c H locs cells slots Q (F0 m pc ls (.int n :: rest)) := by
  refine va_newa (atype := .int) (ty := .int) (a0 := (N', .inl (fun _ => 0))) hexec hb harr rfl hK hP hD hS hA (fun _ => rfl) hn hN (show N' * 4 ≤ 536870912 by omega) hcells hslots hdg (fun q cA H1 hK1 hP1 hD1 hS1 => ?_)
  have h1 : s.vm.findClass ("[" ++ (FieldType.int).toString) = some cA := (hK1.2 3 (cA, .int) rfl).2
  have h2 : s.vm.findClass ("[" ++ (FieldType.int).toString) = some (G.2.1 1) := (hK.2 1 (G.2.1 1, .int) rfl).2
  have h3 : cA = G.2.1 1 := Option.some.inj (h1.symm.trans h2)
  subst h3
  exact kk q H1 hP1 hD1 hS1
theorem y_newaJ {p : Program} {l : Launch} {e : Env} {R : Room} {s : State} {m : MethodId} {args : Array Value} {below : List Frame} {meth : Method} {c : Code} {Q : State → Prop} {G : GX} {A : Nat → Prop} {H : Heap} {locs : List Loc} {cells slots : Nat} {cc : ByteArray} {pc : Nat} {ls : Array Slot} {rest : List Value} {ws : va_W} (hexec : p.tables.exec = Jvm.exec) (hb : c.code = cc) (harr : (Cond.arrayClass .long).before args s = true) (hK : KX G s) (hP : va_P G.1 classes ws H) (hD : va_D A ws) (hS : va_S A s.heap H locs) (hA : ∀ q, s.heap.size ≤ q → A q) {n : Int32} {N' : Nat} (hn : ¬ n < 0) (hN : n.toNatClampNeg = N') (hbytes : N' ≤ 60000000) (hcells : cells + 1 ≤ R.cells) (hslots : slots + N' ≤ R.slots) (hdg : decode cc pc = .ok (.newarray .long, 2))
    (kk : ∀ (q : Nat) (H1 : Heap), va_P G.1 classes (ws ++ [(q, .inl (G.2.1 2, N', .inr (.inl (fun _ => 0))))]) H1 → va_D A (ws ++ [(q, .inl (G.2.1 2, N', .inr (.inl (fun _ => 0))))]) → va_S A s.heap H1 locs → W p l e R s m args below meth c H1 locs (cells + 1) (slots + N') Q (F0 m (pc + 2) ls (.ref q :: rest))) :
    W p l e R s m args below meth c H locs cells slots Q (F0 m pc ls (.int n :: rest)) := by
  refine va_newa (atype := .long) (ty := .long) (a0 := (N', .inr (.inl (fun _ => 0)))) hexec hb harr rfl hK hP hD hS hA (fun _ => rfl) hn hN (show N' * 8 ≤ 536870912 by omega) hcells hslots hdg (fun q cA H1 hK1 hP1 hD1 hS1 => ?_)
  have h1 : s.vm.findClass ("[" ++ (FieldType.long).toString) = some cA := (hK1.2 3 (cA, .long) rfl).2
  have h2 : s.vm.findClass ("[" ++ (FieldType.long).toString) = some (G.2.1 2) := (hK.2 2 (G.2.1 2, .long) rfl).2
  have h3 : cA = G.2.1 2 := Option.some.inj (h1.symm.trans h2)
  subst h3
  exact kk q H1 hP1 hD1 hS1

