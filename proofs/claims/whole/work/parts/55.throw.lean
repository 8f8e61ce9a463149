/-! Throwing (ours): a contract with two ends; the road to 'athrow'; a call that throws into a handler of the caller's own. -/
def FEt (first t : State) (L : List Loc) (k n : Nat) : Prop := first.WarmedH t.vm ∧ first.sameButNew ({ t with vm := first.vm } : State) L k n
def MetT (l : Launch) (y : MethodName) (ws : List Cond) (rm : Room) (Pc : Array Value → State → Prop) (Qc : Array Value → State → Outcome → State → Prop) (mc ms : Nat) (free : Addr → Prop) : Prop :=
  MetFree l y (headSpec ws rm) Pc (fun _ _ _ _ _ => True) (fun a st o t => Qc a st o t ∧ ∃ L, FEt st t L mc ms ∧ ∀ q ∈ L, free q.base)
def MT (below : List Frame) (Qc : Array Value → State → Outcome → State → Prop) (a : Array Value) (s : State) (mc ms : Nat) (free : Addr → Prop) : State → Prop := fun t =>
  ∃ o, t.status = .running ∧ Ended t below o ∧ Qc a s o t ∧ ∃ L, FEt s t L mc ms ∧ ∀ q ∈ L, free q.base
theorem MT_of {below : List Frame} {Qc Qd : Array Value → State → Outcome → State → Prop} {a : Array Value} {s t : State} {mc ms : Nat} {free : Addr → Prop} (h : MQ below Qc a s mc ms free t) (hq : ∀ o, Qc a s o t → Qd a s o t) : MT below Qd a s mc ms free t := by
  obtain ⟨o, h1, h2, h3, L, h4, h5⟩ := h
  exact ⟨o, h1, h2, hq o h3, L, h4.2, h5⟩
theorem W_post {p : Program} {l : Launch} {e : Env} {R : Room} {s : State} {m : MethodId} {args : Array Value} {below : List Frame} {meth : Method} {c : Code} {H : Heap} {locs : List Loc} {cells slots : Nat} {Q Q' : State → Prop} {g : JFrame} (hQ : ∀ t, Q t → Q' t)
    (k : W p l e R s m args below meth c H locs cells slots Q g) : W p l e R s m args below meth c H locs cells slots Q' g := by
  intro T hT X
  obtain ⟨t, a, b⟩ := k T hT X
  exact ⟨t, a, hQ t b⟩
theorem MetT_ofW {l : Launch} {y : MethodName} {ws ws' : List Cond} {rm : Room} {Pc : Array Value → State → Prop} {Qc : Array Value → State → Outcome → State → Prop} {mc ms : Nat} {free : Addr → Prop} {cc : ByteArray} {maxL : Nat} {ret : Option FieldType}
    (hy : plainName y.cls = true) (hw : ws = Cond.code y cc maxL ret :: ws')
    (body : ∀ p e s m args below meth c s₁, BodyLoose p l y (headSpec ws rm) cc maxL ret e s m args below meth c s₁ → c.maxLocals = maxL → Pc args s →
      W p l e (headSpec ws rm).room s m args below meth c s.heap [] 0 0 (MT below Qc args s mc ms free) (entryFrame m args maxL)) : MetT l y ws rm Pc Qc mc ms free := by
  refine MetFree.of_bodyS (code := cc) (maxLocals := maxL) (ret := ret) hy (fun args s m h hn => ?_) (fun p e s m args below meth c s₁ B hml hP _ => ?_)
  · have hc := atoms_spec (ws := ws) h (Cond.code y cc maxL ret) (by rw [hw]; exact List.mem_cons_self)
    obtain ⟨meth, c, h1, h2, h3, h4, h5, h6, -, -⟩ := Cond.code_spec hn hc
    exact ⟨meth, c, h1, h2, h3, h4, h5, h6⟩
  · have h0 : s₁.heap = s.heap := by rw [B.state]; rfl
    obtain ⟨t, a1, o, b1, b2, b3⟩ := body p e s m args below meth c s₁ B hml hP s₁ h0 (Stand.of_body B)
    exact ⟨t, o, a1, b1, b2, b3⟩
/-- two ends: 0, it has returned rv; else it has thrown a new object of class X -/
def QT (G : GX) (tg : Nat) (rv : Option Value) (X : String) (E : va_W → Prop) (A : Nat → Prop) : Array Value → State → Outcome → State → Prop := fun _ st o t =>
  ((tg = 0 ∧ o = .returned rv) ∨ (tg ≠ 0 ∧ ∃ (x : Nat) (ce : Cell), o = .threw x ∧ st.heap.size ≤ x ∧ t.heap[x]? = some ce ∧ ce.vm = .none ∧ st.vm.findClass X = some ce.cls)) ∧ BX G A E t ∧ va_F A st t
theorem MetT_in {l : Launch} {y : MethodName} {b : ByteArray} {nL : Nat} {ret : Option FieldType} {F L K Z : Nat} {G : GX} {av : List Value} {sz : Nat} {wc : va_W} {QQ : (Nat → Prop) → Array Value → State → Outcome → State → Prop} (hy : plainName y.cls = true) (hn : (lg_sl av).length ≤ nL)
    (body : ∀ (p : Program) (e : Env) (s : State) (m : MethodId) (below : List Frame) (meth : Method) (c : Code) (R : Room) (Q : State → Prop) (A : Nat → Prop) (ls : Array Slot), Cx p s m av.toArray meth c b nL y ret → c.exceptionTable.isEmpty = true → F ≤ R.frames → L ≤ R.locals → R.cells = K → R.slots = Z → va_P G.1 classes wc s.heap → KX G s → va_D A wc → TX G A s → (∀ q, s.heap.size ≤ q → A q) → va_S A s.heap s.heap [] → lv_has ls nL (lv_args 0 av) → Q = MT below (QQ A) av.toArray s K Z A →
      W p l e R s m av.toArray below meth c s.heap [] 0 0 Q (F0 m 0 ls [])) :
    MetT l y (wd y b nL ret) { frames := F, cells := K, slots := Z, locals := L } (PX G av sz wc) (QQ (va_A wc sz)) K Z (va_A wc sz) := by
  refine MetT_ofW (cc := b) (maxL := nL) (ret := ret) hy rfl ?_
  intro p e s m args below meth c s₁ B hml hv
  obtain ⟨rfl, rfl, hP, hK, hD, hT⟩ := hv
  have hts := atoms_spec (ws := wd y b nL ret) B.pre
  rw [lg_entry_eq]
  exact body p e s m below meth c _ _ (va_A wc s.heap.size) _ ⟨B.exec, B.bytes, hml, findClass_of_methodNamed B.named, fun w hw => hts w (List.mem_cons_of_mem _ hw), B.returns, B.notSynchronized, fun _ => (name_of_methodNamed B.named B.method).1⟩ (B.noHandlers (hts _ List.mem_cons_self)) (Nat.le_refl _) (Nat.le_refl _) rfl rfl hP hK hD.self hT (fun q h => Or.inr h) va_S.rf (lv_entry av hn) rfl
/-- with the tag 0 it is a contract that returns -/
theorem MetT_i {l : Launch} {y : MethodName} {ws : List Cond} {rm : Room} {Pc : Array Value → State → Prop} {G : GX} {tg : Nat} {v : Int32} {X : String} {E : va_W → Prop} {A : Nat → Prop} {K Z : Nat} {free : Addr → Prop} (h : MetT l y ws rm Pc (QT G tg (some (.int v)) X E A) K Z free) (h0 : tg = 0) : Met l y ws rm Pc (QXi G v E A) K Z free := by
  intro p e h1 h2 h3 s m args below hf ha hp hk
  obtain ⟨n, o, a, b, c, ⟨hd, hB, hF⟩, L, hE, hL⟩ := h p e h1 h2 h3 s m args below hf ha hp hk
  rcases hd with ⟨-, ho⟩ | ⟨hn, -⟩
  · exact ⟨n, o, a, b, c, ⟨⟨v, (), ho, rfl, hB⟩, hF⟩, L, ⟨⟨_, ho⟩, hE⟩, hL⟩
  · exact absurd h0 hn
theorem MetT_l {l : Launch} {y : MethodName} {ws : List Cond} {rm : Room} {Pc : Array Value → State → Prop} {G : GX} {tg : Nat} {v : Int64} {X : String} {E : va_W → Prop} {A : Nat → Prop} {K Z : Nat} {free : Addr → Prop} (h : MetT l y ws rm Pc (QT G tg (some (.long v)) X E A) K Z free) (h0 : tg = 0) : Met l y ws rm Pc (QXl G v E A) K Z free := by
  intro p e h1 h2 h3 s m args below hf ha hp hk
  obtain ⟨n, o, a, b, c, ⟨hd, hB, hF⟩, L, hE, hL⟩ := h p e h1 h2 h3 s m args below hf ha hp hk
  rcases hd with ⟨-, ho⟩ | ⟨hn, -⟩
  · exact ⟨n, o, a, b, c, ⟨⟨v, (), ho, rfl, hB⟩, hF⟩, L, ⟨⟨_, ho⟩, hE⟩, hL⟩
  · exact absurd h0 hn
theorem MetT_v {l : Launch} {y : MethodName} {ws : List Cond} {rm : Room} {Pc : Array Value → State → Prop} {G : GX} {tg : Nat} {X : String} {E : va_W → Prop} {A : Nat → Prop} {K Z : Nat} {free : Addr → Prop} (h : MetT l y ws rm Pc (QT G tg none X E A) K Z free) (h0 : tg = 0) : Met l y ws rm Pc (QXv G E A) K Z free := by
  intro p e h1 h2 h3 s m args below hf ha hp hk
  obtain ⟨n, o, a, b, c, ⟨hd, hB, hF⟩, L, hE, hL⟩ := h p e h1 h2 h3 s m args below hf ha hp hk
  rcases hd with ⟨-, ho⟩ | ⟨hn, -⟩
  · exact ⟨n, o, a, b, c, ⟨⟨(), ho, trivial, hB⟩, hF⟩, L, ⟨⟨_, ho⟩, hE⟩, hL⟩
  · exact absurd h0 hn
section
variable {p : Program} {l : Launch} {e : Env} {R : Room} {s : State} {m : MethodId} {args : Array Value} {below : List Frame} {meth : Method} {c : Code} {Q : State → Prop} {G : GX} {A : Nat → Prop} {H : Heap} {locs : List Loc} {cells slots : Nat} {cc : ByteArray} {pc : Nat} {ls : Array Slot} {rest : List Value}
theorem x_iretT {y0 : MethodName} {nL K Z : Nat} {ws : va_W} {v : Int32} {X : String} {E : va_W → Prop}
    (C0 : Cx p s m args meth c cc nL y0 (some .int)) (hQ : Q = MT below (QT G 0 (some (.int v)) X E A) args s K Z A) (hP : va_P G.1 classes ws H) (hD : va_D A ws) (hS : va_S A s.heap H locs) (hE : E ws) (hk : cells ≤ K) (hz : slots ≤ Z) (hdg : decode cc pc = .ok (.ireturn, 1)) :
    W p l e R s m args below meth c H locs cells slots Q (F0 m pc ls [.int v]) := by
  rw [hQ]
  refine W_post (fun t h => MT_of h (fun o q => ?_)) (x_iret (G := G) (E := E) (A := A) C0 rfl hP hD hS hE hk hz hdg)
  obtain ⟨⟨r, u, h1, h2, h3⟩, h4⟩ := q
  have h2 : r = v := h2
  exact ⟨Or.inl ⟨rfl, by rw [h1, h2]⟩, h3, h4⟩
theorem x_lretT {y0 : MethodName} {nL K Z : Nat} {ws : va_W} {v : Int64} {X : String} {E : va_W → Prop}
    (C0 : Cx p s m args meth c cc nL y0 (some .long)) (hQ : Q = MT below (QT G 0 (some (.long v)) X E A) args s K Z A) (hP : va_P G.1 classes ws H) (hD : va_D A ws) (hS : va_S A s.heap H locs) (hE : E ws) (hk : cells ≤ K) (hz : slots ≤ Z) (hdg : decode cc pc = .ok (.lreturn, 1)) :
    W p l e R s m args below meth c H locs cells slots Q (F0 m pc ls [.long v]) := by
  rw [hQ]
  refine W_post (fun t h => MT_of h (fun o q => ?_)) (x_lret (G := G) (E := E) (A := A) C0 rfl hP hD hS hE hk hz hdg)
  obtain ⟨⟨r, u, h1, h2, h3⟩, h4⟩ := q
  have h2 : r = v := h2
  exact ⟨Or.inl ⟨rfl, by rw [h1, h2]⟩, h3, h4⟩
theorem x_vretT {y0 : MethodName} {nL K Z : Nat} {ws : va_W} {X : String} {E : va_W → Prop}
    (C0 : Cx p s m args meth c cc nL y0 none) (hQ : Q = MT below (QT G 0 none X E A) args s K Z A) (hP : va_P G.1 classes ws H) (hD : va_D A ws) (hS : va_S A s.heap H locs) (hE : E ws) (hk : cells ≤ K) (hz : slots ≤ Z) (hdg : decode cc pc = .ok (.return_, 1)) :
    W p l e R s m args below meth c H locs cells slots Q (F0 m pc ls []) := by
  rw [hQ]
  refine W_post (fun t h => MT_of h (fun o q => ?_)) (x_vret (G := G) (E := E) (A := A) C0 rfl hP hD hS hE hk hz hdg)
  obtain ⟨⟨u, h1, h2, h3⟩, h4⟩ := q
  exact ⟨Or.inl ⟨rfl, h1⟩, h3, h4⟩
/-- the walk so far forgotten: it stands as one that begins here -/
abbrev reS (s T : State) : State := { s with heap := T.heap, slotsUsed := T.slotsUsed }
theorem St_re {T : State} (X : Stand p l e R s m args below meth c T locs cells slots) (hc : cells ≤ R.cells) (hs : slots ≤ R.slots) :
    Stand p l e { R with cells := R.cells - cells, slots := R.slots - slots } (reS s T) m args below meth c T [] 0 0 := by
  have hr := State.hasRoom_stack X.room
  have hh := State.hasRoom_heap X.room
  have hz := X.heapSize
  have hu := X.used
  have hd : T.heap.toList.drop T.heap.size = [] := List.drop_eq_nil_of_le (by simp)
  refine ⟨X.admits, X.cas, X.clock, X.frames, ?_, X.hears, X.method, X.code, X.here, X.tail, X.warmed, X.limits, X.bytes, X.same.1, Nat.le_refl _, Nat.le_refl _, ?_, ?_, fun a c h => ⟨c, h, rfl, rfl, fun _ _ => rfl⟩⟩
  · have e1 : (reS s T).localsInUse = s.localsInUse := rfl
    have e2 : (reS s T).frames = s.frames := rfl
    have e3 : (reS s T).me = s.me := rfl
    refine State.hasRoom_of (by rw [e3]; exact State.hasRoom_plain X.room) (by rw [e2]; exact hr.1) (by rw [e1]; exact hr.2.2.1) ?_ ?_ X.book (Eq.mp (congrArg (fun z => z + R.locals + stackMargin ≤ realStackBytes / 8) e1.symm) (State.hasRoom_real X.room))
    · show T.heap.size + (R.cells - cells) ≤ _
      omega
    · show T.slotsUsed + (R.slots - slots) ≤ _
      omega
  · show T.slotsUsed = T.slotsUsed + ((T.heap.toList.drop T.heap.size).map (·.slots.size)).sum
    rw [hd]
    rfl
  · show ((T.heap.toList.drop T.heap.size).map (·.slots.size)).sum ≤ 0
    rw [hd]
    exact Nat.le_refl _
theorem St_un {T U : State} {k n : Nat} (X : Stand p l e R s m args below meth c T locs cells slots) (h : (reS s T).sameButNew ({ U with vm := s.vm } : State) [] k n) : s.sameButNew ({ U with vm := s.vm } : State) locs (cells + k) (slots + n) := by
  have h2 : (T.setVm s.vm).sameButNew ({ U with vm := s.vm } : State) [] k n := by
    refine ⟨?_, h.2⟩
    have e1 := h.1
    have e2 := X.same.1
    generalize T.setVm s.vm = B at e2 ⊢
    rw [e2]
    show _ = { (s.setFrames B.frames).setFrames ({ U with vm := s.vm } : State).frames with heap := U.heap, slotsUsed := U.slotsUsed }
    rw [State.setFrames_setFrames]
    exact e1
  have h3 := X.same.trans h2
  rwa [List.append_nil] at h3
theorem z_words {U V : State} {nm d : String} (h : zX A U nm d) (hS : va_S A U.heap V.heap locs) (hv : V.vm = U.vm) : (Cond.isRef (.static "java/lang/Throwable" nm d)).before args V = true ∧ (Cond.laysStatic "java/lang/Throwable" nm d).before args V = true := by
  obtain ⟨u, c, k, i, f, a, cell, g1, g2, g3, g4, g5, g6, g7, g8, g9, g10, g11⟩ := h
  have h2 : V.fieldFound? "java/lang/Throwable" nm d = some (c, k, i, f) := by
    rw [← g2]
    unfold State.fieldFound?
    rw [hv]
  have h5 : V.heap[a]? = some cell := (hS.2.1 a (Array.getElem?_eq_some_iff.mp g5).1 g11).trans g5
  have h1 : V.vm.findClass "java/lang/Throwable" = some c := by rw [hv]; exact g1
  have he : (Term.static "java/lang/Throwable" nm d).eval args V none [] V = some u.v := by
    simp [Term.eval, State.fieldNamed?, h2, g3, g4, h5, g6, g10]
  refine ⟨?_, ?_⟩
  · simp only [Cond.before, Cond.holds, Cond.value, he]
    obtain ⟨v, hv⟩ := u
    cases v <;> first | rfl | (simp [Value.isRef] at hv)
  · simp [Cond.before, Cond.holds, Cond.value, h1, h2, g3, g4, h5, g6, g7, g8, g9]
def isR (a : Cond) : Bool := decide (a = .isRef (.static "java/lang/Throwable" "UNASSIGNED_STACK" "[Ljava/lang/StackTraceElement;")) || decide (a = .isRef (.static "java/lang/Throwable" "SUPPRESSED_SENTINEL" "Ljava/util/List;")) || decide (a = .laysStatic "java/lang/Throwable" "UNASSIGNED_STACK" "[Ljava/lang/StackTraceElement;") || decide (a = .laysStatic "java/lang/Throwable" "SUPPRESSED_SENTINEL" "Ljava/util/List;")
def inT : List Cond → List Nat → Bool
  | [], _ => true
  | a :: L, i :: is => (isR a || (decide (lw_tbl[i]? = some a) && notLS a)) && inT L is
  | _ :: _, [] => false
theorem inT_spec : ∀ (L : List Cond) (is : List Nat), inT L is = true → ∀ a ∈ L, isR a = true ∨ a ∈ lwG
  | [], _, _, _, ha => by cases ha
  | b :: L, [], h, _, _ => by cases h
  | b :: L, i :: is, h, a, ha => by
    have h' : ((isR b || (decide (lw_tbl[i]? = some b) && notLS b)) && inT L is) = true := h
    rw [Bool.and_eq_true, Bool.or_eq_true] at h'
    rcases List.mem_cons.mp ha with rfl | q
    · rcases h'.1 with h1 | h1
      · exact Or.inl h1
      · rw [Bool.and_eq_true] at h1
        exact Or.inr (in_G (List.mem_of_getElem? (of_decide_eq_true h1.1)) h1.2)
    · exact inT_spec L is h'.2 a q
theorem z_throw {y0 : MethodName} {nL K Z : Nat} {ret0 : Option FieldType} {ws : va_W} {E : va_W → Prop} {rv : Option Value} {cls tx : String} {names : List String} {is : List Nat} {ic0 ic1 ic2 : Nat}
    (C0 : Cx p s m args meth c cc nL y0 ret0) (hex : c.exceptionTable.isEmpty = true) (htr : l.stackTraces = false) (hQ : Q = MT below (QT G 1 rv cls E A) args s K Z A)
    (hT : TX G A s) (hP : va_P G.1 classes ws H) (hD : va_D A ws) (hS : va_S A s.heap H locs) (hE : E ws) (hsz : ls.size = nL)
    (hcls : Jvm.Bundle.fit cls = true) (hnames : ∀ n ∈ names, Jvm.Bundle.fit n = true) (hin : inT (Jvm.Bundle.ownAtoms y0.cls ic2 cls names) is = true)
    (hw0 : Cond.classLink y0.cls ic0 cls ∈ lwG) (hw1 : Cond.instantiable cls 6 ∈ lwG) (hw2 : Cond.initialized cls ∈ lwG) (hw3 : Cond.stringRef y0.cls ic1 tx ∈ lwG)
    (hd0 : decode cc pc = .ok (.new ic0, 3)) (hd1 : decode cc (pc + 3) = .ok (.dup, 1)) (hd2 : decode cc (pc + 4) = .ok (.ldc ic1, 2)) (hd3 : decode cc (pc + 6) = .ok (.invokespecial ic2, 3)) (hd4 : decode cc (pc + 9) = .ok (.athrow, 1))
    (hF : names.length + 4 ≤ R.frames) (hL : 13 * (names.length + 1) + 46 ≤ R.locals) (hk : cells + 1 ≤ K) (hz : slots + 6 ≤ Z) (hKR : K ≤ R.cells) (hZR : Z ≤ R.slots) :
    W p l e R s m args below meth c H locs cells slots Q (F0 m pc ls []) := by
  obtain ⟨hx, hb, hml, hown, hts, hr, hlocks, -⟩ := C0
  rw [hQ]
  intro T hT0 X
  have htr' : e.platform.stackTraces = false := by
    rw [X.admits.platform]
    exact htr
  have X2 := St_re X (by omega) (by omega)
  have hts' : ∀ w ∈ lwG, w.before args (reS s T) = true := fun w hw => lw_at (s := s) (U := reS s T) hw (State.WarmedH.refl s) (hts w hw)
  have hall : ∀ a ∈ Jvm.Bundle.ownAtoms y0.cls ic2 cls names, a.before args (reS s T) = true := by
    intro a ha
    rcases inT_spec _ _ hin a ha with h1 | h1
    · unfold isR at h1
      simp only [Bool.or_eq_true] at h1
      have hSV : va_S A s.heap (reS s T).heap locs := by
        show va_S A s.heap T.heap locs
        rw [hT0]
        exact hS
      have z1 := z_words (args := args) (V := reS s T) hT.2.2.2.2.2.1 hSV rfl
      have z2 := z_words (args := args) (V := reS s T) hT.2.2.2.2.2.2 hSV rfl
      rcases h1 with ((h1 | h1) | h1) | h1 <;> rw [of_decide_eq_true h1]
      · exact z1.1
      · exact z2.1
      · exact z1.2
      · exact z2.2
    · exact hts' a h1
  obtain ⟨S', hS'⟩ : ∃ S' : State, S' = reS s T := ⟨_, rfl⟩
  obtain ⟨R', hR'⟩ : ∃ R' : Room, R' = { R with cells := R.cells - cells, slots := R.slots - slots } := ⟨_, rfl⟩
  rw [← hS', ← hR'] at X2
  rw [← hS'] at hts' hall
  have hvm : S'.vm = s.vm := by rw [hS']
  have hhp : S'.heap = T.heap := by rw [hS']
  have hown' : S'.vm.findClass y0.cls = some m.cls := by rw [hvm]; exact hown
  have hRc : R'.cells = R.cells - cells := by rw [hR']
  have hRs : R'.slots = R.slots - slots := by rw [hR']
  have hRf : R'.frames = R.frames := by rw [hR']
  have hRl : R'.locals = R.locals := by rw [hR']
  have hgo : W p l e R' S' m args below meth c T.heap [] 0 0
      (fun t => t.status = .running ∧ ∃ (x : Nat) (ce : Cell), Ended t below (.threw x) ∧ S'.WarmedH t.vm ∧ S'.sameButNew ({ t with vm := S'.vm } : State) [] 1 6 ∧ T.heap.size ≤ x ∧ t.heap[x]? = some ce ∧ ce.vm = .none ∧ S'.vm.findClass cls = some ce.cls) (F0 m pc ls []) := by
    refine W.newc (g := F0 m pc ls []) hx hb (own := y0.cls) (C := cls) (n := 6) hown' (hts' _ hw0) (hts' _ hw1) (hts' _ hw2) rfl hd0 (by rw [hRc]; omega) (by rw [hRs]; omega) (fun cC kC h1 h2 h3 h4 => ?_)
    refine W.eq (g2 := F0 m (pc + 3) ls [.ref T.heap.size]) rfl ?_
    refine lv_dup hx hb hd1 rfl ?_
    intro T2 hT2 X3
    obtain ⟨k0, cf, i0, q, -, -, -, -, -, hev⟩ := Cond.stringRef_spec (s := S') (args := args) hown' (hts' _ hw3)
    have hd3' : decode c.code (pc + 6) = .ok (.invokespecial ic2, 3) := by rw [hb]; exact hd3
    have hd4' : decode c.code (pc + 6 + 3) = .ok (.athrow, 1) := by rw [hb]; exact hd4
    have hcl : T2.heap[T.heap.size]? = some (freshCell cC kC) := by rw [hT2]; simp
    obtain ⟨U, st, hrun, hend, hW2, hsame, ce, hce, hoc⟩ := X3.ctorThrowS hx htr' (own := y0.cls) (cls := cls) (names := names) (ic := ic2) hown' hcls hnames hall (fun x hx => by cases hx) h1 h2
      (a := T.heap.size) hcl (by rw [hhp]; exact Nat.le_refl _) (msg := .ref q) rfl (g := F0 m (pc + 6) ls [.ref q, .ref T.heap.size, .ref T.heap.size]) rfl (hsz.trans hml.symm) rfl rfl (rest := []) rfl
      hd3' hd4' (covers_of_empty hex _) (by rw [hRf]; omega) (by rw [hRl]; show 2 * 0 + (1 + 0) + (13 * (names.length + 1) + 42) ≤ R.locals; omega) hlocks
    exact ⟨U, X3.ldcString hx hown' (hts' _ hw3) hev (g := F0 m (pc + 4) ls [.ref T.heap.size, .ref T.heap.size]) rfl (by rw [hb]; exact hd2) U st, hrun, T.heap.size, ce, hend, hW2, hsame, Nat.le_refl _, hce, hoc.vm, hoc.cls⟩
  obtain ⟨t, st, hrun, x, ce, hend, hW2, hsame, hxs, hce, hcv, hcc⟩ := hgo T rfl X2
  rw [hvm] at hcc
  rw [hS'] at hW2 hsame
  have old : ∀ q : Nat, q < H.size → t.heap[q]? = H[q]? := by
    intro q hq
    have h1 : T.heap[q]? = some (H[q]'hq) := by rw [hT0]; exact Array.getElem?_eq_getElem hq
    have h2 : t.heap[q]? = some (H[q]'hq) := State.sameButNew.old_cell hsame h1
    rw [h2, Array.getElem?_eq_getElem hq]
  have hszt : H.size ≤ t.heap.size := by
    have := hsame.2.1
    rw [← hT0]
    exact this
  refine ⟨t, st, .threw x, hrun, hend, ⟨Or.inr ⟨by decide, x, ce, rfl, Nat.le_trans hS.1 (by rw [← hT0]; exact hxs), hce, hcv, hcc⟩, ⟨ws, hE, hP.kept (fun k y hy => old y.1 ((hP k y hy).lt)), hD⟩, Nat.le_trans hS.1 hszt, fun q h1 h2 => (old q (Nat.lt_of_lt_of_le h1 hS.1)).trans (hS.2.1 q h1 h2)⟩, locs, ⟨hW2, (St_un X hsame).mono hk hz⟩, hS.2.2⟩
end

