/-! the start: G: the classes' numbers and slots; the numbers of byte[], int[], long[]; the static rows' addresses -/
abbrev GX : Type := va_G × (Nat → ClassId) × (Nat → Nat)
abbrev tyX (G : GX) : List (ClassId × FieldType) := [(G.2.1 0, .byte), (G.2.1 1, .int), (G.2.1 2, .long)]
abbrev KX (G : GX) (U : State) : Prop := va_K G.1 classes (tyX G) U
abbrev t1X (G : GX) (A : Nat → Prop) (U : State) (k : Nat) (nm : String) (n : Nat) : Prop := va_Z "TextPress" nm "[I" (.ref (G.2.2 k)) A U U.heap ∧ va_T .int (G.2.2 k) n (fun j => .int (tb k j)) A U U.heap
def zX (A : Nat → Prop) (U : State) (nm d : String) : Prop := ∃ (u : RefV) (c : ClassId) (k : Class) (i : Nat) (f : Field) (a : Nat) (cell : Cell), U.vm.findClass "java/lang/Throwable" = some c ∧ U.fieldFound? "java/lang/Throwable" nm d = some (c, k, i, f) ∧ f.isStatic = true ∧ k.statics = some a ∧ U.heap[a]? = some cell ∧ cell.vm.isStatics = true ∧ cell.cls = c ∧ f.slot < cell.slots.size ∧ k.staticTypes[f.slot]? = some f.type ∧ cell.slots[f.slot]? = some u.v ∧ ¬ A a
abbrev TX (G : GX) (A : Nat → Prop) (U : State) : Prop := t1X G A U 0 "LENGTH_BASE" 29 ∧ t1X G A U 1 "LENGTH_EXTRA" 29 ∧ t1X G A U 2 "DISTANCE_BASE" 30 ∧ t1X G A U 3 "DISTANCE_EXTRA" 30 ∧ t1X G A U 4 "SIZE_ORDER" 19 ∧ zX A U "UNASSIGNED_STACK" "[Ljava/lang/StackTraceElement;" ∧ zX A U "SUPPRESSED_SENTINEL" "Ljava/util/List;"
abbrev wd (y : MethodName) (b : ByteArray) (n : Nat) (r : Option FieldType) : List Cond := Cond.code y b n r :: lwG
def Cx (p : Program) (s : State) (m : MethodId) (args : Array Value) (meth : Method) (c : Code) (cc : ByteArray) (nL : Nat) (y : MethodName) (ret : Option FieldType) : Prop :=
  p.tables.exec = Jvm.exec ∧ c.code = cc ∧ c.maxLocals = nL ∧ s.vm.findClass y.cls = some m.cls ∧ (∀ w ∈ lwG, w.before args s = true) ∧ meth.sig.returnType = ret ∧ meth.locks = false ∧ (y.name = "<init>" → meth.name = y.name)
abbrev PX (G : GX) (av : List Value) (sz : Nat) (wc : va_W) : Array Value → State → Prop :=
  va_Pc av (fun U => U.heap.size = sz ∧ va_P G.1 classes wc U.heap ∧ KX G U ∧ va_D (fun _ => True) wc ∧ TX G (va_A wc sz) U)
def BX (G : GX) (A : Nat → Prop) (E : va_W → Prop) (t : State) : Prop := ∃ w1, E w1 ∧ va_P G.1 classes w1 t.heap ∧ va_D A w1
abbrev QXi (G : GX) (v : Int32) (E : va_W → Prop) (A : Nat → Prop) : Array Value → State → Outcome → State → Prop := va_Qi (S := Unit) (fun r _ => r = v) (fun _ t => BX G A E t) A
abbrev QXl (G : GX) (v : Int64) (E : va_W → Prop) (A : Nat → Prop) : Array Value → State → Outcome → State → Prop := va_Ql (S := Unit) (fun r _ => r = v) (fun _ t => BX G A E t) A
abbrev QXv (G : GX) (E : va_W → Prop) (A : Nat → Prop) : Array Value → State → Outcome → State → Prop := va_Qv (S := Unit) (fun _ => True) (fun _ t => BX G A E t) A
abbrev QXr (G : GX) (E : Nat → va_W → Prop) (A : Nat → Prop) : Array Value → State → Outcome → State → Prop := va_Qr (S := Unit) (fun _ => True) (fun _ a t => BX G A (E a) t) A
/-! words -/
def okW : Cond → Bool
  | .code .. | .declares _ | .privateMethod _ | .castable .. | .fieldLinkNest .. | .stringRef .. | .laysStatic .. => true
  | w => goodWord w
theorem lw_good : lw_tbl.all okW = true := by decide +kernel
theorem lw_at {args a' : Array Value} {s U : State} {w : Cond} (h : w ∈ lwG) (hW : s.WarmedH U.vm) (hb : w.before args s = true) : w.before a' U = true := by
  have h1 : okW w = true := List.all_eq_true.mp lw_good w (of_G h)
  have h2 : notLS w = true := (List.mem_filter.mp h).2
  have mv : ∀ c : Cond, c.onTables = true → c.before args (s.setVm U.vm) = true → c.before a' U = true := fun c hc q => by
    have e := Cond.onTables_vm (A := args) (A' := a') (U := s) (U' := U) U.vm c hc
    rw [State.setVm_self] at e
    rw [← e]
    exact q
  cases w with
  | code y b n r => exact word_at hW (Or.inl rfl) hb
  | declares x => exact mv _ rfl (by rw [Cond.declares_setVm hW.alike]; exact hb)
  | privateMethod x => exact mv _ rfl (by rw [Cond.privateMethod_setVm hW.alike]; exact hb)
  | castable c d => exact mv _ rfl (by rw [Cond.castable_setVm hW.alike]; exact hb)
  | fieldLinkNest a b c d e f =>
    have := Cond.onTables_warmH (args' := a') (T := U) hW (c := .fieldLinkNest a b c d e f) rfl rfl hb
    rwa [State.setVm_self] at this
  | stringRef a b c => exact Cond.stringRef_warmed hW hb
  | laysStatic a b c => cases h2
  | _ => exact word_at hW (good_of_word h1) hb
theorem wd_at {args a' : Array Value} {s U : State} {y : MethodName} {b : ByteArray} {n : Nat} {r : Option FieldType} (hc : Cond.code y b n r ∈ lwG) (hts : ∀ w ∈ lwG, w.before args s = true) : ∀ w ∈ wd y b n r, ∀ (a' : Array Value) (U : State), s.WarmedH U.vm → w.before a' U = true := by
  intro w hw a' U hW
  rcases List.mem_cons.mp hw with rfl | h
  · exact lw_at hc hW (hts _ hc)
  · exact lw_at h hW (hts _ h)
theorem call_G {args : Array Value} {s : State} {R : Room} {own : String} {idx F L K Z n mL : Nat} {y : MethodName} {b : ByteArray} {ret : Option FieldType} (hts : ∀ w ∈ lwG, w.before args s = true) (h1 : Cond.methodLink own idx y ∈ lwG) (h4 : Cond.initialized y.cls ∈ lwG) (h5 : Cond.code y b mL ret ∈ lwG)
    (hd : y.cls ≠ "java/lang/invoke/MethodHandle" ∧ y.cls ≠ "java/lang/invoke/VarHandle" ∧ (parseMethodDescriptor y.desc).map (fun d => d.parameters.length) = some n) (hF : F + 1 ≤ R.frames) (hL : 8 + (mL + 11) + L ≤ R.locals) :
    CallB R s args own idx y b mL ret (wd y b mL ret) { frames := F, cells := K, slots := Z, locals := L } K Z n := by
  refine ⟨rfl, rfl, hF, hL, wd_at (a' := args) (U := s) h5 hts, List.mem_cons_self, hts _ h5, hts _ h4, ⟨hd.1, hd.2.1⟩, fun sig h => ?_, hts _ h1⟩
  have h2 := hd.2.2
  rw [h] at h2
  exact (Option.some.inj h2).symm
theorem goodV {own : String} {idx : Nat} {y : MethodName} {b : ByteArray} {n : Nat} {r : Option FieldType} (h1 : Cond.methodLink own idx y ∈ lwG) (h2 : Cond.instanceMethod y ∈ lwG) (h3 : Cond.selects y.cls y y ∈ lwG) (h4 : Cond.initialized y.cls ∈ lwG) (h5 : Cond.code y b n r ∈ lwG) :
    Cond.methodLink own idx y ∈ lwG ∧ Cond.instanceMethod y ∈ lwG ∧ Cond.selects y.cls y y ∈ lwG ∧ Cond.initialized y.cls ∈ lwG ∧ Cond.code y b n r ∈ lwG := ⟨h1, h2, h3, h4, h5⟩
theorem goodS {own : String} {idx : Nat} {y : MethodName} {b : ByteArray} {n : Nat} {r : Option FieldType} (h1 : Cond.methodLink own idx y ∈ lwG) (h2 : Cond.static y ∈ lwG) (h3 : Cond.initialized y.cls ∈ lwG) (h5 : Cond.code y b n r ∈ lwG) :
    Cond.methodLink own idx y ∈ lwG ∧ Cond.static y ∈ lwG ∧ Cond.initialized y.cls ∈ lwG ∧ Cond.code y b n r ∈ lwG := ⟨h1, h2, h3, h5⟩
theorem goodI {own : String} {idx : Nat} {y : MethodName} {b : ByteArray} {n : Nat} {r : Option FieldType} (h1 : Cond.methodLink own idx y ∈ lwG) (h2 : Cond.instanceMethod y ∈ lwG) (h3 : Cond.initialized y.cls ∈ lwG) (h5 : Cond.code y b n r ∈ lwG) :
    Cond.methodLink own idx y ∈ lwG ∧ Cond.instanceMethod y ∈ lwG ∧ Cond.initialized y.cls ∈ lwG ∧ Cond.code y b n r ∈ lwG := ⟨h1, h2, h3, h5⟩
/-! a method's contract out of a walk from its first instruction -/
theorem Met_in {l : Launch} {y : MethodName} {b : ByteArray} {nL : Nat} {ret : Option FieldType} {F L K Z : Nat} {G : GX} {av : List Value} {sz : Nat} {wc : va_W} {QQ : (Nat → Prop) → Array Value → State → Outcome → State → Prop} (hy : plainName y.cls = true) (hn : (lg_sl av).length ≤ nL)
    (body : ∀ (p : Program) (e : Env) (s : State) (m : MethodId) (below : List Frame) (meth : Method) (c : Code) (R : Room) (Q : State → Prop) (A : Nat → Prop) (ls : Array Slot), Cx p s m av.toArray meth c b nL y ret → F ≤ R.frames → L ≤ R.locals → R.cells = K → R.slots = Z → va_P G.1 classes wc s.heap → KX G s → va_D A wc → TX G A s → (∀ q, s.heap.size ≤ q → A q) → va_S A s.heap s.heap [] → lv_has ls nL (lv_args 0 av) → Q = MQ below (QQ A) av.toArray s K Z A →
      W p l e R s m av.toArray below meth c s.heap [] 0 0 Q (F0 m 0 ls [])) :
    Met l y (wd y b nL ret) { frames := F, cells := K, slots := Z, locals := L } (PX G av sz wc) (QQ (va_A wc sz)) K Z (va_A wc sz) := by
  refine Met.ofW (cc := b) (maxL := nL) (ret := ret) hy rfl ?_
  intro p e s m args below meth c s₁ B hml hv
  obtain ⟨rfl, rfl, hP, hK, hD, hT⟩ := hv
  have hts := atoms_spec (ws := wd y b nL ret) B.pre
  rw [lg_entry_eq]
  exact body p e s m below meth c _ _ (va_A wc s.heap.size) _ ⟨B.exec, B.bytes, hml, findClass_of_methodNamed B.named, fun w hw => hts w (List.mem_cons_of_mem _ hw), B.returns, B.notSynchronized, fun _ => (name_of_methodNamed B.named B.method).1⟩ (Nat.le_refl _) (Nat.le_refl _) rfl rfl hP hK hD.self hT (fun q h => Or.inr h) va_S.rf (lv_entry av hn) rfl

