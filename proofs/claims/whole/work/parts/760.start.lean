/-! The law's start (ours). -/
theorem eq_int {args : Array Value} {s : State} {t : Term} {z : Int32} (h : (Cond.eq t (.int z)).before args s = true) : t.eval args s none [] s = some (.int z) := by
  cases hv : t.eval args s none [] s with
  | none => simp [Cond.before, Cond.holds, Cond.value, hv] at h
  | some w =>
    have hz : (Term.int z).eval args s none [] s = some (.int z) := rfl
    simp only [Cond.before, Cond.holds, Cond.value, hv, hz] at h
    cases w <;> simp_all
theorem arr_known {args : Array Value} {s : State} {ty : FieldType} (h : (Cond.arrayClass ty).before args s = true) : ∃ cA : ClassId, ArrOfT s cA ty ∧ s.vm.findClass ("[" ++ ty.toString) = some cA := by
  obtain ⟨c, k, comp, h1, h2, h3⟩ := Cond.arrayClass_spec h
  exact ⟨c, fun n z => ⟨fun k h => (by cases h), k, h2, comp, h3⟩, h1⟩
def flN : List Cond := flatC (Jvm.Cond.and given_1 narrow_1)
def tbT (nm : String) : Term := .static "TextPress" nm "[I"
def tbOk (k : Nat) (nm : String) (n : Nat) : Bool := decide (Cond.arrayOf (tbT nm) .int ∈ flN) && decide (Cond.eq (.length (tbT nm)) (.int (Int32.ofNat n)) ∈ flN) && (List.range n).all (fun j => decide (Cond.eq (.elem (tbT nm) (.int (Int32.ofNat j))) (.int (tb k j)) ∈ flN))
theorem tbOk_0 : tbOk 0 "LENGTH_BASE" 29 = true := by decide +kernel
theorem tbOk_1 : tbOk 1 "LENGTH_EXTRA" 29 = true := by decide +kernel
theorem tbOk_2 : tbOk 2 "DISTANCE_BASE" 30 = true := by decide +kernel
theorem tbOk_3 : tbOk 3 "DISTANCE_EXTRA" 30 = true := by decide +kernel
theorem tbOk_4 : tbOk 4 "SIZE_ORDER" 19 = true := by decide +kernel
theorem tb_known {args : Array Value} {s : State} {A : Nat → Prop} {k : Nat} {nm : String} {n : Nat} (hok : tbOk k nm n = true) (hn : n < 2 ^ 31) (hf : ∀ c ∈ flN, c.before args s = true) (hls : (Cond.laysStatic "TextPress" nm "[I").before args s = true) (hini : (Cond.initialized "TextPress").before args s = true) (hA : ∀ a : Nat, a < s.heap.size → ¬ A a) :
    ∃ t : Nat, va_Z "TextPress" nm "[I" (.ref t) A s s.heap ∧ va_T .int t n (fun j => .int (tb k j)) A s s.heap := by
  unfold tbOk at hok
  rw [Bool.and_eq_true, Bool.and_eq_true] at hok
  obtain ⟨⟨h1, h2⟩, h3⟩ := hok
  obtain ⟨t, ht, hT⟩ := va_Tof (A := A) (tm := tbT nm) (ty := .int) (N := n) (f := fun j => .int (tb k j)) hn (hf _ (of_decide_eq_true h1)) (eq_int (hf _ (of_decide_eq_true h2))) (fun j hj => eq_int (hf _ (of_decide_eq_true (List.all_eq_true.mp h3 j (List.mem_range.mpr hj))))) hA
  exact ⟨t, va_Zof hls hini ht hA, hT⟩
theorem z_known {args : Array Value} {s : State} {A : Nat → Prop} {nm d : String} (hf : ∀ c ∈ flN, c.before args s = true) (hm : Cond.isRef (.static "java/lang/Throwable" nm d) ∈ flN) (hls : (Cond.laysStatic "java/lang/Throwable" nm d).before args s = true) (hini : (Cond.initialized "java/lang/Throwable").before args s = true) (hA : ∀ a : Nat, a < s.heap.size → ¬ A a) : zX A s nm d := by
  obtain ⟨v, hv, hr⟩ := Cond.isRef_spec (hf _ hm)
  obtain ⟨c, k, i, f, a, cell, g1, g2, g3, g4, g5, g6, g7, g8, g9⟩ := Cond.laysStatic_spec hls
  obtain ⟨-, a', cell', ha', hcell', -, hslot⟩ := Term.static_spec g2 hv
  cases g4.symm.trans ha'
  cases g5.symm.trans hcell'
  exact ⟨⟨v, hr⟩, c, k, i, f, a, cell, g1, g2, g3, g4, g5, g6, g7, g8, g9, hslot, hA a (Array.getElem?_eq_some_iff.mp g5).1⟩
set_option maxHeartbeats 4000000 in
theorem start_G {s : State} {b : Nat} (hts : ∀ w ∈ lw_tbl, w.before #[Value.ref b] s = true) (hgv : (Jvm.Cond.and given_1 narrow_1).before #[Value.ref b] s = true) : ∃ G : GX, KX G s ∧ TX G (fun q : Nat => s.heap.size ≤ q) s := by
  have hf : ∀ c ∈ flN, c.before #[Value.ref b] s = true := flat_of_before _ hgv
  have hA : ∀ a : Nat, a < s.heap.size → ¬ (fun q : Nat => s.heap.size ≤ q) a := fun a h => Nat.not_le.mpr h
  obtain ⟨c0, i0, hKn0⟩ := u_known (C := R_TP) (T := F_TP) (N := 9) (n := 9) (fun w hw => hts w (of_G hw)) i_TP (hts (.instantiable R_TP 9) (List.mem_of_getElem? (i := 60) (by decide +kernel)))
  obtain ⟨c1, i1, hKn1⟩ := u_known (C := R_Row) (T := F_Row) (N := 2) (n := 2) (fun w hw => hts w (of_G hw)) i_Row (hts (.instantiable R_Row 2) (List.mem_of_getElem? (i := 68) (by decide +kernel)))
  obtain ⟨c2, i2, hKn2⟩ := u_known (C := R_Sha) (T := F_Sha) (N := 2) (n := 2) (fun w hw => hts w (of_G hw)) i_Sha (hts (.instantiable R_Sha 2) (List.mem_of_getElem? (i := 82) (by decide +kernel)))
  obtain ⟨c3, i3, hKn3⟩ := u_known (C := R_BW) (T := F_BW) (N := 3) (n := 3) (fun w hw => hts w (of_G hw)) i_BW (hts (.instantiable R_BW 3) (List.mem_of_getElem? (i := 102) (by decide +kernel)))
  obtain ⟨c4, i4, hKn4⟩ := u_known (C := R_Fi) (T := F_Fi) (N := 4) (n := 4) (fun w hw => hts w (of_G hw)) i_Fi (hts (.instantiable R_Fi 4) (List.mem_of_getElem? (i := 120) (by decide +kernel)))
  obtain ⟨c5, i5, hKn5⟩ := u_known (C := R_Pr) (T := F_Pr) (N := 4) (n := 4) (fun w hw => hts w (of_G hw)) i_Pr (hts (.instantiable R_Pr 4) (List.mem_of_getElem? (i := 96) (by decide +kernel)))
  obtain ⟨c6, i6, hKn6⟩ := u_known (C := R_BR) (T := F_BR) (N := 4) (n := 4) (fun w hw => hts w (of_G hw)) i_BR (hts (.instantiable R_BR 4) (List.mem_of_getElem? (i := 158) (by decide +kernel)))
  obtain ⟨c7, i7, hKn7⟩ := u_known (C := R_Co) (T := F_Co) (N := 3) (n := 3) (fun w hw => hts w (of_G hw)) i_Co (hts (.instantiable R_Co 3) (List.mem_of_getElem? (i := 177) (by decide +kernel)))
  obtain ⟨c8, i8, hKn8⟩ := u_known (C := R_Un) (T := F_Un) (N := 9) (n := 9) (fun w hw => hts w (of_G hw)) i_Un (hts (.instantiable R_Un 9) (List.mem_of_getElem? (i := 152) (by decide +kernel)))
  obtain ⟨c9, i9, hKn9⟩ := u_known (C := R_Mo) (T := F_Mo) (N := 24) (n := 24) (fun w hw => hts w (of_G hw)) i_Mo (hts (.instantiable R_Mo 24) (List.mem_of_getElem? (i := 737) (by decide +kernel)))
  obtain ⟨ca0, hca0, hcb0⟩ := arr_known (hts (.arrayClass .byte) (List.mem_of_getElem? (i := 80) (by decide +kernel)))
  obtain ⟨ca1, hca1, hcb1⟩ := arr_known (hts (.arrayClass .int) (List.mem_of_getElem? (i := 94) (by decide +kernel)))
  obtain ⟨ca2, hca2, hcb2⟩ := arr_known (hts (.arrayClass .long) (List.mem_of_getElem? (i := 976) (by decide +kernel)))
  obtain ⟨t0, hz0, ht0⟩ := tb_known (s := s) tbOk_0 (by decide) hf (hts (.laysStatic "TextPress" "LENGTH_BASE" "[I") (List.mem_of_getElem? (i := 362) (by decide +kernel))) (hts (.initialized "TextPress") (List.mem_of_getElem? (i := 39) (by decide +kernel))) hA
  obtain ⟨t1, hz1, ht1⟩ := tb_known (s := s) tbOk_1 (by decide) hf (hts (.laysStatic "TextPress" "LENGTH_EXTRA" "[I") (List.mem_of_getElem? (i := 367) (by decide +kernel))) (hts (.initialized "TextPress") (List.mem_of_getElem? (i := 39) (by decide +kernel))) hA
  obtain ⟨t2, hz2, ht2⟩ := tb_known (s := s) tbOk_2 (by decide) hf (hts (.laysStatic "TextPress" "DISTANCE_BASE" "[I") (List.mem_of_getElem? (i := 369) (by decide +kernel))) (hts (.initialized "TextPress") (List.mem_of_getElem? (i := 39) (by decide +kernel))) hA
  obtain ⟨t3, hz3, ht3⟩ := tb_known (s := s) tbOk_3 (by decide) hf (hts (.laysStatic "TextPress" "DISTANCE_EXTRA" "[I") (List.mem_of_getElem? (i := 371) (by decide +kernel))) (hts (.initialized "TextPress") (List.mem_of_getElem? (i := 39) (by decide +kernel))) hA
  obtain ⟨t4, hz4, ht4⟩ := tb_known (s := s) tbOk_4 (by decide) hf (hts (.laysStatic "TextPress" "SIZE_ORDER" "[I") (List.mem_of_getElem? (i := 600) (by decide +kernel))) (hts (.initialized "TextPress") (List.mem_of_getElem? (i := 39) (by decide +kernel))) hA
  refine ⟨⟨(fun k => if k = 0 then c0 else if k = 1 then c1 else if k = 2 then c2 else if k = 3 then c3 else if k = 4 then c4 else if k = 5 then c5 else if k = 6 then c6 else if k = 7 then c7 else if k = 8 then c8 else c9, fun k => if k = 0 then i0 else if k = 1 then i1 else if k = 2 then i2 else if k = 3 then i3 else if k = 4 then i4 else if k = 5 then i5 else if k = 6 then i6 else if k = 7 then i7 else if k = 8 then i8 else i9), fun k => if k = 0 then ca0 else if k = 1 then ca1 else ca2, fun k => if k = 0 then t0 else if k = 1 then t1 else if k = 2 then t2 else if k = 3 then t3 else t4⟩, ⟨?_, ?_⟩, ⟨hz0, ht0⟩, ⟨hz1, ht1⟩, ⟨hz2, ht2⟩, ⟨hz3, ht3⟩, ⟨hz4, ht4⟩, ?_, ?_⟩
  · intro k q hq
    match k, hq with
    | 0, hq => cases hq; exact hKn0
    | 1, hq => cases hq; exact hKn1
    | 2, hq => cases hq; exact hKn2
    | 3, hq => cases hq; exact hKn3
    | 4, hq => cases hq; exact hKn4
    | 5, hq => cases hq; exact hKn5
    | 6, hq => cases hq; exact hKn6
    | 7, hq => cases hq; exact hKn7
    | 8, hq => cases hq; exact hKn8
    | 9, hq => cases hq; exact hKn9
    | k + 10, hq => simp [classes] at hq
  · intro k q hq
    match k, hq with
    | 0, hq => cases hq; exact ⟨hca0, hcb0⟩
    | 1, hq => cases hq; exact ⟨hca1, hcb1⟩
    | 2, hq => cases hq; exact ⟨hca2, hcb2⟩
    | k + 3, hq => simp [tyX] at hq
  · exact z_known hf (by decide +kernel) (hts (.laysStatic "java/lang/Throwable" "UNASSIGNED_STACK" "[Ljava/lang/StackTraceElement;") (List.mem_of_getElem? (i := 441) (by decide +kernel))) (hts (.initialized "java/lang/Throwable") (List.mem_of_getElem? (i := 50) (by decide +kernel))) hA
  · exact z_known hf (by decide +kernel) (hts (.laysStatic "java/lang/Throwable" "SUPPRESSED_SENTINEL" "Ljava/util/List;") (List.mem_of_getElem? (i := 443) (by decide +kernel))) (hts (.initialized "java/lang/Throwable") (List.mem_of_getElem? (i := 50) (by decide +kernel))) hA
theorem start_law {p : Program} {e : Env} {s : State} {m : MethodId} {below : List Frame} {meth : Method} {c : Code} (l : Launch) (htr : l.stackTraces = false) {b L : Nat} {xs : Nat → Int32} (C0 : lw_At p s m meth c b L xs) {N K Z : Nat} (hf : f_Lw N L xs = some (1, K, Z)) (hKb : K ≤ 601024) (hZb : Z ≤ 7293034) :
    W p l e room_1 s m #[Value.ref b] below meth c s.heap [] 0 0 (lw_Z below #[Value.ref b] s) (entryFrame m ([Value.ref b] : List Value).toArray 8) := by
  obtain ⟨hx, hb, hr, hml, hown, hts, hX, hbl, hlocks, hgv⟩ := id C0
  obtain ⟨G, hK, hT⟩ := start_G hts hgv
  rw [lg_entry_eq]
  exact c_La_law (G := G) (A := fun q : Nat => s.heap.size ≤ q) ⟨hx, hb, hml, hown, fun w hw => hts w (of_G hw), hr, hlocks, fun h => absurd h (by decide)⟩ (by decide) (by decide) rfl htr hX hbl (Nat.not_le.mpr hbl) hK hT (fun _ h => h) (fun _ h => h) N K Z hf hKb hZb (lv_entry [.ref b] (n := 8) (Nat.le_of_ble_eq_true rfl)) rfl
