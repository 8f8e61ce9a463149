set_option maxHeartbeats 4000000 in
set_option maxRecDepth 100000 in
theorem w_Mo_assign_2 {p : Program} {l : Launch} {e : Env} {R : Room} {s : State} {m : MethodId} {args : Array Value} {below : List Frame} {meth : Method} {c : Code} {Q : State → Prop} {G : GX} {A : Nat → Prop} (C0 : Cx p s m args meth c b_Mo_assign 6 y_Mo_assign none) (hRf : 0 ≤ R.frames) (hRl : 0 ≤ R.locals) (hA : ∀ q, s.heap.size ≤ q → A q) (hK : KX G s) (hT : TX G A s) (N : Nat) (i1 : Int32) (i2 : Int32) (y0_3 : Int32) (y0_4 : Int32) (y0_5 : Int32) (y0_6 : Int32) (y0_7 : Int32) (y0_8 : Int32) (y0_9 : Int32) (y0_10 : Int32) (y0_11 : Int32) (y0_12 : Int32) (y0_13 : Int32) (y0_14 : Int32) (y0_15 : Int32) (y0_16 : Int32) (m1 : Nat) (g_1 : (Nat → Int32)) (m2 : Nat) (g_2 : (Nat → Int32)) (m3 : Nat) (m4 : Nat) (g_4 : (Nat → Int32)) (c0 c1 c2 c3 c4 u0_0 u0_1 u0_2 u0_19 u0_22 u0_23 : Nat) (out : (Nat → Int32)) {kc ks : Nat} (hkc : kc ≤ R.cells) (hks : ks ≤ R.slots)
    (kx21 : ∀ (H : Heap) (locs : List Loc) (ls : Array Slot), va_P G.1 classes [(c0, .inr (9, [.ref u0_0, .ref u0_1, .ref u0_2, .int y0_3, .int y0_4, .int y0_5, .int y0_6, .int y0_7, .int y0_8, .int y0_9, .int y0_10, .int y0_11, .int y0_12, .int y0_13, .int y0_14, .int y0_15, .int y0_16, .ref c1, .ref c2, .ref u0_19, .ref c3, .ref c4, .ref u0_22, .ref u0_23])), (c1, .inl (G.2.1 1, m1, .inl g_1)), (c2, .inl (G.2.1 1, m2, .inl g_2)), (c3, .inl (G.2.1 1, m3, .inl out)), (c4, .inl (G.2.1 1, m4, .inl g_4))] H → va_D A [(c0, .inr (9, [.ref u0_0, .ref u0_1, .ref u0_2, .int y0_3, .int y0_4, .int y0_5, .int y0_6, .int y0_7, .int y0_8, .int y0_9, .int y0_10, .int y0_11, .int y0_12, .int y0_13, .int y0_14, .int y0_15, .int y0_16, .ref c1, .ref c2, .ref u0_19, .ref c3, .ref c4, .ref u0_22, .ref u0_23])), (c1, .inl (G.2.1 1, m1, .inl g_1)), (c2, .inl (G.2.1 1, m2, .inl g_2)), (c3, .inl (G.2.1 1, m3, .inl out)), (c4, .inl (G.2.1 1, m4, .inl g_4))] → va_S A s.heap H locs → lv_has ls 6 [(0, .ref c0), (1, .int i1), (2, .int i2)] → W p l e R s m args below meth c H locs kc ks Q (F0 m 21 ls [])) :
    ∀ (n : Nat) (i3 : Int32) (g_3 : (Nat → Int32)) (H : Heap) (locs : List Loc) (ls : Array Slot), lp_Mo_assign_2 N m3 n i3 g_3 = some out → va_P G.1 classes [(c0, .inr (9, [.ref u0_0, .ref u0_1, .ref u0_2, .int y0_3, .int y0_4, .int y0_5, .int y0_6, .int y0_7, .int y0_8, .int y0_9, .int y0_10, .int y0_11, .int y0_12, .int y0_13, .int y0_14, .int y0_15, .int y0_16, .ref c1, .ref c2, .ref u0_19, .ref c3, .ref c4, .ref u0_22, .ref u0_23])), (c1, .inl (G.2.1 1, m1, .inl g_1)), (c2, .inl (G.2.1 1, m2, .inl g_2)), (c3, .inl (G.2.1 1, m3, .inl g_3)), (c4, .inl (G.2.1 1, m4, .inl g_4))] H → va_D A [(c0, .inr (9, [.ref u0_0, .ref u0_1, .ref u0_2, .int y0_3, .int y0_4, .int y0_5, .int y0_6, .int y0_7, .int y0_8, .int y0_9, .int y0_10, .int y0_11, .int y0_12, .int y0_13, .int y0_14, .int y0_15, .int y0_16, .ref c1, .ref c2, .ref u0_19, .ref c3, .ref c4, .ref u0_22, .ref u0_23])), (c1, .inl (G.2.1 1, m1, .inl g_1)), (c2, .inl (G.2.1 1, m2, .inl g_2)), (c3, .inl (G.2.1 1, m3, .inl g_3)), (c4, .inl (G.2.1 1, m4, .inl g_4))] → va_S A s.heap H locs → lv_has ls 6 [(0, .ref c0), (1, .int i1), (2, .int i2), (3, .int i3)] → W p l e R s m args below meth c H locs kc ks Q (F0 m 2 ls []) := by
  obtain ⟨hx, hb, hml, hown, hts, hr, hlocks, hin⟩ := id C0
  have hown : s.vm.findClass R_Mo = some m.cls := hown
  intro n
  induction n with
  | zero => intro i3 g_3 H locs ls h; cases h
  | succ n ih =>
    intro i3 g_3 H locs ls h hP hD hS hl
    replace h : lb_Mo_assign_2 N m3 (lp_Mo_assign_2 N m3 n) i3 g_3 = some out := h
    unfold lb_Mo_assign_2 at h
    refine lv_iload_n hx hb d_Mo_assign_2 rfl (lv_at hl 3 rfl) ?_
    refine lv_bipush (v := 17) hx hb d_Mo_assign_3 (by decide) ?_
    refine lv_icmp_ge (tgt := 21) hx hb d_Mo_assign_5 (by decide) (fun cq5 => ?_) (fun cq5 => ?_)
    · replace h := (if_pos cq5).symm.trans h
      have eV := so1 h
      subst eV
      exact kx21 _ _ _ hP hD hS (lv_sub hl [0, 1, 2] rfl)
    · replace h := (if_neg cq5).symm.trans h
      refine lv_aload_n hx hb d_Mo_assign_8 rfl (lv_at hl 0 rfl) ?_
      refine va_get (D := G.1) (ci := 9) (v := .ref c3) (C := R_Mo) (T := F_Mo) (N := 24) hx hb hts i_Mo hown hK hP 0 rfl rfl 20 (by decide) (hts _ q430) (fun _ h9 => h9) rfl d_Mo_assign_9 ?_
      refine lv_iload_n hx hb d_Mo_assign_12 rfl (lv_at hl 3 rfl) ?_
      refine lv_iconst (v := 0) hx hb d_Mo_assign_13 (by decide) ?_
      obtain ⟨hi6, h⟩ := Ix_e h
      refine y_iast hx hb hK hP hD hS 3 1 rfl rfl hi6 d_Mo_assign_14 (fun g7 H locs eg7 hP hD hS => ?_)
      replace h := Lt_e h eg7
      have hP : va_P G.1 classes [(c0, .inr (9, [.ref u0_0, .ref u0_1, .ref u0_2, .int y0_3, .int y0_4, .int y0_5, .int y0_6, .int y0_7, .int y0_8, .int y0_9, .int y0_10, .int y0_11, .int y0_12, .int y0_13, .int y0_14, .int y0_15, .int y0_16, .ref c1, .ref c2, .ref u0_19, .ref c3, .ref c4, .ref u0_22, .ref u0_23])), (c1, .inl (G.2.1 1, m1, .inl g_1)), (c2, .inl (G.2.1 1, m2, .inl g_2)), (c3, .inl (G.2.1 1, m3, .inl g7)), (c4, .inl (G.2.1 1, m4, .inl g_4))] H := hP
      have hD : va_D A [(c0, .inr (9, [.ref u0_0, .ref u0_1, .ref u0_2, .int y0_3, .int y0_4, .int y0_5, .int y0_6, .int y0_7, .int y0_8, .int y0_9, .int y0_10, .int y0_11, .int y0_12, .int y0_13, .int y0_14, .int y0_15, .int y0_16, .ref c1, .ref c2, .ref u0_19, .ref c3, .ref c4, .ref u0_22, .ref u0_23])), (c1, .inl (G.2.1 1, m1, .inl g_1)), (c2, .inl (G.2.1 1, m2, .inl g_2)), (c3, .inl (G.2.1 1, m3, .inl g7)), (c4, .inl (G.2.1 1, m4, .inl g_4))] := hD
      obtain ⟨v8, ev8⟩ : ∃ y : Int32, y = i3 + 1 := ⟨_, rfl⟩
      replace h := Lt_e h ev8
      refine lv_iinc (v := v8) (lv' := [(3, .int v8), (0, .ref c0), (1, .int i1), (2, .int i2)]) hx hb d_Mo_assign_15 hl (k := 3) rfl (by rw [ev8]; rfl) (by decide) rfl (fun ls hl => ?_)
      refine lv_goto (tgt := 2) hx hb d_Mo_assign_18 (by decide) ?_
      exact ih v8 g7  _ _ _ h hP hD hS (lv_sub hl [1, 2, 3, 0] rfl)
set_option maxHeartbeats 4000000 in
set_option maxRecDepth 100000 in
theorem w_Mo_assign_23 {p : Program} {l : Launch} {e : Env} {R : Room} {s : State} {m : MethodId} {args : Array Value} {below : List Frame} {meth : Method} {c : Code} {Q : State → Prop} {G : GX} {A : Nat → Prop} (C0 : Cx p s m args meth c b_Mo_assign 6 y_Mo_assign none) (hRf : 0 ≤ R.frames) (hRl : 0 ≤ R.locals) (hA : ∀ q, s.heap.size ≤ q → A q) (hK : KX G s) (hT : TX G A s) (N : Nat) (i1 : Int32) (i2 : Int32) (y0_3 : Int32) (y0_4 : Int32) (y0_5 : Int32) (y0_6 : Int32) (y0_7 : Int32) (y0_8 : Int32) (y0_9 : Int32) (y0_10 : Int32) (y0_11 : Int32) (y0_12 : Int32) (y0_13 : Int32) (y0_14 : Int32) (y0_15 : Int32) (y0_16 : Int32) (m1 : Nat) (g_1 : (Nat → Int32)) (m2 : Nat) (g_2 : (Nat → Int32)) (m3 : Nat) (m4 : Nat) (g_4 : (Nat → Int32)) (c0 c1 c2 c3 c4 u0_0 u0_1 u0_2 u0_19 u0_22 u0_23 : Nat) (out : (Nat → Int32)) {kc ks : Nat} (hkc : kc ≤ R.cells) (hks : ks ≤ R.slots)
    (kx62 : ∀ (H : Heap) (locs : List Loc) (ls : Array Slot), va_P G.1 classes [(c0, .inr (9, [.ref u0_0, .ref u0_1, .ref u0_2, .int y0_3, .int y0_4, .int y0_5, .int y0_6, .int y0_7, .int y0_8, .int y0_9, .int y0_10, .int y0_11, .int y0_12, .int y0_13, .int y0_14, .int y0_15, .int y0_16, .ref c1, .ref c2, .ref u0_19, .ref c3, .ref c4, .ref u0_22, .ref u0_23])), (c1, .inl (G.2.1 1, m1, .inl g_1)), (c2, .inl (G.2.1 1, m2, .inl g_2)), (c3, .inl (G.2.1 1, m3, .inl out)), (c4, .inl (G.2.1 1, m4, .inl g_4))] H → va_D A [(c0, .inr (9, [.ref u0_0, .ref u0_1, .ref u0_2, .int y0_3, .int y0_4, .int y0_5, .int y0_6, .int y0_7, .int y0_8, .int y0_9, .int y0_10, .int y0_11, .int y0_12, .int y0_13, .int y0_14, .int y0_15, .int y0_16, .ref c1, .ref c2, .ref u0_19, .ref c3, .ref c4, .ref u0_22, .ref u0_23])), (c1, .inl (G.2.1 1, m1, .inl g_1)), (c2, .inl (G.2.1 1, m2, .inl g_2)), (c3, .inl (G.2.1 1, m3, .inl out)), (c4, .inl (G.2.1 1, m4, .inl g_4))] → va_S A s.heap H locs → lv_has ls 6 [(0, .ref c0), (1, .int i1), (2, .int i2)] → W p l e R s m args below meth c H locs kc ks Q (F0 m 62 ls [])) :
    ∀ (n : Nat) (i3 : Int32) (g_3 : (Nat → Int32)) (H : Heap) (locs : List Loc) (ls : Array Slot), lp_Mo_assign_23 N i1 i2 m1 g_1 m3 n i3 g_3 = some out → va_P G.1 classes [(c0, .inr (9, [.ref u0_0, .ref u0_1, .ref u0_2, .int y0_3, .int y0_4, .int y0_5, .int y0_6, .int y0_7, .int y0_8, .int y0_9, .int y0_10, .int y0_11, .int y0_12, .int y0_13, .int y0_14, .int y0_15, .int y0_16, .ref c1, .ref c2, .ref u0_19, .ref c3, .ref c4, .ref u0_22, .ref u0_23])), (c1, .inl (G.2.1 1, m1, .inl g_1)), (c2, .inl (G.2.1 1, m2, .inl g_2)), (c3, .inl (G.2.1 1, m3, .inl g_3)), (c4, .inl (G.2.1 1, m4, .inl g_4))] H → va_D A [(c0, .inr (9, [.ref u0_0, .ref u0_1, .ref u0_2, .int y0_3, .int y0_4, .int y0_5, .int y0_6, .int y0_7, .int y0_8, .int y0_9, .int y0_10, .int y0_11, .int y0_12, .int y0_13, .int y0_14, .int y0_15, .int y0_16, .ref c1, .ref c2, .ref u0_19, .ref c3, .ref c4, .ref u0_22, .ref u0_23])), (c1, .inl (G.2.1 1, m1, .inl g_1)), (c2, .inl (G.2.1 1, m2, .inl g_2)), (c3, .inl (G.2.1 1, m3, .inl g_3)), (c4, .inl (G.2.1 1, m4, .inl g_4))] → va_S A s.heap H locs → lv_has ls 6 [(0, .ref c0), (1, .int i1), (2, .int i2), (3, .int i3)] → W p l e R s m args below meth c H locs kc ks Q (F0 m 23 ls []) := by
  obtain ⟨hx, hb, hml, hown, hts, hr, hlocks, hin⟩ := id C0
  have hown : s.vm.findClass R_Mo = some m.cls := hown
  intro n
  induction n with
  | zero => intro i3 g_3 H locs ls h; cases h
  | succ n ih =>
    intro i3 g_3 H locs ls h hP hD hS hl
    replace h : lb_Mo_assign_23 N i1 i2 m1 g_1 m3 (lp_Mo_assign_23 N i1 i2 m1 g_1 m3 n) i3 g_3 = some out := h
    unfold lb_Mo_assign_23 at h
    refine lv_iload_n hx hb d_Mo_assign_23 rfl (lv_at hl 3 rfl) ?_
    refine lv_iload_n hx hb d_Mo_assign_24 rfl (lv_at hl 2 rfl) ?_
    refine lv_icmp_ge (tgt := 62) hx hb d_Mo_assign_25 (by decide) (fun cq19 => ?_) (fun cq19 => ?_)
    · replace h := (if_pos cq19).symm.trans h
      have eV := so1 h
      subst eV
      exact kx62 _ _ _ hP hD hS (lv_sub hl [0, 1, 2] rfl)
    · replace h := (if_neg cq19).symm.trans h
      refine lv_aload_n hx hb d_Mo_assign_28 rfl (lv_at hl 0 rfl) ?_
      refine va_get (D := G.1) (ci := 9) (v := .ref c1) (C := R_Mo) (T := F_Mo) (N := 24) hx hb hts i_Mo hown hK hP 0 rfl rfl 17 (by decide) (hts _ q427) (fun _ h9 => h9) rfl d_Mo_assign_29 ?_
      refine lv_iload_n hx hb d_Mo_assign_32 rfl (lv_at hl 1 rfl) ?_
      refine lv_iload_n hx hb d_Mo_assign_33 rfl (lv_at hl 3 rfl) ?_
      refine lv_iadd hx hb d_Mo_assign_34 ?_
      obtain ⟨hi20, h⟩ := Ix_e h
      refine va_iald hx hb hK hP 1 1 rfl rfl hi20 d_Mo_assign_35 ?_
      refine lv_if_le (tgt := 56) hx hb d_Mo_assign_36 (by decide) (fun cq21 => ?_) (fun cq21 => ?_)
      · replace h := (if_pos cq21).symm.trans h
        obtain ⟨v22, ev22⟩ : ∃ y : Int32, y = i3 + 1 := ⟨_, rfl⟩
        replace h := Lt_e h ev22
        refine lv_iinc (v := v22) (lv' := [(3, .int v22), (0, .ref c0), (1, .int i1), (2, .int i2)]) hx hb d_Mo_assign_56 hl (k := 3) rfl (by rw [ev22]; rfl) (by decide) rfl (fun ls hl => ?_)
        refine lv_goto (tgt := 23) hx hb d_Mo_assign_59 (by decide) ?_
        exact ih v22 g_3  _ _ _ h hP hD hS (lv_sub hl [1, 2, 3, 0] rfl)
      · replace h := (if_neg cq21).symm.trans h
        refine lv_aload_n hx hb d_Mo_assign_39 rfl (lv_at hl 0 rfl) ?_
        refine va_get (D := G.1) (ci := 9) (v := .ref c3) (C := R_Mo) (T := F_Mo) (N := 24) hx hb hts i_Mo hown hK hP 0 rfl rfl 20 (by decide) (hts _ q430) (fun _ h9 => h9) rfl d_Mo_assign_40 ?_
        refine lv_aload_n hx hb d_Mo_assign_43 rfl (lv_at hl 0 rfl) ?_
        refine va_get (D := G.1) (ci := 9) (v := .ref c1) (C := R_Mo) (T := F_Mo) (N := 24) hx hb hts i_Mo hown hK hP 0 rfl rfl 17 (by decide) (hts _ q427) (fun _ h9 => h9) rfl d_Mo_assign_44 ?_
        refine lv_iload_n hx hb d_Mo_assign_47 rfl (lv_at hl 1 rfl) ?_
        refine lv_iload_n hx hb d_Mo_assign_48 rfl (lv_at hl 3 rfl) ?_
        refine lv_iadd hx hb d_Mo_assign_49 ?_
        obtain ⟨hi23, h⟩ := Ix_e h
        refine va_iald hx hb hK hP 1 1 rfl rfl hi23 d_Mo_assign_50 ?_
        refine lv_dup2_11 hx hb d_Mo_assign_51 rfl rfl ?_
        obtain ⟨hi24, h⟩ := Ix_e h
        refine va_iald hx hb hK hP 3 1 rfl rfl hi24 d_Mo_assign_52 ?_
        refine lv_iconst (v := 1) hx hb d_Mo_assign_53 (by decide) ?_
        refine lv_iadd hx hb d_Mo_assign_54 ?_
        obtain ⟨hi25, h⟩ := Ix_e h
        refine y_iast hx hb hK hP hD hS 3 1 rfl rfl hi25 d_Mo_assign_55 (fun g26 H locs eg26 hP hD hS => ?_)
        replace h := Lt_e h eg26
        have hP : va_P G.1 classes [(c0, .inr (9, [.ref u0_0, .ref u0_1, .ref u0_2, .int y0_3, .int y0_4, .int y0_5, .int y0_6, .int y0_7, .int y0_8, .int y0_9, .int y0_10, .int y0_11, .int y0_12, .int y0_13, .int y0_14, .int y0_15, .int y0_16, .ref c1, .ref c2, .ref u0_19, .ref c3, .ref c4, .ref u0_22, .ref u0_23])), (c1, .inl (G.2.1 1, m1, .inl g_1)), (c2, .inl (G.2.1 1, m2, .inl g_2)), (c3, .inl (G.2.1 1, m3, .inl g26)), (c4, .inl (G.2.1 1, m4, .inl g_4))] H := hP
        have hD : va_D A [(c0, .inr (9, [.ref u0_0, .ref u0_1, .ref u0_2, .int y0_3, .int y0_4, .int y0_5, .int y0_6, .int y0_7, .int y0_8, .int y0_9, .int y0_10, .int y0_11, .int y0_12, .int y0_13, .int y0_14, .int y0_15, .int y0_16, .ref c1, .ref c2, .ref u0_19, .ref c3, .ref c4, .ref u0_22, .ref u0_23])), (c1, .inl (G.2.1 1, m1, .inl g_1)), (c2, .inl (G.2.1 1, m2, .inl g_2)), (c3, .inl (G.2.1 1, m3, .inl g26)), (c4, .inl (G.2.1 1, m4, .inl g_4))] := hD
        obtain ⟨v27, ev27⟩ : ∃ y : Int32, y = i3 + 1 := ⟨_, rfl⟩
        replace h := Lt_e h ev27
        refine lv_iinc (v := v27) (lv' := [(3, .int v27), (0, .ref c0), (1, .int i1), (2, .int i2)]) hx hb d_Mo_assign_56 hl (k := 3) rfl (by rw [ev27]; rfl) (by decide) rfl (fun ls hl => ?_)
        refine lv_goto (tgt := 23) hx hb d_Mo_assign_59 (by decide) ?_
        exact ih v27 g26  _ _ _ h hP hD hS (lv_sub hl [1, 2, 3, 0] rfl)
set_option maxHeartbeats 4000000 in
set_option maxRecDepth 100000 in
theorem w_Mo_assign_67 {p : Program} {l : Launch} {e : Env} {R : Room} {s : State} {m : MethodId} {args : Array Value} {below : List Frame} {meth : Method} {c : Code} {Q : State → Prop} {G : GX} {A : Nat → Prop} (C0 : Cx p s m args meth c b_Mo_assign 6 y_Mo_assign none) (hRf : 0 ≤ R.frames) (hRl : 0 ≤ R.locals) (hA : ∀ q, s.heap.size ≤ q → A q) (hK : KX G s) (hT : TX G A s) (N : Nat) (i1 : Int32) (i2 : Int32) (y0_3 : Int32) (y0_4 : Int32) (y0_5 : Int32) (y0_6 : Int32) (y0_7 : Int32) (y0_8 : Int32) (y0_9 : Int32) (y0_10 : Int32) (y0_11 : Int32) (y0_12 : Int32) (y0_13 : Int32) (y0_14 : Int32) (y0_15 : Int32) (y0_16 : Int32) (m1 : Nat) (g_1 : (Nat → Int32)) (m2 : Nat) (g_2 : (Nat → Int32)) (m3 : Nat) (g_3 : (Nat → Int32)) (m4 : Nat) (c0 c1 c2 c3 c4 u0_0 u0_1 u0_2 u0_19 u0_22 u0_23 : Nat) (out : (Nat → Int32)) {kc ks : Nat} (hkc : kc ≤ R.cells) (hks : ks ≤ R.slots)
    (kx102 : ∀ (H : Heap) (locs : List Loc) (ls : Array Slot), va_P G.1 classes [(c0, .inr (9, [.ref u0_0, .ref u0_1, .ref u0_2, .int y0_3, .int y0_4, .int y0_5, .int y0_6, .int y0_7, .int y0_8, .int y0_9, .int y0_10, .int y0_11, .int y0_12, .int y0_13, .int y0_14, .int y0_15, .int y0_16, .ref c1, .ref c2, .ref u0_19, .ref c3, .ref c4, .ref u0_22, .ref u0_23])), (c1, .inl (G.2.1 1, m1, .inl g_1)), (c2, .inl (G.2.1 1, m2, .inl g_2)), (c3, .inl (G.2.1 1, m3, .inl g_3)), (c4, .inl (G.2.1 1, m4, .inl out))] H → va_D A [(c0, .inr (9, [.ref u0_0, .ref u0_1, .ref u0_2, .int y0_3, .int y0_4, .int y0_5, .int y0_6, .int y0_7, .int y0_8, .int y0_9, .int y0_10, .int y0_11, .int y0_12, .int y0_13, .int y0_14, .int y0_15, .int y0_16, .ref c1, .ref c2, .ref u0_19, .ref c3, .ref c4, .ref u0_22, .ref u0_23])), (c1, .inl (G.2.1 1, m1, .inl g_1)), (c2, .inl (G.2.1 1, m2, .inl g_2)), (c3, .inl (G.2.1 1, m3, .inl g_3)), (c4, .inl (G.2.1 1, m4, .inl out))] → va_S A s.heap H locs → lv_has ls 6 [(0, .ref c0), (1, .int i1), (2, .int i2)] → W p l e R s m args below meth c H locs kc ks Q (F0 m 102 ls [])) :
    ∀ (n : Nat) (i3 : Int32) (i4 : Int32) (g_4 : (Nat → Int32)) (H : Heap) (locs : List Loc) (ls : Array Slot), lp_Mo_assign_67 N m3 g_3 m4 n i3 i4 g_4 = some out → va_P G.1 classes [(c0, .inr (9, [.ref u0_0, .ref u0_1, .ref u0_2, .int y0_3, .int y0_4, .int y0_5, .int y0_6, .int y0_7, .int y0_8, .int y0_9, .int y0_10, .int y0_11, .int y0_12, .int y0_13, .int y0_14, .int y0_15, .int y0_16, .ref c1, .ref c2, .ref u0_19, .ref c3, .ref c4, .ref u0_22, .ref u0_23])), (c1, .inl (G.2.1 1, m1, .inl g_1)), (c2, .inl (G.2.1 1, m2, .inl g_2)), (c3, .inl (G.2.1 1, m3, .inl g_3)), (c4, .inl (G.2.1 1, m4, .inl g_4))] H → va_D A [(c0, .inr (9, [.ref u0_0, .ref u0_1, .ref u0_2, .int y0_3, .int y0_4, .int y0_5, .int y0_6, .int y0_7, .int y0_8, .int y0_9, .int y0_10, .int y0_11, .int y0_12, .int y0_13, .int y0_14, .int y0_15, .int y0_16, .ref c1, .ref c2, .ref u0_19, .ref c3, .ref c4, .ref u0_22, .ref u0_23])), (c1, .inl (G.2.1 1, m1, .inl g_1)), (c2, .inl (G.2.1 1, m2, .inl g_2)), (c3, .inl (G.2.1 1, m3, .inl g_3)), (c4, .inl (G.2.1 1, m4, .inl g_4))] → va_S A s.heap H locs → lv_has ls 6 [(0, .ref c0), (1, .int i1), (2, .int i2), (3, .int i3), (4, .int i4)] → W p l e R s m args below meth c H locs kc ks Q (F0 m 67 ls []) := by
  obtain ⟨hx, hb, hml, hown, hts, hr, hlocks, hin⟩ := id C0
  have hown : s.vm.findClass R_Mo = some m.cls := hown
  intro n
  induction n with
  | zero => intro i3 i4 g_4 H locs ls h; cases h
  | succ n ih =>
    intro i3 i4 g_4 H locs ls h hP hD hS hl
    replace h : lb_Mo_assign_67 N m3 g_3 m4 (lp_Mo_assign_67 N m3 g_3 m4 n) i3 i4 g_4 = some out := h
    unfold lb_Mo_assign_67 at h
    refine lv_iload hx hb d_Mo_assign_67 (lv_at hl 4 rfl) ?_
    refine lv_bipush (v := 17) hx hb d_Mo_assign_69 (by decide) ?_
    refine lv_icmp_ge (tgt := 102) hx hb d_Mo_assign_71 (by decide) (fun cq35 => ?_) (fun cq35 => ?_)
    · replace h := (if_pos cq35).symm.trans h
      have eV := so1 h
      subst eV
      exact kx102 _ _ _ hP hD hS (lv_sub hl [0, 1, 2] rfl)
    · replace h := (if_neg cq35).symm.trans h
      refine lv_iload_n hx hb d_Mo_assign_74 rfl (lv_at hl 3 rfl) ?_
      refine lv_aload_n hx hb d_Mo_assign_75 rfl (lv_at hl 0 rfl) ?_
      refine va_get (D := G.1) (ci := 9) (v := .ref c3) (C := R_Mo) (T := F_Mo) (N := 24) hx hb hts i_Mo hown hK hP 0 rfl rfl 20 (by decide) (hts _ q430) (fun _ h9 => h9) rfl d_Mo_assign_76 ?_
      refine lv_iload hx hb d_Mo_assign_79 (lv_at hl 4 rfl) ?_
      refine lv_iconst (v := 1) hx hb d_Mo_assign_81 (by decide) ?_
      refine lv_isub hx hb d_Mo_assign_82 ?_
      obtain ⟨hi36, h⟩ := Ix_e h
      refine va_iald hx hb hK hP 3 1 rfl rfl hi36 d_Mo_assign_83 ?_
      refine lv_iadd hx hb d_Mo_assign_84 ?_
      refine lv_iconst (v := 1) hx hb d_Mo_assign_85 (by decide) ?_
      refine lv_ishl hx hb d_Mo_assign_86 ?_
      refine lv_topi (fun v37 ev37 => ?_)
      replace h := Lt_e h ev37
      refine lv_istore_n (lv' := [(3, .int v37), (0, .ref c0), (1, .int i1), (2, .int i2), (4, .int i4)]) hx hb d_Mo_assign_87 rfl hl (by decide) rfl (fun ls hl => ?_)
      refine lv_aload_n hx hb d_Mo_assign_88 rfl (lv_at hl 1 rfl) ?_
      refine va_get (D := G.1) (ci := 9) (v := .ref c4) (C := R_Mo) (T := F_Mo) (N := 24) hx hb hts i_Mo hown hK hP 0 rfl rfl 21 (by decide) (hts _ q431) (fun _ h9 => h9) rfl d_Mo_assign_89 ?_
      refine lv_iload hx hb d_Mo_assign_92 (lv_at hl 4 rfl) ?_
      refine lv_iload_n hx hb d_Mo_assign_94 rfl (lv_at hl 0 rfl) ?_
      obtain ⟨hi38, h⟩ := Ix_e h
      refine y_iast hx hb hK hP hD hS 4 1 rfl rfl hi38 d_Mo_assign_95 (fun g39 H locs eg39 hP hD hS => ?_)
      replace h := Lt_e h eg39
      have hP : va_P G.1 classes [(c0, .inr (9, [.ref u0_0, .ref u0_1, .ref u0_2, .int y0_3, .int y0_4, .int y0_5, .int y0_6, .int y0_7, .int y0_8, .int y0_9, .int y0_10, .int y0_11, .int y0_12, .int y0_13, .int y0_14, .int y0_15, .int y0_16, .ref c1, .ref c2, .ref u0_19, .ref c3, .ref c4, .ref u0_22, .ref u0_23])), (c1, .inl (G.2.1 1, m1, .inl g_1)), (c2, .inl (G.2.1 1, m2, .inl g_2)), (c3, .inl (G.2.1 1, m3, .inl g_3)), (c4, .inl (G.2.1 1, m4, .inl g39))] H := hP
      have hD : va_D A [(c0, .inr (9, [.ref u0_0, .ref u0_1, .ref u0_2, .int y0_3, .int y0_4, .int y0_5, .int y0_6, .int y0_7, .int y0_8, .int y0_9, .int y0_10, .int y0_11, .int y0_12, .int y0_13, .int y0_14, .int y0_15, .int y0_16, .ref c1, .ref c2, .ref u0_19, .ref c3, .ref c4, .ref u0_22, .ref u0_23])), (c1, .inl (G.2.1 1, m1, .inl g_1)), (c2, .inl (G.2.1 1, m2, .inl g_2)), (c3, .inl (G.2.1 1, m3, .inl g_3)), (c4, .inl (G.2.1 1, m4, .inl g39))] := hD
      obtain ⟨v40, ev40⟩ : ∃ y : Int32, y = i4 + 1 := ⟨_, rfl⟩
      replace h := Lt_e h ev40
      refine lv_iinc (v := v40) (lv' := [(4, .int v40), (3, .int v37), (0, .ref c0), (1, .int i1), (2, .int i2)]) hx hb d_Mo_assign_96 hl (k := 4) rfl (by rw [ev40]; rfl) (by decide) rfl (fun ls hl => ?_)
      refine lv_goto (tgt := 67) hx hb d_Mo_assign_99 (by decide) ?_
      exact ih v37 v40 g39  _ _ _ h hP hD hS (lv_sub hl [2, 3, 4, 1, 0] rfl)
set_option maxHeartbeats 4000000 in
set_option maxRecDepth 100000 in
theorem w_Mo_assign_105 {p : Program} {l : Launch} {e : Env} {R : Room} {s : State} {m : MethodId} {args : Array Value} {below : List Frame} {meth : Method} {c : Code} {Q : State → Prop} {G : GX} {A : Nat → Prop} (C0 : Cx p s m args meth c b_Mo_assign 6 y_Mo_assign none) (hRf : 0 ≤ R.frames) (hRl : 0 ≤ R.locals) (hA : ∀ q, s.heap.size ≤ q → A q) (hK : KX G s) (hT : TX G A s) (N : Nat) (i1 : Int32) (i2 : Int32) (y0_3 : Int32) (y0_4 : Int32) (y0_5 : Int32) (y0_6 : Int32) (y0_7 : Int32) (y0_8 : Int32) (y0_9 : Int32) (y0_10 : Int32) (y0_11 : Int32) (y0_12 : Int32) (y0_13 : Int32) (y0_14 : Int32) (y0_15 : Int32) (y0_16 : Int32) (m1 : Nat) (g_1 : (Nat → Int32)) (m2 : Nat) (m3 : Nat) (g_3 : (Nat → Int32)) (m4 : Nat) (c0 c1 c2 c3 c4 u0_0 u0_1 u0_2 u0_19 u0_22 u0_23 : Nat) (out : (Nat → Int32) × (Nat → Int32)) {kc ks : Nat} (hkc : kc ≤ R.cells) (hks : ks ≤ R.slots)
    (kx160 : ∀ (H : Heap) (locs : List Loc) (ls : Array Slot), va_P G.1 classes [(c0, .inr (9, [.ref u0_0, .ref u0_1, .ref u0_2, .int y0_3, .int y0_4, .int y0_5, .int y0_6, .int y0_7, .int y0_8, .int y0_9, .int y0_10, .int y0_11, .int y0_12, .int y0_13, .int y0_14, .int y0_15, .int y0_16, .ref c1, .ref c2, .ref u0_19, .ref c3, .ref c4, .ref u0_22, .ref u0_23])), (c1, .inl (G.2.1 1, m1, .inl g_1)), (c2, .inl (G.2.1 1, m2, .inl out.1)), (c3, .inl (G.2.1 1, m3, .inl g_3)), (c4, .inl (G.2.1 1, m4, .inl out.2))] H → va_D A [(c0, .inr (9, [.ref u0_0, .ref u0_1, .ref u0_2, .int y0_3, .int y0_4, .int y0_5, .int y0_6, .int y0_7, .int y0_8, .int y0_9, .int y0_10, .int y0_11, .int y0_12, .int y0_13, .int y0_14, .int y0_15, .int y0_16, .ref c1, .ref c2, .ref u0_19, .ref c3, .ref c4, .ref u0_22, .ref u0_23])), (c1, .inl (G.2.1 1, m1, .inl g_1)), (c2, .inl (G.2.1 1, m2, .inl out.1)), (c3, .inl (G.2.1 1, m3, .inl g_3)), (c4, .inl (G.2.1 1, m4, .inl out.2))] → va_S A s.heap H locs → lv_has ls 6 [] → W p l e R s m args below meth c H locs kc ks Q (F0 m 160 ls [])) :
    ∀ (n : Nat) (i4 : Int32) (g_2 : (Nat → Int32)) (g_4 : (Nat → Int32)) (H : Heap) (locs : List Loc) (ls : Array Slot), lp_Mo_assign_105 N i1 i2 m1 g_1 m2 m4 n i4 g_2 g_4 = some out → va_P G.1 classes [(c0, .inr (9, [.ref u0_0, .ref u0_1, .ref u0_2, .int y0_3, .int y0_4, .int y0_5, .int y0_6, .int y0_7, .int y0_8, .int y0_9, .int y0_10, .int y0_11, .int y0_12, .int y0_13, .int y0_14, .int y0_15, .int y0_16, .ref c1, .ref c2, .ref u0_19, .ref c3, .ref c4, .ref u0_22, .ref u0_23])), (c1, .inl (G.2.1 1, m1, .inl g_1)), (c2, .inl (G.2.1 1, m2, .inl g_2)), (c3, .inl (G.2.1 1, m3, .inl g_3)), (c4, .inl (G.2.1 1, m4, .inl g_4))] H → va_D A [(c0, .inr (9, [.ref u0_0, .ref u0_1, .ref u0_2, .int y0_3, .int y0_4, .int y0_5, .int y0_6, .int y0_7, .int y0_8, .int y0_9, .int y0_10, .int y0_11, .int y0_12, .int y0_13, .int y0_14, .int y0_15, .int y0_16, .ref c1, .ref c2, .ref u0_19, .ref c3, .ref c4, .ref u0_22, .ref u0_23])), (c1, .inl (G.2.1 1, m1, .inl g_1)), (c2, .inl (G.2.1 1, m2, .inl g_2)), (c3, .inl (G.2.1 1, m3, .inl g_3)), (c4, .inl (G.2.1 1, m4, .inl g_4))] → va_S A s.heap H locs → lv_has ls 6 [(0, .ref c0), (1, .int i1), (2, .int i2), (4, .int i4)] → W p l e R s m args below meth c H locs kc ks Q (F0 m 105 ls []) := by
  obtain ⟨hx, hb, hml, hown, hts, hr, hlocks, hin⟩ := id C0
  have hown : s.vm.findClass R_Mo = some m.cls := hown
  intro n
  induction n with
  | zero => intro i4 g_2 g_4 H locs ls h; cases h
  | succ n ih =>
    intro i4 g_2 g_4 H locs ls h hP hD hS hl
    replace h : lb_Mo_assign_105 N i1 i2 m1 g_1 m2 m4 (lp_Mo_assign_105 N i1 i2 m1 g_1 m2 m4 n) i4 g_2 g_4 = some out := h
    unfold lb_Mo_assign_105 at h
    refine lv_iload hx hb d_Mo_assign_105 (lv_at hl 3 rfl) ?_
    refine lv_iload_n hx hb d_Mo_assign_107 rfl (lv_at hl 2 rfl) ?_
    refine lv_icmp_ge (tgt := 160) hx hb d_Mo_assign_108 (by decide) (fun cq54 => ?_) (fun cq54 => ?_)
    · replace h := (if_pos cq54).symm.trans h
      have eV := so1 h
      subst eV
      exact kx160 _ _ _ hP hD hS (lv_sub hl [] rfl)
    · replace h := (if_neg cq54).symm.trans h
      refine lv_aload_n hx hb d_Mo_assign_111 rfl (lv_at hl 0 rfl) ?_
      refine va_get (D := G.1) (ci := 9) (v := .ref c1) (C := R_Mo) (T := F_Mo) (N := 24) hx hb hts i_Mo hown hK hP 0 rfl rfl 17 (by decide) (hts _ q427) (fun _ h9 => h9) rfl d_Mo_assign_112 ?_
      refine lv_iload_n hx hb d_Mo_assign_115 rfl (lv_at hl 1 rfl) ?_
      refine lv_iload hx hb d_Mo_assign_116 (lv_at hl 3 rfl) ?_
      refine lv_iadd hx hb d_Mo_assign_118 ?_
      obtain ⟨hi55, h⟩ := Ix_e h
      refine va_iald hx hb hK hP 1 1 rfl rfl hi55 d_Mo_assign_119 ?_
      refine lv_topi (fun v56 ev56 => ?_)
      replace h := Lt_e h ev56
      refine lv_istore (lv' := [(5, .int v56), (0, .ref c0), (1, .int i1), (2, .int i2), (4, .int i4)]) hx hb d_Mo_assign_120 hl (by decide) rfl (fun ls hl => ?_)
      refine lv_aload_n hx hb d_Mo_assign_122 rfl (lv_at hl 1 rfl) ?_
      refine va_get (D := G.1) (ci := 9) (v := .ref c2) (C := R_Mo) (T := F_Mo) (N := 24) hx hb hts i_Mo hown hK hP 0 rfl rfl 18 (by decide) (hts _ q428) (fun _ h9 => h9) rfl d_Mo_assign_123 ?_
      refine lv_iload_n hx hb d_Mo_assign_126 rfl (lv_at hl 2 rfl) ?_
      refine lv_iload hx hb d_Mo_assign_127 (lv_at hl 4 rfl) ?_
      refine lv_iadd hx hb d_Mo_assign_129 ?_
      refine lv_aload_n hx hb d_Mo_assign_130 rfl (lv_at hl 1 rfl) ?_
      refine va_get (D := G.1) (ci := 9) (v := .ref c4) (C := R_Mo) (T := F_Mo) (N := 24) hx hb hts i_Mo hown hK hP 0 rfl rfl 21 (by decide) (hts _ q431) (fun _ h9 => h9) rfl d_Mo_assign_131 ?_
      refine lv_iload hx hb d_Mo_assign_134 (lv_at hl 0 rfl) ?_
      obtain ⟨hi57, h⟩ := Ix_e h
      refine va_iald hx hb hK hP 4 1 rfl rfl hi57 d_Mo_assign_136 ?_
      obtain ⟨hi58, h⟩ := Ix_e h
      refine y_iast hx hb hK hP hD hS 2 1 rfl rfl hi58 d_Mo_assign_137 (fun g59 H locs eg59 hP hD hS => ?_)
      replace h := Lt_e h eg59
      have hP : va_P G.1 classes [(c0, .inr (9, [.ref u0_0, .ref u0_1, .ref u0_2, .int y0_3, .int y0_4, .int y0_5, .int y0_6, .int y0_7, .int y0_8, .int y0_9, .int y0_10, .int y0_11, .int y0_12, .int y0_13, .int y0_14, .int y0_15, .int y0_16, .ref c1, .ref c2, .ref u0_19, .ref c3, .ref c4, .ref u0_22, .ref u0_23])), (c1, .inl (G.2.1 1, m1, .inl g_1)), (c2, .inl (G.2.1 1, m2, .inl g59)), (c3, .inl (G.2.1 1, m3, .inl g_3)), (c4, .inl (G.2.1 1, m4, .inl g_4))] H := hP
      have hD : va_D A [(c0, .inr (9, [.ref u0_0, .ref u0_1, .ref u0_2, .int y0_3, .int y0_4, .int y0_5, .int y0_6, .int y0_7, .int y0_8, .int y0_9, .int y0_10, .int y0_11, .int y0_12, .int y0_13, .int y0_14, .int y0_15, .int y0_16, .ref c1, .ref c2, .ref u0_19, .ref c3, .ref c4, .ref u0_22, .ref u0_23])), (c1, .inl (G.2.1 1, m1, .inl g_1)), (c2, .inl (G.2.1 1, m2, .inl g59)), (c3, .inl (G.2.1 1, m3, .inl g_3)), (c4, .inl (G.2.1 1, m4, .inl g_4))] := hD
      refine lv_iload hx hb d_Mo_assign_138 (lv_at hl 0 rfl) ?_
      refine lv_if_le (tgt := 154) hx hb d_Mo_assign_140 (by decide) (fun cq60 => ?_) (fun cq60 => ?_)
      · replace h := (if_pos cq60).symm.trans h
        obtain ⟨v61, ev61⟩ : ∃ y : Int32, y = i4 + 1 := ⟨_, rfl⟩
        replace h := Lt_e h ev61
        refine lv_iinc (v := v61) (lv' := [(4, .int v61), (5, .int v56), (0, .ref c0), (1, .int i1), (2, .int i2)]) hx hb d_Mo_assign_154 hl (k := 4) rfl (by rw [ev61]; rfl) (by decide) rfl (fun ls hl => ?_)
        refine lv_goto (tgt := 105) hx hb d_Mo_assign_157 (by decide) ?_
        exact ih v61 g59 g_4  _ _ _ h hP hD hS (lv_sub hl [2, 3, 4, 0] rfl)
      · replace h := (if_neg cq60).symm.trans h
        refine lv_aload_n hx hb d_Mo_assign_143 rfl (lv_at hl 1 rfl) ?_
        refine va_get (D := G.1) (ci := 9) (v := .ref c4) (C := R_Mo) (T := F_Mo) (N := 24) hx hb hts i_Mo hown hK hP 0 rfl rfl 21 (by decide) (hts _ q431) (fun _ h9 => h9) rfl d_Mo_assign_144 ?_
        refine lv_iload hx hb d_Mo_assign_147 (lv_at hl 0 rfl) ?_
        refine lv_dup2_11 hx hb d_Mo_assign_149 rfl rfl ?_
        obtain ⟨hi62, h⟩ := Ix_e h
        refine va_iald hx hb hK hP 4 1 rfl rfl hi62 d_Mo_assign_150 ?_
        refine lv_iconst (v := 1) hx hb d_Mo_assign_151 (by decide) ?_
        refine lv_iadd hx hb d_Mo_assign_152 ?_
        obtain ⟨hi63, h⟩ := Ix_e h
        refine y_iast hx hb hK hP hD hS 4 1 rfl rfl hi63 d_Mo_assign_153 (fun g64 H locs eg64 hP hD hS => ?_)
        replace h := Lt_e h eg64
        have hP : va_P G.1 classes [(c0, .inr (9, [.ref u0_0, .ref u0_1, .ref u0_2, .int y0_3, .int y0_4, .int y0_5, .int y0_6, .int y0_7, .int y0_8, .int y0_9, .int y0_10, .int y0_11, .int y0_12, .int y0_13, .int y0_14, .int y0_15, .int y0_16, .ref c1, .ref c2, .ref u0_19, .ref c3, .ref c4, .ref u0_22, .ref u0_23])), (c1, .inl (G.2.1 1, m1, .inl g_1)), (c2, .inl (G.2.1 1, m2, .inl g59)), (c3, .inl (G.2.1 1, m3, .inl g_3)), (c4, .inl (G.2.1 1, m4, .inl g64))] H := hP
        have hD : va_D A [(c0, .inr (9, [.ref u0_0, .ref u0_1, .ref u0_2, .int y0_3, .int y0_4, .int y0_5, .int y0_6, .int y0_7, .int y0_8, .int y0_9, .int y0_10, .int y0_11, .int y0_12, .int y0_13, .int y0_14, .int y0_15, .int y0_16, .ref c1, .ref c2, .ref u0_19, .ref c3, .ref c4, .ref u0_22, .ref u0_23])), (c1, .inl (G.2.1 1, m1, .inl g_1)), (c2, .inl (G.2.1 1, m2, .inl g59)), (c3, .inl (G.2.1 1, m3, .inl g_3)), (c4, .inl (G.2.1 1, m4, .inl g64))] := hD
        obtain ⟨v65, ev65⟩ : ∃ y : Int32, y = i4 + 1 := ⟨_, rfl⟩
        replace h := Lt_e h ev65
        refine lv_iinc (v := v65) (lv' := [(4, .int v65), (5, .int v56), (0, .ref c0), (1, .int i1), (2, .int i2)]) hx hb d_Mo_assign_154 hl (k := 4) rfl (by rw [ev65]; rfl) (by decide) rfl (fun ls hl => ?_)
        refine lv_goto (tgt := 105) hx hb d_Mo_assign_157 (by decide) ?_
        exact ih v65 g59 g64  _ _ _ h hP hD hS (lv_sub hl [2, 3, 4, 0] rfl)
set_option maxHeartbeats 4000000 in
set_option maxRecDepth 100000 in
theorem c_Mo_assign (l : Launch) (G : GX) (a0 a1 a2 a3 a4 o0_0 o0_1 o0_2 o0_19 o0_22 o0_23 : Nat) (sz : Nat) (x0_3 : Int32) (x0_4 : Int32) (x0_5 : Int32) (x0_6 : Int32) (x0_7 : Int32) (x0_8 : Int32) (x0_9 : Int32) (x0_10 : Int32) (x0_11 : Int32) (x0_12 : Int32) (x0_13 : Int32) (x0_14 : Int32) (x0_15 : Int32) (x0_16 : Int32) (n1 : Nat) (f1 : (Nat → Int32)) (n2 : Nat) (f2 : (Nat → Int32)) (n3 : Nat) (f3 : (Nat → Int32)) (n4 : Nat) (f4 : (Nat → Int32)) (p1 : Int32) (p2 : Int32) (N : Nat) (V : (Nat → Int32) × (Nat → Int32) × (Nat → Int32)) (h : f_Mo_assign N n1 f1 n2 f2 n3 f3 n4 f4 p1 p2 = some V) :
    Met l y_Mo_assign (wd y_Mo_assign b_Mo_assign 6 none) { frames := 0, cells := 0, slots := 0, locals := 0 } (PX G [.ref a0, .int p1, .int p2] sz [(a0, .inr (9, [.ref o0_0, .ref o0_1, .ref o0_2, .int x0_3, .int x0_4, .int x0_5, .int x0_6, .int x0_7, .int x0_8, .int x0_9, .int x0_10, .int x0_11, .int x0_12, .int x0_13, .int x0_14, .int x0_15, .int x0_16, .ref a2, .ref a4, .ref o0_19, .ref a1, .ref a3, .ref o0_22, .ref o0_23])), (a1, .inl (G.2.1 1, n1, .inl f1)), (a2, .inl (G.2.1 1, n2, .inl f2)), (a3, .inl (G.2.1 1, n3, .inl f3)), (a4, .inl (G.2.1 1, n4, .inl f4))])
      (QXv G (fun w => w = [(a0, .inr (9, [.ref o0_0, .ref o0_1, .ref o0_2, .int x0_3, .int x0_4, .int x0_5, .int x0_6, .int x0_7, .int x0_8, .int x0_9, .int x0_10, .int x0_11, .int x0_12, .int x0_13, .int x0_14, .int x0_15, .int x0_16, .ref a2, .ref a4, .ref o0_19, .ref a1, .ref a3, .ref o0_22, .ref o0_23])), (a1, .inl (G.2.1 1, n1, .inl V.1)), (a2, .inl (G.2.1 1, n2, .inl f2)), (a3, .inl (G.2.1 1, n3, .inl V.2.1)), (a4, .inl (G.2.1 1, n4, .inl V.2.2))]) (va_A [(a0, .inr (9, [.ref o0_0, .ref o0_1, .ref o0_2, .int x0_3, .int x0_4, .int x0_5, .int x0_6, .int x0_7, .int x0_8, .int x0_9, .int x0_10, .int x0_11, .int x0_12, .int x0_13, .int x0_14, .int x0_15, .int x0_16, .ref a2, .ref a4, .ref o0_19, .ref a1, .ref a3, .ref o0_22, .ref o0_23])), (a1, .inl (G.2.1 1, n1, .inl f1)), (a2, .inl (G.2.1 1, n2, .inl f2)), (a3, .inl (G.2.1 1, n3, .inl f3)), (a4, .inl (G.2.1 1, n4, .inl f4))] sz)) 0 0 (va_A [(a0, .inr (9, [.ref o0_0, .ref o0_1, .ref o0_2, .int x0_3, .int x0_4, .int x0_5, .int x0_6, .int x0_7, .int x0_8, .int x0_9, .int x0_10, .int x0_11, .int x0_12, .int x0_13, .int x0_14, .int x0_15, .int x0_16, .ref a2, .ref a4, .ref o0_19, .ref a1, .ref a3, .ref o0_22, .ref o0_23])), (a1, .inl (G.2.1 1, n1, .inl f1)), (a2, .inl (G.2.1 1, n2, .inl f2)), (a3, .inl (G.2.1 1, n3, .inl f3)), (a4, .inl (G.2.1 1, n4, .inl f4))] sz) := by
  refine Met_in (QQ := fun A => QXv G (fun w => w = [(a0, .inr (9, [.ref o0_0, .ref o0_1, .ref o0_2, .int x0_3, .int x0_4, .int x0_5, .int x0_6, .int x0_7, .int x0_8, .int x0_9, .int x0_10, .int x0_11, .int x0_12, .int x0_13, .int x0_14, .int x0_15, .int x0_16, .ref a2, .ref a4, .ref o0_19, .ref a1, .ref a3, .ref o0_22, .ref o0_23])), (a1, .inl (G.2.1 1, n1, .inl V.1)), (a2, .inl (G.2.1 1, n2, .inl f2)), (a3, .inl (G.2.1 1, n3, .inl V.2.1)), (a4, .inl (G.2.1 1, n4, .inl V.2.2))]) A) (by decide) (Nat.le_of_ble_eq_true rfl) (fun p e s m below meth c R Q A ls C0 hRf hRl hRc hRs hP hK hD hT hA hS hl hQ => ?_)
  obtain ⟨hx, hb, hml, hown, hts, hr, hlocks, hin⟩ := id C0
  have hown : s.vm.findClass R_Mo = some m.cls := hown
  have hl : lv_has ls 6 [(0, .ref a0), (1, .int p1), (2, .int p2)] := hl
  unfold f_Mo_assign at h
  have hkc : 0 ≤ R.cells := Nat.zero_le _
  have hks : 0 ≤ R.slots := Nat.zero_le _
  obtain ⟨H, hH⟩ : ∃ H, H = s.heap := ⟨_, rfl⟩
  obtain ⟨locs, hlc⟩ : ∃ x : List Loc, x = [] := ⟨_, rfl⟩
  rw [← hH] at hP
  have hS : va_S A s.heap H locs := by rw [hH, hlc]; exact hS
  suffices hgo : W p l e R s m [.ref a0, .int p1, .int p2].toArray below meth c H locs 0 0 Q (F0 m 0 ls []) by rw [hH, hlc] at hgo; exact hgo
  refine lv_iconst (v := 0) hx hb d_Mo_assign_0 (by decide) ?_
  refine lv_istore_n (lv' := [(3, .int 0), (0, .ref a0), (1, .int p1), (2, .int p2)]) hx hb d_Mo_assign_1 rfl hl (by decide) rfl (fun ls hl => ?_)
  obtain ⟨r9, hc9, h⟩ := Bd_e h
  refine w_Mo_assign_2 C0 hRf hRl hA hK hT N p1 p2 x0_3 x0_4 x0_5 x0_6 x0_7 x0_8 x0_9 x0_10 x0_11 x0_12 x0_13 x0_14 x0_15 x0_16 n2 f2 n4 f4 n1 n3 f3 a0 a2 a4 a1 a3 o0_0 o0_1 o0_2 o0_19 o0_22 o0_23 r9 (kc := 0) (ks := 0) hkc hks ?_ N 0 f1  _ _ _ hc9 (hP.sub (ws' := [(a0, .inr (9, [.ref o0_0, .ref o0_1, .ref o0_2, .int x0_3, .int x0_4, .int x0_5, .int x0_6, .int x0_7, .int x0_8, .int x0_9, .int x0_10, .int x0_11, .int x0_12, .int x0_13, .int x0_14, .int x0_15, .int x0_16, .ref a2, .ref a4, .ref o0_19, .ref a1, .ref a3, .ref o0_22, .ref o0_23])), (a2, .inl (G.2.1 1, n2, .inl f2)), (a4, .inl (G.2.1 1, n4, .inl f4)), (a1, .inl (G.2.1 1, n1, .inl f1)), (a3, .inl (G.2.1 1, n3, .inl f3))]) [0, 2, 4, 1, 3] rfl) (hD.sub (ws' := [(a0, .inr (9, [.ref o0_0, .ref o0_1, .ref o0_2, .int x0_3, .int x0_4, .int x0_5, .int x0_6, .int x0_7, .int x0_8, .int x0_9, .int x0_10, .int x0_11, .int x0_12, .int x0_13, .int x0_14, .int x0_15, .int x0_16, .ref a2, .ref a4, .ref o0_19, .ref a1, .ref a3, .ref o0_22, .ref o0_23])), (a2, .inl (G.2.1 1, n2, .inl f2)), (a4, .inl (G.2.1 1, n4, .inl f4)), (a1, .inl (G.2.1 1, n1, .inl f1)), (a3, .inl (G.2.1 1, n3, .inl f3))]) [0, 2, 4, 1, 3] (by decide) rfl) hS (lv_sub hl [1, 2, 3, 0] rfl)
  · intro H locs ls hP hD hS hl
    refine lv_iconst (v := 0) hx hb d_Mo_assign_21 (by decide) ?_
    refine lv_istore_n (lv' := [(3, .int 0), (0, .ref a0), (1, .int p1), (2, .int p2)]) hx hb d_Mo_assign_22 rfl hl (by decide) rfl (fun ls hl => ?_)
    obtain ⟨r28, hc28, h⟩ := Bd_e h
    refine w_Mo_assign_23 C0 hRf hRl hA hK hT N p1 p2 x0_3 x0_4 x0_5 x0_6 x0_7 x0_8 x0_9 x0_10 x0_11 x0_12 x0_13 x0_14 x0_15 x0_16 n2 f2 n4 f4 n1 n3 f3 a0 a2 a4 a1 a3 o0_0 o0_1 o0_2 o0_19 o0_22 o0_23 r28 (kc := 0) (ks := 0) hkc hks ?_ N 0 r9  _ _ _ hc28 hP hD hS (lv_sub hl [1, 2, 3, 0] rfl)
    · intro H locs ls hP hD hS hl
      refine lv_iconst (v := 0) hx hb d_Mo_assign_62 (by decide) ?_
      refine lv_istore_n (lv' := [(3, .int 0), (0, .ref a0), (1, .int p1), (2, .int p2)]) hx hb d_Mo_assign_63 rfl hl (by decide) rfl (fun ls hl => ?_)
      refine lv_iconst (v := 1) hx hb d_Mo_assign_64 (by decide) ?_
      refine lv_istore (lv' := [(4, .int 1), (3, .int 0), (0, .ref a0), (1, .int p1), (2, .int p2)]) hx hb d_Mo_assign_65 hl (by decide) rfl (fun ls hl => ?_)
      obtain ⟨r41, hc41, h⟩ := Bd_e h
      refine w_Mo_assign_67 C0 hRf hRl hA hK hT N p1 p2 x0_3 x0_4 x0_5 x0_6 x0_7 x0_8 x0_9 x0_10 x0_11 x0_12 x0_13 x0_14 x0_15 x0_16 n2 f2 n4 f4 n1 r28 n3 a0 a2 a4 a1 a3 o0_0 o0_1 o0_2 o0_19 o0_22 o0_23 r41 (kc := 0) (ks := 0) hkc hks ?_ N 0 1 f3  _ _ _ hc41 hP hD hS (lv_sub hl [2, 3, 4, 1, 0] rfl)
      · intro H locs ls hP hD hS hl
        refine lv_iconst (v := 0) hx hb d_Mo_assign_102 (by decide) ?_
        refine lv_istore (lv' := [(4, .int 0), (0, .ref a0), (1, .int p1), (2, .int p2)]) hx hb d_Mo_assign_103 hl (by decide) rfl (fun ls hl => ?_)
        obtain ⟨r66, hc66, h⟩ := Bd_e h
        refine w_Mo_assign_105 C0 hRf hRl hA hK hT N p1 p2 x0_3 x0_4 x0_5 x0_6 x0_7 x0_8 x0_9 x0_10 x0_11 x0_12 x0_13 x0_14 x0_15 x0_16 n2 f2 n4 n1 r28 n3 a0 a2 a4 a1 a3 o0_0 o0_1 o0_2 o0_19 o0_22 o0_23 r66 (kc := 0) (ks := 0) hkc hks ?_ N 0 f4 r41  _ _ _ hc66 hP hD hS (lv_sub hl [1, 2, 3, 0] rfl)
        · intro H locs ls hP hD hS hl
          have eV := so1 h
          subst eV
          exact x_vret C0 hQ (hP.sub (ws' := [(a0, .inr (9, [.ref o0_0, .ref o0_1, .ref o0_2, .int x0_3, .int x0_4, .int x0_5, .int x0_6, .int x0_7, .int x0_8, .int x0_9, .int x0_10, .int x0_11, .int x0_12, .int x0_13, .int x0_14, .int x0_15, .int x0_16, .ref a2, .ref a4, .ref o0_19, .ref a1, .ref a3, .ref o0_22, .ref o0_23])), (a1, .inl (G.2.1 1, n1, .inl r28)), (a2, .inl (G.2.1 1, n2, .inl f2)), (a3, .inl (G.2.1 1, n3, .inl r66.2)), (a4, .inl (G.2.1 1, n4, .inl r66.1))]) [0, 3, 1, 4, 2] rfl) (hD.sub (ws' := [(a0, .inr (9, [.ref o0_0, .ref o0_1, .ref o0_2, .int x0_3, .int x0_4, .int x0_5, .int x0_6, .int x0_7, .int x0_8, .int x0_9, .int x0_10, .int x0_11, .int x0_12, .int x0_13, .int x0_14, .int x0_15, .int x0_16, .ref a2, .ref a4, .ref o0_19, .ref a1, .ref a3, .ref o0_22, .ref o0_23])), (a1, .inl (G.2.1 1, n1, .inl r28)), (a2, .inl (G.2.1 1, n2, .inl f2)), (a3, .inl (G.2.1 1, n3, .inl r66.2)), (a4, .inl (G.2.1 1, n4, .inl r66.1))]) [0, 3, 1, 4, 2] (by decide) rfl) hS rfl (Nat.zero_le _) (Nat.zero_le _) d_Mo_assign_160
set_option maxHeartbeats 4000000 in
set_option maxRecDepth 100000 in
theorem w_Mo_fill_5 {p : Program} {l : Launch} {e : Env} {R : Room} {s : State} {m : MethodId} {args : Array Value} {below : List Frame} {meth : Method} {c : Code} {Q : State → Prop} {G : GX} {A : Nat → Prop} (C0 : Cx p s m args meth c b_Mo_fill 5 y_Mo_fill (some .int)) (hRf : 0 ≤ R.frames) (hRl : 0 ≤ R.locals) (hA : ∀ q, s.heap.size ≤ q → A q) (hK : KX G s) (hT : TX G A s) (N : Nat) (i1 : Int32) (i2 : Int32) (y0_3 : Int32) (y0_4 : Int32) (y0_5 : Int32) (y0_6 : Int32) (y0_7 : Int32) (y0_8 : Int32) (y0_9 : Int32) (y0_10 : Int32) (y0_11 : Int32) (y0_12 : Int32) (y0_13 : Int32) (y0_14 : Int32) (y0_15 : Int32) (y0_16 : Int32) (m1 : Nat) (g_1 : (Nat → Int32)) (c0 c1 u0_0 u0_1 u0_2 u0_18 u0_19 u0_20 u0_21 u0_22 u0_23 : Nat) (out : Int32) {kc ks : Nat} (hkc : kc ≤ R.cells) (hks : ks ≤ R.slots)
    (kx44 : ∀ (H : Heap) (locs : List Loc) (ls : Array Slot), va_P G.1 classes [(c0, .inr (9, [.ref u0_0, .ref u0_1, .ref u0_2, .int y0_3, .int y0_4, .int y0_5, .int y0_6, .int y0_7, .int y0_8, .int y0_9, .int y0_10, .int y0_11, .int y0_12, .int y0_13, .int y0_14, .int y0_15, .int y0_16, .ref c1, .ref u0_18, .ref u0_19, .ref u0_20, .ref u0_21, .ref u0_22, .ref u0_23])), (c1, .inl (G.2.1 1, m1, .inl g_1))] H → va_D A [(c0, .inr (9, [.ref u0_0, .ref u0_1, .ref u0_2, .int y0_3, .int y0_4, .int y0_5, .int y0_6, .int y0_7, .int y0_8, .int y0_9, .int y0_10, .int y0_11, .int y0_12, .int y0_13, .int y0_14, .int y0_15, .int y0_16, .ref c1, .ref u0_18, .ref u0_19, .ref u0_20, .ref u0_21, .ref u0_22, .ref u0_23])), (c1, .inl (G.2.1 1, m1, .inl g_1))] → va_S A s.heap H locs → lv_has ls 5 [(3, .int out)] → W p l e R s m args below meth c H locs kc ks Q (F0 m 44 ls [])) :
    ∀ (n : Nat) (i3 : Int32) (i4 : Int32) (H : Heap) (locs : List Loc) (ls : Array Slot), lp_Mo_fill_5 N i1 i2 m1 g_1 n i3 i4 = some out → va_P G.1 classes [(c0, .inr (9, [.ref u0_0, .ref u0_1, .ref u0_2, .int y0_3, .int y0_4, .int y0_5, .int y0_6, .int y0_7, .int y0_8, .int y0_9, .int y0_10, .int y0_11, .int y0_12, .int y0_13, .int y0_14, .int y0_15, .int y0_16, .ref c1, .ref u0_18, .ref u0_19, .ref u0_20, .ref u0_21, .ref u0_22, .ref u0_23])), (c1, .inl (G.2.1 1, m1, .inl g_1))] H → va_D A [(c0, .inr (9, [.ref u0_0, .ref u0_1, .ref u0_2, .int y0_3, .int y0_4, .int y0_5, .int y0_6, .int y0_7, .int y0_8, .int y0_9, .int y0_10, .int y0_11, .int y0_12, .int y0_13, .int y0_14, .int y0_15, .int y0_16, .ref c1, .ref u0_18, .ref u0_19, .ref u0_20, .ref u0_21, .ref u0_22, .ref u0_23])), (c1, .inl (G.2.1 1, m1, .inl g_1))] → va_S A s.heap H locs → lv_has ls 5 [(0, .ref c0), (1, .int i1), (2, .int i2), (3, .int i3), (4, .int i4)] → W p l e R s m args below meth c H locs kc ks Q (F0 m 5 ls []) := by
  obtain ⟨hx, hb, hml, hown, hts, hr, hlocks, hin⟩ := id C0
  have hown : s.vm.findClass R_Mo = some m.cls := hown
  intro n
  induction n with
  | zero => intro i3 i4 H locs ls h; cases h
  | succ n ih =>
    intro i3 i4 H locs ls h hP hD hS hl
    replace h : lb_Mo_fill_5 N i1 i2 m1 g_1 (lp_Mo_fill_5 N i1 i2 m1 g_1 n) i3 i4 = some out := h
    unfold lb_Mo_fill_5 at h
    refine lv_iload hx hb d_Mo_fill_5 (lv_at hl 4 rfl) ?_
    refine lv_iload_n hx hb d_Mo_fill_7 rfl (lv_at hl 2 rfl) ?_
    refine lv_icmp_ge (tgt := 44) hx hb d_Mo_fill_8 (by decide) (fun cq8 => ?_) (fun cq8 => ?_)
    · replace h := (if_pos cq8).symm.trans h
      have eV := so1 h
      subst eV
      exact kx44 _ _ _ hP hD hS (lv_sub hl [3] rfl)
    · replace h := (if_neg cq8).symm.trans h
      refine lv_aload_n hx hb d_Mo_fill_11 rfl (lv_at hl 0 rfl) ?_
      refine va_get (D := G.1) (ci := 9) (v := .ref c1) (C := R_Mo) (T := F_Mo) (N := 24) hx hb hts i_Mo hown hK hP 0 rfl rfl 17 (by decide) (hts _ q427) (fun _ h9 => h9) rfl d_Mo_fill_12 ?_
      refine lv_iload_n hx hb d_Mo_fill_15 rfl (lv_at hl 1 rfl) ?_
      refine lv_iload hx hb d_Mo_fill_16 (lv_at hl 4 rfl) ?_
      refine lv_iadd hx hb d_Mo_fill_18 ?_
      obtain ⟨hi9, h⟩ := Ix_e h
      refine va_iald hx hb hK hP 1 1 rfl rfl hi9 d_Mo_fill_19 ?_
      refine lv_if_le (tgt := 38) hx hb d_Mo_fill_20 (by decide) (fun cq10 => ?_) (fun cq10 => ?_)
      · replace h := (if_pos cq10).symm.trans h
        obtain ⟨v11, ev11⟩ : ∃ y : Int32, y = i4 + 1 := ⟨_, rfl⟩
        replace h := Lt_e h ev11
        refine lv_iinc (v := v11) (lv' := [(4, .int v11), (0, .ref c0), (1, .int i1), (2, .int i2), (3, .int i3)]) hx hb d_Mo_fill_38 hl (k := 4) rfl (by rw [ev11]; rfl) (by decide) rfl (fun ls hl => ?_)
        refine lv_goto (tgt := 5) hx hb d_Mo_fill_41 (by decide) ?_
        exact ih i3 v11  _ _ _ h hP hD hS (lv_sub hl [1, 2, 3, 4, 0] rfl)
      · replace h := (if_neg cq10).symm.trans h
        refine lv_iload_n hx hb d_Mo_fill_23 rfl (lv_at hl 3 rfl) ?_
        refine lv_ldc (v := 32768) hx hb hown (hts _ q473) d_Mo_fill_24 ?_
        refine lv_aload_n hx hb d_Mo_fill_26 rfl (lv_at hl 0 rfl) ?_
        refine va_get (D := G.1) (ci := 9) (v := .ref c1) (C := R_Mo) (T := F_Mo) (N := 24) hx hb hts i_Mo hown hK hP 0 rfl rfl 17 (by decide) (hts _ q427) (fun _ h9 => h9) rfl d_Mo_fill_27 ?_
        refine lv_iload_n hx hb d_Mo_fill_30 rfl (lv_at hl 1 rfl) ?_
        refine lv_iload hx hb d_Mo_fill_31 (lv_at hl 4 rfl) ?_
        refine lv_iadd hx hb d_Mo_fill_33 ?_
        obtain ⟨hi12, h⟩ := Ix_e h
        refine va_iald hx hb hK hP 1 1 rfl rfl hi12 d_Mo_fill_34 ?_
        refine lv_ishr hx hb d_Mo_fill_35 ?_
        refine lv_iadd hx hb d_Mo_fill_36 ?_
        refine lv_topi (fun v13 ev13 => ?_)
        replace h := Lt_e h ev13
        refine lv_istore_n (lv' := [(3, .int v13), (0, .ref c0), (1, .int i1), (2, .int i2), (4, .int i4)]) hx hb d_Mo_fill_37 rfl hl (by decide) rfl (fun ls hl => ?_)
        obtain ⟨v14, ev14⟩ : ∃ y : Int32, y = i4 + 1 := ⟨_, rfl⟩
        replace h := Lt_e h ev14
        refine lv_iinc (v := v14) (lv' := [(4, .int v14), (3, .int v13), (0, .ref c0), (1, .int i1), (2, .int i2)]) hx hb d_Mo_fill_38 hl (k := 4) rfl (by rw [ev14]; rfl) (by decide) rfl (fun ls hl => ?_)
        refine lv_goto (tgt := 5) hx hb d_Mo_fill_41 (by decide) ?_
        exact ih v13 v14  _ _ _ h hP hD hS (lv_sub hl [2, 3, 4, 1, 0] rfl)
set_option maxHeartbeats 4000000 in
set_option maxRecDepth 100000 in
theorem c_Mo_fill (l : Launch) (G : GX) (a0 a1 o0_0 o0_1 o0_2 o0_18 o0_19 o0_20 o0_21 o0_22 o0_23 : Nat) (sz : Nat) (x0_3 : Int32) (x0_4 : Int32) (x0_5 : Int32) (x0_6 : Int32) (x0_7 : Int32) (x0_8 : Int32) (x0_9 : Int32) (x0_10 : Int32) (x0_11 : Int32) (x0_12 : Int32) (x0_13 : Int32) (x0_14 : Int32) (x0_15 : Int32) (x0_16 : Int32) (n1 : Nat) (f1 : (Nat → Int32)) (p1 : Int32) (p2 : Int32) (N : Nat) (V : Int32) (h : f_Mo_fill N n1 f1 p1 p2 = some V) :
    Met l y_Mo_fill (wd y_Mo_fill b_Mo_fill 5 (some .int)) { frames := 0, cells := 0, slots := 0, locals := 0 } (PX G [.ref a0, .int p1, .int p2] sz [(a0, .inr (9, [.ref o0_0, .ref o0_1, .ref o0_2, .int x0_3, .int x0_4, .int x0_5, .int x0_6, .int x0_7, .int x0_8, .int x0_9, .int x0_10, .int x0_11, .int x0_12, .int x0_13, .int x0_14, .int x0_15, .int x0_16, .ref a1, .ref o0_18, .ref o0_19, .ref o0_20, .ref o0_21, .ref o0_22, .ref o0_23])), (a1, .inl (G.2.1 1, n1, .inl f1))])
      (QXi G V (fun w => w = [(a0, .inr (9, [.ref o0_0, .ref o0_1, .ref o0_2, .int x0_3, .int x0_4, .int x0_5, .int x0_6, .int x0_7, .int x0_8, .int x0_9, .int x0_10, .int x0_11, .int x0_12, .int x0_13, .int x0_14, .int x0_15, .int x0_16, .ref a1, .ref o0_18, .ref o0_19, .ref o0_20, .ref o0_21, .ref o0_22, .ref o0_23])), (a1, .inl (G.2.1 1, n1, .inl f1))]) (va_A [(a0, .inr (9, [.ref o0_0, .ref o0_1, .ref o0_2, .int x0_3, .int x0_4, .int x0_5, .int x0_6, .int x0_7, .int x0_8, .int x0_9, .int x0_10, .int x0_11, .int x0_12, .int x0_13, .int x0_14, .int x0_15, .int x0_16, .ref a1, .ref o0_18, .ref o0_19, .ref o0_20, .ref o0_21, .ref o0_22, .ref o0_23])), (a1, .inl (G.2.1 1, n1, .inl f1))] sz)) 0 0 (va_A [(a0, .inr (9, [.ref o0_0, .ref o0_1, .ref o0_2, .int x0_3, .int x0_4, .int x0_5, .int x0_6, .int x0_7, .int x0_8, .int x0_9, .int x0_10, .int x0_11, .int x0_12, .int x0_13, .int x0_14, .int x0_15, .int x0_16, .ref a1, .ref o0_18, .ref o0_19, .ref o0_20, .ref o0_21, .ref o0_22, .ref o0_23])), (a1, .inl (G.2.1 1, n1, .inl f1))] sz) := by
  refine Met_in (QQ := fun A => QXi G V (fun w => w = [(a0, .inr (9, [.ref o0_0, .ref o0_1, .ref o0_2, .int x0_3, .int x0_4, .int x0_5, .int x0_6, .int x0_7, .int x0_8, .int x0_9, .int x0_10, .int x0_11, .int x0_12, .int x0_13, .int x0_14, .int x0_15, .int x0_16, .ref a1, .ref o0_18, .ref o0_19, .ref o0_20, .ref o0_21, .ref o0_22, .ref o0_23])), (a1, .inl (G.2.1 1, n1, .inl f1))]) A) (by decide) (Nat.le_of_ble_eq_true rfl) (fun p e s m below meth c R Q A ls C0 hRf hRl hRc hRs hP hK hD hT hA hS hl hQ => ?_)
  obtain ⟨hx, hb, hml, hown, hts, hr, hlocks, hin⟩ := id C0
  have hown : s.vm.findClass R_Mo = some m.cls := hown
  have hl : lv_has ls 5 [(0, .ref a0), (1, .int p1), (2, .int p2)] := hl
  unfold f_Mo_fill at h
  have hkc : 0 ≤ R.cells := Nat.zero_le _
  have hks : 0 ≤ R.slots := Nat.zero_le _
  obtain ⟨H, hH⟩ : ∃ H, H = s.heap := ⟨_, rfl⟩
  obtain ⟨locs, hlc⟩ : ∃ x : List Loc, x = [] := ⟨_, rfl⟩
  rw [← hH] at hP
  have hS : va_S A s.heap H locs := by rw [hH, hlc]; exact hS
  suffices hgo : W p l e R s m [.ref a0, .int p1, .int p2].toArray below meth c H locs 0 0 Q (F0 m 0 ls []) by rw [hH, hlc] at hgo; exact hgo
  refine lv_iconst (v := 0) hx hb d_Mo_fill_0 (by decide) ?_
  refine lv_istore_n (lv' := [(3, .int 0), (0, .ref a0), (1, .int p1), (2, .int p2)]) hx hb d_Mo_fill_1 rfl hl (by decide) rfl (fun ls hl => ?_)
  refine lv_iconst (v := 0) hx hb d_Mo_fill_2 (by decide) ?_
  refine lv_istore (lv' := [(4, .int 0), (3, .int 0), (0, .ref a0), (1, .int p1), (2, .int p2)]) hx hb d_Mo_fill_3 hl (by decide) rfl (fun ls hl => ?_)
  obtain ⟨r15, hc15, h⟩ := Bd_e h
  refine w_Mo_fill_5 C0 hRf hRl hA hK hT N p1 p2 x0_3 x0_4 x0_5 x0_6 x0_7 x0_8 x0_9 x0_10 x0_11 x0_12 x0_13 x0_14 x0_15 x0_16 n1 f1 a0 a1 o0_0 o0_1 o0_2 o0_18 o0_19 o0_20 o0_21 o0_22 o0_23 r15 (kc := 0) (ks := 0) hkc hks ?_ N 0 0  _ _ _ hc15 hP hD hS (lv_sub hl [2, 3, 4, 1, 0] rfl)
  · intro H locs ls hP hD hS hl
    refine lv_iload_n hx hb d_Mo_fill_44 rfl (lv_at hl 0 rfl) ?_
    have eV := so1 h
    subst eV
    exact x_iret C0 hQ hP hD hS rfl (Nat.zero_le _) (Nat.zero_le _) d_Mo_fill_45
set_option maxHeartbeats 4000000 in
set_option maxRecDepth 100000 in
theorem w_Mo_sign_31 {p : Program} {l : Launch} {e : Env} {R : Room} {s : State} {m : MethodId} {args : Array Value} {below : List Frame} {meth : Method} {c : Code} {Q : State → Prop} {G : GX} {A : Nat → Prop} (C0 : Cx p s m args meth c b_Mo_sign 6 y_Mo_sign (some .int)) (hRf : 1 ≤ R.frames) (hRl : 20 ≤ R.locals) (hA : ∀ q, s.heap.size ≤ q → A q) (hK : KX G s) (hT : TX G A s) (N : Nat) (i1 : Int32) (i2 : Int32) (i3 : Int32) (i4 : Int32) (y0_3 : Int32) (y0_4 : Int32) (y0_5 : Int32) (y0_6 : Int32) (y0_7 : Int32) (y0_8 : Int32) (y0_9 : Int32) (y0_10 : Int32) (y0_11 : Int32) (y0_12 : Int32) (y0_13 : Int32) (y0_14 : Int32) (y0_15 : Int32) (y0_16 : Int32) (m1 : Nat) (g_1 : (Nat → Int32)) (m2 : Nat) (g_2 : (Nat → Int32)) (m3 : Nat) (g_3 : (Nat → Int32)) (c0 c1 c2 c3 u0_1 u0_2 u0_19 u0_20 u0_21 u0_22 u0_23 : Nat) (out : Nat × Int32) {kc ks : Nat} (hkc : kc ≤ R.cells) (hks : ks ≤ R.slots)
    (kx71 : ∀ (H : Heap) (locs : List Loc) (ls : Array Slot), out.1 = 0 → va_P G.1 classes [(c0, .inr (9, [.ref c1, .ref u0_1, .ref u0_2, .int y0_3, .int y0_4, .int y0_5, .int y0_6, .int y0_7, .int y0_8, .int y0_9, .int y0_10, .int y0_11, .int y0_12, .int y0_13, .int y0_14, .int y0_15, .int y0_16, .ref c2, .ref c3, .ref u0_19, .ref u0_20, .ref u0_21, .ref u0_22, .ref u0_23])), (c1, .inl (G.2.1 0, m1, .inl g_1)), (c2, .inl (G.2.1 1, m2, .inl g_2)), (c3, .inl (G.2.1 1, m3, .inl g_3))] H → va_D A [(c0, .inr (9, [.ref c1, .ref u0_1, .ref u0_2, .int y0_3, .int y0_4, .int y0_5, .int y0_6, .int y0_7, .int y0_8, .int y0_9, .int y0_10, .int y0_11, .int y0_12, .int y0_13, .int y0_14, .int y0_15, .int y0_16, .ref c2, .ref c3, .ref u0_19, .ref u0_20, .ref u0_21, .ref u0_22, .ref u0_23])), (c1, .inl (G.2.1 0, m1, .inl g_1)), (c2, .inl (G.2.1 1, m2, .inl g_2)), (c3, .inl (G.2.1 1, m3, .inl g_3))] → va_S A s.heap H locs → lv_has ls 6 [(5, .int out.2)] → W p l e R s m args below meth c H locs kc ks Q (F0 m 71 ls []))
    (kx80 : ∀ (H : Heap) (locs : List Loc) (ls : Array Slot), out.1 = 1 → va_P G.1 classes [(c0, .inr (9, [.ref c1, .ref u0_1, .ref u0_2, .int y0_3, .int y0_4, .int y0_5, .int y0_6, .int y0_7, .int y0_8, .int y0_9, .int y0_10, .int y0_11, .int y0_12, .int y0_13, .int y0_14, .int y0_15, .int y0_16, .ref c2, .ref c3, .ref u0_19, .ref u0_20, .ref u0_21, .ref u0_22, .ref u0_23])), (c1, .inl (G.2.1 0, m1, .inl g_1)), (c2, .inl (G.2.1 1, m2, .inl g_2)), (c3, .inl (G.2.1 1, m3, .inl g_3))] H → va_D A [(c0, .inr (9, [.ref c1, .ref u0_1, .ref u0_2, .int y0_3, .int y0_4, .int y0_5, .int y0_6, .int y0_7, .int y0_8, .int y0_9, .int y0_10, .int y0_11, .int y0_12, .int y0_13, .int y0_14, .int y0_15, .int y0_16, .ref c2, .ref c3, .ref u0_19, .ref u0_20, .ref u0_21, .ref u0_22, .ref u0_23])), (c1, .inl (G.2.1 0, m1, .inl g_1)), (c2, .inl (G.2.1 1, m2, .inl g_2)), (c3, .inl (G.2.1 1, m3, .inl g_3))] → va_S A s.heap H locs → lv_has ls 6 [(0, .ref c0), (1, .int i1), (2, .int i2), (3, .int i3), (4, .int i4)] → W p l e R s m args below meth c H locs kc ks Q (F0 m 80 ls [])) :
    ∀ (n : Nat) (i5 : Int32) (H : Heap) (locs : List Loc) (ls : Array Slot), lp_Mo_sign_31 N i1 i2 i3 i4 y0_16 m2 g_2 m3 g_3 n i5 = some out → va_P G.1 classes [(c0, .inr (9, [.ref c1, .ref u0_1, .ref u0_2, .int y0_3, .int y0_4, .int y0_5, .int y0_6, .int y0_7, .int y0_8, .int y0_9, .int y0_10, .int y0_11, .int y0_12, .int y0_13, .int y0_14, .int y0_15, .int y0_16, .ref c2, .ref c3, .ref u0_19, .ref u0_20, .ref u0_21, .ref u0_22, .ref u0_23])), (c1, .inl (G.2.1 0, m1, .inl g_1)), (c2, .inl (G.2.1 1, m2, .inl g_2)), (c3, .inl (G.2.1 1, m3, .inl g_3))] H → va_D A [(c0, .inr (9, [.ref c1, .ref u0_1, .ref u0_2, .int y0_3, .int y0_4, .int y0_5, .int y0_6, .int y0_7, .int y0_8, .int y0_9, .int y0_10, .int y0_11, .int y0_12, .int y0_13, .int y0_14, .int y0_15, .int y0_16, .ref c2, .ref c3, .ref u0_19, .ref u0_20, .ref u0_21, .ref u0_22, .ref u0_23])), (c1, .inl (G.2.1 0, m1, .inl g_1)), (c2, .inl (G.2.1 1, m2, .inl g_2)), (c3, .inl (G.2.1 1, m3, .inl g_3))] → va_S A s.heap H locs → lv_has ls 6 [(0, .ref c0), (1, .int i1), (2, .int i2), (3, .int i3), (4, .int i4), (5, .int i5)] → W p l e R s m args below meth c H locs kc ks Q (F0 m 31 ls []) := by
  obtain ⟨hx, hb, hml, hown, hts, hr, hlocks, hin⟩ := id C0
  have hown : s.vm.findClass R_Mo = some m.cls := hown
  intro n
  induction n with
  | zero => intro i5 H locs ls h; cases h
  | succ n ih =>
    intro i5 H locs ls h hP hD hS hl
    replace h : lb_Mo_sign_31 N i1 i2 i3 i4 y0_16 m2 g_2 m3 g_3 (lp_Mo_sign_31 N i1 i2 i3 i4 y0_16 m2 g_2 m3 g_3 n) i5 = some out := h
    unfold lb_Mo_sign_31 at h
    refine lv_iload hx hb d_Mo_sign_31 (lv_at hl 5 rfl) ?_
    refine lv_iload_n hx hb d_Mo_sign_33 rfl (lv_at hl 2 rfl) ?_
    refine lv_icmp_ge (tgt := 80) hx hb d_Mo_sign_34 (by decide) (fun cq27 => ?_) (fun cq27 => ?_)
    · replace h := (if_pos cq27).symm.trans h
      have eV := so1 h
      subst eV
      exact kx80 _ _ _ rfl hP hD hS (lv_sub hl [0, 1, 2, 3, 4] rfl)
    · replace h := (if_neg cq27).symm.trans h
      refine lv_aload_n hx hb d_Mo_sign_37 rfl (lv_at hl 0 rfl) ?_
      refine va_get (D := G.1) (ci := 9) (v := .int y0_16) (C := R_Mo) (T := F_Mo) (N := 24) hx hb hts i_Mo hown hK hP 0 rfl rfl 16 (by decide) (hts _ q488) (fun _ h9 => h9) rfl d_Mo_sign_38 ?_
      refine lv_if_ne (tgt := 80) hx hb d_Mo_sign_41 (by decide) (fun cq28 => ?_) (fun cq28 => ?_)
      · replace h := (if_neg cq28).symm.trans h
        have eV := so1 h
        subst eV
        exact kx80 _ _ _ rfl hP hD hS (lv_sub hl [0, 1, 2, 3, 4] rfl)
      · replace h := (if_pos cq28).symm.trans h
        refine lv_aload_n hx hb d_Mo_sign_44 rfl (lv_at hl 0 rfl) ?_
        refine va_get (D := G.1) (ci := 9) (v := .ref c2) (C := R_Mo) (T := F_Mo) (N := 24) hx hb hts i_Mo hown hK hP 0 rfl rfl 17 (by decide) (hts _ q427) (fun _ h9 => h9) rfl d_Mo_sign_45 ?_
        refine lv_iload_n hx hb d_Mo_sign_48 rfl (lv_at hl 1 rfl) ?_
        refine lv_iload hx hb d_Mo_sign_49 (lv_at hl 5 rfl) ?_
        refine lv_iadd hx hb d_Mo_sign_51 ?_
        obtain ⟨hi29, h⟩ := Ix_e h
        refine va_iald hx hb hK hP 2 1 rfl rfl hi29 d_Mo_sign_52 ?_
        refine lv_iload hx hb d_Mo_sign_53 (lv_at hl 4 rfl) ?_
        refine lv_icmp_ne (tgt := 74) hx hb d_Mo_sign_55 (by decide) (fun cq30 => ?_) (fun cq30 => ?_)
        · replace h := (if_neg cq30).symm.trans h
          obtain ⟨v31, ev31⟩ : ∃ y : Int32, y = i5 + 1 := ⟨_, rfl⟩
          replace h := Lt_e h ev31
          refine lv_iinc (v := v31) (lv' := [(5, .int v31), (0, .ref c0), (1, .int i1), (2, .int i2), (3, .int i3), (4, .int i4)]) hx hb d_Mo_sign_74 hl (k := 5) rfl (by rw [ev31]; rfl) (by decide) rfl (fun ls hl => ?_)
          refine lv_goto (tgt := 31) hx hb d_Mo_sign_77 (by decide) ?_
          exact ih v31  _ _ _ h hP hD hS (lv_sub hl [1, 2, 3, 4, 5, 0] rfl)
        · replace h := (if_pos cq30).symm.trans h
          refine lv_aload_n hx hb d_Mo_sign_58 rfl (lv_at hl 0 rfl) ?_
          refine va_get (D := G.1) (ci := 9) (v := .ref c3) (C := R_Mo) (T := F_Mo) (N := 24) hx hb hts i_Mo hown hK hP 0 rfl rfl 18 (by decide) (hts _ q428) (fun _ h9 => h9) rfl d_Mo_sign_59 ?_
          refine lv_iload_n hx hb d_Mo_sign_62 rfl (lv_at hl 1 rfl) ?_
          refine lv_iload hx hb d_Mo_sign_63 (lv_at hl 5 rfl) ?_
          refine lv_iadd hx hb d_Mo_sign_65 ?_
          obtain ⟨hi32, h⟩ := Ix_e h
          refine va_iald hx hb hK hP 3 1 rfl rfl hi32 d_Mo_sign_66 ?_
          refine lv_iload_n hx hb d_Mo_sign_67 rfl (lv_at hl 3 rfl) ?_
          refine lv_icmp_ne (tgt := 74) hx hb d_Mo_sign_68 (by decide) (fun cq33 => ?_) (fun cq33 => ?_)
          · replace h := (if_neg cq33).symm.trans h
            obtain ⟨v34, ev34⟩ : ∃ y : Int32, y = i5 + 1 := ⟨_, rfl⟩
            replace h := Lt_e h ev34
            refine lv_iinc (v := v34) (lv' := [(5, .int v34), (0, .ref c0), (1, .int i1), (2, .int i2), (3, .int i3), (4, .int i4)]) hx hb d_Mo_sign_74 hl (k := 5) rfl (by rw [ev34]; rfl) (by decide) rfl (fun ls hl => ?_)
            refine lv_goto (tgt := 31) hx hb d_Mo_sign_77 (by decide) ?_
            exact ih v34  _ _ _ h hP hD hS (lv_sub hl [1, 2, 3, 4, 5, 0] rfl)
          · replace h := (if_pos cq33).symm.trans h
            have eV := so1 h
            subst eV
            exact kx71 _ _ _ rfl hP hD hS (lv_sub hl [5] rfl)
set_option maxHeartbeats 4000000 in
set_option maxRecDepth 100000 in
theorem w_Mo_sign_5 {p : Program} {l : Launch} {e : Env} {R : Room} {s : State} {m : MethodId} {args : Array Value} {below : List Frame} {meth : Method} {c : Code} {Q : State → Prop} {G : GX} {A : Nat → Prop} (C0 : Cx p s m args meth c b_Mo_sign 6 y_Mo_sign (some .int)) (hRf : 1 ≤ R.frames) (hRl : 20 ≤ R.locals) (hA : ∀ q, s.heap.size ≤ q → A q) (hK : KX G s) (hT : TX G A s) (N : Nat) (i1 : Int32) (i2 : Int32) (y0_3 : Int32) (y0_4 : Int32) (y0_5 : Int32) (y0_6 : Int32) (y0_7 : Int32) (y0_8 : Int32) (y0_9 : Int32) (y0_10 : Int32) (y0_11 : Int32) (y0_13 : Int32) (y0_14 : Int32) (y0_15 : Int32) (m1 : Nat) (g_1 : (Nat → Int32)) (m2 : Nat) (g_2 : (Nat → Int32)) (m3 : Nat) (g_3 : (Nat → Int32)) (c0 c1 c2 c3 u0_1 u0_2 u0_19 u0_20 u0_21 u0_22 u0_23 : Nat) (out : Nat × Int32 × Int32 × Int32) {kc ks : Nat} (hkc : kc ≤ R.cells) (hks : ks ≤ R.slots)
    (kx71 : ∀ (H : Heap) (locs : List Loc) (ls : Array Slot), out.1 = 0 → va_P G.1 classes [(c0, .inr (9, [.ref c1, .ref u0_1, .ref u0_2, .int y0_3, .int y0_4, .int y0_5, .int y0_6, .int y0_7, .int y0_8, .int y0_9, .int y0_10, .int y0_11, .int out.2.2.1, .int y0_13, .int y0_14, .int y0_15, .int out.2.2.2, .ref c2, .ref c3, .ref u0_19, .ref u0_20, .ref u0_21, .ref u0_22, .ref u0_23])), (c1, .inl (G.2.1 0, m1, .inl g_1)), (c2, .inl (G.2.1 1, m2, .inl g_2)), (c3, .inl (G.2.1 1, m3, .inl g_3))] H → va_D A [(c0, .inr (9, [.ref c1, .ref u0_1, .ref u0_2, .int y0_3, .int y0_4, .int y0_5, .int y0_6, .int y0_7, .int y0_8, .int y0_9, .int y0_10, .int y0_11, .int out.2.2.1, .int y0_13, .int y0_14, .int y0_15, .int out.2.2.2, .ref c2, .ref c3, .ref u0_19, .ref u0_20, .ref u0_21, .ref u0_22, .ref u0_23])), (c1, .inl (G.2.1 0, m1, .inl g_1)), (c2, .inl (G.2.1 1, m2, .inl g_2)), (c3, .inl (G.2.1 1, m3, .inl g_3))] → va_S A s.heap H locs → lv_has ls 6 [(5, .int out.2.1)] → W p l e R s m args below meth c H locs kc ks Q (F0 m 71 ls []))
    (kx86 : ∀ (H : Heap) (locs : List Loc) (ls : Array Slot), out.1 = 1 → va_P G.1 classes [(c0, .inr (9, [.ref c1, .ref u0_1, .ref u0_2, .int y0_3, .int y0_4, .int y0_5, .int y0_6, .int y0_7, .int y0_8, .int y0_9, .int y0_10, .int y0_11, .int out.2.2.1, .int y0_13, .int y0_14, .int y0_15, .int out.2.2.2, .ref c2, .ref c3, .ref u0_19, .ref u0_20, .ref u0_21, .ref u0_22, .ref u0_23])), (c1, .inl (G.2.1 0, m1, .inl g_1)), (c2, .inl (G.2.1 1, m2, .inl g_2)), (c3, .inl (G.2.1 1, m3, .inl g_3))] H → va_D A [(c0, .inr (9, [.ref c1, .ref u0_1, .ref u0_2, .int y0_3, .int y0_4, .int y0_5, .int y0_6, .int y0_7, .int y0_8, .int y0_9, .int y0_10, .int y0_11, .int out.2.2.1, .int y0_13, .int y0_14, .int y0_15, .int out.2.2.2, .ref c2, .ref c3, .ref u0_19, .ref u0_20, .ref u0_21, .ref u0_22, .ref u0_23])), (c1, .inl (G.2.1 0, m1, .inl g_1)), (c2, .inl (G.2.1 1, m2, .inl g_2)), (c3, .inl (G.2.1 1, m3, .inl g_3))] → va_S A s.heap H locs → lv_has ls 6 [(0, .ref c0)] → W p l e R s m args below meth c H locs kc ks Q (F0 m 86 ls [])) :
    ∀ (n : Nat) (i3 : Int32) (i4 : Int32) (y0_12 : Int32) (y0_16 : Int32) (H : Heap) (locs : List Loc) (ls : Array Slot), lp_Mo_sign_5 N i1 i2 y0_3 m1 g_1 m2 g_2 m3 g_3 n i3 i4 y0_12 y0_16 = some out → va_P G.1 classes [(c0, .inr (9, [.ref c1, .ref u0_1, .ref u0_2, .int y0_3, .int y0_4, .int y0_5, .int y0_6, .int y0_7, .int y0_8, .int y0_9, .int y0_10, .int y0_11, .int y0_12, .int y0_13, .int y0_14, .int y0_15, .int y0_16, .ref c2, .ref c3, .ref u0_19, .ref u0_20, .ref u0_21, .ref u0_22, .ref u0_23])), (c1, .inl (G.2.1 0, m1, .inl g_1)), (c2, .inl (G.2.1 1, m2, .inl g_2)), (c3, .inl (G.2.1 1, m3, .inl g_3))] H → va_D A [(c0, .inr (9, [.ref c1, .ref u0_1, .ref u0_2, .int y0_3, .int y0_4, .int y0_5, .int y0_6, .int y0_7, .int y0_8, .int y0_9, .int y0_10, .int y0_11, .int y0_12, .int y0_13, .int y0_14, .int y0_15, .int y0_16, .ref c2, .ref c3, .ref u0_19, .ref u0_20, .ref u0_21, .ref u0_22, .ref u0_23])), (c1, .inl (G.2.1 0, m1, .inl g_1)), (c2, .inl (G.2.1 1, m2, .inl g_2)), (c3, .inl (G.2.1 1, m3, .inl g_3))] → va_S A s.heap H locs → lv_has ls 6 [(0, .ref c0), (1, .int i1), (2, .int i2), (3, .int i3), (4, .int i4)] → W p l e R s m args below meth c H locs kc ks Q (F0 m 5 ls []) := by
  obtain ⟨hx, hb, hml, hown, hts, hr, hlocks, hin⟩ := id C0
  have hown : s.vm.findClass R_Mo = some m.cls := hown
  intro n
  induction n with
  | zero => intro i3 i4 y0_12 y0_16 H locs ls h; cases h
  | succ n ih =>
    intro i3 i4 y0_12 y0_16 H locs ls h hP hD hS hl
    replace h : lb_Mo_sign_5 N i1 i2 y0_3 m1 g_1 m2 g_2 m3 g_3 (lp_Mo_sign_5 N i1 i2 y0_3 m1 g_1 m2 g_2 m3 g_3 n) i3 i4 y0_12 y0_16 = some out := h
    unfold lb_Mo_sign_5 at h
    refine lv_iload hx hb d_Mo_sign_5 (lv_at hl 4 rfl) ?_
    refine lv_bipush (v := 16) hx hb d_Mo_sign_7 (by decide) ?_
    refine lv_icmp_ge (tgt := 86) hx hb d_Mo_sign_9 (by decide) (fun cq15 => ?_) (fun cq15 => ?_)
    · replace h := (if_pos cq15).symm.trans h
      have eV := so1 h
      subst eV
      exact kx86 _ _ _ rfl hP hD hS (lv_sub hl [0] rfl)
    · replace h := (if_neg cq15).symm.trans h
      refine lv_aload_n hx hb d_Mo_sign_12 rfl (lv_at hl 0 rfl) ?_
      refine va_get (D := G.1) (ci := 9) (v := .int y0_16) (C := R_Mo) (T := F_Mo) (N := 24) hx hb hts i_Mo hown hK hP 0 rfl rfl 16 (by decide) (hts _ q488) (fun _ h9 => h9) rfl d_Mo_sign_13 ?_
      refine lv_if_ne (tgt := 86) hx hb d_Mo_sign_16 (by decide) (fun cq16 => ?_) (fun cq16 => ?_)
      · replace h := (if_neg cq16).symm.trans h
        have eV := so1 h
        subst eV
        exact kx86 _ _ _ rfl hP hD hS (lv_sub hl [0] rfl)
      · replace h := (if_pos cq16).symm.trans h
        refine lv_iload_n hx hb d_Mo_sign_19 rfl (lv_at hl 3 rfl) ?_
        refine lv_iconst (v := 1) hx hb d_Mo_sign_20 (by decide) ?_
        refine lv_ishl hx hb d_Mo_sign_21 ?_
        refine lv_aload_n hx hb d_Mo_sign_22 rfl (lv_at hl 0 rfl) ?_
        obtain ⟨r17, hc17, h⟩ := Bd_e h
        refine xV_i0 (wr := [(c2, .inl (G.2.1 1, m2, .inl g_2)), (c3, .inl (G.2.1 1, m3, .inl g_3))]) (rest := [.int (i3 <<< ((1 : Int32) &&& 31))]) C0 hK hT hA hP hD hS hl.1 (c_Mo_bit l G c0 c1 u0_1 u0_2 c2 c3 u0_19 u0_20 u0_21 u0_22 u0_23 _ y0_3 y0_4 y0_5 y0_6 y0_7 y0_8 y0_9 y0_10 y0_11 y0_12 y0_13 y0_14 y0_15 y0_16 m1 g_1  N r17 hc17) (goodV q489 q490 q491 q439 q492) 0 rfl hd_Mo_bit (Nat.le_trans (by decide) hRf) (Nat.le_trans (by decide) hRl) [0, 1] [2, 3] rfl rfl (by decide) (by decide) (by decide) 9 0 rfl rfl rfl (Nat.le_of_ble_eq_true rfl) d_Mo_sign_23 hkc hks (fun w1 H locs hE hP hD hS => ?_)
        subst hE
        have hP : va_P G.1 classes [(c2, .inl (G.2.1 1, m2, .inl g_2)), (c3, .inl (G.2.1 1, m3, .inl g_3)), (c0, .inr (9, [.ref c1, .ref u0_1, .ref u0_2, .int y0_3, .int y0_4, .int y0_5, .int y0_6, .int y0_7, .int y0_8, .int y0_9, .int y0_10, .int y0_11, .int r17.2.1, .int y0_13, .int y0_14, .int y0_15, .int r17.2.2, .ref c2, .ref c3, .ref u0_19, .ref u0_20, .ref u0_21, .ref u0_22, .ref u0_23])), (c1, .inl (G.2.1 0, m1, .inl g_1))] H := hP
        have hD : va_D A [(c2, .inl (G.2.1 1, m2, .inl g_2)), (c3, .inl (G.2.1 1, m3, .inl g_3)), (c0, .inr (9, [.ref c1, .ref u0_1, .ref u0_2, .int y0_3, .int y0_4, .int y0_5, .int y0_6, .int y0_7, .int y0_8, .int y0_9, .int y0_10, .int y0_11, .int r17.2.1, .int y0_13, .int y0_14, .int y0_15, .int r17.2.2, .ref c2, .ref c3, .ref u0_19, .ref u0_20, .ref u0_21, .ref u0_22, .ref u0_23])), (c1, .inl (G.2.1 0, m1, .inl g_1))] := hD
        refine lv_ior hx hb d_Mo_sign_26 ?_
        refine lv_topi (fun v18 ev18 => ?_)
        replace h := Lt_e h ev18
        refine lv_istore_n (lv' := [(3, .int v18), (0, .ref c0), (1, .int i1), (2, .int i2), (4, .int i4)]) hx hb d_Mo_sign_27 rfl hl (by decide) rfl (fun ls hl => ?_)
        refine lv_iconst (v := 0) hx hb d_Mo_sign_28 (by decide) ?_
        refine lv_istore (lv' := [(5, .int 0), (3, .int v18), (0, .ref c0), (1, .int i1), (2, .int i2), (4, .int i4)]) hx hb d_Mo_sign_29 hl (by decide) rfl (fun ls hl => ?_)
        obtain ⟨r35, hc35, h⟩ := Bd_e h
        refine w_Mo_sign_31 C0 hRf hRl hA hK hT N i1 i2 v18 i4 y0_3 y0_4 y0_5 y0_6 y0_7 y0_8 y0_9 y0_10 y0_11 r17.2.1 y0_13 y0_14 y0_15 r17.2.2 m1 g_1 m2 g_2 m3 g_3 c0 c1 c2 c3 u0_1 u0_2 u0_19 u0_20 u0_21 u0_22 u0_23 r35 (kc := kc) (ks := ks) hkc hks ?_ ?_ N 0  _ _ _ hc35 (hP.sub (ws' := [(c0, .inr (9, [.ref c1, .ref u0_1, .ref u0_2, .int y0_3, .int y0_4, .int y0_5, .int y0_6, .int y0_7, .int y0_8, .int y0_9, .int y0_10, .int y0_11, .int r17.2.1, .int y0_13, .int y0_14, .int y0_15, .int r17.2.2, .ref c2, .ref c3, .ref u0_19, .ref u0_20, .ref u0_21, .ref u0_22, .ref u0_23])), (c1, .inl (G.2.1 0, m1, .inl g_1)), (c2, .inl (G.2.1 1, m2, .inl g_2)), (c3, .inl (G.2.1 1, m3, .inl g_3))]) [2, 3, 0, 1] rfl) (hD.sub (ws' := [(c0, .inr (9, [.ref c1, .ref u0_1, .ref u0_2, .int y0_3, .int y0_4, .int y0_5, .int y0_6, .int y0_7, .int y0_8, .int y0_9, .int y0_10, .int y0_11, .int r17.2.1, .int y0_13, .int y0_14, .int y0_15, .int r17.2.2, .ref c2, .ref c3, .ref u0_19, .ref u0_20, .ref u0_21, .ref u0_22, .ref u0_23])), (c1, .inl (G.2.1 0, m1, .inl g_1)), (c2, .inl (G.2.1 1, m2, .inl g_2)), (c3, .inl (G.2.1 1, m3, .inl g_3))]) [2, 3, 0, 1] (by decide) rfl) hS (lv_sub hl [2, 3, 4, 1, 5, 0] rfl)
        · intro H locs ls et hP hD hS hl
          replace h := (if_pos et).symm.trans h
          have eV := so1 h
          subst eV
          exact kx71 _ _ _ rfl hP hD hS hl
        · intro H locs ls et hP hD hS hl
          replace h := (if_neg (show ¬ r35.1 = 0 by rw [et]; decide)).symm.trans h
          obtain ⟨v36, ev36⟩ : ∃ y : Int32, y = i4 + 1 := ⟨_, rfl⟩
          replace h := Lt_e h ev36
          refine lv_iinc (v := v36) (lv' := [(4, .int v36), (0, .ref c0), (1, .int i1), (2, .int i2), (3, .int v18)]) hx hb d_Mo_sign_80 hl (k := 4) rfl (by rw [ev36]; rfl) (by decide) rfl (fun ls hl => ?_)
          refine lv_goto (tgt := 5) hx hb d_Mo_sign_83 (by decide) ?_
          exact ih v18 v36 r17.2.1 r17.2.2  _ _ _ h hP hD hS (lv_sub hl [1, 2, 3, 4, 0] rfl)
set_option maxHeartbeats 4000000 in
set_option maxRecDepth 100000 in
theorem c_Mo_sign (l : Launch) (G : GX) (a0 a1 a2 a3 o0_1 o0_2 o0_19 o0_20 o0_21 o0_22 o0_23 : Nat) (sz : Nat) (x0_3 : Int32) (x0_4 : Int32) (x0_5 : Int32) (x0_6 : Int32) (x0_7 : Int32) (x0_8 : Int32) (x0_9 : Int32) (x0_10 : Int32) (x0_11 : Int32) (x0_12 : Int32) (x0_13 : Int32) (x0_14 : Int32) (x0_15 : Int32) (x0_16 : Int32) (n1 : Nat) (f1 : (Nat → Int32)) (n2 : Nat) (f2 : (Nat → Int32)) (n3 : Nat) (f3 : (Nat → Int32)) (p1 : Int32) (p2 : Int32) (N : Nat) (V : Int32 × Int32 × Int32) (h : f_Mo_sign N x0_3 x0_12 x0_16 n1 f1 n2 f2 n3 f3 p1 p2 = some V) :
    Met l y_Mo_sign (wd y_Mo_sign b_Mo_sign 6 (some .int)) { frames := 1, cells := 0, slots := 0, locals := 20 } (PX G [.ref a0, .int p1, .int p2] sz [(a0, .inr (9, [.ref a1, .ref o0_1, .ref o0_2, .int x0_3, .int x0_4, .int x0_5, .int x0_6, .int x0_7, .int x0_8, .int x0_9, .int x0_10, .int x0_11, .int x0_12, .int x0_13, .int x0_14, .int x0_15, .int x0_16, .ref a2, .ref a3, .ref o0_19, .ref o0_20, .ref o0_21, .ref o0_22, .ref o0_23])), (a1, .inl (G.2.1 0, n1, .inl f1)), (a2, .inl (G.2.1 1, n2, .inl f2)), (a3, .inl (G.2.1 1, n3, .inl f3))])
      (QXi G V.1 (fun w => w = [(a0, .inr (9, [.ref a1, .ref o0_1, .ref o0_2, .int x0_3, .int x0_4, .int x0_5, .int x0_6, .int x0_7, .int x0_8, .int x0_9, .int x0_10, .int x0_11, .int V.2.1, .int x0_13, .int x0_14, .int x0_15, .int V.2.2, .ref a2, .ref a3, .ref o0_19, .ref o0_20, .ref o0_21, .ref o0_22, .ref o0_23])), (a1, .inl (G.2.1 0, n1, .inl f1)), (a2, .inl (G.2.1 1, n2, .inl f2)), (a3, .inl (G.2.1 1, n3, .inl f3))]) (va_A [(a0, .inr (9, [.ref a1, .ref o0_1, .ref o0_2, .int x0_3, .int x0_4, .int x0_5, .int x0_6, .int x0_7, .int x0_8, .int x0_9, .int x0_10, .int x0_11, .int x0_12, .int x0_13, .int x0_14, .int x0_15, .int x0_16, .ref a2, .ref a3, .ref o0_19, .ref o0_20, .ref o0_21, .ref o0_22, .ref o0_23])), (a1, .inl (G.2.1 0, n1, .inl f1)), (a2, .inl (G.2.1 1, n2, .inl f2)), (a3, .inl (G.2.1 1, n3, .inl f3))] sz)) 0 0 (va_A [(a0, .inr (9, [.ref a1, .ref o0_1, .ref o0_2, .int x0_3, .int x0_4, .int x0_5, .int x0_6, .int x0_7, .int x0_8, .int x0_9, .int x0_10, .int x0_11, .int x0_12, .int x0_13, .int x0_14, .int x0_15, .int x0_16, .ref a2, .ref a3, .ref o0_19, .ref o0_20, .ref o0_21, .ref o0_22, .ref o0_23])), (a1, .inl (G.2.1 0, n1, .inl f1)), (a2, .inl (G.2.1 1, n2, .inl f2)), (a3, .inl (G.2.1 1, n3, .inl f3))] sz) := by
  refine Met_in (QQ := fun A => QXi G V.1 (fun w => w = [(a0, .inr (9, [.ref a1, .ref o0_1, .ref o0_2, .int x0_3, .int x0_4, .int x0_5, .int x0_6, .int x0_7, .int x0_8, .int x0_9, .int x0_10, .int x0_11, .int V.2.1, .int x0_13, .int x0_14, .int x0_15, .int V.2.2, .ref a2, .ref a3, .ref o0_19, .ref o0_20, .ref o0_21, .ref o0_22, .ref o0_23])), (a1, .inl (G.2.1 0, n1, .inl f1)), (a2, .inl (G.2.1 1, n2, .inl f2)), (a3, .inl (G.2.1 1, n3, .inl f3))]) A) (by decide) (Nat.le_of_ble_eq_true rfl) (fun p e s m below meth c R Q A ls C0 hRf hRl hRc hRs hP hK hD hT hA hS hl hQ => ?_)
  obtain ⟨hx, hb, hml, hown, hts, hr, hlocks, hin⟩ := id C0
  have hown : s.vm.findClass R_Mo = some m.cls := hown
  have hl : lv_has ls 6 [(0, .ref a0), (1, .int p1), (2, .int p2)] := hl
  unfold f_Mo_sign at h
  have hkc : 0 ≤ R.cells := Nat.zero_le _
  have hks : 0 ≤ R.slots := Nat.zero_le _
  obtain ⟨H, hH⟩ : ∃ H, H = s.heap := ⟨_, rfl⟩
  obtain ⟨locs, hlc⟩ : ∃ x : List Loc, x = [] := ⟨_, rfl⟩
  rw [← hH] at hP
  have hS : va_S A s.heap H locs := by rw [hH, hlc]; exact hS
  suffices hgo : W p l e R s m [.ref a0, .int p1, .int p2].toArray below meth c H locs 0 0 Q (F0 m 0 ls []) by rw [hH, hlc] at hgo; exact hgo
  refine lv_iconst (v := 0) hx hb d_Mo_sign_0 (by decide) ?_
  refine lv_istore_n (lv' := [(3, .int 0), (0, .ref a0), (1, .int p1), (2, .int p2)]) hx hb d_Mo_sign_1 rfl hl (by decide) rfl (fun ls hl => ?_)
  refine lv_iconst (v := 1) hx hb d_Mo_sign_2 (by decide) ?_
  refine lv_istore (lv' := [(4, .int 1), (3, .int 0), (0, .ref a0), (1, .int p1), (2, .int p2)]) hx hb d_Mo_sign_3 hl (by decide) rfl (fun ls hl => ?_)
  obtain ⟨r37, hc37, h⟩ := Bd_e h
  refine w_Mo_sign_5 C0 hRf hRl hA hK hT N p1 p2 x0_3 x0_4 x0_5 x0_6 x0_7 x0_8 x0_9 x0_10 x0_11 x0_13 x0_14 x0_15 n1 f1 n2 f2 n3 f3 a0 a1 a2 a3 o0_1 o0_2 o0_19 o0_20 o0_21 o0_22 o0_23 r37 (kc := 0) (ks := 0) hkc hks ?_ ?_ N 0 1 x0_12 x0_16  _ _ _ hc37 hP hD hS (lv_sub hl [2, 3, 4, 1, 0] rfl)
  · intro H locs ls et hP hD hS hl
    replace h := (if_pos et).symm.trans h
    refine lv_iload hx hb d_Mo_sign_71 (lv_at hl 0 rfl) ?_
    have eV := so1 h
    subst eV
    exact x_iret C0 hQ hP hD hS rfl (Nat.zero_le _) (Nat.zero_le _) d_Mo_sign_73
  · intro H locs ls et hP hD hS hl
    replace h := (if_neg (show ¬ r37.1 = 0 by rw [et]; decide)).symm.trans h
    refine lv_aload_n hx hb d_Mo_sign_86 rfl (lv_at hl 0 rfl) ?_
    refine lv_iconst (v := 1) hx hb d_Mo_sign_87 (by decide) ?_
    refine va_put (D := G.1) (ci := 9) (v := .int 1) (ty := .boolean) (C := R_Mo) (T := F_Mo) (N := 24) hx hb hts i_Mo t_Mo t_Mo_ok n_Mo hown hK hP hD hS 0 rfl rfl 16 (by decide) (hts _ q488) (fun _ h9 => h9) rfl (by decide +kernel) rfl rfl (Nat.le_of_ble_eq_true rfl) d_Mo_sign_88 (fun H locs hP hD hS => ?_)
    have hP : va_P G.1 classes [(a0, .inr (9, [.ref a1, .ref o0_1, .ref o0_2, .int x0_3, .int x0_4, .int x0_5, .int x0_6, .int x0_7, .int x0_8, .int x0_9, .int x0_10, .int x0_11, .int r37.2.2.1, .int x0_13, .int x0_14, .int x0_15, .int 1, .ref a2, .ref a3, .ref o0_19, .ref o0_20, .ref o0_21, .ref o0_22, .ref o0_23])), (a1, .inl (G.2.1 0, n1, .inl f1)), (a2, .inl (G.2.1 1, n2, .inl f2)), (a3, .inl (G.2.1 1, n3, .inl f3))] H := hP
    have hD : va_D A [(a0, .inr (9, [.ref a1, .ref o0_1, .ref o0_2, .int x0_3, .int x0_4, .int x0_5, .int x0_6, .int x0_7, .int x0_8, .int x0_9, .int x0_10, .int x0_11, .int r37.2.2.1, .int x0_13, .int x0_14, .int x0_15, .int 1, .ref a2, .ref a3, .ref o0_19, .ref o0_20, .ref o0_21, .ref o0_22, .ref o0_23])), (a1, .inl (G.2.1 0, n1, .inl f1)), (a2, .inl (G.2.1 1, n2, .inl f2)), (a3, .inl (G.2.1 1, n3, .inl f3))] := hD
    refine lv_iconst (v := (-1)) hx hb d_Mo_sign_91 (by decide) ?_
    have eV := so1 h
    subst eV
    exact x_iret C0 hQ hP hD hS rfl (Nat.zero_le _) (Nat.zero_le _) d_Mo_sign_92
set_option maxHeartbeats 4000000 in
set_option maxRecDepth 100000 in
theorem c_Mo_give (l : Launch) (G : GX) (a0 a1 o0_0 o0_1 o0_17 o0_18 o0_19 o0_20 o0_21 o0_22 o0_23 : Nat) (sz : Nat) (x0_3 : Int32) (x0_4 : Int32) (x0_5 : Int32) (x0_6 : Int32) (x0_7 : Int32) (x0_8 : Int32) (x0_9 : Int32) (x0_10 : Int32) (x0_11 : Int32) (x0_12 : Int32) (x0_13 : Int32) (x0_14 : Int32) (x0_15 : Int32) (x0_16 : Int32) (n1 : Nat) (f1 : (Nat → Int32)) (p1 : Int32) (N : Nat) (V : Int32 × Int32 × (Nat → Int32)) (h : f_Mo_give N x0_13 x0_16 n1 f1 p1 = some V) :
    Met l y_Mo_give (wd y_Mo_give b_Mo_give 2 none) { frames := 0, cells := 0, slots := 0, locals := 0 } (PX G [.ref a0, .int p1] sz [(a0, .inr (9, [.ref o0_0, .ref o0_1, .ref a1, .int x0_3, .int x0_4, .int x0_5, .int x0_6, .int x0_7, .int x0_8, .int x0_9, .int x0_10, .int x0_11, .int x0_12, .int x0_13, .int x0_14, .int x0_15, .int x0_16, .ref o0_17, .ref o0_18, .ref o0_19, .ref o0_20, .ref o0_21, .ref o0_22, .ref o0_23])), (a1, .inl (G.2.1 0, n1, .inl f1))])
      (QXv G (fun w => w = [(a0, .inr (9, [.ref o0_0, .ref o0_1, .ref a1, .int x0_3, .int x0_4, .int x0_5, .int x0_6, .int x0_7, .int x0_8, .int x0_9, .int x0_10, .int x0_11, .int x0_12, .int V.1, .int x0_14, .int x0_15, .int V.2.1, .ref o0_17, .ref o0_18, .ref o0_19, .ref o0_20, .ref o0_21, .ref o0_22, .ref o0_23])), (a1, .inl (G.2.1 0, n1, .inl V.2.2))]) (va_A [(a0, .inr (9, [.ref o0_0, .ref o0_1, .ref a1, .int x0_3, .int x0_4, .int x0_5, .int x0_6, .int x0_7, .int x0_8, .int x0_9, .int x0_10, .int x0_11, .int x0_12, .int x0_13, .int x0_14, .int x0_15, .int x0_16, .ref o0_17, .ref o0_18, .ref o0_19, .ref o0_20, .ref o0_21, .ref o0_22, .ref o0_23])), (a1, .inl (G.2.1 0, n1, .inl f1))] sz)) 0 0 (va_A [(a0, .inr (9, [.ref o0_0, .ref o0_1, .ref a1, .int x0_3, .int x0_4, .int x0_5, .int x0_6, .int x0_7, .int x0_8, .int x0_9, .int x0_10, .int x0_11, .int x0_12, .int x0_13, .int x0_14, .int x0_15, .int x0_16, .ref o0_17, .ref o0_18, .ref o0_19, .ref o0_20, .ref o0_21, .ref o0_22, .ref o0_23])), (a1, .inl (G.2.1 0, n1, .inl f1))] sz) := by
  refine Met_in (QQ := fun A => QXv G (fun w => w = [(a0, .inr (9, [.ref o0_0, .ref o0_1, .ref a1, .int x0_3, .int x0_4, .int x0_5, .int x0_6, .int x0_7, .int x0_8, .int x0_9, .int x0_10, .int x0_11, .int x0_12, .int V.1, .int x0_14, .int x0_15, .int V.2.1, .ref o0_17, .ref o0_18, .ref o0_19, .ref o0_20, .ref o0_21, .ref o0_22, .ref o0_23])), (a1, .inl (G.2.1 0, n1, .inl V.2.2))]) A) (by decide) (Nat.le_of_ble_eq_true rfl) (fun p e s m below meth c R Q A ls C0 hRf hRl hRc hRs hP hK hD hT hA hS hl hQ => ?_)
  obtain ⟨hx, hb, hml, hown, hts, hr, hlocks, hin⟩ := id C0
  have hown : s.vm.findClass R_Mo = some m.cls := hown
  have hl : lv_has ls 2 [(0, .ref a0), (1, .int p1)] := hl
  unfold f_Mo_give at h
  have hkc : 0 ≤ R.cells := Nat.zero_le _
  have hks : 0 ≤ R.slots := Nat.zero_le _
  obtain ⟨H, hH⟩ : ∃ H, H = s.heap := ⟨_, rfl⟩
  obtain ⟨locs, hlc⟩ : ∃ x : List Loc, x = [] := ⟨_, rfl⟩
  rw [← hH] at hP
  have hS : va_S A s.heap H locs := by rw [hH, hlc]; exact hS
  suffices hgo : W p l e R s m [.ref a0, .int p1].toArray below meth c H locs 0 0 Q (F0 m 0 ls []) by rw [hH, hlc] at hgo; exact hgo
  refine lv_aload_n hx hb d_Mo_give_0 rfl (lv_at hl 0 rfl) ?_
  refine va_get (D := G.1) (ci := 9) (v := .int x0_13) (C := R_Mo) (T := F_Mo) (N := 24) hx hb hts i_Mo hown hK hP 0 rfl rfl 13 (by decide) (hts _ q493) (fun _ h9 => h9) rfl d_Mo_give_1 ?_
  refine lv_ldc (v := 65536) hx hb hown (hts _ q422) d_Mo_give_4 ?_
  obtain ⟨j2, ej2, h⟩ := Jn_e h
  have hj2 : ∀ (t2 : Int32) (H : Heap) (locs : List Loc) (ls : Array Slot), j2 t2 = some V → va_P G.1 classes [(a0, .inr (9, [.ref o0_0, .ref o0_1, .ref a1, .int x0_3, .int x0_4, .int x0_5, .int x0_6, .int x0_7, .int x0_8, .int x0_9, .int x0_10, .int x0_11, .int x0_12, .int x0_13, .int x0_14, .int x0_15, .int t2, .ref o0_17, .ref o0_18, .ref o0_19, .ref o0_20, .ref o0_21, .ref o0_22, .ref o0_23])), (a1, .inl (G.2.1 0, n1, .inl f1))] H → va_D A [(a0, .inr (9, [.ref o0_0, .ref o0_1, .ref a1, .int x0_3, .int x0_4, .int x0_5, .int x0_6, .int x0_7, .int x0_8, .int x0_9, .int x0_10, .int x0_11, .int x0_12, .int x0_13, .int x0_14, .int x0_15, .int t2, .ref o0_17, .ref o0_18, .ref o0_19, .ref o0_20, .ref o0_21, .ref o0_22, .ref o0_23])), (a1, .inl (G.2.1 0, n1, .inl f1))] → va_S A s.heap H locs → lv_has ls 2 [(0, .ref a0), (1, .int p1)] → W p l e R s m [.ref a0, .int p1].toArray below meth c H locs 0 0 Q (F0 m 14 ls []) := by
    intro t2 H locs ls h hP hD hS hl
    replace h := ej2 _ _ h
    refine lv_aload_n hx hb d_Mo_give_14 rfl (lv_at hl 0 rfl) ?_
    refine va_get (D := G.1) (ci := 9) (v := .int t2) (C := R_Mo) (T := F_Mo) (N := 24) hx hb hts i_Mo hown hK hP 0 rfl rfl 16 (by decide) (hts _ q488) (fun _ h9 => h9) rfl d_Mo_give_15 ?_
    refine lv_if_eq (tgt := 22) hx hb d_Mo_give_18 (by decide) (fun cq3 => ?_) (fun cq3 => ?_)
    · replace h := (if_pos cq3).symm.trans h
      refine lv_aload_n hx hb d_Mo_give_22 rfl (lv_at hl 0 rfl) ?_
      refine va_get (D := G.1) (ci := 9) (v := .ref a1) (C := R_Mo) (T := F_Mo) (N := 24) hx hb hts i_Mo hown hK hP 0 rfl rfl 2 (by decide) (hts _ q426) (fun _ h9 => h9) rfl d_Mo_give_23 ?_
      refine lv_aload_n hx hb d_Mo_give_26 rfl (lv_at hl 0 rfl) ?_
      refine va_get (D := G.1) (ci := 9) (v := .int x0_13) (C := R_Mo) (T := F_Mo) (N := 24) hx hb hts i_Mo hown hK hP 0 rfl rfl 13 (by decide) (hts _ q493) (fun _ h9 => h9) rfl d_Mo_give_27 ?_
      refine lv_iload_n hx hb d_Mo_give_30 rfl (lv_at hl 1 rfl) ?_
      refine lv_i2b (v := p1.toInt8.toInt32) hx hb d_Mo_give_31 rfl ?_
      obtain ⟨hi4, h⟩ := Ix_e h
      refine y_bast hx hb hK hP hD hS 1 0 rfl rfl hi4 d_Mo_give_32 (fun g5 H locs eg5 hP hD hS => ?_)
      replace h := Lt_e h eg5
      have hP : va_P G.1 classes [(a0, .inr (9, [.ref o0_0, .ref o0_1, .ref a1, .int x0_3, .int x0_4, .int x0_5, .int x0_6, .int x0_7, .int x0_8, .int x0_9, .int x0_10, .int x0_11, .int x0_12, .int x0_13, .int x0_14, .int x0_15, .int t2, .ref o0_17, .ref o0_18, .ref o0_19, .ref o0_20, .ref o0_21, .ref o0_22, .ref o0_23])), (a1, .inl (G.2.1 0, n1, .inl g5))] H := hP
      have hD : va_D A [(a0, .inr (9, [.ref o0_0, .ref o0_1, .ref a1, .int x0_3, .int x0_4, .int x0_5, .int x0_6, .int x0_7, .int x0_8, .int x0_9, .int x0_10, .int x0_11, .int x0_12, .int x0_13, .int x0_14, .int x0_15, .int t2, .ref o0_17, .ref o0_18, .ref o0_19, .ref o0_20, .ref o0_21, .ref o0_22, .ref o0_23])), (a1, .inl (G.2.1 0, n1, .inl g5))] := hD
      refine lv_aload_n hx hb d_Mo_give_33 rfl (lv_at hl 0 rfl) ?_
      refine lv_dup hx hb d_Mo_give_34 rfl ?_
      refine va_get (D := G.1) (ci := 9) (v := .int x0_13) (C := R_Mo) (T := F_Mo) (N := 24) hx hb hts i_Mo hown hK hP 0 rfl rfl 13 (by decide) (hts _ q493) (fun _ h9 => h9) rfl d_Mo_give_35 ?_
      refine lv_iconst (v := 1) hx hb d_Mo_give_38 (by decide) ?_
      refine lv_iadd hx hb d_Mo_give_39 ?_
      refine lv_topi (fun v6 ev6 => ?_)
      replace h := Lt_e h ev6
      refine va_put (D := G.1) (ci := 9) (v := .int v6) (ty := .int) (C := R_Mo) (T := F_Mo) (N := 24) hx hb hts i_Mo t_Mo t_Mo_ok n_Mo hown hK hP hD hS 0 rfl rfl 13 (by decide) (hts _ q493) (fun _ h9 => h9) rfl (by decide +kernel) rfl rfl (Nat.le_of_ble_eq_true rfl) d_Mo_give_40 (fun H locs hP hD hS => ?_)
      have hP : va_P G.1 classes [(a0, .inr (9, [.ref o0_0, .ref o0_1, .ref a1, .int x0_3, .int x0_4, .int x0_5, .int x0_6, .int x0_7, .int x0_8, .int x0_9, .int x0_10, .int x0_11, .int x0_12, .int v6, .int x0_14, .int x0_15, .int t2, .ref o0_17, .ref o0_18, .ref o0_19, .ref o0_20, .ref o0_21, .ref o0_22, .ref o0_23])), (a1, .inl (G.2.1 0, n1, .inl g5))] H := hP
      have hD : va_D A [(a0, .inr (9, [.ref o0_0, .ref o0_1, .ref a1, .int x0_3, .int x0_4, .int x0_5, .int x0_6, .int x0_7, .int x0_8, .int x0_9, .int x0_10, .int x0_11, .int x0_12, .int v6, .int x0_14, .int x0_15, .int t2, .ref o0_17, .ref o0_18, .ref o0_19, .ref o0_20, .ref o0_21, .ref o0_22, .ref o0_23])), (a1, .inl (G.2.1 0, n1, .inl g5))] := hD
      have eV := so1 h
      subst eV
      exact x_vret C0 hQ hP hD hS rfl (Nat.zero_le _) (Nat.zero_le _) d_Mo_give_43
    · replace h := (if_neg cq3).symm.trans h
      have eV := so1 h
      subst eV
      exact x_vret C0 hQ hP hD hS rfl (Nat.zero_le _) (Nat.zero_le _) d_Mo_give_21
  refine lv_icmp_ne (tgt := 14) hx hb d_Mo_give_6 (by decide) (fun cq7 => ?_) (fun cq7 => ?_)
  · replace h := (if_neg cq7).symm.trans h
    exact hj2 x0_16 _ _ _ h hP hD hS hl
  · replace h := (if_pos cq7).symm.trans h
    refine lv_aload_n hx hb d_Mo_give_9 rfl (lv_at hl 0 rfl) ?_
    refine lv_iconst (v := 1) hx hb d_Mo_give_10 (by decide) ?_
    refine va_put (D := G.1) (ci := 9) (v := .int 1) (ty := .boolean) (C := R_Mo) (T := F_Mo) (N := 24) hx hb hts i_Mo t_Mo t_Mo_ok n_Mo hown hK hP hD hS 0 rfl rfl 16 (by decide) (hts _ q488) (fun _ h9 => h9) rfl (by decide +kernel) rfl rfl (Nat.le_of_ble_eq_true rfl) d_Mo_give_11 (fun H locs hP hD hS => ?_)
    have hP : va_P G.1 classes [(a0, .inr (9, [.ref o0_0, .ref o0_1, .ref a1, .int x0_3, .int x0_4, .int x0_5, .int x0_6, .int x0_7, .int x0_8, .int x0_9, .int x0_10, .int x0_11, .int x0_12, .int x0_13, .int x0_14, .int x0_15, .int 1, .ref o0_17, .ref o0_18, .ref o0_19, .ref o0_20, .ref o0_21, .ref o0_22, .ref o0_23])), (a1, .inl (G.2.1 0, n1, .inl f1))] H := hP
    have hD : va_D A [(a0, .inr (9, [.ref o0_0, .ref o0_1, .ref a1, .int x0_3, .int x0_4, .int x0_5, .int x0_6, .int x0_7, .int x0_8, .int x0_9, .int x0_10, .int x0_11, .int x0_12, .int x0_13, .int x0_14, .int x0_15, .int 1, .ref o0_17, .ref o0_18, .ref o0_19, .ref o0_20, .ref o0_21, .ref o0_22, .ref o0_23])), (a1, .inl (G.2.1 0, n1, .inl f1))] := hD
    exact hj2 1 _ _ _ h hP hD hS hl
set_option maxHeartbeats 4000000 in
set_option maxRecDepth 100000 in
theorem w_Mo_pair_95 {p : Program} {l : Launch} {e : Env} {R : Room} {s : State} {m : MethodId} {args : Array Value} {below : List Frame} {meth : Method} {c : Code} {Q : State → Prop} {G : GX} {A : Nat → Prop} (C0 : Cx p s m args meth c b_Mo_pair 6 y_Mo_pair none) (hRf : 2 ≤ R.frames) (hRl : 45 ≤ R.locals) (hA : ∀ q, s.heap.size ≤ q → A q) (hK : KX G s) (hT : TX G A s) (N : Nat) (i2 : Int32) (i4 : Int32) (y0_3 : Int32) (y0_4 : Int32) (y0_5 : Int32) (y0_6 : Int32) (y0_7 : Int32) (y0_8 : Int32) (y0_9 : Int32) (y0_10 : Int32) (y0_11 : Int32) (y0_12 : Int32) (y0_14 : Int32) (y0_15 : Int32) (m1 : Nat) (g_1 : (Nat → Int32)) (m2 : Nat) (m3 : Nat) (g_3 : (Nat → Int32)) (m4 : Nat) (g_4 : (Nat → Int32)) (c0 c1 c2 c3 c4 u0_1 u0_19 u0_20 u0_21 u0_22 u0_23 : Nat) (out : Int32 × Int32 × (Nat → Int32)) {kc ks : Nat} (hkc : kc ≤ R.cells) (hks : ks ≤ R.slots)
    (kx130 : ∀ (H : Heap) (locs : List Loc) (ls : Array Slot), va_P G.1 classes [(c0, .inr (9, [.ref c1, .ref u0_1, .ref c2, .int y0_3, .int y0_4, .int y0_5, .int y0_6, .int y0_7, .int y0_8, .int y0_9, .int y0_10, .int y0_11, .int y0_12, .int out.1, .int y0_14, .int y0_15, .int out.2.1, .ref c3, .ref c4, .ref u0_19, .ref u0_20, .ref u0_21, .ref u0_22, .ref u0_23])), (c1, .inl (G.2.1 0, m1, .inl g_1)), (c2, .inl (G.2.1 0, m2, .inl out.2.2)), (c3, .inl (G.2.1 1, m3, .inl g_3)), (c4, .inl (G.2.1 1, m4, .inl g_4))] H → va_D A [(c0, .inr (9, [.ref c1, .ref u0_1, .ref c2, .int y0_3, .int y0_4, .int y0_5, .int y0_6, .int y0_7, .int y0_8, .int y0_9, .int y0_10, .int y0_11, .int y0_12, .int out.1, .int y0_14, .int y0_15, .int out.2.1, .ref c3, .ref c4, .ref u0_19, .ref u0_20, .ref u0_21, .ref u0_22, .ref u0_23])), (c1, .inl (G.2.1 0, m1, .inl g_1)), (c2, .inl (G.2.1 0, m2, .inl out.2.2)), (c3, .inl (G.2.1 1, m3, .inl g_3)), (c4, .inl (G.2.1 1, m4, .inl g_4))] → va_S A s.heap H locs → lv_has ls 6 [] → W p l e R s m args below meth c H locs kc ks Q (F0 m 130 ls [])) :
    ∀ (n : Nat) (i5 : Int32) (y0_13 : Int32) (y0_16 : Int32) (g_2 : (Nat → Int32)) (H : Heap) (locs : List Loc) (ls : Array Slot), lp_Mo_pair_95 N i2 i4 m2 n i5 y0_13 y0_16 g_2 = some out → va_P G.1 classes [(c0, .inr (9, [.ref c1, .ref u0_1, .ref c2, .int y0_3, .int y0_4, .int y0_5, .int y0_6, .int y0_7, .int y0_8, .int y0_9, .int y0_10, .int y0_11, .int y0_12, .int y0_13, .int y0_14, .int y0_15, .int y0_16, .ref c3, .ref c4, .ref u0_19, .ref u0_20, .ref u0_21, .ref u0_22, .ref u0_23])), (c1, .inl (G.2.1 0, m1, .inl g_1)), (c2, .inl (G.2.1 0, m2, .inl g_2)), (c3, .inl (G.2.1 1, m3, .inl g_3)), (c4, .inl (G.2.1 1, m4, .inl g_4))] H → va_D A [(c0, .inr (9, [.ref c1, .ref u0_1, .ref c2, .int y0_3, .int y0_4, .int y0_5, .int y0_6, .int y0_7, .int y0_8, .int y0_9, .int y0_10, .int y0_11, .int y0_12, .int y0_13, .int y0_14, .int y0_15, .int y0_16, .ref c3, .ref c4, .ref u0_19, .ref u0_20, .ref u0_21, .ref u0_22, .ref u0_23])), (c1, .inl (G.2.1 0, m1, .inl g_1)), (c2, .inl (G.2.1 0, m2, .inl g_2)), (c3, .inl (G.2.1 1, m3, .inl g_3)), (c4, .inl (G.2.1 1, m4, .inl g_4))] → va_S A s.heap H locs → lv_has ls 6 [(0, .ref c0), (2, .int i2), (4, .int i4), (5, .int i5)] → W p l e R s m args below meth c H locs kc ks Q (F0 m 95 ls []) := by
  obtain ⟨hx, hb, hml, hown, hts, hr, hlocks, hin⟩ := id C0
  have hown : s.vm.findClass R_Mo = some m.cls := hown
  intro n
  induction n with
  | zero => intro i5 y0_13 y0_16 g_2 H locs ls h; cases h
  | succ n ih =>
    intro i5 y0_13 y0_16 g_2 H locs ls h hP hD hS hl
    replace h : lb_Mo_pair_95 N i2 i4 m2 (lp_Mo_pair_95 N i2 i4 m2 n) i5 y0_13 y0_16 g_2 = some out := h
    unfold lb_Mo_pair_95 at h
    refine lv_iload hx hb d_Mo_pair_95 (lv_at hl 3 rfl) ?_
    refine lv_iload_n hx hb d_Mo_pair_97 rfl (lv_at hl 1 rfl) ?_
    refine lv_icmp_ge (tgt := 130) hx hb d_Mo_pair_98 (by decide) (fun cq23 => ?_) (fun cq23 => ?_)
    · replace h := (if_pos cq23).symm.trans h
      have eV := so1 h
      subst eV
      exact kx130 _ _ _ hP hD hS (lv_sub hl [] rfl)
    · replace h := (if_neg cq23).symm.trans h
      refine lv_aload_n hx hb d_Mo_pair_101 rfl (lv_at hl 0 rfl) ?_
      refine va_get (D := G.1) (ci := 9) (v := .int y0_16) (C := R_Mo) (T := F_Mo) (N := 24) hx hb hts i_Mo hown hK hP 0 rfl rfl 16 (by decide) (hts _ q488) (fun _ h9 => h9) rfl d_Mo_pair_102 ?_
      refine lv_if_ne (tgt := 130) hx hb d_Mo_pair_105 (by decide) (fun cq24 => ?_) (fun cq24 => ?_)
      · replace h := (if_neg cq24).symm.trans h
        have eV := so1 h
        subst eV
        exact kx130 _ _ _ hP hD hS (lv_sub hl [] rfl)
      · replace h := (if_pos cq24).symm.trans h
        refine lv_aload_n hx hb d_Mo_pair_108 rfl (lv_at hl 0 rfl) ?_
        refine lv_aload_n hx hb d_Mo_pair_109 rfl (lv_at hl 0 rfl) ?_
        refine va_get (D := G.1) (ci := 9) (v := .ref c2) (C := R_Mo) (T := F_Mo) (N := 24) hx hb hts i_Mo hown hK hP 0 rfl rfl 2 (by decide) (hts _ q426) (fun _ h9 => h9) rfl d_Mo_pair_110 ?_
        refine lv_aload_n hx hb d_Mo_pair_113 rfl (lv_at hl 0 rfl) ?_
        refine va_get (D := G.1) (ci := 9) (v := .int y0_13) (C := R_Mo) (T := F_Mo) (N := 24) hx hb hts i_Mo hown hK hP 0 rfl rfl 13 (by decide) (hts _ q493) (fun _ h9 => h9) rfl d_Mo_pair_114 ?_
        refine lv_iload hx hb d_Mo_pair_117 (lv_at hl 2 rfl) ?_
        refine lv_isub hx hb d_Mo_pair_119 ?_
        obtain ⟨hi25, h⟩ := Ix_e h
        refine va_bald hx hb hK hP 2 0 rfl rfl hi25 d_Mo_pair_120 ?_
        obtain ⟨r26, hc26, h⟩ := Bd_e h
        refine xV_v0 (wr := [(c1, .inl (G.2.1 0, m1, .inl g_1)), (c3, .inl (G.2.1 1, m3, .inl g_3)), (c4, .inl (G.2.1 1, m4, .inl g_4))]) (rest := []) C0 hK hT hA hP hD hS hl.1 (c_Mo_give l G c0 c2 c1 u0_1 c3 c4 u0_19 u0_20 u0_21 u0_22 u0_23 _ y0_3 y0_4 y0_5 y0_6 y0_7 y0_8 y0_9 y0_10 y0_11 y0_12 y0_13 y0_14 y0_15 y0_16 m2 g_2 (g_2 (y0_13 - i4).toNatClampNeg) N r26 hc26) (goodV q502 q503 q504 q439 q505) 1 rfl hd_Mo_give (Nat.le_trans (by decide) hRf) (Nat.le_trans (by decide) hRl) [0, 2] [1, 3, 4] rfl rfl (by decide) (by decide) (by decide) 9 0 rfl rfl rfl (Nat.le_of_ble_eq_true rfl) d_Mo_pair_121 hkc hks (fun w1 H locs hE hP hD hS => ?_)
        subst hE
        have hP : va_P G.1 classes [(c1, .inl (G.2.1 0, m1, .inl g_1)), (c3, .inl (G.2.1 1, m3, .inl g_3)), (c4, .inl (G.2.1 1, m4, .inl g_4)), (c0, .inr (9, [.ref c1, .ref u0_1, .ref c2, .int y0_3, .int y0_4, .int y0_5, .int y0_6, .int y0_7, .int y0_8, .int y0_9, .int y0_10, .int y0_11, .int y0_12, .int r26.1, .int y0_14, .int y0_15, .int r26.2.1, .ref c3, .ref c4, .ref u0_19, .ref u0_20, .ref u0_21, .ref u0_22, .ref u0_23])), (c2, .inl (G.2.1 0, m2, .inl r26.2.2))] H := hP
        have hD : va_D A [(c1, .inl (G.2.1 0, m1, .inl g_1)), (c3, .inl (G.2.1 1, m3, .inl g_3)), (c4, .inl (G.2.1 1, m4, .inl g_4)), (c0, .inr (9, [.ref c1, .ref u0_1, .ref c2, .int y0_3, .int y0_4, .int y0_5, .int y0_6, .int y0_7, .int y0_8, .int y0_9, .int y0_10, .int y0_11, .int y0_12, .int r26.1, .int y0_14, .int y0_15, .int r26.2.1, .ref c3, .ref c4, .ref u0_19, .ref u0_20, .ref u0_21, .ref u0_22, .ref u0_23])), (c2, .inl (G.2.1 0, m2, .inl r26.2.2))] := hD
        obtain ⟨v27, ev27⟩ : ∃ y : Int32, y = i5 + 1 := ⟨_, rfl⟩
        replace h := Lt_e h ev27
        refine lv_iinc (v := v27) (lv' := [(5, .int v27), (0, .ref c0), (2, .int i2), (4, .int i4)]) hx hb d_Mo_pair_124 hl (k := 3) rfl (by rw [ev27]; rfl) (by decide) rfl (fun ls hl => ?_)
        refine lv_goto (tgt := 95) hx hb d_Mo_pair_127 (by decide) ?_
        exact ih v27 r26.1 r26.2.1 r26.2.2  _ _ _ h (hP.sub (ws' := [(c0, .inr (9, [.ref c1, .ref u0_1, .ref c2, .int y0_3, .int y0_4, .int y0_5, .int y0_6, .int y0_7, .int y0_8, .int y0_9, .int y0_10, .int y0_11, .int y0_12, .int r26.1, .int y0_14, .int y0_15, .int r26.2.1, .ref c3, .ref c4, .ref u0_19, .ref u0_20, .ref u0_21, .ref u0_22, .ref u0_23])), (c1, .inl (G.2.1 0, m1, .inl g_1)), (c2, .inl (G.2.1 0, m2, .inl r26.2.2)), (c3, .inl (G.2.1 1, m3, .inl g_3)), (c4, .inl (G.2.1 1, m4, .inl g_4))]) [3, 0, 4, 1, 2] rfl) (hD.sub (ws' := [(c0, .inr (9, [.ref c1, .ref u0_1, .ref c2, .int y0_3, .int y0_4, .int y0_5, .int y0_6, .int y0_7, .int y0_8, .int y0_9, .int y0_10, .int y0_11, .int y0_12, .int r26.1, .int y0_14, .int y0_15, .int r26.2.1, .ref c3, .ref c4, .ref u0_19, .ref u0_20, .ref u0_21, .ref u0_22, .ref u0_23])), (c1, .inl (G.2.1 0, m1, .inl g_1)), (c2, .inl (G.2.1 0, m2, .inl r26.2.2)), (c3, .inl (G.2.1 1, m3, .inl g_3)), (c4, .inl (G.2.1 1, m4, .inl g_4))]) [3, 0, 4, 1, 2] (by decide) rfl) hS (lv_sub hl [1, 2, 3, 0] rfl)
set_option maxHeartbeats 4000000 in
set_option maxRecDepth 100000 in
theorem c_Mo_pair (l : Launch) (G : GX) (a0 a1 a2 a3 a4 o0_1 o0_19 o0_20 o0_21 o0_22 o0_23 : Nat) (sz : Nat) (x0_3 : Int32) (x0_4 : Int32) (x0_5 : Int32) (x0_6 : Int32) (x0_7 : Int32) (x0_8 : Int32) (x0_9 : Int32) (x0_10 : Int32) (x0_11 : Int32) (x0_12 : Int32) (x0_13 : Int32) (x0_14 : Int32) (x0_15 : Int32) (x0_16 : Int32) (n1 : Nat) (f1 : (Nat → Int32)) (n2 : Nat) (f2 : (Nat → Int32)) (n3 : Nat) (f3 : (Nat → Int32)) (n4 : Nat) (f4 : (Nat → Int32)) (p1 : Int32) (N : Nat) (V : Int32 × Int32 × Int32 × (Nat → Int32)) (h : f_Mo_pair N x0_3 x0_12 x0_13 x0_16 n1 f1 n2 f2 n3 f3 n4 f4 p1 = some V) :
    Met l y_Mo_pair (wd y_Mo_pair b_Mo_pair 6 none) { frames := 2, cells := 0, slots := 0, locals := 45 } (PX G [.ref a0, .int p1] sz [(a0, .inr (9, [.ref a1, .ref o0_1, .ref a4, .int x0_3, .int x0_4, .int x0_5, .int x0_6, .int x0_7, .int x0_8, .int x0_9, .int x0_10, .int x0_11, .int x0_12, .int x0_13, .int x0_14, .int x0_15, .int x0_16, .ref a2, .ref a3, .ref o0_19, .ref o0_20, .ref o0_21, .ref o0_22, .ref o0_23])), (a1, .inl (G.2.1 0, n1, .inl f1)), (a2, .inl (G.2.1 1, n2, .inl f2)), (a3, .inl (G.2.1 1, n3, .inl f3)), (a4, .inl (G.2.1 0, n4, .inl f4))])
      (QXv G (fun w => w = [(a0, .inr (9, [.ref a1, .ref o0_1, .ref a4, .int x0_3, .int x0_4, .int x0_5, .int x0_6, .int x0_7, .int x0_8, .int x0_9, .int x0_10, .int x0_11, .int V.1, .int V.2.1, .int x0_14, .int x0_15, .int V.2.2.1, .ref a2, .ref a3, .ref o0_19, .ref o0_20, .ref o0_21, .ref o0_22, .ref o0_23])), (a1, .inl (G.2.1 0, n1, .inl f1)), (a2, .inl (G.2.1 1, n2, .inl f2)), (a3, .inl (G.2.1 1, n3, .inl f3)), (a4, .inl (G.2.1 0, n4, .inl V.2.2.2))]) (va_A [(a0, .inr (9, [.ref a1, .ref o0_1, .ref a4, .int x0_3, .int x0_4, .int x0_5, .int x0_6, .int x0_7, .int x0_8, .int x0_9, .int x0_10, .int x0_11, .int x0_12, .int x0_13, .int x0_14, .int x0_15, .int x0_16, .ref a2, .ref a3, .ref o0_19, .ref o0_20, .ref o0_21, .ref o0_22, .ref o0_23])), (a1, .inl (G.2.1 0, n1, .inl f1)), (a2, .inl (G.2.1 1, n2, .inl f2)), (a3, .inl (G.2.1 1, n3, .inl f3)), (a4, .inl (G.2.1 0, n4, .inl f4))] sz)) 0 0 (va_A [(a0, .inr (9, [.ref a1, .ref o0_1, .ref a4, .int x0_3, .int x0_4, .int x0_5, .int x0_6, .int x0_7, .int x0_8, .int x0_9, .int x0_10, .int x0_11, .int x0_12, .int x0_13, .int x0_14, .int x0_15, .int x0_16, .ref a2, .ref a3, .ref o0_19, .ref o0_20, .ref o0_21, .ref o0_22, .ref o0_23])), (a1, .inl (G.2.1 0, n1, .inl f1)), (a2, .inl (G.2.1 1, n2, .inl f2)), (a3, .inl (G.2.1 1, n3, .inl f3)), (a4, .inl (G.2.1 0, n4, .inl f4))] sz) := by
  refine Met_in (QQ := fun A => QXv G (fun w => w = [(a0, .inr (9, [.ref a1, .ref o0_1, .ref a4, .int x0_3, .int x0_4, .int x0_5, .int x0_6, .int x0_7, .int x0_8, .int x0_9, .int x0_10, .int x0_11, .int V.1, .int V.2.1, .int x0_14, .int x0_15, .int V.2.2.1, .ref a2, .ref a3, .ref o0_19, .ref o0_20, .ref o0_21, .ref o0_22, .ref o0_23])), (a1, .inl (G.2.1 0, n1, .inl f1)), (a2, .inl (G.2.1 1, n2, .inl f2)), (a3, .inl (G.2.1 1, n3, .inl f3)), (a4, .inl (G.2.1 0, n4, .inl V.2.2.2))]) A) (by decide) (Nat.le_of_ble_eq_true rfl) (fun p e s m below meth c R Q A ls C0 hRf hRl hRc hRs hP hK hD hT hA hS hl hQ => ?_)
  obtain ⟨hx, hb, hml, hown, hts, hr, hlocks, hin⟩ := id C0
  have hown : s.vm.findClass R_Mo = some m.cls := hown
  have hl : lv_has ls 6 [(0, .ref a0), (1, .int p1)] := hl
  unfold f_Mo_pair at h
  have hkc : 0 ≤ R.cells := Nat.zero_le _
  have hks : 0 ≤ R.slots := Nat.zero_le _
  obtain ⟨H, hH⟩ : ∃ H, H = s.heap := ⟨_, rfl⟩
  obtain ⟨locs, hlc⟩ : ∃ x : List Loc, x = [] := ⟨_, rfl⟩
  rw [← hH] at hP
  have hS : va_S A s.heap H locs := by rw [hH, hlc]; exact hS
  suffices hgo : W p l e R s m [.ref a0, .int p1].toArray below meth c H locs 0 0 Q (F0 m 0 ls []) by rw [hH, hlc] at hgo; exact hgo
  refine lv_iload_n hx hb d_Mo_pair_0 rfl (lv_at hl 1 rfl) ?_
  refine lv_sipush (v := 285) hx hb d_Mo_pair_1 (by decide) ?_
  obtain ⟨j2, ej2, h⟩ := Jn_e h
  have hj2 : ∀ (t2 : Int32) (H : Heap) (locs : List Loc) (ls : Array Slot), j2 t2 = some V → va_P G.1 classes [(a0, .inr (9, [.ref a1, .ref o0_1, .ref a4, .int x0_3, .int x0_4, .int x0_5, .int x0_6, .int x0_7, .int x0_8, .int x0_9, .int x0_10, .int x0_11, .int x0_12, .int x0_13, .int x0_14, .int x0_15, .int t2, .ref a2, .ref a3, .ref o0_19, .ref o0_20, .ref o0_21, .ref o0_22, .ref o0_23])), (a1, .inl (G.2.1 0, n1, .inl f1)), (a4, .inl (G.2.1 0, n4, .inl f4)), (a2, .inl (G.2.1 1, n2, .inl f2)), (a3, .inl (G.2.1 1, n3, .inl f3))] H → va_D A [(a0, .inr (9, [.ref a1, .ref o0_1, .ref a4, .int x0_3, .int x0_4, .int x0_5, .int x0_6, .int x0_7, .int x0_8, .int x0_9, .int x0_10, .int x0_11, .int x0_12, .int x0_13, .int x0_14, .int x0_15, .int t2, .ref a2, .ref a3, .ref o0_19, .ref o0_20, .ref o0_21, .ref o0_22, .ref o0_23])), (a1, .inl (G.2.1 0, n1, .inl f1)), (a4, .inl (G.2.1 0, n4, .inl f4)), (a2, .inl (G.2.1 1, n2, .inl f2)), (a3, .inl (G.2.1 1, n3, .inl f3))] → va_S A s.heap H locs → lv_has ls 6 [(0, .ref a0), (1, .int p1)] → W p l e R s m [.ref a0, .int p1].toArray below meth c H locs 0 0 Q (F0 m 12 ls []) := by
    intro t2 H locs ls h hP hD hS hl
    replace h := ej2 _ _ h
    refine lv_aload_n hx hb d_Mo_pair_12 rfl (lv_at hl 0 rfl) ?_
    refine va_get (D := G.1) (ci := 9) (v := .int t2) (C := R_Mo) (T := F_Mo) (N := 24) hx hb hts i_Mo hown hK hP 0 rfl rfl 16 (by decide) (hts _ q488) (fun _ h9 => h9) rfl d_Mo_pair_13 ?_
    refine lv_if_eq (tgt := 20) hx hb d_Mo_pair_16 (by decide) (fun cq3 => ?_) (fun cq3 => ?_)
    · replace h := (if_pos cq3).symm.trans h
      refine lv_iload_n hx hb d_Mo_pair_20 rfl (lv_at hl 1 rfl) ?_
      obtain ⟨r4, hc4, h⟩ := Bd_e h
      refine xS_i0 (wr := [(a0, .inr (9, [.ref a1, .ref o0_1, .ref a4, .int x0_3, .int x0_4, .int x0_5, .int x0_6, .int x0_7, .int x0_8, .int x0_9, .int x0_10, .int x0_11, .int x0_12, .int x0_13, .int x0_14, .int x0_15, .int t2, .ref a2, .ref a3, .ref o0_19, .ref o0_20, .ref o0_21, .ref o0_22, .ref o0_23])), (a1, .inl (G.2.1 0, n1, .inl f1)), (a4, .inl (G.2.1 0, n4, .inl f4)), (a2, .inl (G.2.1 1, n2, .inl f2)), (a3, .inl (G.2.1 1, n3, .inl f3))]) (rest := []) C0 hK hT hA hP hD hS hl.1 (c_Mo_lengthBase l G  _  p1 N r4 hc4) (goodS q456 q457 q439 q458) 1 rfl hd_Mo_lengthBase (Nat.le_trans (by decide) hRf) (Nat.le_trans (by decide) hRl) [] [0, 1, 2, 3, 4] rfl rfl (by decide) (by decide) (by decide) rfl (Nat.le_of_ble_eq_true rfl) d_Mo_pair_21 hkc hks (fun w1 H locs hE hP hD hS => ?_)
      subst hE
      have hP : va_P G.1 classes [(a0, .inr (9, [.ref a1, .ref o0_1, .ref a4, .int x0_3, .int x0_4, .int x0_5, .int x0_6, .int x0_7, .int x0_8, .int x0_9, .int x0_10, .int x0_11, .int x0_12, .int x0_13, .int x0_14, .int x0_15, .int t2, .ref a2, .ref a3, .ref o0_19, .ref o0_20, .ref o0_21, .ref o0_22, .ref o0_23])), (a1, .inl (G.2.1 0, n1, .inl f1)), (a4, .inl (G.2.1 0, n4, .inl f4)), (a2, .inl (G.2.1 1, n2, .inl f2)), (a3, .inl (G.2.1 1, n3, .inl f3))] H := hP
      have hD : va_D A [(a0, .inr (9, [.ref a1, .ref o0_1, .ref a4, .int x0_3, .int x0_4, .int x0_5, .int x0_6, .int x0_7, .int x0_8, .int x0_9, .int x0_10, .int x0_11, .int x0_12, .int x0_13, .int x0_14, .int x0_15, .int t2, .ref a2, .ref a3, .ref o0_19, .ref o0_20, .ref o0_21, .ref o0_22, .ref o0_23])), (a1, .inl (G.2.1 0, n1, .inl f1)), (a4, .inl (G.2.1 0, n4, .inl f4)), (a2, .inl (G.2.1 1, n2, .inl f2)), (a3, .inl (G.2.1 1, n3, .inl f3))] := hD
      refine lv_aload_n hx hb d_Mo_pair_24 rfl (lv_at hl 0 rfl) ?_
      refine lv_iload_n hx hb d_Mo_pair_25 rfl (lv_at hl 1 rfl) ?_
      obtain ⟨r5, hc5, h⟩ := Bd_e h
      refine xS_i0 (wr := [(a0, .inr (9, [.ref a1, .ref o0_1, .ref a4, .int x0_3, .int x0_4, .int x0_5, .int x0_6, .int x0_7, .int x0_8, .int x0_9, .int x0_10, .int x0_11, .int x0_12, .int x0_13, .int x0_14, .int x0_15, .int t2, .ref a2, .ref a3, .ref o0_19, .ref o0_20, .ref o0_21, .ref o0_22, .ref o0_23])), (a1, .inl (G.2.1 0, n1, .inl f1)), (a4, .inl (G.2.1 0, n4, .inl f4)), (a2, .inl (G.2.1 1, n2, .inl f2)), (a3, .inl (G.2.1 1, n3, .inl f3))]) (rest := [.ref a0, .int r4]) C0 hK hT hA hP hD hS hl.1 (c_Mo_lengthBits l G  _  p1 N r5 hc5) (goodS q450 q451 q439 q452) 1 rfl hd_Mo_lengthBits (Nat.le_trans (by decide) hRf) (Nat.le_trans (by decide) hRl) [] [0, 1, 2, 3, 4] rfl rfl (by decide) (by decide) (by decide) rfl (Nat.le_of_ble_eq_true rfl) d_Mo_pair_26 hkc hks (fun w1 H locs hE hP hD hS => ?_)
      subst hE
      have hP : va_P G.1 classes [(a0, .inr (9, [.ref a1, .ref o0_1, .ref a4, .int x0_3, .int x0_4, .int x0_5, .int x0_6, .int x0_7, .int x0_8, .int x0_9, .int x0_10, .int x0_11, .int x0_12, .int x0_13, .int x0_14, .int x0_15, .int t2, .ref a2, .ref a3, .ref o0_19, .ref o0_20, .ref o0_21, .ref o0_22, .ref o0_23])), (a1, .inl (G.2.1 0, n1, .inl f1)), (a4, .inl (G.2.1 0, n4, .inl f4)), (a2, .inl (G.2.1 1, n2, .inl f2)), (a3, .inl (G.2.1 1, n3, .inl f3))] H := hP
      have hD : va_D A [(a0, .inr (9, [.ref a1, .ref o0_1, .ref a4, .int x0_3, .int x0_4, .int x0_5, .int x0_6, .int x0_7, .int x0_8, .int x0_9, .int x0_10, .int x0_11, .int x0_12, .int x0_13, .int x0_14, .int x0_15, .int t2, .ref a2, .ref a3, .ref o0_19, .ref o0_20, .ref o0_21, .ref o0_22, .ref o0_23])), (a1, .inl (G.2.1 0, n1, .inl f1)), (a4, .inl (G.2.1 0, n4, .inl f4)), (a2, .inl (G.2.1 1, n2, .inl f2)), (a3, .inl (G.2.1 1, n3, .inl f3))] := hD
      obtain ⟨r6, hc6, h⟩ := Bd_e h
      refine xV_i0 (wr := [(a4, .inl (G.2.1 0, n4, .inl f4)), (a2, .inl (G.2.1 1, n2, .inl f2)), (a3, .inl (G.2.1 1, n3, .inl f3))]) (rest := [.int r4]) C0 hK hT hA hP hD hS hl.1 (c_Mo_number l G a0 a1 o0_1 a4 a2 a3 o0_19 o0_20 o0_21 o0_22 o0_23 _ x0_3 x0_4 x0_5 x0_6 x0_7 x0_8 x0_9 x0_10 x0_11 x0_12 x0_13 x0_14 x0_15 t2 n1 f1 r5 N r6 hc6) (goodV q494 q495 q496 q439 q497) 1 rfl hd_Mo_number (Nat.le_trans (by decide) hRf) (Nat.le_trans (by decide) hRl) [0, 1] [2, 3, 4] rfl rfl (by decide) (by decide) (by decide) 9 0 rfl rfl rfl (Nat.le_of_ble_eq_true rfl) d_Mo_pair_29 hkc hks (fun w1 H locs hE hP hD hS => ?_)
      subst hE
      have hP : va_P G.1 classes [(a4, .inl (G.2.1 0, n4, .inl f4)), (a2, .inl (G.2.1 1, n2, .inl f2)), (a3, .inl (G.2.1 1, n3, .inl f3)), (a0, .inr (9, [.ref a1, .ref o0_1, .ref a4, .int x0_3, .int x0_4, .int x0_5, .int x0_6, .int x0_7, .int x0_8, .int x0_9, .int x0_10, .int x0_11, .int r6.2.1, .int x0_13, .int x0_14, .int x0_15, .int r6.2.2, .ref a2, .ref a3, .ref o0_19, .ref o0_20, .ref o0_21, .ref o0_22, .ref o0_23])), (a1, .inl (G.2.1 0, n1, .inl f1))] H := hP
      have hD : va_D A [(a4, .inl (G.2.1 0, n4, .inl f4)), (a2, .inl (G.2.1 1, n2, .inl f2)), (a3, .inl (G.2.1 1, n3, .inl f3)), (a0, .inr (9, [.ref a1, .ref o0_1, .ref a4, .int x0_3, .int x0_4, .int x0_5, .int x0_6, .int x0_7, .int x0_8, .int x0_9, .int x0_10, .int x0_11, .int r6.2.1, .int x0_13, .int x0_14, .int x0_15, .int r6.2.2, .ref a2, .ref a3, .ref o0_19, .ref o0_20, .ref o0_21, .ref o0_22, .ref o0_23])), (a1, .inl (G.2.1 0, n1, .inl f1))] := hD
      refine lv_iadd hx hb d_Mo_pair_32 ?_
      refine lv_topi (fun v7 ev7 => ?_)
      replace h := Lt_e h ev7
      refine lv_istore_n (lv' := [(2, .int v7), (0, .ref a0), (1, .int p1)]) hx hb d_Mo_pair_33 rfl hl (by decide) rfl (fun ls hl => ?_)
      refine lv_aload_n hx hb d_Mo_pair_34 rfl (lv_at hl 1 rfl) ?_
      refine lv_sipush (v := 288) hx hb d_Mo_pair_35 (by decide) ?_
      refine lv_bipush (v := 32) hx hb d_Mo_pair_38 (by decide) ?_
      obtain ⟨r8, hc8, h⟩ := Bd_e h
      refine xV_i0 (wr := [(a4, .inl (G.2.1 0, n4, .inl f4))]) (rest := []) C0 hK hT hA hP hD hS hl.1 (c_Mo_sign l G a0 a1 a2 a3 o0_1 a4 o0_19 o0_20 o0_21 o0_22 o0_23 _ x0_3 x0_4 x0_5 x0_6 x0_7 x0_8 x0_9 x0_10 x0_11 r6.2.1 x0_13 x0_14 x0_15 r6.2.2 n1 f1 n2 f2 n3 f3 288 32 N r8 hc8) (goodV q498 q499 q500 q439 q501) 2 rfl hd_Mo_sign (Nat.le_trans (by decide) hRf) (Nat.le_trans (by decide) hRl) [3, 4, 1, 2] [0] rfl rfl (by decide) (by decide) (by decide) 9 3 rfl rfl rfl (Nat.le_of_ble_eq_true rfl) d_Mo_pair_40 hkc hks (fun w1 H locs hE hP hD hS => ?_)
      subst hE
      have hP : va_P G.1 classes [(a4, .inl (G.2.1 0, n4, .inl f4)), (a0, .inr (9, [.ref a1, .ref o0_1, .ref a4, .int x0_3, .int x0_4, .int x0_5, .int x0_6, .int x0_7, .int x0_8, .int x0_9, .int x0_10, .int x0_11, .int r8.2.1, .int x0_13, .int x0_14, .int x0_15, .int r8.2.2, .ref a2, .ref a3, .ref o0_19, .ref o0_20, .ref o0_21, .ref o0_22, .ref o0_23])), (a1, .inl (G.2.1 0, n1, .inl f1)), (a2, .inl (G.2.1 1, n2, .inl f2)), (a3, .inl (G.2.1 1, n3, .inl f3))] H := hP
      have hD : va_D A [(a4, .inl (G.2.1 0, n4, .inl f4)), (a0, .inr (9, [.ref a1, .ref o0_1, .ref a4, .int x0_3, .int x0_4, .int x0_5, .int x0_6, .int x0_7, .int x0_8, .int x0_9, .int x0_10, .int x0_11, .int r8.2.1, .int x0_13, .int x0_14, .int x0_15, .int r8.2.2, .ref a2, .ref a3, .ref o0_19, .ref o0_20, .ref o0_21, .ref o0_22, .ref o0_23])), (a1, .inl (G.2.1 0, n1, .inl f1)), (a2, .inl (G.2.1 1, n2, .inl f2)), (a3, .inl (G.2.1 1, n3, .inl f3))] := hD
      refine lv_istore_n (lv' := [(3, .int r8.1), (2, .int v7), (0, .ref a0), (1, .int p1)]) hx hb d_Mo_pair_43 rfl hl (by decide) rfl (fun ls hl => ?_)
      refine lv_iload_n hx hb d_Mo_pair_44 rfl (lv_at hl 0 rfl) ?_
      refine lv_bipush (v := 29) hx hb d_Mo_pair_45 (by decide) ?_
      obtain ⟨j10, ej10, h⟩ := Jn_e h
      have hj10 : ∀ (t10 : Int32) (H : Heap) (locs : List Loc) (ls : Array Slot), j10 t10 = some V → va_P G.1 classes [(a0, .inr (9, [.ref a1, .ref o0_1, .ref a4, .int x0_3, .int x0_4, .int x0_5, .int x0_6, .int x0_7, .int x0_8, .int x0_9, .int x0_10, .int x0_11, .int r8.2.1, .int x0_13, .int x0_14, .int x0_15, .int t10, .ref a2, .ref a3, .ref o0_19, .ref o0_20, .ref o0_21, .ref o0_22, .ref o0_23])), (a1, .inl (G.2.1 0, n1, .inl f1)), (a4, .inl (G.2.1 0, n4, .inl f4)), (a2, .inl (G.2.1 1, n2, .inl f2)), (a3, .inl (G.2.1 1, n3, .inl f3))] H → va_D A [(a0, .inr (9, [.ref a1, .ref o0_1, .ref a4, .int x0_3, .int x0_4, .int x0_5, .int x0_6, .int x0_7, .int x0_8, .int x0_9, .int x0_10, .int x0_11, .int r8.2.1, .int x0_13, .int x0_14, .int x0_15, .int t10, .ref a2, .ref a3, .ref o0_19, .ref o0_20, .ref o0_21, .ref o0_22, .ref o0_23])), (a1, .inl (G.2.1 0, n1, .inl f1)), (a4, .inl (G.2.1 0, n4, .inl f4)), (a2, .inl (G.2.1 1, n2, .inl f2)), (a3, .inl (G.2.1 1, n3, .inl f3))] → va_S A s.heap H locs → lv_has ls 6 [(0, .ref a0), (2, .int v7), (3, .int r8.1)] → W p l e R s m [.ref a0, .int p1].toArray below meth c H locs 0 0 Q (F0 m 55 ls []) := by
        intro t10 H locs ls h hP hD hS hl
        replace h := ej10 _ _ h
        refine lv_aload_n hx hb d_Mo_pair_55 rfl (lv_at hl 0 rfl) ?_
        refine va_get (D := G.1) (ci := 9) (v := .int t10) (C := R_Mo) (T := F_Mo) (N := 24) hx hb hts i_Mo hown hK hP 0 rfl rfl 16 (by decide) (hts _ q488) (fun _ h9 => h9) rfl d_Mo_pair_56 ?_
        refine lv_if_eq (tgt := 63) hx hb d_Mo_pair_59 (by decide) (fun cq11 => ?_) (fun cq11 => ?_)
        · replace h := (if_pos cq11).symm.trans h
          refine lv_iload_n hx hb d_Mo_pair_63 rfl (lv_at hl 2 rfl) ?_
          obtain ⟨r12, hc12, h⟩ := Bd_e h
          refine xS_i0 (wr := [(a0, .inr (9, [.ref a1, .ref o0_1, .ref a4, .int x0_3, .int x0_4, .int x0_5, .int x0_6, .int x0_7, .int x0_8, .int x0_9, .int x0_10, .int x0_11, .int r8.2.1, .int x0_13, .int x0_14, .int x0_15, .int t10, .ref a2, .ref a3, .ref o0_19, .ref o0_20, .ref o0_21, .ref o0_22, .ref o0_23])), (a1, .inl (G.2.1 0, n1, .inl f1)), (a4, .inl (G.2.1 0, n4, .inl f4)), (a2, .inl (G.2.1 1, n2, .inl f2)), (a3, .inl (G.2.1 1, n3, .inl f3))]) (rest := []) C0 hK hT hA hP hD hS hl.1 (c_Mo_distanceBase l G  _  r8.1 N r12 hc12) (goodS q467 q468 q439 q469) 1 rfl hd_Mo_distanceBase (Nat.le_trans (by decide) hRf) (Nat.le_trans (by decide) hRl) [] [0, 1, 2, 3, 4] rfl rfl (by decide) (by decide) (by decide) rfl (Nat.le_of_ble_eq_true rfl) d_Mo_pair_64 hkc hks (fun w1 H locs hE hP hD hS => ?_)
          subst hE
          have hP : va_P G.1 classes [(a0, .inr (9, [.ref a1, .ref o0_1, .ref a4, .int x0_3, .int x0_4, .int x0_5, .int x0_6, .int x0_7, .int x0_8, .int x0_9, .int x0_10, .int x0_11, .int r8.2.1, .int x0_13, .int x0_14, .int x0_15, .int t10, .ref a2, .ref a3, .ref o0_19, .ref o0_20, .ref o0_21, .ref o0_22, .ref o0_23])), (a1, .inl (G.2.1 0, n1, .inl f1)), (a4, .inl (G.2.1 0, n4, .inl f4)), (a2, .inl (G.2.1 1, n2, .inl f2)), (a3, .inl (G.2.1 1, n3, .inl f3))] H := hP
          have hD : va_D A [(a0, .inr (9, [.ref a1, .ref o0_1, .ref a4, .int x0_3, .int x0_4, .int x0_5, .int x0_6, .int x0_7, .int x0_8, .int x0_9, .int x0_10, .int x0_11, .int r8.2.1, .int x0_13, .int x0_14, .int x0_15, .int t10, .ref a2, .ref a3, .ref o0_19, .ref o0_20, .ref o0_21, .ref o0_22, .ref o0_23])), (a1, .inl (G.2.1 0, n1, .inl f1)), (a4, .inl (G.2.1 0, n4, .inl f4)), (a2, .inl (G.2.1 1, n2, .inl f2)), (a3, .inl (G.2.1 1, n3, .inl f3))] := hD
          refine lv_aload_n hx hb d_Mo_pair_67 rfl (lv_at hl 0 rfl) ?_
          refine lv_iload_n hx hb d_Mo_pair_68 rfl (lv_at hl 2 rfl) ?_
          obtain ⟨r13, hc13, h⟩ := Bd_e h
          refine xS_i0 (wr := [(a0, .inr (9, [.ref a1, .ref o0_1, .ref a4, .int x0_3, .int x0_4, .int x0_5, .int x0_6, .int x0_7, .int x0_8, .int x0_9, .int x0_10, .int x0_11, .int r8.2.1, .int x0_13, .int x0_14, .int x0_15, .int t10, .ref a2, .ref a3, .ref o0_19, .ref o0_20, .ref o0_21, .ref o0_22, .ref o0_23])), (a1, .inl (G.2.1 0, n1, .inl f1)), (a4, .inl (G.2.1 0, n4, .inl f4)), (a2, .inl (G.2.1 1, n2, .inl f2)), (a3, .inl (G.2.1 1, n3, .inl f3))]) (rest := [.ref a0, .int r12]) C0 hK hT hA hP hD hS hl.1 (c_Mo_distanceBits l G  _  r8.1 N r13 hc13) (goodS q453 q454 q439 q455) 1 rfl hd_Mo_distanceBits (Nat.le_trans (by decide) hRf) (Nat.le_trans (by decide) hRl) [] [0, 1, 2, 3, 4] rfl rfl (by decide) (by decide) (by decide) rfl (Nat.le_of_ble_eq_true rfl) d_Mo_pair_69 hkc hks (fun w1 H locs hE hP hD hS => ?_)
          subst hE
          have hP : va_P G.1 classes [(a0, .inr (9, [.ref a1, .ref o0_1, .ref a4, .int x0_3, .int x0_4, .int x0_5, .int x0_6, .int x0_7, .int x0_8, .int x0_9, .int x0_10, .int x0_11, .int r8.2.1, .int x0_13, .int x0_14, .int x0_15, .int t10, .ref a2, .ref a3, .ref o0_19, .ref o0_20, .ref o0_21, .ref o0_22, .ref o0_23])), (a1, .inl (G.2.1 0, n1, .inl f1)), (a4, .inl (G.2.1 0, n4, .inl f4)), (a2, .inl (G.2.1 1, n2, .inl f2)), (a3, .inl (G.2.1 1, n3, .inl f3))] H := hP
          have hD : va_D A [(a0, .inr (9, [.ref a1, .ref o0_1, .ref a4, .int x0_3, .int x0_4, .int x0_5, .int x0_6, .int x0_7, .int x0_8, .int x0_9, .int x0_10, .int x0_11, .int r8.2.1, .int x0_13, .int x0_14, .int x0_15, .int t10, .ref a2, .ref a3, .ref o0_19, .ref o0_20, .ref o0_21, .ref o0_22, .ref o0_23])), (a1, .inl (G.2.1 0, n1, .inl f1)), (a4, .inl (G.2.1 0, n4, .inl f4)), (a2, .inl (G.2.1 1, n2, .inl f2)), (a3, .inl (G.2.1 1, n3, .inl f3))] := hD
          obtain ⟨r14, hc14, h⟩ := Bd_e h
          refine xV_i0 (wr := [(a4, .inl (G.2.1 0, n4, .inl f4)), (a2, .inl (G.2.1 1, n2, .inl f2)), (a3, .inl (G.2.1 1, n3, .inl f3))]) (rest := [.int r12]) C0 hK hT hA hP hD hS hl.1 (c_Mo_number l G a0 a1 o0_1 a4 a2 a3 o0_19 o0_20 o0_21 o0_22 o0_23 _ x0_3 x0_4 x0_5 x0_6 x0_7 x0_8 x0_9 x0_10 x0_11 r8.2.1 x0_13 x0_14 x0_15 t10 n1 f1 r13 N r14 hc14) (goodV q494 q495 q496 q439 q497) 1 rfl hd_Mo_number (Nat.le_trans (by decide) hRf) (Nat.le_trans (by decide) hRl) [0, 1] [2, 3, 4] rfl rfl (by decide) (by decide) (by decide) 9 0 rfl rfl rfl (Nat.le_of_ble_eq_true rfl) d_Mo_pair_72 hkc hks (fun w1 H locs hE hP hD hS => ?_)
          subst hE
          have hP : va_P G.1 classes [(a4, .inl (G.2.1 0, n4, .inl f4)), (a2, .inl (G.2.1 1, n2, .inl f2)), (a3, .inl (G.2.1 1, n3, .inl f3)), (a0, .inr (9, [.ref a1, .ref o0_1, .ref a4, .int x0_3, .int x0_4, .int x0_5, .int x0_6, .int x0_7, .int x0_8, .int x0_9, .int x0_10, .int x0_11, .int r14.2.1, .int x0_13, .int x0_14, .int x0_15, .int r14.2.2, .ref a2, .ref a3, .ref o0_19, .ref o0_20, .ref o0_21, .ref o0_22, .ref o0_23])), (a1, .inl (G.2.1 0, n1, .inl f1))] H := hP
          have hD : va_D A [(a4, .inl (G.2.1 0, n4, .inl f4)), (a2, .inl (G.2.1 1, n2, .inl f2)), (a3, .inl (G.2.1 1, n3, .inl f3)), (a0, .inr (9, [.ref a1, .ref o0_1, .ref a4, .int x0_3, .int x0_4, .int x0_5, .int x0_6, .int x0_7, .int x0_8, .int x0_9, .int x0_10, .int x0_11, .int r14.2.1, .int x0_13, .int x0_14, .int x0_15, .int r14.2.2, .ref a2, .ref a3, .ref o0_19, .ref o0_20, .ref o0_21, .ref o0_22, .ref o0_23])), (a1, .inl (G.2.1 0, n1, .inl f1))] := hD
          refine lv_iadd hx hb d_Mo_pair_75 ?_
          refine lv_topi (fun v15 ev15 => ?_)
          replace h := Lt_e h ev15
          refine lv_istore (lv' := [(4, .int v15), (0, .ref a0), (2, .int v7), (3, .int r8.1)]) hx hb d_Mo_pair_76 hl (by decide) rfl (fun ls hl => ?_)
          refine lv_iload hx hb d_Mo_pair_78 (lv_at hl 0 rfl) ?_
          refine lv_aload_n hx hb d_Mo_pair_80 rfl (lv_at hl 1 rfl) ?_
          refine va_get (D := G.1) (ci := 9) (v := .int x0_13) (C := R_Mo) (T := F_Mo) (N := 24) hx hb hts i_Mo hown hK hP 3 rfl rfl 13 (by decide) (hts _ q493) (fun _ h9 => h9) rfl d_Mo_pair_81 ?_
          obtain ⟨j17, ej17, h⟩ := Jn_e h
          have hj17 : ∀ (t17 : Int32) (H : Heap) (locs : List Loc) (ls : Array Slot), j17 t17 = some V → va_P G.1 classes [(a0, .inr (9, [.ref a1, .ref o0_1, .ref a4, .int x0_3, .int x0_4, .int x0_5, .int x0_6, .int x0_7, .int x0_8, .int x0_9, .int x0_10, .int x0_11, .int r14.2.1, .int x0_13, .int x0_14, .int x0_15, .int t17, .ref a2, .ref a3, .ref o0_19, .ref o0_20, .ref o0_21, .ref o0_22, .ref o0_23])), (a1, .inl (G.2.1 0, n1, .inl f1)), (a4, .inl (G.2.1 0, n4, .inl f4)), (a2, .inl (G.2.1 1, n2, .inl f2)), (a3, .inl (G.2.1 1, n3, .inl f3))] H → va_D A [(a0, .inr (9, [.ref a1, .ref o0_1, .ref a4, .int x0_3, .int x0_4, .int x0_5, .int x0_6, .int x0_7, .int x0_8, .int x0_9, .int x0_10, .int x0_11, .int r14.2.1, .int x0_13, .int x0_14, .int x0_15, .int t17, .ref a2, .ref a3, .ref o0_19, .ref o0_20, .ref o0_21, .ref o0_22, .ref o0_23])), (a1, .inl (G.2.1 0, n1, .inl f1)), (a4, .inl (G.2.1 0, n4, .inl f4)), (a2, .inl (G.2.1 1, n2, .inl f2)), (a3, .inl (G.2.1 1, n3, .inl f3))] → va_S A s.heap H locs → lv_has ls 6 [(0, .ref a0), (2, .int v7), (4, .int v15)] → W p l e R s m [.ref a0, .int p1].toArray below meth c H locs 0 0 Q (F0 m 92 ls []) := by
            intro t17 H locs ls h hP hD hS hl
            replace h := ej17 _ _ h
            refine lv_iconst (v := 0) hx hb d_Mo_pair_92 (by decide) ?_
            refine lv_istore (lv' := [(5, .int 0), (0, .ref a0), (2, .int v7), (4, .int v15)]) hx hb d_Mo_pair_93 hl (by decide) rfl (fun ls hl => ?_)
            obtain ⟨r28, hc28, h⟩ := Bd_e h
            refine w_Mo_pair_95 C0 hRf hRl hA hK hT N v7 v15 x0_3 x0_4 x0_5 x0_6 x0_7 x0_8 x0_9 x0_10 x0_11 r14.2.1 x0_14 x0_15 n1 f1 n4 n2 f2 n3 f3 a0 a1 a4 a2 a3 o0_1 o0_19 o0_20 o0_21 o0_22 o0_23 r28 (kc := 0) (ks := 0) hkc hks ?_ N 0 x0_13 t17 f4  _ _ _ hc28 hP hD hS (lv_sub hl [1, 2, 3, 0] rfl)
            · intro H locs ls hP hD hS hl
              have eV := so1 h
              subst eV
              exact x_vret C0 hQ (hP.sub (ws' := [(a0, .inr (9, [.ref a1, .ref o0_1, .ref a4, .int x0_3, .int x0_4, .int x0_5, .int x0_6, .int x0_7, .int x0_8, .int x0_9, .int x0_10, .int x0_11, .int r14.2.1, .int r28.1, .int x0_14, .int x0_15, .int r28.2.1, .ref a2, .ref a3, .ref o0_19, .ref o0_20, .ref o0_21, .ref o0_22, .ref o0_23])), (a1, .inl (G.2.1 0, n1, .inl f1)), (a2, .inl (G.2.1 1, n2, .inl f2)), (a3, .inl (G.2.1 1, n3, .inl f3)), (a4, .inl (G.2.1 0, n4, .inl r28.2.2))]) [0, 1, 3, 4, 2] rfl) (hD.sub (ws' := [(a0, .inr (9, [.ref a1, .ref o0_1, .ref a4, .int x0_3, .int x0_4, .int x0_5, .int x0_6, .int x0_7, .int x0_8, .int x0_9, .int x0_10, .int x0_11, .int r14.2.1, .int r28.1, .int x0_14, .int x0_15, .int r28.2.1, .ref a2, .ref a3, .ref o0_19, .ref o0_20, .ref o0_21, .ref o0_22, .ref o0_23])), (a1, .inl (G.2.1 0, n1, .inl f1)), (a2, .inl (G.2.1 1, n2, .inl f2)), (a3, .inl (G.2.1 1, n3, .inl f3)), (a4, .inl (G.2.1 0, n4, .inl r28.2.2))]) [0, 1, 3, 4, 2] (by decide) rfl) hS rfl (Nat.zero_le _) (Nat.zero_le _) d_Mo_pair_130
          refine lv_icmp_le (tgt := 92) hx hb d_Mo_pair_84 (by decide) (fun cq29 => ?_) (fun cq29 => ?_)
          · replace h := (if_pos cq29).symm.trans h
            exact hj17 r14.2.2 _ _ _ h (hP.sub (ws' := [(a0, .inr (9, [.ref a1, .ref o0_1, .ref a4, .int x0_3, .int x0_4, .int x0_5, .int x0_6, .int x0_7, .int x0_8, .int x0_9, .int x0_10, .int x0_11, .int r14.2.1, .int x0_13, .int x0_14, .int x0_15, .int r14.2.2, .ref a2, .ref a3, .ref o0_19, .ref o0_20, .ref o0_21, .ref o0_22, .ref o0_23])), (a1, .inl (G.2.1 0, n1, .inl f1)), (a4, .inl (G.2.1 0, n4, .inl f4)), (a2, .inl (G.2.1 1, n2, .inl f2)), (a3, .inl (G.2.1 1, n3, .inl f3))]) [3, 4, 0, 1, 2] rfl) (hD.sub (ws' := [(a0, .inr (9, [.ref a1, .ref o0_1, .ref a4, .int x0_3, .int x0_4, .int x0_5, .int x0_6, .int x0_7, .int x0_8, .int x0_9, .int x0_10, .int x0_11, .int r14.2.1, .int x0_13, .int x0_14, .int x0_15, .int r14.2.2, .ref a2, .ref a3, .ref o0_19, .ref o0_20, .ref o0_21, .ref o0_22, .ref o0_23])), (a1, .inl (G.2.1 0, n1, .inl f1)), (a4, .inl (G.2.1 0, n4, .inl f4)), (a2, .inl (G.2.1 1, n2, .inl f2)), (a3, .inl (G.2.1 1, n3, .inl f3))]) [3, 4, 0, 1, 2] (by decide) rfl) hS (lv_sub hl [1, 2, 0] rfl)
          · replace h := (if_neg cq29).symm.trans h
            refine lv_aload_n hx hb d_Mo_pair_87 rfl (lv_at hl 1 rfl) ?_
            refine lv_iconst (v := 1) hx hb d_Mo_pair_88 (by decide) ?_
            refine va_put (D := G.1) (ci := 9) (v := .int 1) (ty := .boolean) (C := R_Mo) (T := F_Mo) (N := 24) hx hb hts i_Mo t_Mo t_Mo_ok n_Mo hown hK hP hD hS 3 rfl rfl 16 (by decide) (hts _ q488) (fun _ h9 => h9) rfl (by decide +kernel) rfl rfl (Nat.le_of_ble_eq_true rfl) d_Mo_pair_89 (fun H locs hP hD hS => ?_)
            have hP : va_P G.1 classes [(a4, .inl (G.2.1 0, n4, .inl f4)), (a2, .inl (G.2.1 1, n2, .inl f2)), (a3, .inl (G.2.1 1, n3, .inl f3)), (a0, .inr (9, [.ref a1, .ref o0_1, .ref a4, .int x0_3, .int x0_4, .int x0_5, .int x0_6, .int x0_7, .int x0_8, .int x0_9, .int x0_10, .int x0_11, .int r14.2.1, .int x0_13, .int x0_14, .int x0_15, .int 1, .ref a2, .ref a3, .ref o0_19, .ref o0_20, .ref o0_21, .ref o0_22, .ref o0_23])), (a1, .inl (G.2.1 0, n1, .inl f1))] H := hP
            have hD : va_D A [(a4, .inl (G.2.1 0, n4, .inl f4)), (a2, .inl (G.2.1 1, n2, .inl f2)), (a3, .inl (G.2.1 1, n3, .inl f3)), (a0, .inr (9, [.ref a1, .ref o0_1, .ref a4, .int x0_3, .int x0_4, .int x0_5, .int x0_6, .int x0_7, .int x0_8, .int x0_9, .int x0_10, .int x0_11, .int r14.2.1, .int x0_13, .int x0_14, .int x0_15, .int 1, .ref a2, .ref a3, .ref o0_19, .ref o0_20, .ref o0_21, .ref o0_22, .ref o0_23])), (a1, .inl (G.2.1 0, n1, .inl f1))] := hD
            exact hj17 1 _ _ _ h (hP.sub (ws' := [(a0, .inr (9, [.ref a1, .ref o0_1, .ref a4, .int x0_3, .int x0_4, .int x0_5, .int x0_6, .int x0_7, .int x0_8, .int x0_9, .int x0_10, .int x0_11, .int r14.2.1, .int x0_13, .int x0_14, .int x0_15, .int 1, .ref a2, .ref a3, .ref o0_19, .ref o0_20, .ref o0_21, .ref o0_22, .ref o0_23])), (a1, .inl (G.2.1 0, n1, .inl f1)), (a4, .inl (G.2.1 0, n4, .inl f4)), (a2, .inl (G.2.1 1, n2, .inl f2)), (a3, .inl (G.2.1 1, n3, .inl f3))]) [3, 4, 0, 1, 2] rfl) (hD.sub (ws' := [(a0, .inr (9, [.ref a1, .ref o0_1, .ref a4, .int x0_3, .int x0_4, .int x0_5, .int x0_6, .int x0_7, .int x0_8, .int x0_9, .int x0_10, .int x0_11, .int r14.2.1, .int x0_13, .int x0_14, .int x0_15, .int 1, .ref a2, .ref a3, .ref o0_19, .ref o0_20, .ref o0_21, .ref o0_22, .ref o0_23])), (a1, .inl (G.2.1 0, n1, .inl f1)), (a4, .inl (G.2.1 0, n4, .inl f4)), (a2, .inl (G.2.1 1, n2, .inl f2)), (a3, .inl (G.2.1 1, n3, .inl f3))]) [3, 4, 0, 1, 2] (by decide) rfl) hS (lv_sub hl [1, 2, 0] rfl)
        · replace h := (if_neg cq11).symm.trans h
          have eV := so1 h
          subst eV
          exact x_vret C0 hQ (hP.sub (ws' := [(a0, .inr (9, [.ref a1, .ref o0_1, .ref a4, .int x0_3, .int x0_4, .int x0_5, .int x0_6, .int x0_7, .int x0_8, .int x0_9, .int x0_10, .int x0_11, .int r8.2.1, .int x0_13, .int x0_14, .int x0_15, .int t10, .ref a2, .ref a3, .ref o0_19, .ref o0_20, .ref o0_21, .ref o0_22, .ref o0_23])), (a1, .inl (G.2.1 0, n1, .inl f1)), (a2, .inl (G.2.1 1, n2, .inl f2)), (a3, .inl (G.2.1 1, n3, .inl f3)), (a4, .inl (G.2.1 0, n4, .inl f4))]) [0, 1, 3, 4, 2] rfl) (hD.sub (ws' := [(a0, .inr (9, [.ref a1, .ref o0_1, .ref a4, .int x0_3, .int x0_4, .int x0_5, .int x0_6, .int x0_7, .int x0_8, .int x0_9, .int x0_10, .int x0_11, .int r8.2.1, .int x0_13, .int x0_14, .int x0_15, .int t10, .ref a2, .ref a3, .ref o0_19, .ref o0_20, .ref o0_21, .ref o0_22, .ref o0_23])), (a1, .inl (G.2.1 0, n1, .inl f1)), (a2, .inl (G.2.1 1, n2, .inl f2)), (a3, .inl (G.2.1 1, n3, .inl f3)), (a4, .inl (G.2.1 0, n4, .inl f4))]) [0, 1, 3, 4, 2] (by decide) rfl) hS rfl (Nat.zero_le _) (Nat.zero_le _) d_Mo_pair_62
      refine lv_icmp_le (tgt := 55) hx hb d_Mo_pair_47 (by decide) (fun cq30 => ?_) (fun cq30 => ?_)
      · replace h := (if_pos cq30).symm.trans h
        exact hj10 r8.2.2 _ _ _ h (hP.sub (ws' := [(a0, .inr (9, [.ref a1, .ref o0_1, .ref a4, .int x0_3, .int x0_4, .int x0_5, .int x0_6, .int x0_7, .int x0_8, .int x0_9, .int x0_10, .int x0_11, .int r8.2.1, .int x0_13, .int x0_14, .int x0_15, .int r8.2.2, .ref a2, .ref a3, .ref o0_19, .ref o0_20, .ref o0_21, .ref o0_22, .ref o0_23])), (a1, .inl (G.2.1 0, n1, .inl f1)), (a4, .inl (G.2.1 0, n4, .inl f4)), (a2, .inl (G.2.1 1, n2, .inl f2)), (a3, .inl (G.2.1 1, n3, .inl f3))]) [1, 2, 0, 3, 4] rfl) (hD.sub (ws' := [(a0, .inr (9, [.ref a1, .ref o0_1, .ref a4, .int x0_3, .int x0_4, .int x0_5, .int x0_6, .int x0_7, .int x0_8, .int x0_9, .int x0_10, .int x0_11, .int r8.2.1, .int x0_13, .int x0_14, .int x0_15, .int r8.2.2, .ref a2, .ref a3, .ref o0_19, .ref o0_20, .ref o0_21, .ref o0_22, .ref o0_23])), (a1, .inl (G.2.1 0, n1, .inl f1)), (a4, .inl (G.2.1 0, n4, .inl f4)), (a2, .inl (G.2.1 1, n2, .inl f2)), (a3, .inl (G.2.1 1, n3, .inl f3))]) [1, 2, 0, 3, 4] (by decide) rfl) hS (lv_sub hl [2, 1, 0] rfl)
      · replace h := (if_neg cq30).symm.trans h
        refine lv_aload_n hx hb d_Mo_pair_50 rfl (lv_at hl 2 rfl) ?_
        refine lv_iconst (v := 1) hx hb d_Mo_pair_51 (by decide) ?_
        refine va_put (D := G.1) (ci := 9) (v := .int 1) (ty := .boolean) (C := R_Mo) (T := F_Mo) (N := 24) hx hb hts i_Mo t_Mo t_Mo_ok n_Mo hown hK hP hD hS 1 rfl rfl 16 (by decide) (hts _ q488) (fun _ h9 => h9) rfl (by decide +kernel) rfl rfl (Nat.le_of_ble_eq_true rfl) d_Mo_pair_52 (fun H locs hP hD hS => ?_)
        have hP : va_P G.1 classes [(a4, .inl (G.2.1 0, n4, .inl f4)), (a0, .inr (9, [.ref a1, .ref o0_1, .ref a4, .int x0_3, .int x0_4, .int x0_5, .int x0_6, .int x0_7, .int x0_8, .int x0_9, .int x0_10, .int x0_11, .int r8.2.1, .int x0_13, .int x0_14, .int x0_15, .int 1, .ref a2, .ref a3, .ref o0_19, .ref o0_20, .ref o0_21, .ref o0_22, .ref o0_23])), (a1, .inl (G.2.1 0, n1, .inl f1)), (a2, .inl (G.2.1 1, n2, .inl f2)), (a3, .inl (G.2.1 1, n3, .inl f3))] H := hP
        have hD : va_D A [(a4, .inl (G.2.1 0, n4, .inl f4)), (a0, .inr (9, [.ref a1, .ref o0_1, .ref a4, .int x0_3, .int x0_4, .int x0_5, .int x0_6, .int x0_7, .int x0_8, .int x0_9, .int x0_10, .int x0_11, .int r8.2.1, .int x0_13, .int x0_14, .int x0_15, .int 1, .ref a2, .ref a3, .ref o0_19, .ref o0_20, .ref o0_21, .ref o0_22, .ref o0_23])), (a1, .inl (G.2.1 0, n1, .inl f1)), (a2, .inl (G.2.1 1, n2, .inl f2)), (a3, .inl (G.2.1 1, n3, .inl f3))] := hD
        exact hj10 1 _ _ _ h (hP.sub (ws' := [(a0, .inr (9, [.ref a1, .ref o0_1, .ref a4, .int x0_3, .int x0_4, .int x0_5, .int x0_6, .int x0_7, .int x0_8, .int x0_9, .int x0_10, .int x0_11, .int r8.2.1, .int x0_13, .int x0_14, .int x0_15, .int 1, .ref a2, .ref a3, .ref o0_19, .ref o0_20, .ref o0_21, .ref o0_22, .ref o0_23])), (a1, .inl (G.2.1 0, n1, .inl f1)), (a4, .inl (G.2.1 0, n4, .inl f4)), (a2, .inl (G.2.1 1, n2, .inl f2)), (a3, .inl (G.2.1 1, n3, .inl f3))]) [1, 2, 0, 3, 4] rfl) (hD.sub (ws' := [(a0, .inr (9, [.ref a1, .ref o0_1, .ref a4, .int x0_3, .int x0_4, .int x0_5, .int x0_6, .int x0_7, .int x0_8, .int x0_9, .int x0_10, .int x0_11, .int r8.2.1, .int x0_13, .int x0_14, .int x0_15, .int 1, .ref a2, .ref a3, .ref o0_19, .ref o0_20, .ref o0_21, .ref o0_22, .ref o0_23])), (a1, .inl (G.2.1 0, n1, .inl f1)), (a4, .inl (G.2.1 0, n4, .inl f4)), (a2, .inl (G.2.1 1, n2, .inl f2)), (a3, .inl (G.2.1 1, n3, .inl f3))]) [1, 2, 0, 3, 4] (by decide) rfl) hS (lv_sub hl [2, 1, 0] rfl)
    · replace h := (if_neg cq3).symm.trans h
      have eV := so1 h
      subst eV
      exact x_vret C0 hQ (hP.sub (ws' := [(a0, .inr (9, [.ref a1, .ref o0_1, .ref a4, .int x0_3, .int x0_4, .int x0_5, .int x0_6, .int x0_7, .int x0_8, .int x0_9, .int x0_10, .int x0_11, .int x0_12, .int x0_13, .int x0_14, .int x0_15, .int t2, .ref a2, .ref a3, .ref o0_19, .ref o0_20, .ref o0_21, .ref o0_22, .ref o0_23])), (a1, .inl (G.2.1 0, n1, .inl f1)), (a2, .inl (G.2.1 1, n2, .inl f2)), (a3, .inl (G.2.1 1, n3, .inl f3)), (a4, .inl (G.2.1 0, n4, .inl f4))]) [0, 1, 3, 4, 2] rfl) (hD.sub (ws' := [(a0, .inr (9, [.ref a1, .ref o0_1, .ref a4, .int x0_3, .int x0_4, .int x0_5, .int x0_6, .int x0_7, .int x0_8, .int x0_9, .int x0_10, .int x0_11, .int x0_12, .int x0_13, .int x0_14, .int x0_15, .int t2, .ref a2, .ref a3, .ref o0_19, .ref o0_20, .ref o0_21, .ref o0_22, .ref o0_23])), (a1, .inl (G.2.1 0, n1, .inl f1)), (a2, .inl (G.2.1 1, n2, .inl f2)), (a3, .inl (G.2.1 1, n3, .inl f3)), (a4, .inl (G.2.1 0, n4, .inl f4))]) [0, 1, 3, 4, 2] (by decide) rfl) hS rfl (Nat.zero_le _) (Nat.zero_le _) d_Mo_pair_19
  refine lv_icmp_le (tgt := 12) hx hb d_Mo_pair_4 (by decide) (fun cq31 => ?_) (fun cq31 => ?_)
  · replace h := (if_pos cq31).symm.trans h
    exact hj2 x0_16 _ _ _ h (hP.sub (ws' := [(a0, .inr (9, [.ref a1, .ref o0_1, .ref a4, .int x0_3, .int x0_4, .int x0_5, .int x0_6, .int x0_7, .int x0_8, .int x0_9, .int x0_10, .int x0_11, .int x0_12, .int x0_13, .int x0_14, .int x0_15, .int x0_16, .ref a2, .ref a3, .ref o0_19, .ref o0_20, .ref o0_21, .ref o0_22, .ref o0_23])), (a1, .inl (G.2.1 0, n1, .inl f1)), (a4, .inl (G.2.1 0, n4, .inl f4)), (a2, .inl (G.2.1 1, n2, .inl f2)), (a3, .inl (G.2.1 1, n3, .inl f3))]) [0, 1, 4, 2, 3] rfl) (hD.sub (ws' := [(a0, .inr (9, [.ref a1, .ref o0_1, .ref a4, .int x0_3, .int x0_4, .int x0_5, .int x0_6, .int x0_7, .int x0_8, .int x0_9, .int x0_10, .int x0_11, .int x0_12, .int x0_13, .int x0_14, .int x0_15, .int x0_16, .ref a2, .ref a3, .ref o0_19, .ref o0_20, .ref o0_21, .ref o0_22, .ref o0_23])), (a1, .inl (G.2.1 0, n1, .inl f1)), (a4, .inl (G.2.1 0, n4, .inl f4)), (a2, .inl (G.2.1 1, n2, .inl f2)), (a3, .inl (G.2.1 1, n3, .inl f3))]) [0, 1, 4, 2, 3] (by decide) rfl) hS hl
  · replace h := (if_neg cq31).symm.trans h
    refine lv_aload_n hx hb d_Mo_pair_7 rfl (lv_at hl 0 rfl) ?_
    refine lv_iconst (v := 1) hx hb d_Mo_pair_8 (by decide) ?_
    refine va_put (D := G.1) (ci := 9) (v := .int 1) (ty := .boolean) (C := R_Mo) (T := F_Mo) (N := 24) hx hb hts i_Mo t_Mo t_Mo_ok n_Mo hown hK hP hD hS 0 rfl rfl 16 (by decide) (hts _ q488) (fun _ h9 => h9) rfl (by decide +kernel) rfl rfl (Nat.le_of_ble_eq_true rfl) d_Mo_pair_9 (fun H locs hP hD hS => ?_)
    have hP : va_P G.1 classes [(a0, .inr (9, [.ref a1, .ref o0_1, .ref a4, .int x0_3, .int x0_4, .int x0_5, .int x0_6, .int x0_7, .int x0_8, .int x0_9, .int x0_10, .int x0_11, .int x0_12, .int x0_13, .int x0_14, .int x0_15, .int 1, .ref a2, .ref a3, .ref o0_19, .ref o0_20, .ref o0_21, .ref o0_22, .ref o0_23])), (a1, .inl (G.2.1 0, n1, .inl f1)), (a2, .inl (G.2.1 1, n2, .inl f2)), (a3, .inl (G.2.1 1, n3, .inl f3)), (a4, .inl (G.2.1 0, n4, .inl f4))] H := hP
    have hD : va_D A [(a0, .inr (9, [.ref a1, .ref o0_1, .ref a4, .int x0_3, .int x0_4, .int x0_5, .int x0_6, .int x0_7, .int x0_8, .int x0_9, .int x0_10, .int x0_11, .int x0_12, .int x0_13, .int x0_14, .int x0_15, .int 1, .ref a2, .ref a3, .ref o0_19, .ref o0_20, .ref o0_21, .ref o0_22, .ref o0_23])), (a1, .inl (G.2.1 0, n1, .inl f1)), (a2, .inl (G.2.1 1, n2, .inl f2)), (a3, .inl (G.2.1 1, n3, .inl f3)), (a4, .inl (G.2.1 0, n4, .inl f4))] := hD
    exact hj2 1 _ _ _ h (hP.sub (ws' := [(a0, .inr (9, [.ref a1, .ref o0_1, .ref a4, .int x0_3, .int x0_4, .int x0_5, .int x0_6, .int x0_7, .int x0_8, .int x0_9, .int x0_10, .int x0_11, .int x0_12, .int x0_13, .int x0_14, .int x0_15, .int 1, .ref a2, .ref a3, .ref o0_19, .ref o0_20, .ref o0_21, .ref o0_22, .ref o0_23])), (a1, .inl (G.2.1 0, n1, .inl f1)), (a4, .inl (G.2.1 0, n4, .inl f4)), (a2, .inl (G.2.1 1, n2, .inl f2)), (a3, .inl (G.2.1 1, n3, .inl f3))]) [0, 1, 4, 2, 3] rfl) (hD.sub (ws' := [(a0, .inr (9, [.ref a1, .ref o0_1, .ref a4, .int x0_3, .int x0_4, .int x0_5, .int x0_6, .int x0_7, .int x0_8, .int x0_9, .int x0_10, .int x0_11, .int x0_12, .int x0_13, .int x0_14, .int x0_15, .int 1, .ref a2, .ref a3, .ref o0_19, .ref o0_20, .ref o0_21, .ref o0_22, .ref o0_23])), (a1, .inl (G.2.1 0, n1, .inl f1)), (a4, .inl (G.2.1 0, n4, .inl f4)), (a2, .inl (G.2.1 1, n2, .inl f2)), (a3, .inl (G.2.1 1, n3, .inl f3))]) [0, 1, 4, 2, 3] (by decide) rfl) hS hl
