set_option maxHeartbeats 4000000 in
set_option maxRecDepth 100000 in
theorem w_Mo_common_2 {p : Program} {l : Launch} {e : Env} {R : Room} {s : State} {m : MethodId} {args : Array Value} {below : List Frame} {meth : Method} {c : Code} {Q : State → Prop} {G : GX} {A : Nat → Prop} (C0 : Cx p s m args meth c b_Mo_common 4 y_Mo_common (some .int)) (hRf : 0 ≤ R.frames) (hRl : 0 ≤ R.locals) (hA : ∀ q, s.heap.size ≤ q → A q) (hK : KX G s) (hT : TX G A s) (N : Nat) (i1 : Int32) (i2 : Int32) (y0_3 : Int32) (y0_4 : Int32) (y0_5 : Int32) (y0_6 : Int32) (y0_7 : Int32) (y0_8 : Int32) (y0_9 : Int32) (y0_10 : Int32) (y0_11 : Int32) (y0_12 : Int32) (y0_13 : Int32) (y0_14 : Int32) (y0_15 : Int32) (y0_16 : Int32) (m1 : Nat) (g_1 : (Nat → Int32)) (c0 c1 u0_1 u0_2 u0_17 u0_18 u0_19 u0_20 u0_21 u0_22 u0_23 : Nat) (out : Int32) {kc ks : Nat} (hkc : kc ≤ R.cells) (hks : ks ≤ R.slots)
    (kx46 : ∀ (H : Heap) (locs : List Loc) (ls : Array Slot), va_P G.1 classes [(c0, .inr (9, [.ref c1, .ref u0_1, .ref u0_2, .int y0_3, .int y0_4, .int y0_5, .int y0_6, .int y0_7, .int y0_8, .int y0_9, .int y0_10, .int y0_11, .int y0_12, .int y0_13, .int y0_14, .int y0_15, .int y0_16, .ref u0_17, .ref u0_18, .ref u0_19, .ref u0_20, .ref u0_21, .ref u0_22, .ref u0_23])), (c1, .inl (G.2.1 0, m1, .inl g_1))] H → va_D A [(c0, .inr (9, [.ref c1, .ref u0_1, .ref u0_2, .int y0_3, .int y0_4, .int y0_5, .int y0_6, .int y0_7, .int y0_8, .int y0_9, .int y0_10, .int y0_11, .int y0_12, .int y0_13, .int y0_14, .int y0_15, .int y0_16, .ref u0_17, .ref u0_18, .ref u0_19, .ref u0_20, .ref u0_21, .ref u0_22, .ref u0_23])), (c1, .inl (G.2.1 0, m1, .inl g_1))] → va_S A s.heap H locs → lv_has ls 4 [(3, .int out)] → W p l e R s m args below meth c H locs kc ks Q (F0 m 46 ls [])) :
    ∀ (n : Nat) (i3 : Int32) (H : Heap) (locs : List Loc) (ls : Array Slot), lp_Mo_common_2 N i1 i2 y0_3 m1 g_1 n i3 = some out → va_P G.1 classes [(c0, .inr (9, [.ref c1, .ref u0_1, .ref u0_2, .int y0_3, .int y0_4, .int y0_5, .int y0_6, .int y0_7, .int y0_8, .int y0_9, .int y0_10, .int y0_11, .int y0_12, .int y0_13, .int y0_14, .int y0_15, .int y0_16, .ref u0_17, .ref u0_18, .ref u0_19, .ref u0_20, .ref u0_21, .ref u0_22, .ref u0_23])), (c1, .inl (G.2.1 0, m1, .inl g_1))] H → va_D A [(c0, .inr (9, [.ref c1, .ref u0_1, .ref u0_2, .int y0_3, .int y0_4, .int y0_5, .int y0_6, .int y0_7, .int y0_8, .int y0_9, .int y0_10, .int y0_11, .int y0_12, .int y0_13, .int y0_14, .int y0_15, .int y0_16, .ref u0_17, .ref u0_18, .ref u0_19, .ref u0_20, .ref u0_21, .ref u0_22, .ref u0_23])), (c1, .inl (G.2.1 0, m1, .inl g_1))] → va_S A s.heap H locs → lv_has ls 4 [(0, .ref c0), (1, .int i1), (2, .int i2), (3, .int i3)] → W p l e R s m args below meth c H locs kc ks Q (F0 m 2 ls []) := by
  obtain ⟨hx, hb, hml, hown, hts, hr, hlocks, hin⟩ := id C0
  have hown : s.vm.findClass R_Mo = some m.cls := hown
  intro n
  induction n with
  | zero => intro i3 H locs ls h; cases h
  | succ n ih =>
    intro i3 H locs ls h hP hD hS hl
    replace h : lb_Mo_common_2 N i1 i2 y0_3 m1 g_1 (lp_Mo_common_2 N i1 i2 y0_3 m1 g_1 n) i3 = some out := h
    unfold lb_Mo_common_2 at h
    refine lv_iload_n hx hb d_Mo_common_2 rfl (lv_at hl 3 rfl) ?_
    refine lv_sipush (v := 258) hx hb d_Mo_common_3 (by decide) ?_
    refine lv_icmp_ge (tgt := 46) hx hb d_Mo_common_6 (by decide) (fun cq7 => ?_) (fun cq7 => ?_)
    · replace h := (if_pos cq7).symm.trans h
      have eV := so1 h
      subst eV
      exact kx46 _ _ _ hP hD hS (lv_sub hl [3] rfl)
    · replace h := (if_neg cq7).symm.trans h
      refine lv_iload_n hx hb d_Mo_common_9 rfl (lv_at hl 1 rfl) ?_
      refine lv_iload_n hx hb d_Mo_common_10 rfl (lv_at hl 3 rfl) ?_
      refine lv_iadd hx hb d_Mo_common_11 ?_
      refine lv_aload_n hx hb d_Mo_common_12 rfl (lv_at hl 0 rfl) ?_
      refine va_get (D := G.1) (ci := 9) (v := .int y0_3) (C := R_Mo) (T := F_Mo) (N := 24) hx hb hts i_Mo hown hK hP 0 rfl rfl 3 (by decide) (hts _ q435) (fun _ h9 => h9) rfl d_Mo_common_13 ?_
      refine lv_icmp_ge (tgt := 46) hx hb d_Mo_common_16 (by decide) (fun cq8 => ?_) (fun cq8 => ?_)
      · replace h := (if_pos cq8).symm.trans h
        have eV := so1 h
        subst eV
        exact kx46 _ _ _ hP hD hS (lv_sub hl [3] rfl)
      · replace h := (if_neg cq8).symm.trans h
        refine lv_aload_n hx hb d_Mo_common_19 rfl (lv_at hl 0 rfl) ?_
        refine va_get (D := G.1) (ci := 9) (v := .ref c1) (C := R_Mo) (T := F_Mo) (N := 24) hx hb hts i_Mo hown hK hP 0 rfl rfl 0 (by decide) (hts _ q423) (fun _ h9 => h9) rfl d_Mo_common_20 ?_
        refine lv_iload_n hx hb d_Mo_common_23 rfl (lv_at hl 1 rfl) ?_
        refine lv_iload_n hx hb d_Mo_common_24 rfl (lv_at hl 3 rfl) ?_
        refine lv_iadd hx hb d_Mo_common_25 ?_
        obtain ⟨hi9, h⟩ := Ix_e h
        refine va_bald hx hb hK hP 1 0 rfl rfl hi9 d_Mo_common_26 ?_
        refine lv_aload_n hx hb d_Mo_common_27 rfl (lv_at hl 0 rfl) ?_
        refine va_get (D := G.1) (ci := 9) (v := .ref c1) (C := R_Mo) (T := F_Mo) (N := 24) hx hb hts i_Mo hown hK hP 0 rfl rfl 0 (by decide) (hts _ q423) (fun _ h9 => h9) rfl d_Mo_common_28 ?_
        refine lv_iload_n hx hb d_Mo_common_31 rfl (lv_at hl 1 rfl) ?_
        refine lv_iload_n hx hb d_Mo_common_32 rfl (lv_at hl 3 rfl) ?_
        refine lv_iadd hx hb d_Mo_common_33 ?_
        refine lv_iload_n hx hb d_Mo_common_34 rfl (lv_at hl 2 rfl) ?_
        refine lv_isub hx hb d_Mo_common_35 ?_
        obtain ⟨hi10, h⟩ := Ix_e h
        refine va_bald hx hb hK hP 1 0 rfl rfl hi10 d_Mo_common_36 ?_
        refine lv_icmp_ne (tgt := 46) hx hb d_Mo_common_37 (by decide) (fun cq11 => ?_) (fun cq11 => ?_)
        · replace h := (if_neg cq11).symm.trans h
          have eV := so1 h
          subst eV
          exact kx46 _ _ _ hP hD hS (lv_sub hl [3] rfl)
        · replace h := (if_pos cq11).symm.trans h
          obtain ⟨v12, ev12⟩ : ∃ y : Int32, y = i3 + 1 := ⟨_, rfl⟩
          replace h := Lt_e h ev12
          refine lv_iinc (v := v12) (lv' := [(3, .int v12), (0, .ref c0), (1, .int i1), (2, .int i2)]) hx hb d_Mo_common_40 hl (k := 3) rfl (by rw [ev12]; rfl) (by decide) rfl (fun ls hl => ?_)
          refine lv_goto (tgt := 2) hx hb d_Mo_common_43 (by decide) ?_
          exact ih v12  _ _ _ h hP hD hS (lv_sub hl [1, 2, 3, 0] rfl)
set_option maxHeartbeats 4000000 in
set_option maxRecDepth 100000 in
theorem c_Mo_common (l : Launch) (G : GX) (a0 a1 o0_1 o0_2 o0_17 o0_18 o0_19 o0_20 o0_21 o0_22 o0_23 : Nat) (sz : Nat) (x0_3 : Int32) (x0_4 : Int32) (x0_5 : Int32) (x0_6 : Int32) (x0_7 : Int32) (x0_8 : Int32) (x0_9 : Int32) (x0_10 : Int32) (x0_11 : Int32) (x0_12 : Int32) (x0_13 : Int32) (x0_14 : Int32) (x0_15 : Int32) (x0_16 : Int32) (n1 : Nat) (f1 : (Nat → Int32)) (p1 : Int32) (p2 : Int32) (N : Nat) (V : Int32) (h : f_Mo_common N x0_3 n1 f1 p1 p2 = some V) :
    Met l y_Mo_common (wd y_Mo_common b_Mo_common 4 (some .int)) { frames := 0, cells := 0, slots := 0, locals := 0 } (PX G [.ref a0, .int p1, .int p2] sz [(a0, .inr (9, [.ref a1, .ref o0_1, .ref o0_2, .int x0_3, .int x0_4, .int x0_5, .int x0_6, .int x0_7, .int x0_8, .int x0_9, .int x0_10, .int x0_11, .int x0_12, .int x0_13, .int x0_14, .int x0_15, .int x0_16, .ref o0_17, .ref o0_18, .ref o0_19, .ref o0_20, .ref o0_21, .ref o0_22, .ref o0_23])), (a1, .inl (G.2.1 0, n1, .inl f1))])
      (QXi G V (fun w => w = [(a0, .inr (9, [.ref a1, .ref o0_1, .ref o0_2, .int x0_3, .int x0_4, .int x0_5, .int x0_6, .int x0_7, .int x0_8, .int x0_9, .int x0_10, .int x0_11, .int x0_12, .int x0_13, .int x0_14, .int x0_15, .int x0_16, .ref o0_17, .ref o0_18, .ref o0_19, .ref o0_20, .ref o0_21, .ref o0_22, .ref o0_23])), (a1, .inl (G.2.1 0, n1, .inl f1))]) (va_A [(a0, .inr (9, [.ref a1, .ref o0_1, .ref o0_2, .int x0_3, .int x0_4, .int x0_5, .int x0_6, .int x0_7, .int x0_8, .int x0_9, .int x0_10, .int x0_11, .int x0_12, .int x0_13, .int x0_14, .int x0_15, .int x0_16, .ref o0_17, .ref o0_18, .ref o0_19, .ref o0_20, .ref o0_21, .ref o0_22, .ref o0_23])), (a1, .inl (G.2.1 0, n1, .inl f1))] sz)) 0 0 (va_A [(a0, .inr (9, [.ref a1, .ref o0_1, .ref o0_2, .int x0_3, .int x0_4, .int x0_5, .int x0_6, .int x0_7, .int x0_8, .int x0_9, .int x0_10, .int x0_11, .int x0_12, .int x0_13, .int x0_14, .int x0_15, .int x0_16, .ref o0_17, .ref o0_18, .ref o0_19, .ref o0_20, .ref o0_21, .ref o0_22, .ref o0_23])), (a1, .inl (G.2.1 0, n1, .inl f1))] sz) := by
  refine Met_in (QQ := fun A => QXi G V (fun w => w = [(a0, .inr (9, [.ref a1, .ref o0_1, .ref o0_2, .int x0_3, .int x0_4, .int x0_5, .int x0_6, .int x0_7, .int x0_8, .int x0_9, .int x0_10, .int x0_11, .int x0_12, .int x0_13, .int x0_14, .int x0_15, .int x0_16, .ref o0_17, .ref o0_18, .ref o0_19, .ref o0_20, .ref o0_21, .ref o0_22, .ref o0_23])), (a1, .inl (G.2.1 0, n1, .inl f1))]) A) (by decide) (Nat.le_of_ble_eq_true rfl) (fun p e s m below meth c R Q A ls C0 hRf hRl hRc hRs hP hK hD hT hA hS hl hQ => ?_)
  obtain ⟨hx, hb, hml, hown, hts, hr, hlocks, hin⟩ := id C0
  have hown : s.vm.findClass R_Mo = some m.cls := hown
  have hl : lv_has ls 4 [(0, .ref a0), (1, .int p1), (2, .int p2)] := hl
  unfold f_Mo_common at h
  have hkc : 0 ≤ R.cells := Nat.zero_le _
  have hks : 0 ≤ R.slots := Nat.zero_le _
  obtain ⟨H, hH⟩ : ∃ H, H = s.heap := ⟨_, rfl⟩
  obtain ⟨locs, hlc⟩ : ∃ x : List Loc, x = [] := ⟨_, rfl⟩
  rw [← hH] at hP
  have hS : va_S A s.heap H locs := by rw [hH, hlc]; exact hS
  suffices hgo : W p l e R s m [.ref a0, .int p1, .int p2].toArray below meth c H locs 0 0 Q (F0 m 0 ls []) by rw [hH, hlc] at hgo; exact hgo
  refine lv_iconst (v := 0) hx hb d_Mo_common_0 (by decide) ?_
  refine lv_istore_n (lv' := [(3, .int 0), (0, .ref a0), (1, .int p1), (2, .int p2)]) hx hb d_Mo_common_1 rfl hl (by decide) rfl (fun ls hl => ?_)
  obtain ⟨r13, hc13, h⟩ := Bd_e h
  refine w_Mo_common_2 C0 hRf hRl hA hK hT N p1 p2 x0_3 x0_4 x0_5 x0_6 x0_7 x0_8 x0_9 x0_10 x0_11 x0_12 x0_13 x0_14 x0_15 x0_16 n1 f1 a0 a1 o0_1 o0_2 o0_17 o0_18 o0_19 o0_20 o0_21 o0_22 o0_23 r13 (kc := 0) (ks := 0) hkc hks ?_ N 0  _ _ _ hc13 hP hD hS (lv_sub hl [1, 2, 3, 0] rfl)
  · intro H locs ls hP hD hS hl
    refine lv_iload_n hx hb d_Mo_common_46 rfl (lv_at hl 0 rfl) ?_
    have eV := so1 h
    subst eV
    exact x_iret C0 hQ hP hD hS rfl (Nat.zero_le _) (Nat.zero_le _) d_Mo_common_47
set_option maxHeartbeats 4000000 in
set_option maxRecDepth 100000 in
theorem w_Mo_adler_8 {p : Program} {l : Launch} {e : Env} {R : Room} {s : State} {m : MethodId} {args : Array Value} {below : List Frame} {meth : Method} {c : Code} {Q : State → Prop} {G : GX} {A : Nat → Prop} (C0 : Cx p s m args meth c b_Mo_adler 6 y_Mo_adler (some .int)) (hRf : 0 ≤ R.frames) (hRl : 0 ≤ R.locals) (hA : ∀ q, s.heap.size ≤ q → A q) (hK : KX G s) (hT : TX G A s) (N : Nat) (i2 : Int32) (m0 : Nat) (g_0 : (Nat → Int32)) (c0 : Nat) (out : Int32 × Int32) {kc ks : Nat} (hkc : kc ≤ R.cells) (hks : ks ≤ R.slots)
    (kx43 : ∀ (H : Heap) (locs : List Loc) (ls : Array Slot), va_P G.1 classes [(c0, .inl (G.2.1 0, m0, .inl g_0))] H → va_D A [(c0, .inl (G.2.1 0, m0, .inl g_0))] → va_S A s.heap H locs → lv_has ls 6 [(3, .int out.1), (4, .int out.2)] → W p l e R s m args below meth c H locs kc ks Q (F0 m 43 ls [])) :
    ∀ (n : Nat) (i3 : Int32) (i4 : Int32) (i5 : Int32) (H : Heap) (locs : List Loc) (ls : Array Slot), lp_Mo_adler_8 N i2 m0 g_0 n i3 i4 i5 = some out → va_P G.1 classes [(c0, .inl (G.2.1 0, m0, .inl g_0))] H → va_D A [(c0, .inl (G.2.1 0, m0, .inl g_0))] → va_S A s.heap H locs → lv_has ls 6 [(1, .ref c0), (2, .int i2), (3, .int i3), (4, .int i4), (5, .int i5)] → W p l e R s m args below meth c H locs kc ks Q (F0 m 8 ls []) := by
  obtain ⟨hx, hb, hml, hown, hts, hr, hlocks, hin⟩ := id C0
  have hown : s.vm.findClass R_Mo = some m.cls := hown
  intro n
  induction n with
  | zero => intro i3 i4 i5 H locs ls h; cases h
  | succ n ih =>
    intro i3 i4 i5 H locs ls h hP hD hS hl
    replace h : lb_Mo_adler_8 N i2 m0 g_0 (lp_Mo_adler_8 N i2 m0 g_0 n) i3 i4 i5 = some out := h
    unfold lb_Mo_adler_8 at h
    refine lv_iload hx hb d_Mo_adler_8 (lv_at hl 4 rfl) ?_
    refine lv_iload_n hx hb d_Mo_adler_10 rfl (lv_at hl 1 rfl) ?_
    refine lv_icmp_ge (tgt := 43) hx hb d_Mo_adler_11 (by decide) (fun cq6 => ?_) (fun cq6 => ?_)
    · replace h := (if_pos cq6).symm.trans h
      have eV := so1 h
      subst eV
      exact kx43 _ _ _ hP hD hS (lv_sub hl [2, 3] rfl)
    · replace h := (if_neg cq6).symm.trans h
      refine lv_iload_n hx hb d_Mo_adler_14 rfl (lv_at hl 2 rfl) ?_
      refine lv_aload_n hx hb d_Mo_adler_15 rfl (lv_at hl 0 rfl) ?_
      refine lv_iload hx hb d_Mo_adler_16 (lv_at hl 4 rfl) ?_
      obtain ⟨hi7, h⟩ := Ix_e h
      refine va_bald hx hb hK hP 0 0 rfl rfl hi7 d_Mo_adler_18 ?_
      refine lv_sipush (v := 255) hx hb d_Mo_adler_19 (by decide) ?_
      refine lv_iand hx hb d_Mo_adler_22 ?_
      refine lv_iadd hx hb d_Mo_adler_23 ?_
      refine lv_ldc (v := 65521) hx hb hown (hts _ q470) d_Mo_adler_24 ?_
      refine lv_irem hx hb d_Mo_adler_26 (by decide) ?_
      refine lv_topi (fun v8 ev8 => ?_)
      replace h := Lt_e h ev8
      refine lv_istore_n (lv' := [(3, .int v8), (1, .ref c0), (2, .int i2), (4, .int i4), (5, .int i5)]) hx hb d_Mo_adler_27 rfl hl (by decide) rfl (fun ls hl => ?_)
      refine lv_iload hx hb d_Mo_adler_28 (lv_at hl 3 rfl) ?_
      refine lv_iload_n hx hb d_Mo_adler_30 rfl (lv_at hl 0 rfl) ?_
      refine lv_iadd hx hb d_Mo_adler_31 ?_
      refine lv_ldc (v := 65521) hx hb hown (hts _ q470) d_Mo_adler_32 ?_
      refine lv_irem hx hb d_Mo_adler_34 (by decide) ?_
      refine lv_topi (fun v9 ev9 => ?_)
      replace h := Lt_e h ev9
      refine lv_istore (lv' := [(4, .int v9), (3, .int v8), (1, .ref c0), (2, .int i2), (5, .int i5)]) hx hb d_Mo_adler_35 hl (by decide) rfl (fun ls hl => ?_)
      obtain ⟨v10, ev10⟩ : ∃ y : Int32, y = i5 + 1 := ⟨_, rfl⟩
      replace h := Lt_e h ev10
      refine lv_iinc (v := v10) (lv' := [(5, .int v10), (4, .int v9), (3, .int v8), (1, .ref c0), (2, .int i2)]) hx hb d_Mo_adler_37 hl (k := 4) rfl (by rw [ev10]; rfl) (by decide) rfl (fun ls hl => ?_)
      refine lv_goto (tgt := 8) hx hb d_Mo_adler_40 (by decide) ?_
      exact ih v8 v9 v10  _ _ _ h hP hD hS (lv_sub hl [3, 4, 2, 1, 0] rfl)
set_option maxHeartbeats 4000000 in
set_option maxRecDepth 100000 in
theorem c_Mo_adler (l : Launch) (G : GX) (a0 o_this : Nat) (sz : Nat) (n0 : Nat) (f0 : (Nat → Int32)) (p2 : Int32) (N : Nat) (V : Int32) (h : f_Mo_adler N n0 f0 p2 = some V) :
    Met l y_Mo_adler (wd y_Mo_adler b_Mo_adler 6 (some .int)) { frames := 0, cells := 0, slots := 0, locals := 0 } (PX G [.ref o_this, .ref a0, .int p2] sz [(a0, .inl (G.2.1 0, n0, .inl f0))])
      (QXi G V (fun w => w = [(a0, .inl (G.2.1 0, n0, .inl f0))]) (va_A [(a0, .inl (G.2.1 0, n0, .inl f0))] sz)) 0 0 (va_A [(a0, .inl (G.2.1 0, n0, .inl f0))] sz) := by
  refine Met_in (QQ := fun A => QXi G V (fun w => w = [(a0, .inl (G.2.1 0, n0, .inl f0))]) A) (by decide) (Nat.le_of_ble_eq_true rfl) (fun p e s m below meth c R Q A ls C0 hRf hRl hRc hRs hP hK hD hT hA hS hl hQ => ?_)
  obtain ⟨hx, hb, hml, hown, hts, hr, hlocks, hin⟩ := id C0
  have hown : s.vm.findClass R_Mo = some m.cls := hown
  have hl : lv_has ls 6 [(0, .ref o_this), (1, .ref a0), (2, .int p2)] := hl
  unfold f_Mo_adler at h
  have hkc : 0 ≤ R.cells := Nat.zero_le _
  have hks : 0 ≤ R.slots := Nat.zero_le _
  obtain ⟨H, hH⟩ : ∃ H, H = s.heap := ⟨_, rfl⟩
  obtain ⟨locs, hlc⟩ : ∃ x : List Loc, x = [] := ⟨_, rfl⟩
  rw [← hH] at hP
  have hS : va_S A s.heap H locs := by rw [hH, hlc]; exact hS
  suffices hgo : W p l e R s m [.ref o_this, .ref a0, .int p2].toArray below meth c H locs 0 0 Q (F0 m 0 ls []) by rw [hH, hlc] at hgo; exact hgo
  refine lv_iconst (v := 1) hx hb d_Mo_adler_0 (by decide) ?_
  refine lv_istore_n (lv' := [(3, .int 1), (0, .ref o_this), (1, .ref a0), (2, .int p2)]) hx hb d_Mo_adler_1 rfl hl (by decide) rfl (fun ls hl => ?_)
  refine lv_iconst (v := 0) hx hb d_Mo_adler_2 (by decide) ?_
  refine lv_istore (lv' := [(4, .int 0), (3, .int 1), (0, .ref o_this), (1, .ref a0), (2, .int p2)]) hx hb d_Mo_adler_3 hl (by decide) rfl (fun ls hl => ?_)
  refine lv_iconst (v := 0) hx hb d_Mo_adler_5 (by decide) ?_
  refine lv_istore (lv' := [(5, .int 0), (4, .int 0), (3, .int 1), (0, .ref o_this), (1, .ref a0), (2, .int p2)]) hx hb d_Mo_adler_6 hl (by decide) rfl (fun ls hl => ?_)
  obtain ⟨r11, hc11, h⟩ := Bd_e h
  refine w_Mo_adler_8 C0 hRf hRl hA hK hT N p2 n0 f0 a0 r11 (kc := 0) (ks := 0) hkc hks ?_ N 1 0 0  _ _ _ hc11 hP hD hS (lv_sub hl [4, 5, 2, 1, 0] rfl)
  · intro H locs ls hP hD hS hl
    refine lv_iload hx hb d_Mo_adler_43 (lv_at hl 1 rfl) ?_
    refine lv_bipush (v := 16) hx hb d_Mo_adler_45 (by decide) ?_
    refine lv_ishl hx hb d_Mo_adler_47 ?_
    refine lv_iload_n hx hb d_Mo_adler_48 rfl (lv_at hl 0 rfl) ?_
    refine lv_ior hx hb d_Mo_adler_49 ?_
    have eV := so1 h
    subst eV
    exact x_iret C0 hQ hP hD hS rfl (Nat.zero_le _) (Nat.zero_le _) d_Mo_adler_50
set_option maxHeartbeats 4000000 in
set_option maxRecDepth 100000 in
theorem w_Mo_press_58 {p : Program} {l : Launch} {e : Env} {R : Room} {s : State} {m : MethodId} {args : Array Value} {below : List Frame} {meth : Method} {c : Code} {Q : State → Prop} {G : GX} {A : Nat → Prop} (C0 : Cx p s m args meth c b_Mo_press 6 y_Mo_press (some .int)) (hRf : 4 ≤ R.frames) (hRl : 90 ≤ R.locals) (hA : ∀ q, s.heap.size ≤ q → A q) (hK : KX G s) (hT : TX G A s) (N : Nat) (i1 : Int32) (y0_3 : Int32) (y0_4 : Int32) (y0_5 : Int32) (y0_6 : Int32) (y0_7 : Int32) (y0_8 : Int32) (y0_9 : Int32) (y0_10 : Int32) (y0_11 : Int32) (y0_12 : Int32) (y0_13 : Int32) (y0_14 : Int32) (y0_15 : Int32) (y0_16 : Int32) (m1 : Nat) (g_1 : (Nat → Int32)) (m2 : Nat) (g_2 : (Nat → Int32)) (c0 c1 c2 u0_2 u0_17 u0_18 u0_19 u0_20 u0_21 u0_22 u0_23 : Nat) (out : Int32 × Int32) {kc ks : Nat} (hkc : kc ≤ R.cells) (hks : ks ≤ R.slots)
    (kx147 : ∀ (H : Heap) (locs : List Loc) (ls : Array Slot), va_P G.1 classes [(c0, .inr (9, [.ref c1, .ref c2, .ref u0_2, .int y0_3, .int y0_4, .int y0_5, .int y0_6, .int y0_7, .int y0_8, .int y0_9, .int y0_10, .int y0_11, .int y0_12, .int y0_13, .int y0_14, .int y0_15, .int y0_16, .ref u0_17, .ref u0_18, .ref u0_19, .ref u0_20, .ref u0_21, .ref u0_22, .ref u0_23])), (c1, .inl (G.2.1 0, m1, .inl g_1)), (c2, .inl (G.2.1 0, m2, .inl g_2))] H → va_D A [(c0, .inr (9, [.ref c1, .ref c2, .ref u0_2, .int y0_3, .int y0_4, .int y0_5, .int y0_6, .int y0_7, .int y0_8, .int y0_9, .int y0_10, .int y0_11, .int y0_12, .int y0_13, .int y0_14, .int y0_15, .int y0_16, .ref u0_17, .ref u0_18, .ref u0_19, .ref u0_20, .ref u0_21, .ref u0_22, .ref u0_23])), (c1, .inl (G.2.1 0, m1, .inl g_1)), (c2, .inl (G.2.1 0, m2, .inl g_2))] → va_S A s.heap H locs → lv_has ls 6 [(0, .ref c0), (1, .int i1), (2, .int out.1), (3, .int out.2)] → W p l e R s m args below meth c H locs kc ks Q (F0 m 147 ls [])) :
    ∀ (n : Nat) (i2 : Int32) (i3 : Int32) (i4 : Int32) (H : Heap) (locs : List Loc) (ls : Array Slot), lp_Mo_press_58 N i1 y0_3 m1 g_1 n i2 i3 i4 = some out → va_P G.1 classes [(c0, .inr (9, [.ref c1, .ref c2, .ref u0_2, .int y0_3, .int y0_4, .int y0_5, .int y0_6, .int y0_7, .int y0_8, .int y0_9, .int y0_10, .int y0_11, .int y0_12, .int y0_13, .int y0_14, .int y0_15, .int y0_16, .ref u0_17, .ref u0_18, .ref u0_19, .ref u0_20, .ref u0_21, .ref u0_22, .ref u0_23])), (c1, .inl (G.2.1 0, m1, .inl g_1)), (c2, .inl (G.2.1 0, m2, .inl g_2))] H → va_D A [(c0, .inr (9, [.ref c1, .ref c2, .ref u0_2, .int y0_3, .int y0_4, .int y0_5, .int y0_6, .int y0_7, .int y0_8, .int y0_9, .int y0_10, .int y0_11, .int y0_12, .int y0_13, .int y0_14, .int y0_15, .int y0_16, .ref u0_17, .ref u0_18, .ref u0_19, .ref u0_20, .ref u0_21, .ref u0_22, .ref u0_23])), (c1, .inl (G.2.1 0, m1, .inl g_1)), (c2, .inl (G.2.1 0, m2, .inl g_2))] → va_S A s.heap H locs → lv_has ls 6 [(0, .ref c0), (1, .int i1), (2, .int i2), (3, .int i3), (4, .int i4)] → W p l e R s m args below meth c H locs kc ks Q (F0 m 58 ls []) := by
  obtain ⟨hx, hb, hml, hown, hts, hr, hlocks, hin⟩ := id C0
  have hown : s.vm.findClass R_Mo = some m.cls := hown
  intro n
  induction n with
  | zero => intro i2 i3 i4 H locs ls h; cases h
  | succ n ih =>
    intro i2 i3 i4 H locs ls h hP hD hS hl
    replace h : lb_Mo_press_58 N i1 y0_3 m1 g_1 (lp_Mo_press_58 N i1 y0_3 m1 g_1 n) i2 i3 i4 = some out := h
    unfold lb_Mo_press_58 at h
    refine lv_iload hx hb d_Mo_press_58 (lv_at hl 4 rfl) ?_
    refine lv_ldc (v := 32768) hx hb hown (hts _ q473) d_Mo_press_60 ?_
    refine lv_icmp_gt (tgt := 147) hx hb d_Mo_press_62 (by decide) (fun cq45 => ?_) (fun cq45 => ?_)
    · replace h := (if_pos cq45).symm.trans h
      have eV := so1 h
      subst eV
      exact kx147 _ _ _ hP hD hS (lv_sub hl [0, 1, 2, 3] rfl)
    · replace h := (if_neg cq45).symm.trans h
      refine lv_iload hx hb d_Mo_press_65 (lv_at hl 4 rfl) ?_
      refine lv_iload_n hx hb d_Mo_press_67 rfl (lv_at hl 1 rfl) ?_
      refine lv_icmp_gt (tgt := 147) hx hb d_Mo_press_68 (by decide) (fun cq46 => ?_) (fun cq46 => ?_)
      · replace h := (if_pos cq46).symm.trans h
        have eV := so1 h
        subst eV
        exact kx147 _ _ _ hP hD hS (lv_sub hl [0, 1, 2, 3] rfl)
      · replace h := (if_neg cq46).symm.trans h
        refine lv_iload_n hx hb d_Mo_press_71 rfl (lv_at hl 2 rfl) ?_
        refine lv_sipush (v := 258) hx hb d_Mo_press_72 (by decide) ?_
        refine lv_icmp_ge (tgt := 147) hx hb d_Mo_press_75 (by decide) (fun cq47 => ?_) (fun cq47 => ?_)
        · replace h := (if_pos cq47).symm.trans h
          have eV := so1 h
          subst eV
          exact kx147 _ _ _ hP hD hS (lv_sub hl [0, 1, 2, 3] rfl)
        · replace h := (if_neg cq47).symm.trans h
          refine lv_iload_n hx hb d_Mo_press_78 rfl (lv_at hl 1 rfl) ?_
          refine lv_iload_n hx hb d_Mo_press_79 rfl (lv_at hl 2 rfl) ?_
          refine lv_iadd hx hb d_Mo_press_80 ?_
          refine lv_aload_n hx hb d_Mo_press_81 rfl (lv_at hl 0 rfl) ?_
          refine va_get (D := G.1) (ci := 9) (v := .int y0_3) (C := R_Mo) (T := F_Mo) (N := 24) hx hb hts i_Mo hown hK hP 0 rfl rfl 3 (by decide) (hts _ q435) (fun _ h9 => h9) rfl d_Mo_press_82 ?_
          refine lv_icmp_ge (tgt := 147) hx hb d_Mo_press_85 (by decide) (fun cq48 => ?_) (fun cq48 => ?_)
          · replace h := (if_pos cq48).symm.trans h
            have eV := so1 h
            subst eV
            exact kx147 _ _ _ hP hD hS (lv_sub hl [0, 1, 2, 3] rfl)
          · replace h := (if_neg cq48).symm.trans h
            refine lv_iload_n hx hb d_Mo_press_88 rfl (lv_at hl 2 rfl) ?_
            obtain ⟨j54, ej54, h⟩ := Jn_e h
            have hj54 : ∀ (t54 : Unit) (H : Heap) (locs : List Loc) (ls : Array Slot), j54 t54 = some out → va_P G.1 classes [(c0, .inr (9, [.ref c1, .ref c2, .ref u0_2, .int y0_3, .int y0_4, .int y0_5, .int y0_6, .int y0_7, .int y0_8, .int y0_9, .int y0_10, .int y0_11, .int y0_12, .int y0_13, .int y0_14, .int y0_15, .int y0_16, .ref u0_17, .ref u0_18, .ref u0_19, .ref u0_20, .ref u0_21, .ref u0_22, .ref u0_23])), (c1, .inl (G.2.1 0, m1, .inl g_1)), (c2, .inl (G.2.1 0, m2, .inl g_2))] H → va_D A [(c0, .inr (9, [.ref c1, .ref c2, .ref u0_2, .int y0_3, .int y0_4, .int y0_5, .int y0_6, .int y0_7, .int y0_8, .int y0_9, .int y0_10, .int y0_11, .int y0_12, .int y0_13, .int y0_14, .int y0_15, .int y0_16, .ref u0_17, .ref u0_18, .ref u0_19, .ref u0_20, .ref u0_21, .ref u0_22, .ref u0_23])), (c1, .inl (G.2.1 0, m1, .inl g_1)), (c2, .inl (G.2.1 0, m2, .inl g_2))] → va_S A s.heap H locs → lv_has ls 6 [(0, .ref c0), (1, .int i1), (2, .int i2), (3, .int i3), (4, .int i4)] → W p l e R s m args below meth c H locs kc ks Q (F0 m 117 ls []) := by
              intro t54 H locs ls h hP hD hS hl
              replace h := ej54 _ _ h
              refine lv_aload_n hx hb d_Mo_press_117 rfl (lv_at hl 0 rfl) ?_
              refine lv_iload_n hx hb d_Mo_press_118 rfl (lv_at hl 1 rfl) ?_
              refine lv_iload hx hb d_Mo_press_119 (lv_at hl 4 rfl) ?_
              obtain ⟨r55, hc55, h⟩ := Bd_e h
              refine xV_i0 (wr := [(c2, .inl (G.2.1 0, m2, .inl g_2))]) (rest := []) C0 hK hT hA hP hD hS hl.1 (c_Mo_common l G c0 c1 c2 u0_2 u0_17 u0_18 u0_19 u0_20 u0_21 u0_22 u0_23 _ y0_3 y0_4 y0_5 y0_6 y0_7 y0_8 y0_9 y0_10 y0_11 y0_12 y0_13 y0_14 y0_15 y0_16 m1 g_1 i1 i4 N r55 hc55) (goodV q474 q475 q476 q439 q477) 2 rfl hd_Mo_common (Nat.le_trans (by decide) hRf) (Nat.le_trans (by decide) hRl) [0, 1] [2] rfl rfl (by decide) (by decide) (by decide) 9 0 rfl rfl rfl (Nat.le_of_ble_eq_true rfl) d_Mo_press_121 hkc hks (fun w1 H locs hE hP hD hS => ?_)
              subst hE
              have hP : va_P G.1 classes [(c2, .inl (G.2.1 0, m2, .inl g_2)), (c0, .inr (9, [.ref c1, .ref c2, .ref u0_2, .int y0_3, .int y0_4, .int y0_5, .int y0_6, .int y0_7, .int y0_8, .int y0_9, .int y0_10, .int y0_11, .int y0_12, .int y0_13, .int y0_14, .int y0_15, .int y0_16, .ref u0_17, .ref u0_18, .ref u0_19, .ref u0_20, .ref u0_21, .ref u0_22, .ref u0_23])), (c1, .inl (G.2.1 0, m1, .inl g_1))] H := hP
              have hD : va_D A [(c2, .inl (G.2.1 0, m2, .inl g_2)), (c0, .inr (9, [.ref c1, .ref c2, .ref u0_2, .int y0_3, .int y0_4, .int y0_5, .int y0_6, .int y0_7, .int y0_8, .int y0_9, .int y0_10, .int y0_11, .int y0_12, .int y0_13, .int y0_14, .int y0_15, .int y0_16, .ref u0_17, .ref u0_18, .ref u0_19, .ref u0_20, .ref u0_21, .ref u0_22, .ref u0_23])), (c1, .inl (G.2.1 0, m1, .inl g_1))] := hD
              refine lv_istore (lv' := [(5, .int r55), (0, .ref c0), (1, .int i1), (2, .int i2), (3, .int i3), (4, .int i4)]) hx hb d_Mo_press_124 hl (by decide) rfl (fun ls hl => ?_)
              refine lv_iload hx hb d_Mo_press_126 (lv_at hl 0 rfl) ?_
              refine lv_iload_n hx hb d_Mo_press_128 rfl (lv_at hl 3 rfl) ?_
              refine lv_icmp_gt (tgt := 135) hx hb d_Mo_press_129 (by decide) (fun cq56 => ?_) (fun cq56 => ?_)
              · replace h := (if_pos cq56).symm.trans h
                refine lv_iload hx hb d_Mo_press_135 (lv_at hl 0 rfl) ?_
                refine lv_istore_n (lv' := [(2, .int r55), (5, .int r55), (0, .ref c0), (1, .int i1), (3, .int i3), (4, .int i4)]) hx hb d_Mo_press_137 rfl hl (by decide) rfl (fun ls hl => ?_)
                refine lv_iload hx hb d_Mo_press_138 (lv_at hl 5 rfl) ?_
                refine lv_istore_n (lv' := [(3, .int i4), (2, .int r55), (5, .int r55), (0, .ref c0), (1, .int i1), (4, .int i4)]) hx hb d_Mo_press_140 rfl hl (by decide) rfl (fun ls hl => ?_)
                obtain ⟨v57, ev57⟩ : ∃ y : Int32, y = i4 + 1 := ⟨_, rfl⟩
                replace h := Lt_e h ev57
                refine lv_iinc (v := v57) (lv' := [(4, .int v57), (3, .int i4), (2, .int r55), (5, .int r55), (0, .ref c0), (1, .int i1)]) hx hb d_Mo_press_141 hl (k := 5) rfl (by rw [ev57]; rfl) (by decide) rfl (fun ls hl => ?_)
                refine lv_goto (tgt := 58) hx hb d_Mo_press_144 (by decide) ?_
                exact ih r55 i4 v57  _ _ _ h (hP.sub (ws' := [(c0, .inr (9, [.ref c1, .ref c2, .ref u0_2, .int y0_3, .int y0_4, .int y0_5, .int y0_6, .int y0_7, .int y0_8, .int y0_9, .int y0_10, .int y0_11, .int y0_12, .int y0_13, .int y0_14, .int y0_15, .int y0_16, .ref u0_17, .ref u0_18, .ref u0_19, .ref u0_20, .ref u0_21, .ref u0_22, .ref u0_23])), (c1, .inl (G.2.1 0, m1, .inl g_1)), (c2, .inl (G.2.1 0, m2, .inl g_2))]) [1, 2, 0] rfl) (hD.sub (ws' := [(c0, .inr (9, [.ref c1, .ref c2, .ref u0_2, .int y0_3, .int y0_4, .int y0_5, .int y0_6, .int y0_7, .int y0_8, .int y0_9, .int y0_10, .int y0_11, .int y0_12, .int y0_13, .int y0_14, .int y0_15, .int y0_16, .ref u0_17, .ref u0_18, .ref u0_19, .ref u0_20, .ref u0_21, .ref u0_22, .ref u0_23])), (c1, .inl (G.2.1 0, m1, .inl g_1)), (c2, .inl (G.2.1 0, m2, .inl g_2))]) [1, 2, 0] (by decide) rfl) hS (lv_sub hl [4, 5, 2, 1, 0] rfl)
              · replace h := (if_neg cq56).symm.trans h
                refine lv_goto (tgt := 141) hx hb d_Mo_press_132 (by decide) ?_
                obtain ⟨v58, ev58⟩ : ∃ y : Int32, y = i4 + 1 := ⟨_, rfl⟩
                replace h := Lt_e h ev58
                refine lv_iinc (v := v58) (lv' := [(4, .int v58), (5, .int r55), (0, .ref c0), (1, .int i1), (2, .int i2), (3, .int i3)]) hx hb d_Mo_press_141 hl (k := 5) rfl (by rw [ev58]; rfl) (by decide) rfl (fun ls hl => ?_)
                refine lv_goto (tgt := 58) hx hb d_Mo_press_144 (by decide) ?_
                exact ih i2 i3 v58  _ _ _ h (hP.sub (ws' := [(c0, .inr (9, [.ref c1, .ref c2, .ref u0_2, .int y0_3, .int y0_4, .int y0_5, .int y0_6, .int y0_7, .int y0_8, .int y0_9, .int y0_10, .int y0_11, .int y0_12, .int y0_13, .int y0_14, .int y0_15, .int y0_16, .ref u0_17, .ref u0_18, .ref u0_19, .ref u0_20, .ref u0_21, .ref u0_22, .ref u0_23])), (c1, .inl (G.2.1 0, m1, .inl g_1)), (c2, .inl (G.2.1 0, m2, .inl g_2))]) [1, 2, 0] rfl) (hD.sub (ws' := [(c0, .inr (9, [.ref c1, .ref c2, .ref u0_2, .int y0_3, .int y0_4, .int y0_5, .int y0_6, .int y0_7, .int y0_8, .int y0_9, .int y0_10, .int y0_11, .int y0_12, .int y0_13, .int y0_14, .int y0_15, .int y0_16, .ref u0_17, .ref u0_18, .ref u0_19, .ref u0_20, .ref u0_21, .ref u0_22, .ref u0_23])), (c1, .inl (G.2.1 0, m1, .inl g_1)), (c2, .inl (G.2.1 0, m2, .inl g_2))]) [1, 2, 0] (by decide) rfl) hS (lv_sub hl [2, 3, 4, 5, 0] rfl)
            refine lv_if_le (tgt := 117) hx hb d_Mo_press_89 (by decide) (fun cq59 => ?_) (fun cq59 => ?_)
            · replace h := (if_pos cq59).symm.trans h
              exact hj54 () _ _ _ h hP hD hS hl
            · replace h := (if_neg cq59).symm.trans h
              refine lv_aload_n hx hb d_Mo_press_92 rfl (lv_at hl 0 rfl) ?_
              refine va_get (D := G.1) (ci := 9) (v := .ref c1) (C := R_Mo) (T := F_Mo) (N := 24) hx hb hts i_Mo hown hK hP 0 rfl rfl 0 (by decide) (hts _ q423) (fun _ h9 => h9) rfl d_Mo_press_93 ?_
              refine lv_iload_n hx hb d_Mo_press_96 rfl (lv_at hl 1 rfl) ?_
              refine lv_iload_n hx hb d_Mo_press_97 rfl (lv_at hl 2 rfl) ?_
              refine lv_iadd hx hb d_Mo_press_98 ?_
              obtain ⟨hi60, h⟩ := Ix_e h
              refine va_bald hx hb hK hP 1 0 rfl rfl hi60 d_Mo_press_99 ?_
              refine lv_aload_n hx hb d_Mo_press_100 rfl (lv_at hl 0 rfl) ?_
              refine va_get (D := G.1) (ci := 9) (v := .ref c1) (C := R_Mo) (T := F_Mo) (N := 24) hx hb hts i_Mo hown hK hP 0 rfl rfl 0 (by decide) (hts _ q423) (fun _ h9 => h9) rfl d_Mo_press_101 ?_
              refine lv_iload_n hx hb d_Mo_press_104 rfl (lv_at hl 1 rfl) ?_
              refine lv_iload_n hx hb d_Mo_press_105 rfl (lv_at hl 2 rfl) ?_
              refine lv_iadd hx hb d_Mo_press_106 ?_
              refine lv_iload hx hb d_Mo_press_107 (lv_at hl 4 rfl) ?_
              refine lv_isub hx hb d_Mo_press_109 ?_
              obtain ⟨hi61, h⟩ := Ix_e h
              refine va_bald hx hb hK hP 1 0 rfl rfl hi61 d_Mo_press_110 ?_
              refine lv_icmp_eq (tgt := 117) hx hb d_Mo_press_111 (by decide) (fun cq62 => ?_) (fun cq62 => ?_)
              · replace h := (if_pos cq62).symm.trans h
                exact hj54 () _ _ _ h hP hD hS hl
              · replace h := (if_neg cq62).symm.trans h
                refine lv_goto (tgt := 141) hx hb d_Mo_press_114 (by decide) ?_
                obtain ⟨v63, ev63⟩ : ∃ y : Int32, y = i4 + 1 := ⟨_, rfl⟩
                replace h := Lt_e h ev63
                refine lv_iinc (v := v63) (lv' := [(4, .int v63), (0, .ref c0), (1, .int i1), (2, .int i2), (3, .int i3)]) hx hb d_Mo_press_141 hl (k := 4) rfl (by rw [ev63]; rfl) (by decide) rfl (fun ls hl => ?_)
                refine lv_goto (tgt := 58) hx hb d_Mo_press_144 (by decide) ?_
                exact ih i2 i3 v63  _ _ _ h hP hD hS (lv_sub hl [1, 2, 3, 4, 0] rfl)
set_option maxHeartbeats 4000000 in
set_option maxRecDepth 100000 in
theorem w_Mo_press_43 {p : Program} {l : Launch} {e : Env} {R : Room} {s : State} {m : MethodId} {args : Array Value} {below : List Frame} {meth : Method} {c : Code} {Q : State → Prop} {G : GX} {A : Nat → Prop} (C0 : Cx p s m args meth c b_Mo_press 6 y_Mo_press (some .int)) (hRf : 4 ≤ R.frames) (hRl : 90 ≤ R.locals) (hA : ∀ q, s.heap.size ≤ q → A q) (hK : KX G s) (hT : TX G A s) (N : Nat) (y0_3 : Int32) (y0_4 : Int32) (y0_7 : Int32) (y0_8 : Int32) (y0_9 : Int32) (y0_10 : Int32) (y0_12 : Int32) (y0_13 : Int32) (y0_14 : Int32) (y0_15 : Int32) (y0_16 : Int32) (m1 : Nat) (g_1 : (Nat → Int32)) (m2 : Nat) (c0 c1 c2 u0_2 u0_17 u0_18 u0_19 u0_20 u0_21 u0_22 u0_23 : Nat) (out : Int32 × Int32 × Int32 × (Nat → Int32)) {kc ks : Nat} (hkc : kc ≤ R.cells) (hks : ks ≤ R.slots)
    (kx205 : ∀ (H : Heap) (locs : List Loc) (ls : Array Slot), va_P G.1 classes [(c0, .inr (9, [.ref c1, .ref c2, .ref u0_2, .int y0_3, .int y0_4, .int out.1, .int out.2.1, .int y0_7, .int y0_8, .int y0_9, .int y0_10, .int out.2.2.1, .int y0_12, .int y0_13, .int y0_14, .int y0_15, .int y0_16, .ref u0_17, .ref u0_18, .ref u0_19, .ref u0_20, .ref u0_21, .ref u0_22, .ref u0_23])), (c1, .inl (G.2.1 0, m1, .inl g_1)), (c2, .inl (G.2.1 0, m2, .inl out.2.2.2))] H → va_D A [(c0, .inr (9, [.ref c1, .ref c2, .ref u0_2, .int y0_3, .int y0_4, .int out.1, .int out.2.1, .int y0_7, .int y0_8, .int y0_9, .int y0_10, .int out.2.2.1, .int y0_12, .int y0_13, .int y0_14, .int y0_15, .int y0_16, .ref u0_17, .ref u0_18, .ref u0_19, .ref u0_20, .ref u0_21, .ref u0_22, .ref u0_23])), (c1, .inl (G.2.1 0, m1, .inl g_1)), (c2, .inl (G.2.1 0, m2, .inl out.2.2.2))] → va_S A s.heap H locs → lv_has ls 6 [(0, .ref c0)] → W p l e R s m args below meth c H locs kc ks Q (F0 m 205 ls [])) :
    ∀ (n : Nat) (i1 : Int32) (y0_5 : Int32) (y0_6 : Int32) (y0_11 : Int32) (g_2 : (Nat → Int32)) (H : Heap) (locs : List Loc) (ls : Array Slot), lp_Mo_press_43 N y0_3 m1 g_1 m2 n i1 y0_5 y0_6 y0_11 g_2 = some out → va_P G.1 classes [(c0, .inr (9, [.ref c1, .ref c2, .ref u0_2, .int y0_3, .int y0_4, .int y0_5, .int y0_6, .int y0_7, .int y0_8, .int y0_9, .int y0_10, .int y0_11, .int y0_12, .int y0_13, .int y0_14, .int y0_15, .int y0_16, .ref u0_17, .ref u0_18, .ref u0_19, .ref u0_20, .ref u0_21, .ref u0_22, .ref u0_23])), (c1, .inl (G.2.1 0, m1, .inl g_1)), (c2, .inl (G.2.1 0, m2, .inl g_2))] H → va_D A [(c0, .inr (9, [.ref c1, .ref c2, .ref u0_2, .int y0_3, .int y0_4, .int y0_5, .int y0_6, .int y0_7, .int y0_8, .int y0_9, .int y0_10, .int y0_11, .int y0_12, .int y0_13, .int y0_14, .int y0_15, .int y0_16, .ref u0_17, .ref u0_18, .ref u0_19, .ref u0_20, .ref u0_21, .ref u0_22, .ref u0_23])), (c1, .inl (G.2.1 0, m1, .inl g_1)), (c2, .inl (G.2.1 0, m2, .inl g_2))] → va_S A s.heap H locs → lv_has ls 6 [(0, .ref c0), (1, .int i1)] → W p l e R s m args below meth c H locs kc ks Q (F0 m 43 ls []) := by
  obtain ⟨hx, hb, hml, hown, hts, hr, hlocks, hin⟩ := id C0
  have hown : s.vm.findClass R_Mo = some m.cls := hown
  intro n
  induction n with
  | zero => intro i1 y0_5 y0_6 y0_11 g_2 H locs ls h; cases h
  | succ n ih =>
    intro i1 y0_5 y0_6 y0_11 g_2 H locs ls h hP hD hS hl
    replace h : lb_Mo_press_43 N y0_3 m1 g_1 m2 (lp_Mo_press_43 N y0_3 m1 g_1 m2 n) i1 y0_5 y0_6 y0_11 g_2 = some out := h
    unfold lb_Mo_press_43 at h
    refine lv_iload_n hx hb d_Mo_press_43 rfl (lv_at hl 1 rfl) ?_
    refine lv_aload_n hx hb d_Mo_press_44 rfl (lv_at hl 0 rfl) ?_
    refine va_get (D := G.1) (ci := 9) (v := .int y0_3) (C := R_Mo) (T := F_Mo) (N := 24) hx hb hts i_Mo hown hK hP 0 rfl rfl 3 (by decide) (hts _ q435) (fun _ h9 => h9) rfl d_Mo_press_45 ?_
    refine lv_icmp_ge (tgt := 205) hx hb d_Mo_press_48 (by decide) (fun cq30 => ?_) (fun cq30 => ?_)
    · replace h := (if_pos cq30).symm.trans h
      have eV := so1 h
      subst eV
      exact kx205 _ _ _ hP hD hS (lv_sub hl [0] rfl)
    · replace h := (if_neg cq30).symm.trans h
      refine lv_iconst (v := 0) hx hb d_Mo_press_51 (by decide) ?_
      refine lv_istore_n (lv' := [(2, .int 0), (0, .ref c0), (1, .int i1)]) hx hb d_Mo_press_52 rfl hl (by decide) rfl (fun ls hl => ?_)
      refine lv_iconst (v := 0) hx hb d_Mo_press_53 (by decide) ?_
      refine lv_istore_n (lv' := [(3, .int 0), (2, .int 0), (0, .ref c0), (1, .int i1)]) hx hb d_Mo_press_54 rfl hl (by decide) rfl (fun ls hl => ?_)
      refine lv_iconst (v := 1) hx hb d_Mo_press_55 (by decide) ?_
      refine lv_istore (lv' := [(4, .int 1), (3, .int 0), (2, .int 0), (0, .ref c0), (1, .int i1)]) hx hb d_Mo_press_56 hl (by decide) rfl (fun ls hl => ?_)
      obtain ⟨r64, hc64, h⟩ := Bd_e h
      refine w_Mo_press_58 C0 hRf hRl hA hK hT N i1 y0_3 y0_4 y0_5 y0_6 y0_7 y0_8 y0_9 y0_10 y0_11 y0_12 y0_13 y0_14 y0_15 y0_16 m1 g_1 m2 g_2 c0 c1 c2 u0_2 u0_17 u0_18 u0_19 u0_20 u0_21 u0_22 u0_23 r64 (kc := kc) (ks := ks) hkc hks ?_ N 0 0 1  _ _ _ hc64 hP hD hS (lv_sub hl [3, 4, 2, 1, 0] rfl)
      · intro H locs ls hP hD hS hl
        refine lv_iload_n hx hb d_Mo_press_147 rfl (lv_at hl 2 rfl) ?_
        refine lv_iconst (v := 3) hx hb d_Mo_press_148 (by decide) ?_
        refine lv_icmp_lt (tgt := 175) hx hb d_Mo_press_149 (by decide) (fun cq65 => ?_) (fun cq65 => ?_)
        · replace h := (if_pos cq65).symm.trans h
          refine lv_aload_n hx hb d_Mo_press_175 rfl (lv_at hl 0 rfl) ?_
          refine lv_aload_n hx hb d_Mo_press_176 rfl (lv_at hl 0 rfl) ?_
          refine va_get (D := G.1) (ci := 9) (v := .ref c1) (C := R_Mo) (T := F_Mo) (N := 24) hx hb hts i_Mo hown hK hP 0 rfl rfl 0 (by decide) (hts _ q423) (fun _ h9 => h9) rfl d_Mo_press_177 ?_
          refine lv_iload_n hx hb d_Mo_press_180 rfl (lv_at hl 1 rfl) ?_
          obtain ⟨hi66, h⟩ := Ix_e h
          refine va_bald hx hb hK hP 1 0 rfl rfl hi66 d_Mo_press_181 ?_
          refine lv_sipush (v := 255) hx hb d_Mo_press_182 (by decide) ?_
          refine lv_iand hx hb d_Mo_press_185 ?_
          obtain ⟨r67, hc67, h⟩ := Bd_e h
          refine xV_v0 (wr := [(c1, .inl (G.2.1 0, m1, .inl g_1))]) (rest := []) C0 hK hT hA hP hD hS hl.1 (c_Mo_putSign l G c0 c2 c1 u0_2 u0_17 u0_18 u0_19 u0_20 u0_21 u0_22 u0_23 _ y0_3 y0_4 y0_5 y0_6 y0_7 y0_8 y0_9 y0_10 y0_11 y0_12 y0_13 y0_14 y0_15 y0_16 m2 g_2 ((g_1 (i1).toNatClampNeg) &&& 255) N r67 hc67) (goodV q459 q460 q461 q439 q462) 1 rfl hd_Mo_putSign (Nat.le_trans (by decide) hRf) (Nat.le_trans (by decide) hRl) [0, 2] [1] rfl rfl (by decide) (by decide) (by decide) 9 0 rfl rfl rfl (Nat.le_of_ble_eq_true rfl) d_Mo_press_186 hkc hks (fun w1 H locs hE hP hD hS => ?_)
          subst hE
          have hP : va_P G.1 classes [(c1, .inl (G.2.1 0, m1, .inl g_1)), (c0, .inr (9, [.ref c1, .ref c2, .ref u0_2, .int y0_3, .int y0_4, .int y0_5, .int y0_6, .int y0_7, .int y0_8, .int y0_9, .int y0_10, .int r67.1, .int y0_12, .int y0_13, .int y0_14, .int y0_15, .int y0_16, .ref u0_17, .ref u0_18, .ref u0_19, .ref u0_20, .ref u0_21, .ref u0_22, .ref u0_23])), (c2, .inl (G.2.1 0, m2, .inl r67.2))] H := hP
          have hD : va_D A [(c1, .inl (G.2.1 0, m1, .inl g_1)), (c0, .inr (9, [.ref c1, .ref c2, .ref u0_2, .int y0_3, .int y0_4, .int y0_5, .int y0_6, .int y0_7, .int y0_8, .int y0_9, .int y0_10, .int r67.1, .int y0_12, .int y0_13, .int y0_14, .int y0_15, .int y0_16, .ref u0_17, .ref u0_18, .ref u0_19, .ref u0_20, .ref u0_21, .ref u0_22, .ref u0_23])), (c2, .inl (G.2.1 0, m2, .inl r67.2))] := hD
          refine lv_aload_n hx hb d_Mo_press_189 rfl (lv_at hl 0 rfl) ?_
          refine lv_dup hx hb d_Mo_press_190 rfl ?_
          refine va_get (D := G.1) (ci := 9) (v := .int y0_6) (C := R_Mo) (T := F_Mo) (N := 24) hx hb hts i_Mo hown hK hP 1 rfl rfl 6 (by decide) (hts _ q472) (fun _ h9 => h9) rfl d_Mo_press_191 ?_
          refine lv_iconst (v := 1) hx hb d_Mo_press_194 (by decide) ?_
          refine lv_iadd hx hb d_Mo_press_195 ?_
          refine lv_topi (fun v68 ev68 => ?_)
          replace h := Lt_e h ev68
          refine va_put (D := G.1) (ci := 9) (v := .int v68) (ty := .int) (C := R_Mo) (T := F_Mo) (N := 24) hx hb hts i_Mo t_Mo t_Mo_ok n_Mo hown hK hP hD hS 1 rfl rfl 6 (by decide) (hts _ q472) (fun _ h9 => h9) rfl (by decide +kernel) rfl rfl (Nat.le_of_ble_eq_true rfl) d_Mo_press_196 (fun H locs hP hD hS => ?_)
          have hP : va_P G.1 classes [(c1, .inl (G.2.1 0, m1, .inl g_1)), (c0, .inr (9, [.ref c1, .ref c2, .ref u0_2, .int y0_3, .int y0_4, .int y0_5, .int v68, .int y0_7, .int y0_8, .int y0_9, .int y0_10, .int r67.1, .int y0_12, .int y0_13, .int y0_14, .int y0_15, .int y0_16, .ref u0_17, .ref u0_18, .ref u0_19, .ref u0_20, .ref u0_21, .ref u0_22, .ref u0_23])), (c2, .inl (G.2.1 0, m2, .inl r67.2))] H := hP
          have hD : va_D A [(c1, .inl (G.2.1 0, m1, .inl g_1)), (c0, .inr (9, [.ref c1, .ref c2, .ref u0_2, .int y0_3, .int y0_4, .int y0_5, .int v68, .int y0_7, .int y0_8, .int y0_9, .int y0_10, .int r67.1, .int y0_12, .int y0_13, .int y0_14, .int y0_15, .int y0_16, .ref u0_17, .ref u0_18, .ref u0_19, .ref u0_20, .ref u0_21, .ref u0_22, .ref u0_23])), (c2, .inl (G.2.1 0, m2, .inl r67.2))] := hD
          obtain ⟨v69, ev69⟩ : ∃ y : Int32, y = i1 + 1 := ⟨_, rfl⟩
          replace h := Lt_e h ev69
          refine lv_iinc (v := v69) (lv' := [(1, .int v69), (0, .ref c0), (2, .int r64.1), (3, .int r64.2)]) hx hb d_Mo_press_199 hl (k := 1) rfl (by rw [ev69]; rfl) (by decide) rfl (fun ls hl => ?_)
          refine lv_goto (tgt := 43) hx hb d_Mo_press_202 (by decide) ?_
          exact ih v69 y0_5 v68 r67.1 r67.2  _ _ _ h (hP.sub (ws' := [(c0, .inr (9, [.ref c1, .ref c2, .ref u0_2, .int y0_3, .int y0_4, .int y0_5, .int v68, .int y0_7, .int y0_8, .int y0_9, .int y0_10, .int r67.1, .int y0_12, .int y0_13, .int y0_14, .int y0_15, .int y0_16, .ref u0_17, .ref u0_18, .ref u0_19, .ref u0_20, .ref u0_21, .ref u0_22, .ref u0_23])), (c1, .inl (G.2.1 0, m1, .inl g_1)), (c2, .inl (G.2.1 0, m2, .inl r67.2))]) [1, 0, 2] rfl) (hD.sub (ws' := [(c0, .inr (9, [.ref c1, .ref c2, .ref u0_2, .int y0_3, .int y0_4, .int y0_5, .int v68, .int y0_7, .int y0_8, .int y0_9, .int y0_10, .int r67.1, .int y0_12, .int y0_13, .int y0_14, .int y0_15, .int y0_16, .ref u0_17, .ref u0_18, .ref u0_19, .ref u0_20, .ref u0_21, .ref u0_22, .ref u0_23])), (c1, .inl (G.2.1 0, m1, .inl g_1)), (c2, .inl (G.2.1 0, m2, .inl r67.2))]) [1, 0, 2] (by decide) rfl) hS (lv_sub hl [1, 0] rfl)
        · replace h := (if_neg cq65).symm.trans h
          refine lv_aload_n hx hb d_Mo_press_152 rfl (lv_at hl 0 rfl) ?_
          refine lv_iload_n hx hb d_Mo_press_153 rfl (lv_at hl 2 rfl) ?_
          refine lv_iload_n hx hb d_Mo_press_154 rfl (lv_at hl 3 rfl) ?_
          obtain ⟨r70, hc70, h⟩ := Bd_e h
          refine xV_v0 (wr := [(c1, .inl (G.2.1 0, m1, .inl g_1))]) (rest := []) C0 hK hT hA hP hD hS hl.1 (c_Mo_putPair l G c0 c2 c1 u0_2 u0_17 u0_18 u0_19 u0_20 u0_21 u0_22 u0_23 _ y0_3 y0_4 y0_5 y0_6 y0_7 y0_8 y0_9 y0_10 y0_11 y0_12 y0_13 y0_14 y0_15 y0_16 m2 g_2 r64.1 r64.2 N r70 hc70) (goodV q478 q479 q480 q439 q481) 2 rfl hd_Mo_putPair (Nat.le_trans (by decide) hRf) (Nat.le_trans (by decide) hRl) [0, 2] [1] rfl rfl (by decide) (by decide) (by decide) 9 0 rfl rfl rfl (Nat.le_of_ble_eq_true rfl) d_Mo_press_155 hkc hks (fun w1 H locs hE hP hD hS => ?_)
          subst hE
          have hP : va_P G.1 classes [(c1, .inl (G.2.1 0, m1, .inl g_1)), (c0, .inr (9, [.ref c1, .ref c2, .ref u0_2, .int y0_3, .int y0_4, .int y0_5, .int y0_6, .int y0_7, .int y0_8, .int y0_9, .int y0_10, .int r70.1, .int y0_12, .int y0_13, .int y0_14, .int y0_15, .int y0_16, .ref u0_17, .ref u0_18, .ref u0_19, .ref u0_20, .ref u0_21, .ref u0_22, .ref u0_23])), (c2, .inl (G.2.1 0, m2, .inl r70.2))] H := hP
          have hD : va_D A [(c1, .inl (G.2.1 0, m1, .inl g_1)), (c0, .inr (9, [.ref c1, .ref c2, .ref u0_2, .int y0_3, .int y0_4, .int y0_5, .int y0_6, .int y0_7, .int y0_8, .int y0_9, .int y0_10, .int r70.1, .int y0_12, .int y0_13, .int y0_14, .int y0_15, .int y0_16, .ref u0_17, .ref u0_18, .ref u0_19, .ref u0_20, .ref u0_21, .ref u0_22, .ref u0_23])), (c2, .inl (G.2.1 0, m2, .inl r70.2))] := hD
          refine lv_aload_n hx hb d_Mo_press_158 rfl (lv_at hl 0 rfl) ?_
          refine lv_dup hx hb d_Mo_press_159 rfl ?_
          refine va_get (D := G.1) (ci := 9) (v := .int y0_5) (C := R_Mo) (T := F_Mo) (N := 24) hx hb hts i_Mo hown hK hP 1 rfl rfl 5 (by decide) (hts _ q471) (fun _ h9 => h9) rfl d_Mo_press_160 ?_
          refine lv_iconst (v := 1) hx hb d_Mo_press_163 (by decide) ?_
          refine lv_iadd hx hb d_Mo_press_164 ?_
          refine lv_topi (fun v71 ev71 => ?_)
          replace h := Lt_e h ev71
          refine va_put (D := G.1) (ci := 9) (v := .int v71) (ty := .int) (C := R_Mo) (T := F_Mo) (N := 24) hx hb hts i_Mo t_Mo t_Mo_ok n_Mo hown hK hP hD hS 1 rfl rfl 5 (by decide) (hts _ q471) (fun _ h9 => h9) rfl (by decide +kernel) rfl rfl (Nat.le_of_ble_eq_true rfl) d_Mo_press_165 (fun H locs hP hD hS => ?_)
          have hP : va_P G.1 classes [(c1, .inl (G.2.1 0, m1, .inl g_1)), (c0, .inr (9, [.ref c1, .ref c2, .ref u0_2, .int y0_3, .int y0_4, .int v71, .int y0_6, .int y0_7, .int y0_8, .int y0_9, .int y0_10, .int r70.1, .int y0_12, .int y0_13, .int y0_14, .int y0_15, .int y0_16, .ref u0_17, .ref u0_18, .ref u0_19, .ref u0_20, .ref u0_21, .ref u0_22, .ref u0_23])), (c2, .inl (G.2.1 0, m2, .inl r70.2))] H := hP
          have hD : va_D A [(c1, .inl (G.2.1 0, m1, .inl g_1)), (c0, .inr (9, [.ref c1, .ref c2, .ref u0_2, .int y0_3, .int y0_4, .int v71, .int y0_6, .int y0_7, .int y0_8, .int y0_9, .int y0_10, .int r70.1, .int y0_12, .int y0_13, .int y0_14, .int y0_15, .int y0_16, .ref u0_17, .ref u0_18, .ref u0_19, .ref u0_20, .ref u0_21, .ref u0_22, .ref u0_23])), (c2, .inl (G.2.1 0, m2, .inl r70.2))] := hD
          refine lv_iload_n hx hb d_Mo_press_168 rfl (lv_at hl 1 rfl) ?_
          refine lv_iload_n hx hb d_Mo_press_169 rfl (lv_at hl 2 rfl) ?_
          refine lv_iadd hx hb d_Mo_press_170 ?_
          refine lv_topi (fun v72 ev72 => ?_)
          replace h := Lt_e h ev72
          refine lv_istore_n (lv' := [(1, .int v72), (0, .ref c0), (2, .int r64.1), (3, .int r64.2)]) hx hb d_Mo_press_171 rfl hl (by decide) rfl (fun ls hl => ?_)
          refine lv_goto (tgt := 202) hx hb d_Mo_press_172 (by decide) ?_
          refine lv_goto (tgt := 43) hx hb d_Mo_press_202 (by decide) ?_
          exact ih v72 v71 y0_6 r70.1 r70.2  _ _ _ h (hP.sub (ws' := [(c0, .inr (9, [.ref c1, .ref c2, .ref u0_2, .int y0_3, .int y0_4, .int v71, .int y0_6, .int y0_7, .int y0_8, .int y0_9, .int y0_10, .int r70.1, .int y0_12, .int y0_13, .int y0_14, .int y0_15, .int y0_16, .ref u0_17, .ref u0_18, .ref u0_19, .ref u0_20, .ref u0_21, .ref u0_22, .ref u0_23])), (c1, .inl (G.2.1 0, m1, .inl g_1)), (c2, .inl (G.2.1 0, m2, .inl r70.2))]) [1, 0, 2] rfl) (hD.sub (ws' := [(c0, .inr (9, [.ref c1, .ref c2, .ref u0_2, .int y0_3, .int y0_4, .int v71, .int y0_6, .int y0_7, .int y0_8, .int y0_9, .int y0_10, .int r70.1, .int y0_12, .int y0_13, .int y0_14, .int y0_15, .int y0_16, .ref u0_17, .ref u0_18, .ref u0_19, .ref u0_20, .ref u0_21, .ref u0_22, .ref u0_23])), (c1, .inl (G.2.1 0, m1, .inl g_1)), (c2, .inl (G.2.1 0, m2, .inl r70.2))]) [1, 0, 2] (by decide) rfl) hS (lv_sub hl [1, 0] rfl)
set_option maxHeartbeats 4000000 in
set_option maxRecDepth 100000 in
theorem w_Mo_press_244 {p : Program} {l : Launch} {e : Env} {R : Room} {s : State} {m : MethodId} {args : Array Value} {below : List Frame} {meth : Method} {c : Code} {Q : State → Prop} {G : GX} {A : Nat → Prop} (C0 : Cx p s m args meth c b_Mo_press 6 y_Mo_press (some .int)) (hRf : 4 ≤ R.frames) (hRl : 90 ≤ R.locals) (hA : ∀ q, s.heap.size ≤ q → A q) (hK : KX G s) (hT : TX G A s) (N : Nat) (i2 : Int32) (y0_3 : Int32) (y0_5 : Int32) (y0_6 : Int32) (y0_7 : Int32) (y0_8 : Int32) (y0_9 : Int32) (y0_10 : Int32) (y0_11 : Int32) (y0_12 : Int32) (y0_13 : Int32) (y0_14 : Int32) (y0_15 : Int32) (y0_16 : Int32) (m1 : Nat) (g_1 : (Nat → Int32)) (m2 : Nat) (c0 c1 c2 u0_2 u0_17 u0_18 u0_19 u0_20 u0_21 u0_22 u0_23 : Nat) (out : Int32 × (Nat → Int32)) {kc ks : Nat} (hkc : kc ≤ R.cells) (hks : ks ≤ R.slots)
    (kx277 : ∀ (H : Heap) (locs : List Loc) (ls : Array Slot), va_P G.1 classes [(c0, .inr (9, [.ref c1, .ref c2, .ref u0_2, .int y0_3, .int out.1, .int y0_5, .int y0_6, .int y0_7, .int y0_8, .int y0_9, .int y0_10, .int y0_11, .int y0_12, .int y0_13, .int y0_14, .int y0_15, .int y0_16, .ref u0_17, .ref u0_18, .ref u0_19, .ref u0_20, .ref u0_21, .ref u0_22, .ref u0_23])), (c1, .inl (G.2.1 0, m1, .inl g_1)), (c2, .inl (G.2.1 0, m2, .inl out.2))] H → va_D A [(c0, .inr (9, [.ref c1, .ref c2, .ref u0_2, .int y0_3, .int out.1, .int y0_5, .int y0_6, .int y0_7, .int y0_8, .int y0_9, .int y0_10, .int y0_11, .int y0_12, .int y0_13, .int y0_14, .int y0_15, .int y0_16, .ref u0_17, .ref u0_18, .ref u0_19, .ref u0_20, .ref u0_21, .ref u0_22, .ref u0_23])), (c1, .inl (G.2.1 0, m1, .inl g_1)), (c2, .inl (G.2.1 0, m2, .inl out.2))] → va_S A s.heap H locs → lv_has ls 6 [(0, .ref c0)] → W p l e R s m args below meth c H locs kc ks Q (F0 m 277 ls [])) :
    ∀ (n : Nat) (i3 : Int32) (y0_4 : Int32) (g_2 : (Nat → Int32)) (H : Heap) (locs : List Loc) (ls : Array Slot), lp_Mo_press_244 N i2 m2 n i3 y0_4 g_2 = some out → va_P G.1 classes [(c0, .inr (9, [.ref c1, .ref c2, .ref u0_2, .int y0_3, .int y0_4, .int y0_5, .int y0_6, .int y0_7, .int y0_8, .int y0_9, .int y0_10, .int y0_11, .int y0_12, .int y0_13, .int y0_14, .int y0_15, .int y0_16, .ref u0_17, .ref u0_18, .ref u0_19, .ref u0_20, .ref u0_21, .ref u0_22, .ref u0_23])), (c1, .inl (G.2.1 0, m1, .inl g_1)), (c2, .inl (G.2.1 0, m2, .inl g_2))] H → va_D A [(c0, .inr (9, [.ref c1, .ref c2, .ref u0_2, .int y0_3, .int y0_4, .int y0_5, .int y0_6, .int y0_7, .int y0_8, .int y0_9, .int y0_10, .int y0_11, .int y0_12, .int y0_13, .int y0_14, .int y0_15, .int y0_16, .ref u0_17, .ref u0_18, .ref u0_19, .ref u0_20, .ref u0_21, .ref u0_22, .ref u0_23])), (c1, .inl (G.2.1 0, m1, .inl g_1)), (c2, .inl (G.2.1 0, m2, .inl g_2))] → va_S A s.heap H locs → lv_has ls 6 [(0, .ref c0), (2, .int i2), (3, .int i3)] → W p l e R s m args below meth c H locs kc ks Q (F0 m 244 ls []) := by
  obtain ⟨hx, hb, hml, hown, hts, hr, hlocks, hin⟩ := id C0
  have hown : s.vm.findClass R_Mo = some m.cls := hown
  intro n
  induction n with
  | zero => intro i3 y0_4 g_2 H locs ls h; cases h
  | succ n ih =>
    intro i3 y0_4 g_2 H locs ls h hP hD hS hl
    replace h : lb_Mo_press_244 N i2 m2 (lp_Mo_press_244 N i2 m2 n) i3 y0_4 g_2 = some out := h
    unfold lb_Mo_press_244 at h
    refine lv_iload_n hx hb d_Mo_press_244 rfl (lv_at hl 2 rfl) ?_
    refine lv_if_lt (tgt := 277) hx hb d_Mo_press_245 (by decide) (fun cq82 => ?_) (fun cq82 => ?_)
    · replace h := (if_pos cq82).symm.trans h
      have eV := so1 h
      subst eV
      exact kx277 _ _ _ hP hD hS (lv_sub hl [0] rfl)
    · replace h := (if_neg cq82).symm.trans h
      refine lv_aload_n hx hb d_Mo_press_248 rfl (lv_at hl 0 rfl) ?_
      refine va_get (D := G.1) (ci := 9) (v := .ref c2) (C := R_Mo) (T := F_Mo) (N := 24) hx hb hts i_Mo hown hK hP 0 rfl rfl 1 (by decide) (hts _ q425) (fun _ h9 => h9) rfl d_Mo_press_249 ?_
      refine lv_aload_n hx hb d_Mo_press_252 rfl (lv_at hl 0 rfl) ?_
      refine va_get (D := G.1) (ci := 9) (v := .int y0_4) (C := R_Mo) (T := F_Mo) (N := 24) hx hb hts i_Mo hown hK hP 0 rfl rfl 4 (by decide) (hts _ q482) (fun _ h9 => h9) rfl d_Mo_press_253 ?_
      refine lv_iload_n hx hb d_Mo_press_256 rfl (lv_at hl 1 rfl) ?_
      refine lv_iload_n hx hb d_Mo_press_257 rfl (lv_at hl 2 rfl) ?_
      refine lv_iushr (v := us i2 i3) hx hb d_Mo_press_258 rfl ?_
      refine lv_i2b (v := (us i2 i3).toInt8.toInt32) hx hb d_Mo_press_259 rfl ?_
      obtain ⟨hi83, h⟩ := Ix_e h
      refine y_bast hx hb hK hP hD hS 2 0 rfl rfl hi83 d_Mo_press_260 (fun g84 H locs eg84 hP hD hS => ?_)
      replace h := Lt_e h eg84
      have hP : va_P G.1 classes [(c0, .inr (9, [.ref c1, .ref c2, .ref u0_2, .int y0_3, .int y0_4, .int y0_5, .int y0_6, .int y0_7, .int y0_8, .int y0_9, .int y0_10, .int y0_11, .int y0_12, .int y0_13, .int y0_14, .int y0_15, .int y0_16, .ref u0_17, .ref u0_18, .ref u0_19, .ref u0_20, .ref u0_21, .ref u0_22, .ref u0_23])), (c1, .inl (G.2.1 0, m1, .inl g_1)), (c2, .inl (G.2.1 0, m2, .inl g84))] H := hP
      have hD : va_D A [(c0, .inr (9, [.ref c1, .ref c2, .ref u0_2, .int y0_3, .int y0_4, .int y0_5, .int y0_6, .int y0_7, .int y0_8, .int y0_9, .int y0_10, .int y0_11, .int y0_12, .int y0_13, .int y0_14, .int y0_15, .int y0_16, .ref u0_17, .ref u0_18, .ref u0_19, .ref u0_20, .ref u0_21, .ref u0_22, .ref u0_23])), (c1, .inl (G.2.1 0, m1, .inl g_1)), (c2, .inl (G.2.1 0, m2, .inl g84))] := hD
      refine lv_aload_n hx hb d_Mo_press_261 rfl (lv_at hl 0 rfl) ?_
      refine lv_dup hx hb d_Mo_press_262 rfl ?_
      refine va_get (D := G.1) (ci := 9) (v := .int y0_4) (C := R_Mo) (T := F_Mo) (N := 24) hx hb hts i_Mo hown hK hP 0 rfl rfl 4 (by decide) (hts _ q482) (fun _ h9 => h9) rfl d_Mo_press_263 ?_
      refine lv_iconst (v := 1) hx hb d_Mo_press_266 (by decide) ?_
      refine lv_iadd hx hb d_Mo_press_267 ?_
      refine lv_topi (fun v85 ev85 => ?_)
      replace h := Lt_e h ev85
      refine va_put (D := G.1) (ci := 9) (v := .int v85) (ty := .int) (C := R_Mo) (T := F_Mo) (N := 24) hx hb hts i_Mo t_Mo t_Mo_ok n_Mo hown hK hP hD hS 0 rfl rfl 4 (by decide) (hts _ q482) (fun _ h9 => h9) rfl (by decide +kernel) rfl rfl (Nat.le_of_ble_eq_true rfl) d_Mo_press_268 (fun H locs hP hD hS => ?_)
      have hP : va_P G.1 classes [(c0, .inr (9, [.ref c1, .ref c2, .ref u0_2, .int y0_3, .int v85, .int y0_5, .int y0_6, .int y0_7, .int y0_8, .int y0_9, .int y0_10, .int y0_11, .int y0_12, .int y0_13, .int y0_14, .int y0_15, .int y0_16, .ref u0_17, .ref u0_18, .ref u0_19, .ref u0_20, .ref u0_21, .ref u0_22, .ref u0_23])), (c1, .inl (G.2.1 0, m1, .inl g_1)), (c2, .inl (G.2.1 0, m2, .inl g84))] H := hP
      have hD : va_D A [(c0, .inr (9, [.ref c1, .ref c2, .ref u0_2, .int y0_3, .int v85, .int y0_5, .int y0_6, .int y0_7, .int y0_8, .int y0_9, .int y0_10, .int y0_11, .int y0_12, .int y0_13, .int y0_14, .int y0_15, .int y0_16, .ref u0_17, .ref u0_18, .ref u0_19, .ref u0_20, .ref u0_21, .ref u0_22, .ref u0_23])), (c1, .inl (G.2.1 0, m1, .inl g_1)), (c2, .inl (G.2.1 0, m2, .inl g84))] := hD
      obtain ⟨v86, ev86⟩ : ∃ y : Int32, y = i3 + (-8) := ⟨_, rfl⟩
      replace h := Lt_e h ev86
      refine lv_iinc (v := v86) (lv' := [(3, .int v86), (0, .ref c0), (2, .int i2)]) hx hb d_Mo_press_271 hl (k := 2) rfl (by rw [ev86]; rfl) (by decide) rfl (fun ls hl => ?_)
      refine lv_goto (tgt := 244) hx hb d_Mo_press_274 (by decide) ?_
      exact ih v86 v85 g84  _ _ _ h hP hD hS (lv_sub hl [1, 2, 0] rfl)
set_option maxHeartbeats 4000000 in
set_option maxRecDepth 100000 in
theorem c_Mo_press (l : Launch) (G : GX) (a0 a1 a2 o0_2 o0_17 o0_18 o0_19 o0_20 o0_21 o0_22 o0_23 : Nat) (sz : Nat) (x0_3 : Int32) (x0_4 : Int32) (x0_5 : Int32) (x0_6 : Int32) (x0_7 : Int32) (x0_8 : Int32) (x0_9 : Int32) (x0_10 : Int32) (x0_11 : Int32) (x0_12 : Int32) (x0_13 : Int32) (x0_14 : Int32) (x0_15 : Int32) (x0_16 : Int32) (n1 : Nat) (f1 : (Nat → Int32)) (n2 : Nat) (f2 : (Nat → Int32))  (N : Nat) (V : Int32 × Int32 × Int32 × Int32 × Int32 × (Nat → Int32)) (h : f_Mo_press N x0_3 n1 f1 n2 f2 = some V) :
    Met l y_Mo_press (wd y_Mo_press b_Mo_press 6 (some .int)) { frames := 4, cells := 0, slots := 0, locals := 90 } (PX G [.ref a0] sz [(a0, .inr (9, [.ref a2, .ref a1, .ref o0_2, .int x0_3, .int x0_4, .int x0_5, .int x0_6, .int x0_7, .int x0_8, .int x0_9, .int x0_10, .int x0_11, .int x0_12, .int x0_13, .int x0_14, .int x0_15, .int x0_16, .ref o0_17, .ref o0_18, .ref o0_19, .ref o0_20, .ref o0_21, .ref o0_22, .ref o0_23])), (a1, .inl (G.2.1 0, n1, .inl f1)), (a2, .inl (G.2.1 0, n2, .inl f2))])
      (QXi G V.1 (fun w => w = [(a0, .inr (9, [.ref a2, .ref a1, .ref o0_2, .int x0_3, .int V.2.1, .int V.2.2.1, .int V.2.2.2.1, .int x0_7, .int x0_8, .int x0_9, .int 0, .int V.2.2.2.2.1, .int x0_12, .int x0_13, .int x0_14, .int x0_15, .int x0_16, .ref o0_17, .ref o0_18, .ref o0_19, .ref o0_20, .ref o0_21, .ref o0_22, .ref o0_23])), (a1, .inl (G.2.1 0, n1, .inl V.2.2.2.2.2)), (a2, .inl (G.2.1 0, n2, .inl f2))]) (va_A [(a0, .inr (9, [.ref a2, .ref a1, .ref o0_2, .int x0_3, .int x0_4, .int x0_5, .int x0_6, .int x0_7, .int x0_8, .int x0_9, .int x0_10, .int x0_11, .int x0_12, .int x0_13, .int x0_14, .int x0_15, .int x0_16, .ref o0_17, .ref o0_18, .ref o0_19, .ref o0_20, .ref o0_21, .ref o0_22, .ref o0_23])), (a1, .inl (G.2.1 0, n1, .inl f1)), (a2, .inl (G.2.1 0, n2, .inl f2))] sz)) 0 0 (va_A [(a0, .inr (9, [.ref a2, .ref a1, .ref o0_2, .int x0_3, .int x0_4, .int x0_5, .int x0_6, .int x0_7, .int x0_8, .int x0_9, .int x0_10, .int x0_11, .int x0_12, .int x0_13, .int x0_14, .int x0_15, .int x0_16, .ref o0_17, .ref o0_18, .ref o0_19, .ref o0_20, .ref o0_21, .ref o0_22, .ref o0_23])), (a1, .inl (G.2.1 0, n1, .inl f1)), (a2, .inl (G.2.1 0, n2, .inl f2))] sz) := by
  refine Met_in (QQ := fun A => QXi G V.1 (fun w => w = [(a0, .inr (9, [.ref a2, .ref a1, .ref o0_2, .int x0_3, .int V.2.1, .int V.2.2.1, .int V.2.2.2.1, .int x0_7, .int x0_8, .int x0_9, .int 0, .int V.2.2.2.2.1, .int x0_12, .int x0_13, .int x0_14, .int x0_15, .int x0_16, .ref o0_17, .ref o0_18, .ref o0_19, .ref o0_20, .ref o0_21, .ref o0_22, .ref o0_23])), (a1, .inl (G.2.1 0, n1, .inl V.2.2.2.2.2)), (a2, .inl (G.2.1 0, n2, .inl f2))]) A) (by decide) (Nat.le_of_ble_eq_true rfl) (fun p e s m below meth c R Q A ls C0 hRf hRl hRc hRs hP hK hD hT hA hS hl hQ => ?_)
  obtain ⟨hx, hb, hml, hown, hts, hr, hlocks, hin⟩ := id C0
  have hown : s.vm.findClass R_Mo = some m.cls := hown
  have hl : lv_has ls 6 [(0, .ref a0)] := hl
  unfold f_Mo_press at h
  have hkc : 0 ≤ R.cells := Nat.zero_le _
  have hks : 0 ≤ R.slots := Nat.zero_le _
  obtain ⟨H, hH⟩ : ∃ H, H = s.heap := ⟨_, rfl⟩
  obtain ⟨locs, hlc⟩ : ∃ x : List Loc, x = [] := ⟨_, rfl⟩
  rw [← hH] at hP
  have hS : va_S A s.heap H locs := by rw [hH, hlc]; exact hS
  suffices hgo : W p l e R s m [.ref a0].toArray below meth c H locs 0 0 Q (F0 m 0 ls []) by rw [hH, hlc] at hgo; exact hgo
  refine lv_aload_n hx hb d_Mo_press_0 rfl (lv_at hl 0 rfl) ?_
  refine lv_iconst (v := 0) hx hb d_Mo_press_1 (by decide) ?_
  refine va_put (D := G.1) (ci := 9) (v := .int 0) (ty := .int) (C := R_Mo) (T := F_Mo) (N := 24) hx hb hts i_Mo t_Mo t_Mo_ok n_Mo hown hK hP hD hS 0 rfl rfl 10 (by decide) (hts _ q434) (fun _ h9 => h9) rfl (by decide +kernel) rfl rfl (Nat.le_of_ble_eq_true rfl) d_Mo_press_2 (fun H locs hP hD hS => ?_)
  have hP : va_P G.1 classes [(a0, .inr (9, [.ref a2, .ref a1, .ref o0_2, .int x0_3, .int x0_4, .int x0_5, .int x0_6, .int x0_7, .int x0_8, .int x0_9, .int 0, .int x0_11, .int x0_12, .int x0_13, .int x0_14, .int x0_15, .int x0_16, .ref o0_17, .ref o0_18, .ref o0_19, .ref o0_20, .ref o0_21, .ref o0_22, .ref o0_23])), (a1, .inl (G.2.1 0, n1, .inl f1)), (a2, .inl (G.2.1 0, n2, .inl f2))] H := hP
  have hD : va_D A [(a0, .inr (9, [.ref a2, .ref a1, .ref o0_2, .int x0_3, .int x0_4, .int x0_5, .int x0_6, .int x0_7, .int x0_8, .int x0_9, .int 0, .int x0_11, .int x0_12, .int x0_13, .int x0_14, .int x0_15, .int x0_16, .ref o0_17, .ref o0_18, .ref o0_19, .ref o0_20, .ref o0_21, .ref o0_22, .ref o0_23])), (a1, .inl (G.2.1 0, n1, .inl f1)), (a2, .inl (G.2.1 0, n2, .inl f2))] := hD
  refine lv_aload_n hx hb d_Mo_press_5 rfl (lv_at hl 0 rfl) ?_
  refine lv_iconst (v := 0) hx hb d_Mo_press_6 (by decide) ?_
  refine va_put (D := G.1) (ci := 9) (v := .int 0) (ty := .int) (C := R_Mo) (T := F_Mo) (N := 24) hx hb hts i_Mo t_Mo t_Mo_ok n_Mo hown hK hP hD hS 0 rfl rfl 11 (by decide) (hts _ q441) (fun _ h9 => h9) rfl (by decide +kernel) rfl rfl (Nat.le_of_ble_eq_true rfl) d_Mo_press_7 (fun H locs hP hD hS => ?_)
  have hP : va_P G.1 classes [(a0, .inr (9, [.ref a2, .ref a1, .ref o0_2, .int x0_3, .int x0_4, .int x0_5, .int x0_6, .int x0_7, .int x0_8, .int x0_9, .int 0, .int 0, .int x0_12, .int x0_13, .int x0_14, .int x0_15, .int x0_16, .ref o0_17, .ref o0_18, .ref o0_19, .ref o0_20, .ref o0_21, .ref o0_22, .ref o0_23])), (a1, .inl (G.2.1 0, n1, .inl f1)), (a2, .inl (G.2.1 0, n2, .inl f2))] H := hP
  have hD : va_D A [(a0, .inr (9, [.ref a2, .ref a1, .ref o0_2, .int x0_3, .int x0_4, .int x0_5, .int x0_6, .int x0_7, .int x0_8, .int x0_9, .int 0, .int 0, .int x0_12, .int x0_13, .int x0_14, .int x0_15, .int x0_16, .ref o0_17, .ref o0_18, .ref o0_19, .ref o0_20, .ref o0_21, .ref o0_22, .ref o0_23])), (a1, .inl (G.2.1 0, n1, .inl f1)), (a2, .inl (G.2.1 0, n2, .inl f2))] := hD
  refine lv_aload_n hx hb d_Mo_press_10 rfl (lv_at hl 0 rfl) ?_
  refine lv_iconst (v := 0) hx hb d_Mo_press_11 (by decide) ?_
  refine va_put (D := G.1) (ci := 9) (v := .int 0) (ty := .int) (C := R_Mo) (T := F_Mo) (N := 24) hx hb hts i_Mo t_Mo t_Mo_ok n_Mo hown hK hP hD hS 0 rfl rfl 5 (by decide) (hts _ q471) (fun _ h9 => h9) rfl (by decide +kernel) rfl rfl (Nat.le_of_ble_eq_true rfl) d_Mo_press_12 (fun H locs hP hD hS => ?_)
  have hP : va_P G.1 classes [(a0, .inr (9, [.ref a2, .ref a1, .ref o0_2, .int x0_3, .int x0_4, .int 0, .int x0_6, .int x0_7, .int x0_8, .int x0_9, .int 0, .int 0, .int x0_12, .int x0_13, .int x0_14, .int x0_15, .int x0_16, .ref o0_17, .ref o0_18, .ref o0_19, .ref o0_20, .ref o0_21, .ref o0_22, .ref o0_23])), (a1, .inl (G.2.1 0, n1, .inl f1)), (a2, .inl (G.2.1 0, n2, .inl f2))] H := hP
  have hD : va_D A [(a0, .inr (9, [.ref a2, .ref a1, .ref o0_2, .int x0_3, .int x0_4, .int 0, .int x0_6, .int x0_7, .int x0_8, .int x0_9, .int 0, .int 0, .int x0_12, .int x0_13, .int x0_14, .int x0_15, .int x0_16, .ref o0_17, .ref o0_18, .ref o0_19, .ref o0_20, .ref o0_21, .ref o0_22, .ref o0_23])), (a1, .inl (G.2.1 0, n1, .inl f1)), (a2, .inl (G.2.1 0, n2, .inl f2))] := hD
  refine lv_aload_n hx hb d_Mo_press_15 rfl (lv_at hl 0 rfl) ?_
  refine lv_iconst (v := 0) hx hb d_Mo_press_16 (by decide) ?_
  refine va_put (D := G.1) (ci := 9) (v := .int 0) (ty := .int) (C := R_Mo) (T := F_Mo) (N := 24) hx hb hts i_Mo t_Mo t_Mo_ok n_Mo hown hK hP hD hS 0 rfl rfl 6 (by decide) (hts _ q472) (fun _ h9 => h9) rfl (by decide +kernel) rfl rfl (Nat.le_of_ble_eq_true rfl) d_Mo_press_17 (fun H locs hP hD hS => ?_)
  have hP : va_P G.1 classes [(a0, .inr (9, [.ref a2, .ref a1, .ref o0_2, .int x0_3, .int x0_4, .int 0, .int 0, .int x0_7, .int x0_8, .int x0_9, .int 0, .int 0, .int x0_12, .int x0_13, .int x0_14, .int x0_15, .int x0_16, .ref o0_17, .ref o0_18, .ref o0_19, .ref o0_20, .ref o0_21, .ref o0_22, .ref o0_23])), (a1, .inl (G.2.1 0, n1, .inl f1)), (a2, .inl (G.2.1 0, n2, .inl f2))] H := hP
  have hD : va_D A [(a0, .inr (9, [.ref a2, .ref a1, .ref o0_2, .int x0_3, .int x0_4, .int 0, .int 0, .int x0_7, .int x0_8, .int x0_9, .int 0, .int 0, .int x0_12, .int x0_13, .int x0_14, .int x0_15, .int x0_16, .ref o0_17, .ref o0_18, .ref o0_19, .ref o0_20, .ref o0_21, .ref o0_22, .ref o0_23])), (a1, .inl (G.2.1 0, n1, .inl f1)), (a2, .inl (G.2.1 0, n2, .inl f2))] := hD
  refine lv_aload_n hx hb d_Mo_press_20 rfl (lv_at hl 0 rfl) ?_
  refine va_get (D := G.1) (ci := 9) (v := .ref a1) (C := R_Mo) (T := F_Mo) (N := 24) hx hb hts i_Mo hown hK hP 0 rfl rfl 1 (by decide) (hts _ q425) (fun _ h9 => h9) rfl d_Mo_press_21 ?_
  refine lv_iconst (v := 0) hx hb d_Mo_press_24 (by decide) ?_
  refine lv_bipush (v := 120) hx hb d_Mo_press_25 (by decide) ?_
  obtain ⟨hi1, h⟩ := Ix_e h
  refine y_bast hx hb hK hP hD hS 1 0 rfl rfl hi1 d_Mo_press_27 (fun g2 H locs eg2 hP hD hS => ?_)
  replace h := Lt_e h eg2
  have hP : va_P G.1 classes [(a0, .inr (9, [.ref a2, .ref a1, .ref o0_2, .int x0_3, .int x0_4, .int 0, .int 0, .int x0_7, .int x0_8, .int x0_9, .int 0, .int 0, .int x0_12, .int x0_13, .int x0_14, .int x0_15, .int x0_16, .ref o0_17, .ref o0_18, .ref o0_19, .ref o0_20, .ref o0_21, .ref o0_22, .ref o0_23])), (a1, .inl (G.2.1 0, n1, .inl g2)), (a2, .inl (G.2.1 0, n2, .inl f2))] H := hP
  have hD : va_D A [(a0, .inr (9, [.ref a2, .ref a1, .ref o0_2, .int x0_3, .int x0_4, .int 0, .int 0, .int x0_7, .int x0_8, .int x0_9, .int 0, .int 0, .int x0_12, .int x0_13, .int x0_14, .int x0_15, .int x0_16, .ref o0_17, .ref o0_18, .ref o0_19, .ref o0_20, .ref o0_21, .ref o0_22, .ref o0_23])), (a1, .inl (G.2.1 0, n1, .inl g2)), (a2, .inl (G.2.1 0, n2, .inl f2))] := hD
  refine lv_aload_n hx hb d_Mo_press_28 rfl (lv_at hl 0 rfl) ?_
  refine va_get (D := G.1) (ci := 9) (v := .ref a1) (C := R_Mo) (T := F_Mo) (N := 24) hx hb hts i_Mo hown hK hP 0 rfl rfl 1 (by decide) (hts _ q425) (fun _ h9 => h9) rfl d_Mo_press_29 ?_
  refine lv_iconst (v := 1) hx hb d_Mo_press_32 (by decide) ?_
  refine lv_iconst (v := 1) hx hb d_Mo_press_33 (by decide) ?_
  obtain ⟨hi3, h⟩ := Ix_e h
  refine y_bast hx hb hK hP hD hS 1 0 rfl rfl hi3 d_Mo_press_34 (fun g4 H locs eg4 hP hD hS => ?_)
  replace h := Lt_e h eg4
  have hP : va_P G.1 classes [(a0, .inr (9, [.ref a2, .ref a1, .ref o0_2, .int x0_3, .int x0_4, .int 0, .int 0, .int x0_7, .int x0_8, .int x0_9, .int 0, .int 0, .int x0_12, .int x0_13, .int x0_14, .int x0_15, .int x0_16, .ref o0_17, .ref o0_18, .ref o0_19, .ref o0_20, .ref o0_21, .ref o0_22, .ref o0_23])), (a1, .inl (G.2.1 0, n1, .inl g4)), (a2, .inl (G.2.1 0, n2, .inl f2))] H := hP
  have hD : va_D A [(a0, .inr (9, [.ref a2, .ref a1, .ref o0_2, .int x0_3, .int x0_4, .int 0, .int 0, .int x0_7, .int x0_8, .int x0_9, .int 0, .int 0, .int x0_12, .int x0_13, .int x0_14, .int x0_15, .int x0_16, .ref o0_17, .ref o0_18, .ref o0_19, .ref o0_20, .ref o0_21, .ref o0_22, .ref o0_23])), (a1, .inl (G.2.1 0, n1, .inl g4)), (a2, .inl (G.2.1 0, n2, .inl f2))] := hD
  refine lv_aload_n hx hb d_Mo_press_35 rfl (lv_at hl 0 rfl) ?_
  refine lv_iconst (v := 3) hx hb d_Mo_press_36 (by decide) ?_
  refine lv_iconst (v := 3) hx hb d_Mo_press_37 (by decide) ?_
  obtain ⟨r5, hc5, h⟩ := Bd_e h
  refine xV_v0 (wr := [(a2, .inl (G.2.1 0, n2, .inl f2))]) (rest := []) C0 hK hT hA hP hD hS hl.1 (c_Mo_putNumber l G a0 a1 a2 o0_2 o0_17 o0_18 o0_19 o0_20 o0_21 o0_22 o0_23 _ x0_3 x0_4 0 0 x0_7 x0_8 x0_9 0 0 x0_12 x0_13 x0_14 x0_15 x0_16 n1 g4 3 3 N r5 hc5) (goodV q463 q464 q465 q439 q466) 2 rfl hd_Mo_putNumber (Nat.le_trans (by decide) hRf) (Nat.le_trans (by decide) hRl) [0, 1] [2] rfl rfl (by decide) (by decide) (by decide) 9 0 rfl rfl rfl (Nat.le_of_ble_eq_true rfl) d_Mo_press_38 hkc hks (fun w1 H locs hE hP hD hS => ?_)
  subst hE
  have hP : va_P G.1 classes [(a2, .inl (G.2.1 0, n2, .inl f2)), (a0, .inr (9, [.ref a2, .ref a1, .ref o0_2, .int x0_3, .int x0_4, .int 0, .int 0, .int x0_7, .int x0_8, .int x0_9, .int 0, .int r5.1, .int x0_12, .int x0_13, .int x0_14, .int x0_15, .int x0_16, .ref o0_17, .ref o0_18, .ref o0_19, .ref o0_20, .ref o0_21, .ref o0_22, .ref o0_23])), (a1, .inl (G.2.1 0, n1, .inl r5.2))] H := hP
  have hD : va_D A [(a2, .inl (G.2.1 0, n2, .inl f2)), (a0, .inr (9, [.ref a2, .ref a1, .ref o0_2, .int x0_3, .int x0_4, .int 0, .int 0, .int x0_7, .int x0_8, .int x0_9, .int 0, .int r5.1, .int x0_12, .int x0_13, .int x0_14, .int x0_15, .int x0_16, .ref o0_17, .ref o0_18, .ref o0_19, .ref o0_20, .ref o0_21, .ref o0_22, .ref o0_23])), (a1, .inl (G.2.1 0, n1, .inl r5.2))] := hD
  refine lv_iconst (v := 0) hx hb d_Mo_press_41 (by decide) ?_
  refine lv_istore_n (lv' := [(1, .int 0), (0, .ref a0)]) hx hb d_Mo_press_42 rfl hl (by decide) rfl (fun ls hl => ?_)
  obtain ⟨r73, hc73, h⟩ := Bd_e h
  refine w_Mo_press_43 C0 hRf hRl hA hK hT N x0_3 x0_4 x0_7 x0_8 x0_9 0 x0_12 x0_13 x0_14 x0_15 x0_16 n2 f2 n1 a0 a2 a1 o0_2 o0_17 o0_18 o0_19 o0_20 o0_21 o0_22 o0_23 r73 (kc := 0) (ks := 0) hkc hks ?_ N 0 0 0 r5.1 r5.2  _ _ _ hc73 (hP.sub (ws' := [(a0, .inr (9, [.ref a2, .ref a1, .ref o0_2, .int x0_3, .int x0_4, .int 0, .int 0, .int x0_7, .int x0_8, .int x0_9, .int 0, .int r5.1, .int x0_12, .int x0_13, .int x0_14, .int x0_15, .int x0_16, .ref o0_17, .ref o0_18, .ref o0_19, .ref o0_20, .ref o0_21, .ref o0_22, .ref o0_23])), (a2, .inl (G.2.1 0, n2, .inl f2)), (a1, .inl (G.2.1 0, n1, .inl r5.2))]) [1, 0, 2] rfl) (hD.sub (ws' := [(a0, .inr (9, [.ref a2, .ref a1, .ref o0_2, .int x0_3, .int x0_4, .int 0, .int 0, .int x0_7, .int x0_8, .int x0_9, .int 0, .int r5.1, .int x0_12, .int x0_13, .int x0_14, .int x0_15, .int x0_16, .ref o0_17, .ref o0_18, .ref o0_19, .ref o0_20, .ref o0_21, .ref o0_22, .ref o0_23])), (a2, .inl (G.2.1 0, n2, .inl f2)), (a1, .inl (G.2.1 0, n1, .inl r5.2))]) [1, 0, 2] (by decide) rfl) hS (lv_sub hl [1, 0] rfl)
  · intro H locs ls hP hD hS hl
    refine lv_aload_n hx hb d_Mo_press_205 rfl (lv_at hl 0 rfl) ?_
    refine lv_sipush (v := 256) hx hb d_Mo_press_206 (by decide) ?_
    obtain ⟨r74, hc74, h⟩ := Bd_e h
    refine xV_v0 (wr := [(a2, .inl (G.2.1 0, n2, .inl f2))]) (rest := []) C0 hK hT hA hP hD hS hl.1 (c_Mo_putSign l G a0 a1 a2 o0_2 o0_17 o0_18 o0_19 o0_20 o0_21 o0_22 o0_23 _ x0_3 x0_4 r73.1 r73.2.1 x0_7 x0_8 x0_9 0 r73.2.2.1 x0_12 x0_13 x0_14 x0_15 x0_16 n1 r73.2.2.2 256 N r74 hc74) (goodV q459 q460 q461 q439 q462) 1 rfl hd_Mo_putSign (Nat.le_trans (by decide) hRf) (Nat.le_trans (by decide) hRl) [0, 2] [1] rfl rfl (by decide) (by decide) (by decide) 9 0 rfl rfl rfl (Nat.le_of_ble_eq_true rfl) d_Mo_press_209 hkc hks (fun w1 H locs hE hP hD hS => ?_)
    subst hE
    have hP : va_P G.1 classes [(a2, .inl (G.2.1 0, n2, .inl f2)), (a0, .inr (9, [.ref a2, .ref a1, .ref o0_2, .int x0_3, .int x0_4, .int r73.1, .int r73.2.1, .int x0_7, .int x0_8, .int x0_9, .int 0, .int r74.1, .int x0_12, .int x0_13, .int x0_14, .int x0_15, .int x0_16, .ref o0_17, .ref o0_18, .ref o0_19, .ref o0_20, .ref o0_21, .ref o0_22, .ref o0_23])), (a1, .inl (G.2.1 0, n1, .inl r74.2))] H := hP
    have hD : va_D A [(a2, .inl (G.2.1 0, n2, .inl f2)), (a0, .inr (9, [.ref a2, .ref a1, .ref o0_2, .int x0_3, .int x0_4, .int r73.1, .int r73.2.1, .int x0_7, .int x0_8, .int x0_9, .int 0, .int r74.1, .int x0_12, .int x0_13, .int x0_14, .int x0_15, .int x0_16, .ref o0_17, .ref o0_18, .ref o0_19, .ref o0_20, .ref o0_21, .ref o0_22, .ref o0_23])), (a1, .inl (G.2.1 0, n1, .inl r74.2))] := hD
    refine lv_aload_n hx hb d_Mo_press_212 rfl (lv_at hl 0 rfl) ?_
    refine lv_iconst (v := 2) hx hb d_Mo_press_213 (by decide) ?_
    refine lv_aload_n hx hb d_Mo_press_214 rfl (lv_at hl 0 rfl) ?_
    refine va_get (D := G.1) (ci := 9) (v := .int r74.1) (C := R_Mo) (T := F_Mo) (N := 24) hx hb hts i_Mo hown hK hP 1 rfl rfl 11 (by decide) (hts _ q441) (fun _ h9 => h9) rfl d_Mo_press_215 ?_
    refine lv_bipush (v := 7) hx hb d_Mo_press_218 (by decide) ?_
    refine lv_iadd hx hb d_Mo_press_220 ?_
    refine lv_bipush (v := 8) hx hb d_Mo_press_221 (by decide) ?_
    refine lv_idiv hx hb d_Mo_press_223 (by decide) ?_
    refine lv_iadd hx hb d_Mo_press_224 ?_
    refine lv_topi (fun v75 ev75 => ?_)
    replace h := Lt_e h ev75
    refine va_put (D := G.1) (ci := 9) (v := .int v75) (ty := .int) (C := R_Mo) (T := F_Mo) (N := 24) hx hb hts i_Mo t_Mo t_Mo_ok n_Mo hown hK hP hD hS 1 rfl rfl 4 (by decide) (hts _ q482) (fun _ h9 => h9) rfl (by decide +kernel) rfl rfl (Nat.le_of_ble_eq_true rfl) d_Mo_press_225 (fun H locs hP hD hS => ?_)
    have hP : va_P G.1 classes [(a2, .inl (G.2.1 0, n2, .inl f2)), (a0, .inr (9, [.ref a2, .ref a1, .ref o0_2, .int x0_3, .int v75, .int r73.1, .int r73.2.1, .int x0_7, .int x0_8, .int x0_9, .int 0, .int r74.1, .int x0_12, .int x0_13, .int x0_14, .int x0_15, .int x0_16, .ref o0_17, .ref o0_18, .ref o0_19, .ref o0_20, .ref o0_21, .ref o0_22, .ref o0_23])), (a1, .inl (G.2.1 0, n1, .inl r74.2))] H := hP
    have hD : va_D A [(a2, .inl (G.2.1 0, n2, .inl f2)), (a0, .inr (9, [.ref a2, .ref a1, .ref o0_2, .int x0_3, .int v75, .int r73.1, .int r73.2.1, .int x0_7, .int x0_8, .int x0_9, .int 0, .int r74.1, .int x0_12, .int x0_13, .int x0_14, .int x0_15, .int x0_16, .ref o0_17, .ref o0_18, .ref o0_19, .ref o0_20, .ref o0_21, .ref o0_22, .ref o0_23])), (a1, .inl (G.2.1 0, n1, .inl r74.2))] := hD
    refine lv_aload_n hx hb d_Mo_press_228 rfl (lv_at hl 0 rfl) ?_
    refine lv_aload_n hx hb d_Mo_press_229 rfl (lv_at hl 0 rfl) ?_
    refine va_get (D := G.1) (ci := 9) (v := .ref a2) (C := R_Mo) (T := F_Mo) (N := 24) hx hb hts i_Mo hown hK hP 1 rfl rfl 0 (by decide) (hts _ q423) (fun _ h9 => h9) rfl d_Mo_press_230 ?_
    refine lv_aload_n hx hb d_Mo_press_233 rfl (lv_at hl 0 rfl) ?_
    refine va_get (D := G.1) (ci := 9) (v := .int x0_3) (C := R_Mo) (T := F_Mo) (N := 24) hx hb hts i_Mo hown hK hP 1 rfl rfl 3 (by decide) (hts _ q435) (fun _ h9 => h9) rfl d_Mo_press_234 ?_
    obtain ⟨r76, hc76, h⟩ := Bd_e h
    refine xV_i0 (wr := [(a0, .inr (9, [.ref a2, .ref a1, .ref o0_2, .int x0_3, .int v75, .int r73.1, .int r73.2.1, .int x0_7, .int x0_8, .int x0_9, .int 0, .int r74.1, .int x0_12, .int x0_13, .int x0_14, .int x0_15, .int x0_16, .ref o0_17, .ref o0_18, .ref o0_19, .ref o0_20, .ref o0_21, .ref o0_22, .ref o0_23])), (a1, .inl (G.2.1 0, n1, .inl r74.2))]) (rest := []) C0 hK hT hA hP hD hS hl.1 (c_Mo_adler l G a2 a0 _ n2 f2 x0_3 N r76 hc76) (goodV q483 q484 q485 q439 q486) 2 rfl hd_Mo_adler (Nat.le_trans (by decide) hRf) (Nat.le_trans (by decide) hRl) [0] [1, 2] rfl rfl (by decide) (by decide) (by decide) 9 1 rfl rfl rfl (Nat.le_of_ble_eq_true rfl) d_Mo_press_237 hkc hks (fun w1 H locs hE hP hD hS => ?_)
    subst hE
    have hP : va_P G.1 classes [(a0, .inr (9, [.ref a2, .ref a1, .ref o0_2, .int x0_3, .int v75, .int r73.1, .int r73.2.1, .int x0_7, .int x0_8, .int x0_9, .int 0, .int r74.1, .int x0_12, .int x0_13, .int x0_14, .int x0_15, .int x0_16, .ref o0_17, .ref o0_18, .ref o0_19, .ref o0_20, .ref o0_21, .ref o0_22, .ref o0_23])), (a1, .inl (G.2.1 0, n1, .inl r74.2)), (a2, .inl (G.2.1 0, n2, .inl f2))] H := hP
    have hD : va_D A [(a0, .inr (9, [.ref a2, .ref a1, .ref o0_2, .int x0_3, .int v75, .int r73.1, .int r73.2.1, .int x0_7, .int x0_8, .int x0_9, .int 0, .int r74.1, .int x0_12, .int x0_13, .int x0_14, .int x0_15, .int x0_16, .ref o0_17, .ref o0_18, .ref o0_19, .ref o0_20, .ref o0_21, .ref o0_22, .ref o0_23])), (a1, .inl (G.2.1 0, n1, .inl r74.2)), (a2, .inl (G.2.1 0, n2, .inl f2))] := hD
    refine lv_istore_n (lv' := [(2, .int r76), (0, .ref a0)]) hx hb d_Mo_press_240 rfl hl (by decide) rfl (fun ls hl => ?_)
    refine lv_bipush (v := 24) hx hb d_Mo_press_241 (by decide) ?_
    refine lv_istore_n (lv' := [(3, .int 24), (2, .int r76), (0, .ref a0)]) hx hb d_Mo_press_243 rfl hl (by decide) rfl (fun ls hl => ?_)
    obtain ⟨r87, hc87, h⟩ := Bd_e h
    refine w_Mo_press_244 C0 hRf hRl hA hK hT N r76 x0_3 r73.1 r73.2.1 x0_7 x0_8 x0_9 0 r74.1 x0_12 x0_13 x0_14 x0_15 x0_16 n2 f2 n1 a0 a2 a1 o0_2 o0_17 o0_18 o0_19 o0_20 o0_21 o0_22 o0_23 r87 (kc := 0) (ks := 0) hkc hks ?_ N 24 v75 r74.2  _ _ _ hc87 (hP.sub (ws' := [(a0, .inr (9, [.ref a2, .ref a1, .ref o0_2, .int x0_3, .int v75, .int r73.1, .int r73.2.1, .int x0_7, .int x0_8, .int x0_9, .int 0, .int r74.1, .int x0_12, .int x0_13, .int x0_14, .int x0_15, .int x0_16, .ref o0_17, .ref o0_18, .ref o0_19, .ref o0_20, .ref o0_21, .ref o0_22, .ref o0_23])), (a2, .inl (G.2.1 0, n2, .inl f2)), (a1, .inl (G.2.1 0, n1, .inl r74.2))]) [0, 2, 1] rfl) (hD.sub (ws' := [(a0, .inr (9, [.ref a2, .ref a1, .ref o0_2, .int x0_3, .int v75, .int r73.1, .int r73.2.1, .int x0_7, .int x0_8, .int x0_9, .int 0, .int r74.1, .int x0_12, .int x0_13, .int x0_14, .int x0_15, .int x0_16, .ref o0_17, .ref o0_18, .ref o0_19, .ref o0_20, .ref o0_21, .ref o0_22, .ref o0_23])), (a2, .inl (G.2.1 0, n2, .inl f2)), (a1, .inl (G.2.1 0, n1, .inl r74.2))]) [0, 2, 1] (by decide) rfl) hS (lv_sub hl [2, 1, 0] rfl)
    · intro H locs ls hP hD hS hl
      refine lv_aload_n hx hb d_Mo_press_277 rfl (lv_at hl 0 rfl) ?_
      refine va_get (D := G.1) (ci := 9) (v := .int r87.1) (C := R_Mo) (T := F_Mo) (N := 24) hx hb hts i_Mo hown hK hP 0 rfl rfl 4 (by decide) (hts _ q482) (fun _ h9 => h9) rfl d_Mo_press_278 ?_
      have eV := so1 h
      subst eV
      exact x_iret C0 hQ (hP.sub (ws' := [(a0, .inr (9, [.ref a2, .ref a1, .ref o0_2, .int x0_3, .int r87.1, .int r73.1, .int r73.2.1, .int x0_7, .int x0_8, .int x0_9, .int 0, .int r74.1, .int x0_12, .int x0_13, .int x0_14, .int x0_15, .int x0_16, .ref o0_17, .ref o0_18, .ref o0_19, .ref o0_20, .ref o0_21, .ref o0_22, .ref o0_23])), (a1, .inl (G.2.1 0, n1, .inl r87.2)), (a2, .inl (G.2.1 0, n2, .inl f2))]) [0, 2, 1] rfl) (hD.sub (ws' := [(a0, .inr (9, [.ref a2, .ref a1, .ref o0_2, .int x0_3, .int r87.1, .int r73.1, .int r73.2.1, .int x0_7, .int x0_8, .int x0_9, .int 0, .int r74.1, .int x0_12, .int x0_13, .int x0_14, .int x0_15, .int x0_16, .ref o0_17, .ref o0_18, .ref o0_19, .ref o0_20, .ref o0_21, .ref o0_22, .ref o0_23])), (a1, .inl (G.2.1 0, n1, .inl r87.2)), (a2, .inl (G.2.1 0, n2, .inl f2))]) [0, 2, 1] (by decide) rfl) hS rfl (Nat.zero_le _) (Nat.zero_le _) d_Mo_press_281
set_option maxHeartbeats 4000000 in
set_option maxRecDepth 100000 in
theorem c_Mo_bit (l : Launch) (G : GX) (a0 a1 o0_1 o0_2 o0_17 o0_18 o0_19 o0_20 o0_21 o0_22 o0_23 : Nat) (sz : Nat) (x0_3 : Int32) (x0_4 : Int32) (x0_5 : Int32) (x0_6 : Int32) (x0_7 : Int32) (x0_8 : Int32) (x0_9 : Int32) (x0_10 : Int32) (x0_11 : Int32) (x0_12 : Int32) (x0_13 : Int32) (x0_14 : Int32) (x0_15 : Int32) (x0_16 : Int32) (n1 : Nat) (f1 : (Nat → Int32))  (N : Nat) (V : Int32 × Int32 × Int32) (h : f_Mo_bit N x0_3 x0_12 x0_16 n1 f1 = some V) :
    Met l y_Mo_bit (wd y_Mo_bit b_Mo_bit 1 (some .int)) { frames := 0, cells := 0, slots := 0, locals := 0 } (PX G [.ref a0] sz [(a0, .inr (9, [.ref a1, .ref o0_1, .ref o0_2, .int x0_3, .int x0_4, .int x0_5, .int x0_6, .int x0_7, .int x0_8, .int x0_9, .int x0_10, .int x0_11, .int x0_12, .int x0_13, .int x0_14, .int x0_15, .int x0_16, .ref o0_17, .ref o0_18, .ref o0_19, .ref o0_20, .ref o0_21, .ref o0_22, .ref o0_23])), (a1, .inl (G.2.1 0, n1, .inl f1))])
      (QXi G V.1 (fun w => w = [(a0, .inr (9, [.ref a1, .ref o0_1, .ref o0_2, .int x0_3, .int x0_4, .int x0_5, .int x0_6, .int x0_7, .int x0_8, .int x0_9, .int x0_10, .int x0_11, .int V.2.1, .int x0_13, .int x0_14, .int x0_15, .int V.2.2, .ref o0_17, .ref o0_18, .ref o0_19, .ref o0_20, .ref o0_21, .ref o0_22, .ref o0_23])), (a1, .inl (G.2.1 0, n1, .inl f1))]) (va_A [(a0, .inr (9, [.ref a1, .ref o0_1, .ref o0_2, .int x0_3, .int x0_4, .int x0_5, .int x0_6, .int x0_7, .int x0_8, .int x0_9, .int x0_10, .int x0_11, .int x0_12, .int x0_13, .int x0_14, .int x0_15, .int x0_16, .ref o0_17, .ref o0_18, .ref o0_19, .ref o0_20, .ref o0_21, .ref o0_22, .ref o0_23])), (a1, .inl (G.2.1 0, n1, .inl f1))] sz)) 0 0 (va_A [(a0, .inr (9, [.ref a1, .ref o0_1, .ref o0_2, .int x0_3, .int x0_4, .int x0_5, .int x0_6, .int x0_7, .int x0_8, .int x0_9, .int x0_10, .int x0_11, .int x0_12, .int x0_13, .int x0_14, .int x0_15, .int x0_16, .ref o0_17, .ref o0_18, .ref o0_19, .ref o0_20, .ref o0_21, .ref o0_22, .ref o0_23])), (a1, .inl (G.2.1 0, n1, .inl f1))] sz) := by
  refine Met_in (QQ := fun A => QXi G V.1 (fun w => w = [(a0, .inr (9, [.ref a1, .ref o0_1, .ref o0_2, .int x0_3, .int x0_4, .int x0_5, .int x0_6, .int x0_7, .int x0_8, .int x0_9, .int x0_10, .int x0_11, .int V.2.1, .int x0_13, .int x0_14, .int x0_15, .int V.2.2, .ref o0_17, .ref o0_18, .ref o0_19, .ref o0_20, .ref o0_21, .ref o0_22, .ref o0_23])), (a1, .inl (G.2.1 0, n1, .inl f1))]) A) (by decide) (Nat.le_of_ble_eq_true rfl) (fun p e s m below meth c R Q A ls C0 hRf hRl hRc hRs hP hK hD hT hA hS hl hQ => ?_)
  obtain ⟨hx, hb, hml, hown, hts, hr, hlocks, hin⟩ := id C0
  have hown : s.vm.findClass R_Mo = some m.cls := hown
  have hl : lv_has ls 1 [(0, .ref a0)] := hl
  unfold f_Mo_bit at h
  have hkc : 0 ≤ R.cells := Nat.zero_le _
  have hks : 0 ≤ R.slots := Nat.zero_le _
  obtain ⟨H, hH⟩ : ∃ H, H = s.heap := ⟨_, rfl⟩
  obtain ⟨locs, hlc⟩ : ∃ x : List Loc, x = [] := ⟨_, rfl⟩
  rw [← hH] at hP
  have hS : va_S A s.heap H locs := by rw [hH, hlc]; exact hS
  suffices hgo : W p l e R s m [.ref a0].toArray below meth c H locs 0 0 Q (F0 m 0 ls []) by rw [hH, hlc] at hgo; exact hgo
  refine lv_aload_n hx hb d_Mo_bit_0 rfl (lv_at hl 0 rfl) ?_
  refine va_get (D := G.1) (ci := 9) (v := .int x0_12) (C := R_Mo) (T := F_Mo) (N := 24) hx hb hts i_Mo hown hK hP 0 rfl rfl 12 (by decide) (hts _ q487) (fun _ h9 => h9) rfl d_Mo_bit_1 ?_
  refine lv_aload_n hx hb d_Mo_bit_4 rfl (lv_at hl 0 rfl) ?_
  refine va_get (D := G.1) (ci := 9) (v := .int x0_3) (C := R_Mo) (T := F_Mo) (N := 24) hx hb hts i_Mo hown hK hP 0 rfl rfl 3 (by decide) (hts _ q435) (fun _ h9 => h9) rfl d_Mo_bit_5 ?_
  refine lv_bipush (v := 8) hx hb d_Mo_bit_8 (by decide) ?_
  refine lv_imul hx hb d_Mo_bit_10 ?_
  refine lv_icmp_lt (tgt := 21) hx hb d_Mo_bit_11 (by decide) (fun cq1 => ?_) (fun cq1 => ?_)
  · replace h := (if_pos cq1).symm.trans h
    refine lv_aload_n hx hb d_Mo_bit_21 rfl (lv_at hl 0 rfl) ?_
    refine lv_dup hx hb d_Mo_bit_22 rfl ?_
    refine va_get (D := G.1) (ci := 9) (v := .int x0_12) (C := R_Mo) (T := F_Mo) (N := 24) hx hb hts i_Mo hown hK hP 0 rfl rfl 12 (by decide) (hts _ q487) (fun _ h9 => h9) rfl d_Mo_bit_23 ?_
    refine lv_iconst (v := 1) hx hb d_Mo_bit_26 (by decide) ?_
    refine lv_iadd hx hb d_Mo_bit_27 ?_
    refine lv_topi (fun v2 ev2 => ?_)
    replace h := Lt_e h ev2
    refine va_put (D := G.1) (ci := 9) (v := .int v2) (ty := .int) (C := R_Mo) (T := F_Mo) (N := 24) hx hb hts i_Mo t_Mo t_Mo_ok n_Mo hown hK hP hD hS 0 rfl rfl 12 (by decide) (hts _ q487) (fun _ h9 => h9) rfl (by decide +kernel) rfl rfl (Nat.le_of_ble_eq_true rfl) d_Mo_bit_28 (fun H locs hP hD hS => ?_)
    have hP : va_P G.1 classes [(a0, .inr (9, [.ref a1, .ref o0_1, .ref o0_2, .int x0_3, .int x0_4, .int x0_5, .int x0_6, .int x0_7, .int x0_8, .int x0_9, .int x0_10, .int x0_11, .int v2, .int x0_13, .int x0_14, .int x0_15, .int x0_16, .ref o0_17, .ref o0_18, .ref o0_19, .ref o0_20, .ref o0_21, .ref o0_22, .ref o0_23])), (a1, .inl (G.2.1 0, n1, .inl f1))] H := hP
    have hD : va_D A [(a0, .inr (9, [.ref a1, .ref o0_1, .ref o0_2, .int x0_3, .int x0_4, .int x0_5, .int x0_6, .int x0_7, .int x0_8, .int x0_9, .int x0_10, .int x0_11, .int v2, .int x0_13, .int x0_14, .int x0_15, .int x0_16, .ref o0_17, .ref o0_18, .ref o0_19, .ref o0_20, .ref o0_21, .ref o0_22, .ref o0_23])), (a1, .inl (G.2.1 0, n1, .inl f1))] := hD
    refine lv_aload_n hx hb d_Mo_bit_31 rfl (lv_at hl 0 rfl) ?_
    refine va_get (D := G.1) (ci := 9) (v := .ref a1) (C := R_Mo) (T := F_Mo) (N := 24) hx hb hts i_Mo hown hK hP 0 rfl rfl 0 (by decide) (hts _ q423) (fun _ h9 => h9) rfl d_Mo_bit_32 ?_
    refine lv_aload_n hx hb d_Mo_bit_35 rfl (lv_at hl 0 rfl) ?_
    refine va_get (D := G.1) (ci := 9) (v := .int v2) (C := R_Mo) (T := F_Mo) (N := 24) hx hb hts i_Mo hown hK hP 0 rfl rfl 12 (by decide) (hts _ q487) (fun _ h9 => h9) rfl d_Mo_bit_36 ?_
    refine lv_iconst (v := 1) hx hb d_Mo_bit_39 (by decide) ?_
    refine lv_isub hx hb d_Mo_bit_40 ?_
    refine lv_bipush (v := 8) hx hb d_Mo_bit_41 (by decide) ?_
    refine lv_idiv hx hb d_Mo_bit_43 (by decide) ?_
    obtain ⟨hi3, h⟩ := Ix_e h
    refine va_bald hx hb hK hP 1 0 rfl rfl hi3 d_Mo_bit_44 ?_
    refine lv_aload_n hx hb d_Mo_bit_45 rfl (lv_at hl 0 rfl) ?_
    refine va_get (D := G.1) (ci := 9) (v := .int v2) (C := R_Mo) (T := F_Mo) (N := 24) hx hb hts i_Mo hown hK hP 0 rfl rfl 12 (by decide) (hts _ q487) (fun _ h9 => h9) rfl d_Mo_bit_46 ?_
    refine lv_iconst (v := 1) hx hb d_Mo_bit_49 (by decide) ?_
    refine lv_isub hx hb d_Mo_bit_50 ?_
    refine lv_bipush (v := 8) hx hb d_Mo_bit_51 (by decide) ?_
    refine lv_irem hx hb d_Mo_bit_53 (by decide) ?_
    refine lv_iushr (v := us (f1 ((v2 - 1) / 8).toNatClampNeg) (irm (v2 - 1) 8)) hx hb d_Mo_bit_54 rfl ?_
    refine lv_iconst (v := 1) hx hb d_Mo_bit_55 (by decide) ?_
    refine lv_iand hx hb d_Mo_bit_56 ?_
    have eV := so1 h
    subst eV
    exact x_iret C0 hQ hP hD hS rfl (Nat.zero_le _) (Nat.zero_le _) d_Mo_bit_57
  · replace h := (if_neg cq1).symm.trans h
    refine lv_aload_n hx hb d_Mo_bit_14 rfl (lv_at hl 0 rfl) ?_
    refine lv_iconst (v := 1) hx hb d_Mo_bit_15 (by decide) ?_
    refine va_put (D := G.1) (ci := 9) (v := .int 1) (ty := .boolean) (C := R_Mo) (T := F_Mo) (N := 24) hx hb hts i_Mo t_Mo t_Mo_ok n_Mo hown hK hP hD hS 0 rfl rfl 16 (by decide) (hts _ q488) (fun _ h9 => h9) rfl (by decide +kernel) rfl rfl (Nat.le_of_ble_eq_true rfl) d_Mo_bit_16 (fun H locs hP hD hS => ?_)
    have hP : va_P G.1 classes [(a0, .inr (9, [.ref a1, .ref o0_1, .ref o0_2, .int x0_3, .int x0_4, .int x0_5, .int x0_6, .int x0_7, .int x0_8, .int x0_9, .int x0_10, .int x0_11, .int x0_12, .int x0_13, .int x0_14, .int x0_15, .int 1, .ref o0_17, .ref o0_18, .ref o0_19, .ref o0_20, .ref o0_21, .ref o0_22, .ref o0_23])), (a1, .inl (G.2.1 0, n1, .inl f1))] H := hP
    have hD : va_D A [(a0, .inr (9, [.ref a1, .ref o0_1, .ref o0_2, .int x0_3, .int x0_4, .int x0_5, .int x0_6, .int x0_7, .int x0_8, .int x0_9, .int x0_10, .int x0_11, .int x0_12, .int x0_13, .int x0_14, .int x0_15, .int 1, .ref o0_17, .ref o0_18, .ref o0_19, .ref o0_20, .ref o0_21, .ref o0_22, .ref o0_23])), (a1, .inl (G.2.1 0, n1, .inl f1))] := hD
    refine lv_iconst (v := 0) hx hb d_Mo_bit_19 (by decide) ?_
    have eV := so1 h
    subst eV
    exact x_iret C0 hQ hP hD hS rfl (Nat.zero_le _) (Nat.zero_le _) d_Mo_bit_20
set_option maxHeartbeats 4000000 in
set_option maxRecDepth 100000 in
theorem w_Mo_number_4 {p : Program} {l : Launch} {e : Env} {R : Room} {s : State} {m : MethodId} {args : Array Value} {below : List Frame} {meth : Method} {c : Code} {Q : State → Prop} {G : GX} {A : Nat → Prop} (C0 : Cx p s m args meth c b_Mo_number 4 y_Mo_number (some .int)) (hRf : 1 ≤ R.frames) (hRl : 20 ≤ R.locals) (hA : ∀ q, s.heap.size ≤ q → A q) (hK : KX G s) (hT : TX G A s) (N : Nat) (i1 : Int32) (y0_3 : Int32) (y0_4 : Int32) (y0_5 : Int32) (y0_6 : Int32) (y0_7 : Int32) (y0_8 : Int32) (y0_9 : Int32) (y0_10 : Int32) (y0_11 : Int32) (y0_13 : Int32) (y0_14 : Int32) (y0_15 : Int32) (m1 : Nat) (g_1 : (Nat → Int32)) (c0 c1 u0_1 u0_2 u0_17 u0_18 u0_19 u0_20 u0_21 u0_22 u0_23 : Nat) (out : Int32 × Int32 × Int32) {kc ks : Nat} (hkc : kc ≤ R.cells) (hks : ks ≤ R.slots)
    (kx24 : ∀ (H : Heap) (locs : List Loc) (ls : Array Slot), va_P G.1 classes [(c0, .inr (9, [.ref c1, .ref u0_1, .ref u0_2, .int y0_3, .int y0_4, .int y0_5, .int y0_6, .int y0_7, .int y0_8, .int y0_9, .int y0_10, .int y0_11, .int out.2.1, .int y0_13, .int y0_14, .int y0_15, .int out.2.2, .ref u0_17, .ref u0_18, .ref u0_19, .ref u0_20, .ref u0_21, .ref u0_22, .ref u0_23])), (c1, .inl (G.2.1 0, m1, .inl g_1))] H → va_D A [(c0, .inr (9, [.ref c1, .ref u0_1, .ref u0_2, .int y0_3, .int y0_4, .int y0_5, .int y0_6, .int y0_7, .int y0_8, .int y0_9, .int y0_10, .int y0_11, .int out.2.1, .int y0_13, .int y0_14, .int y0_15, .int out.2.2, .ref u0_17, .ref u0_18, .ref u0_19, .ref u0_20, .ref u0_21, .ref u0_22, .ref u0_23])), (c1, .inl (G.2.1 0, m1, .inl g_1))] → va_S A s.heap H locs → lv_has ls 4 [(2, .int out.1)] → W p l e R s m args below meth c H locs kc ks Q (F0 m 24 ls [])) :
    ∀ (n : Nat) (i2 : Int32) (i3 : Int32) (y0_12 : Int32) (y0_16 : Int32) (H : Heap) (locs : List Loc) (ls : Array Slot), lp_Mo_number_4 N i1 y0_3 m1 g_1 n i2 i3 y0_12 y0_16 = some out → va_P G.1 classes [(c0, .inr (9, [.ref c1, .ref u0_1, .ref u0_2, .int y0_3, .int y0_4, .int y0_5, .int y0_6, .int y0_7, .int y0_8, .int y0_9, .int y0_10, .int y0_11, .int y0_12, .int y0_13, .int y0_14, .int y0_15, .int y0_16, .ref u0_17, .ref u0_18, .ref u0_19, .ref u0_20, .ref u0_21, .ref u0_22, .ref u0_23])), (c1, .inl (G.2.1 0, m1, .inl g_1))] H → va_D A [(c0, .inr (9, [.ref c1, .ref u0_1, .ref u0_2, .int y0_3, .int y0_4, .int y0_5, .int y0_6, .int y0_7, .int y0_8, .int y0_9, .int y0_10, .int y0_11, .int y0_12, .int y0_13, .int y0_14, .int y0_15, .int y0_16, .ref u0_17, .ref u0_18, .ref u0_19, .ref u0_20, .ref u0_21, .ref u0_22, .ref u0_23])), (c1, .inl (G.2.1 0, m1, .inl g_1))] → va_S A s.heap H locs → lv_has ls 4 [(0, .ref c0), (1, .int i1), (2, .int i2), (3, .int i3)] → W p l e R s m args below meth c H locs kc ks Q (F0 m 4 ls []) := by
  obtain ⟨hx, hb, hml, hown, hts, hr, hlocks, hin⟩ := id C0
  have hown : s.vm.findClass R_Mo = some m.cls := hown
  intro n
  induction n with
  | zero => intro i2 i3 y0_12 y0_16 H locs ls h; cases h
  | succ n ih =>
    intro i2 i3 y0_12 y0_16 H locs ls h hP hD hS hl
    replace h : lb_Mo_number_4 N i1 y0_3 m1 g_1 (lp_Mo_number_4 N i1 y0_3 m1 g_1 n) i2 i3 y0_12 y0_16 = some out := h
    unfold lb_Mo_number_4 at h
    refine lv_iload_n hx hb d_Mo_number_4 rfl (lv_at hl 3 rfl) ?_
    refine lv_iload_n hx hb d_Mo_number_5 rfl (lv_at hl 1 rfl) ?_
    refine lv_icmp_ge (tgt := 24) hx hb d_Mo_number_6 (by decide) (fun cq5 => ?_) (fun cq5 => ?_)
    · replace h := (if_pos cq5).symm.trans h
      have eV := so1 h
      subst eV
      exact kx24 _ _ _ hP hD hS (lv_sub hl [2] rfl)
    · replace h := (if_neg cq5).symm.trans h
      refine lv_iload_n hx hb d_Mo_number_9 rfl (lv_at hl 2 rfl) ?_
      refine lv_aload_n hx hb d_Mo_number_10 rfl (lv_at hl 0 rfl) ?_
      obtain ⟨r6, hc6, h⟩ := Bd_e h
      refine xV_i0 (wr := []) (rest := [.int i2]) C0 hK hT hA hP hD hS hl.1 (c_Mo_bit l G c0 c1 u0_1 u0_2 u0_17 u0_18 u0_19 u0_20 u0_21 u0_22 u0_23 _ y0_3 y0_4 y0_5 y0_6 y0_7 y0_8 y0_9 y0_10 y0_11 y0_12 y0_13 y0_14 y0_15 y0_16 m1 g_1  N r6 hc6) (goodV q489 q490 q491 q439 q492) 0 rfl hd_Mo_bit (Nat.le_trans (by decide) hRf) (Nat.le_trans (by decide) hRl) [0, 1] [] rfl rfl (by decide) (by decide) (by decide) 9 0 rfl rfl rfl (Nat.le_of_ble_eq_true rfl) d_Mo_number_11 hkc hks (fun w1 H locs hE hP hD hS => ?_)
      subst hE
      have hP : va_P G.1 classes [(c0, .inr (9, [.ref c1, .ref u0_1, .ref u0_2, .int y0_3, .int y0_4, .int y0_5, .int y0_6, .int y0_7, .int y0_8, .int y0_9, .int y0_10, .int y0_11, .int r6.2.1, .int y0_13, .int y0_14, .int y0_15, .int r6.2.2, .ref u0_17, .ref u0_18, .ref u0_19, .ref u0_20, .ref u0_21, .ref u0_22, .ref u0_23])), (c1, .inl (G.2.1 0, m1, .inl g_1))] H := hP
      have hD : va_D A [(c0, .inr (9, [.ref c1, .ref u0_1, .ref u0_2, .int y0_3, .int y0_4, .int y0_5, .int y0_6, .int y0_7, .int y0_8, .int y0_9, .int y0_10, .int y0_11, .int r6.2.1, .int y0_13, .int y0_14, .int y0_15, .int r6.2.2, .ref u0_17, .ref u0_18, .ref u0_19, .ref u0_20, .ref u0_21, .ref u0_22, .ref u0_23])), (c1, .inl (G.2.1 0, m1, .inl g_1))] := hD
      refine lv_iload_n hx hb d_Mo_number_14 rfl (lv_at hl 3 rfl) ?_
      refine lv_ishl hx hb d_Mo_number_15 ?_
      refine lv_ior hx hb d_Mo_number_16 ?_
      refine lv_topi (fun v7 ev7 => ?_)
      replace h := Lt_e h ev7
      refine lv_istore_n (lv' := [(2, .int v7), (0, .ref c0), (1, .int i1), (3, .int i3)]) hx hb d_Mo_number_17 rfl hl (by decide) rfl (fun ls hl => ?_)
      obtain ⟨v8, ev8⟩ : ∃ y : Int32, y = i3 + 1 := ⟨_, rfl⟩
      replace h := Lt_e h ev8
      refine lv_iinc (v := v8) (lv' := [(3, .int v8), (2, .int v7), (0, .ref c0), (1, .int i1)]) hx hb d_Mo_number_18 hl (k := 3) rfl (by rw [ev8]; rfl) (by decide) rfl (fun ls hl => ?_)
      refine lv_goto (tgt := 4) hx hb d_Mo_number_21 (by decide) ?_
      exact ih v7 v8 r6.2.1 r6.2.2  _ _ _ h hP hD hS (lv_sub hl [2, 3, 1, 0] rfl)
set_option maxHeartbeats 4000000 in
set_option maxRecDepth 100000 in
theorem c_Mo_number (l : Launch) (G : GX) (a0 a1 o0_1 o0_2 o0_17 o0_18 o0_19 o0_20 o0_21 o0_22 o0_23 : Nat) (sz : Nat) (x0_3 : Int32) (x0_4 : Int32) (x0_5 : Int32) (x0_6 : Int32) (x0_7 : Int32) (x0_8 : Int32) (x0_9 : Int32) (x0_10 : Int32) (x0_11 : Int32) (x0_12 : Int32) (x0_13 : Int32) (x0_14 : Int32) (x0_15 : Int32) (x0_16 : Int32) (n1 : Nat) (f1 : (Nat → Int32)) (p1 : Int32) (N : Nat) (V : Int32 × Int32 × Int32) (h : f_Mo_number N x0_3 x0_12 x0_16 n1 f1 p1 = some V) :
    Met l y_Mo_number (wd y_Mo_number b_Mo_number 4 (some .int)) { frames := 1, cells := 0, slots := 0, locals := 20 } (PX G [.ref a0, .int p1] sz [(a0, .inr (9, [.ref a1, .ref o0_1, .ref o0_2, .int x0_3, .int x0_4, .int x0_5, .int x0_6, .int x0_7, .int x0_8, .int x0_9, .int x0_10, .int x0_11, .int x0_12, .int x0_13, .int x0_14, .int x0_15, .int x0_16, .ref o0_17, .ref o0_18, .ref o0_19, .ref o0_20, .ref o0_21, .ref o0_22, .ref o0_23])), (a1, .inl (G.2.1 0, n1, .inl f1))])
      (QXi G V.1 (fun w => w = [(a0, .inr (9, [.ref a1, .ref o0_1, .ref o0_2, .int x0_3, .int x0_4, .int x0_5, .int x0_6, .int x0_7, .int x0_8, .int x0_9, .int x0_10, .int x0_11, .int V.2.1, .int x0_13, .int x0_14, .int x0_15, .int V.2.2, .ref o0_17, .ref o0_18, .ref o0_19, .ref o0_20, .ref o0_21, .ref o0_22, .ref o0_23])), (a1, .inl (G.2.1 0, n1, .inl f1))]) (va_A [(a0, .inr (9, [.ref a1, .ref o0_1, .ref o0_2, .int x0_3, .int x0_4, .int x0_5, .int x0_6, .int x0_7, .int x0_8, .int x0_9, .int x0_10, .int x0_11, .int x0_12, .int x0_13, .int x0_14, .int x0_15, .int x0_16, .ref o0_17, .ref o0_18, .ref o0_19, .ref o0_20, .ref o0_21, .ref o0_22, .ref o0_23])), (a1, .inl (G.2.1 0, n1, .inl f1))] sz)) 0 0 (va_A [(a0, .inr (9, [.ref a1, .ref o0_1, .ref o0_2, .int x0_3, .int x0_4, .int x0_5, .int x0_6, .int x0_7, .int x0_8, .int x0_9, .int x0_10, .int x0_11, .int x0_12, .int x0_13, .int x0_14, .int x0_15, .int x0_16, .ref o0_17, .ref o0_18, .ref o0_19, .ref o0_20, .ref o0_21, .ref o0_22, .ref o0_23])), (a1, .inl (G.2.1 0, n1, .inl f1))] sz) := by
  refine Met_in (QQ := fun A => QXi G V.1 (fun w => w = [(a0, .inr (9, [.ref a1, .ref o0_1, .ref o0_2, .int x0_3, .int x0_4, .int x0_5, .int x0_6, .int x0_7, .int x0_8, .int x0_9, .int x0_10, .int x0_11, .int V.2.1, .int x0_13, .int x0_14, .int x0_15, .int V.2.2, .ref o0_17, .ref o0_18, .ref o0_19, .ref o0_20, .ref o0_21, .ref o0_22, .ref o0_23])), (a1, .inl (G.2.1 0, n1, .inl f1))]) A) (by decide) (Nat.le_of_ble_eq_true rfl) (fun p e s m below meth c R Q A ls C0 hRf hRl hRc hRs hP hK hD hT hA hS hl hQ => ?_)
  obtain ⟨hx, hb, hml, hown, hts, hr, hlocks, hin⟩ := id C0
  have hown : s.vm.findClass R_Mo = some m.cls := hown
  have hl : lv_has ls 4 [(0, .ref a0), (1, .int p1)] := hl
  unfold f_Mo_number at h
  have hkc : 0 ≤ R.cells := Nat.zero_le _
  have hks : 0 ≤ R.slots := Nat.zero_le _
  obtain ⟨H, hH⟩ : ∃ H, H = s.heap := ⟨_, rfl⟩
  obtain ⟨locs, hlc⟩ : ∃ x : List Loc, x = [] := ⟨_, rfl⟩
  rw [← hH] at hP
  have hS : va_S A s.heap H locs := by rw [hH, hlc]; exact hS
  suffices hgo : W p l e R s m [.ref a0, .int p1].toArray below meth c H locs 0 0 Q (F0 m 0 ls []) by rw [hH, hlc] at hgo; exact hgo
  refine lv_iconst (v := 0) hx hb d_Mo_number_0 (by decide) ?_
  refine lv_istore_n (lv' := [(2, .int 0), (0, .ref a0), (1, .int p1)]) hx hb d_Mo_number_1 rfl hl (by decide) rfl (fun ls hl => ?_)
  refine lv_iconst (v := 0) hx hb d_Mo_number_2 (by decide) ?_
  refine lv_istore_n (lv' := [(3, .int 0), (2, .int 0), (0, .ref a0), (1, .int p1)]) hx hb d_Mo_number_3 rfl hl (by decide) rfl (fun ls hl => ?_)
  obtain ⟨r9, hc9, h⟩ := Bd_e h
  refine w_Mo_number_4 C0 hRf hRl hA hK hT N p1 x0_3 x0_4 x0_5 x0_6 x0_7 x0_8 x0_9 x0_10 x0_11 x0_13 x0_14 x0_15 n1 f1 a0 a1 o0_1 o0_2 o0_17 o0_18 o0_19 o0_20 o0_21 o0_22 o0_23 r9 (kc := 0) (ks := 0) hkc hks ?_ N 0 0 x0_12 x0_16  _ _ _ hc9 hP hD hS (lv_sub hl [2, 3, 1, 0] rfl)
  · intro H locs ls hP hD hS hl
    refine lv_iload_n hx hb d_Mo_number_24 rfl (lv_at hl 0 rfl) ?_
    have eV := so1 h
    subst eV
    exact x_iret C0 hQ hP hD hS rfl (Nat.zero_le _) (Nat.zero_le _) d_Mo_number_25
