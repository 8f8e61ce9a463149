set_option maxHeartbeats 4000000 in
set_option maxRecDepth 100000 in
theorem w_Mo_turn_22 {p : Program} {l : Launch} {e : Env} {R : Room} {s : State} {m : MethodId} {args : Array Value} {below : List Frame} {meth : Method} {c : Code} {Q : State → Prop} {G : GX} {A : Nat → Prop} (C0 : Cx p s m args meth c b_Mo_turn 2 y_Mo_turn (some .int)) (hRf : 1 ≤ R.frames) (hRl : 21 ≤ R.locals) (hA : ∀ q, s.heap.size ≤ q → A q) (hK : KX G s) (hT : TX G A s) (N : Nat) (y0_3 : Int32) (y0_4 : Int32) (y0_5 : Int32) (y0_6 : Int32) (y0_7 : Int32) (y0_8 : Int32) (y0_9 : Int32) (y0_10 : Int32) (y0_11 : Int32) (y0_12 : Int32) (y0_13 : Int32) (y0_14 : Int32) (y0_15 : Int32) (y0_16 : Int32) (m1 : Nat) (m2 : Nat) (g_2 : (Nat → Int32)) (c0 c1 c2 u0_2 u0_17 u0_18 u0_19 u0_20 u0_21 u0_22 u0_23 : Nat) (out : (Nat → Int32)) {kc ks : Nat} (hkc : kc ≤ R.cells) (hks : ks ≤ R.slots)
    (kx48 : ∀ (H : Heap) (locs : List Loc) (ls : Array Slot), va_P G.1 classes [(c0, .inr (9, [.ref c1, .ref c2, .ref u0_2, .int y0_3, .int y0_4, .int y0_5, .int y0_6, .int y0_7, .int y0_8, .int y0_9, .int y0_10, .int y0_11, .int y0_12, .int y0_13, .int y0_14, .int y0_15, .int y0_16, .ref u0_17, .ref u0_18, .ref u0_19, .ref u0_20, .ref u0_21, .ref u0_22, .ref u0_23])), (c1, .inl (G.2.1 0, m1, .inl out)), (c2, .inl (G.2.1 0, m2, .inl g_2))] H → va_D A [(c0, .inr (9, [.ref c1, .ref c2, .ref u0_2, .int y0_3, .int y0_4, .int y0_5, .int y0_6, .int y0_7, .int y0_8, .int y0_9, .int y0_10, .int y0_11, .int y0_12, .int y0_13, .int y0_14, .int y0_15, .int y0_16, .ref u0_17, .ref u0_18, .ref u0_19, .ref u0_20, .ref u0_21, .ref u0_22, .ref u0_23])), (c1, .inl (G.2.1 0, m1, .inl out)), (c2, .inl (G.2.1 0, m2, .inl g_2))] → va_S A s.heap H locs → lv_has ls 2 [(0, .ref c0)] → W p l e R s m args below meth c H locs kc ks Q (F0 m 48 ls [])) :
    ∀ (n : Nat) (i1 : Int32) (g_1 : (Nat → Int32)) (H : Heap) (locs : List Loc) (ls : Array Slot), lp_Mo_turn_22 N y0_4 m1 m2 g_2 n i1 g_1 = some out → va_P G.1 classes [(c0, .inr (9, [.ref c1, .ref c2, .ref u0_2, .int y0_3, .int y0_4, .int y0_5, .int y0_6, .int y0_7, .int y0_8, .int y0_9, .int y0_10, .int y0_11, .int y0_12, .int y0_13, .int y0_14, .int y0_15, .int y0_16, .ref u0_17, .ref u0_18, .ref u0_19, .ref u0_20, .ref u0_21, .ref u0_22, .ref u0_23])), (c1, .inl (G.2.1 0, m1, .inl g_1)), (c2, .inl (G.2.1 0, m2, .inl g_2))] H → va_D A [(c0, .inr (9, [.ref c1, .ref c2, .ref u0_2, .int y0_3, .int y0_4, .int y0_5, .int y0_6, .int y0_7, .int y0_8, .int y0_9, .int y0_10, .int y0_11, .int y0_12, .int y0_13, .int y0_14, .int y0_15, .int y0_16, .ref u0_17, .ref u0_18, .ref u0_19, .ref u0_20, .ref u0_21, .ref u0_22, .ref u0_23])), (c1, .inl (G.2.1 0, m1, .inl g_1)), (c2, .inl (G.2.1 0, m2, .inl g_2))] → va_S A s.heap H locs → lv_has ls 2 [(0, .ref c0), (1, .int i1)] → W p l e R s m args below meth c H locs kc ks Q (F0 m 22 ls []) := by
  obtain ⟨hx, hb, hml, hown, hts, hr, hlocks, hin⟩ := id C0
  have hown : s.vm.findClass R_Mo = some m.cls := hown
  intro n
  induction n with
  | zero => intro i1 g_1 H locs ls h; cases h
  | succ n ih =>
    intro i1 g_1 H locs ls h hP hD hS hl
    replace h : lb_Mo_turn_22 N y0_4 m1 m2 g_2 (lp_Mo_turn_22 N y0_4 m1 m2 g_2 n) i1 g_1 = some out := h
    unfold lb_Mo_turn_22 at h
    refine lv_iload_n hx hb d_Mo_turn_22 rfl (lv_at hl 1 rfl) ?_
    refine lv_aload_n hx hb d_Mo_turn_23 rfl (lv_at hl 0 rfl) ?_
    refine va_get (D := G.1) (ci := 9) (v := .int y0_4) (C := R_Mo) (T := F_Mo) (N := 24) hx hb hts i_Mo hown hK hP 0 rfl rfl 4 (by decide) (hts _ q482) (fun _ h9 => h9) rfl d_Mo_turn_24 ?_
    refine lv_icmp_ge (tgt := 48) hx hb d_Mo_turn_27 (by decide) (fun cq7 => ?_) (fun cq7 => ?_)
    · replace h := (if_pos cq7).symm.trans h
      have eV := so1 h
      subst eV
      exact kx48 _ _ _ hP hD hS (lv_sub hl [0] rfl)
    · replace h := (if_neg cq7).symm.trans h
      refine lv_aload_n hx hb d_Mo_turn_30 rfl (lv_at hl 0 rfl) ?_
      refine va_get (D := G.1) (ci := 9) (v := .ref c1) (C := R_Mo) (T := F_Mo) (N := 24) hx hb hts i_Mo hown hK hP 0 rfl rfl 0 (by decide) (hts _ q423) (fun _ h9 => h9) rfl d_Mo_turn_31 ?_
      refine lv_iload_n hx hb d_Mo_turn_34 rfl (lv_at hl 1 rfl) ?_
      refine lv_aload_n hx hb d_Mo_turn_35 rfl (lv_at hl 0 rfl) ?_
      refine va_get (D := G.1) (ci := 9) (v := .ref c2) (C := R_Mo) (T := F_Mo) (N := 24) hx hb hts i_Mo hown hK hP 0 rfl rfl 1 (by decide) (hts _ q425) (fun _ h9 => h9) rfl d_Mo_turn_36 ?_
      refine lv_iload_n hx hb d_Mo_turn_39 rfl (lv_at hl 1 rfl) ?_
      obtain ⟨hi8, h⟩ := Ix_e h
      refine va_bald hx hb hK hP 2 0 rfl rfl hi8 d_Mo_turn_40 ?_
      obtain ⟨hi9, h⟩ := Ix_e h
      refine y_bast hx hb hK hP hD hS 1 0 rfl rfl hi9 d_Mo_turn_41 (fun g10 H locs eg10 hP hD hS => ?_)
      replace h := Lt_e h eg10
      have hP : va_P G.1 classes [(c0, .inr (9, [.ref c1, .ref c2, .ref u0_2, .int y0_3, .int y0_4, .int y0_5, .int y0_6, .int y0_7, .int y0_8, .int y0_9, .int y0_10, .int y0_11, .int y0_12, .int y0_13, .int y0_14, .int y0_15, .int y0_16, .ref u0_17, .ref u0_18, .ref u0_19, .ref u0_20, .ref u0_21, .ref u0_22, .ref u0_23])), (c1, .inl (G.2.1 0, m1, .inl g10)), (c2, .inl (G.2.1 0, m2, .inl g_2))] H := hP
      have hD : va_D A [(c0, .inr (9, [.ref c1, .ref c2, .ref u0_2, .int y0_3, .int y0_4, .int y0_5, .int y0_6, .int y0_7, .int y0_8, .int y0_9, .int y0_10, .int y0_11, .int y0_12, .int y0_13, .int y0_14, .int y0_15, .int y0_16, .ref u0_17, .ref u0_18, .ref u0_19, .ref u0_20, .ref u0_21, .ref u0_22, .ref u0_23])), (c1, .inl (G.2.1 0, m1, .inl g10)), (c2, .inl (G.2.1 0, m2, .inl g_2))] := hD
      obtain ⟨v11, ev11⟩ : ∃ y : Int32, y = i1 + 1 := ⟨_, rfl⟩
      replace h := Lt_e h ev11
      refine lv_iinc (v := v11) (lv' := [(1, .int v11), (0, .ref c0)]) hx hb d_Mo_turn_42 hl (k := 1) rfl (by rw [ev11]; rfl) (by decide) rfl (fun ls hl => ?_)
      refine lv_goto (tgt := 22) hx hb d_Mo_turn_45 (by decide) ?_
      exact ih v11 g10  _ _ _ h hP hD hS (lv_sub hl [1, 0] rfl)
set_option maxHeartbeats 4000000 in
set_option maxRecDepth 100000 in
theorem c_Mo_turn (l : Launch) (G : GX) (a0 a1 a2 o0_2 o0_17 o0_18 o0_19 o0_20 o0_21 o0_22 o0_23 : Nat) (sz : Nat) (x0_3 : Int32) (x0_4 : Int32) (x0_5 : Int32) (x0_6 : Int32) (x0_7 : Int32) (x0_8 : Int32) (x0_9 : Int32) (x0_10 : Int32) (x0_11 : Int32) (x0_12 : Int32) (x0_13 : Int32) (x0_14 : Int32) (x0_15 : Int32) (x0_16 : Int32) (n1 : Nat) (f1 : (Nat → Int32)) (n2 : Nat) (f2 : (Nat → Int32))  (N : Nat) (V : Int32 × Int32 × Int32 × (Nat → Int32)) (h : f_Mo_turn N x0_3 x0_4 n1 f1 n2 f2 = some V) :
    Met l y_Mo_turn (wd y_Mo_turn b_Mo_turn 2 (some .int)) { frames := 1, cells := 0, slots := 0, locals := 21 } (PX G [.ref a0] sz [(a0, .inr (9, [.ref a2, .ref a1, .ref o0_2, .int x0_3, .int x0_4, .int x0_5, .int x0_6, .int x0_7, .int x0_8, .int x0_9, .int x0_10, .int x0_11, .int x0_12, .int x0_13, .int x0_14, .int x0_15, .int x0_16, .ref o0_17, .ref o0_18, .ref o0_19, .ref o0_20, .ref o0_21, .ref o0_22, .ref o0_23])), (a1, .inl (G.2.1 0, n1, .inl f1)), (a2, .inl (G.2.1 0, n2, .inl f2))])
      (QXi G V.1 (fun w => w = [(a0, .inr (9, [.ref a2, .ref a1, .ref o0_2, .int V.2.1, .int x0_4, .int x0_5, .int x0_6, .int x0_7, .int x0_8, .int x0_9, .int V.2.2.1, .int x0_11, .int x0_12, .int x0_13, .int x0_14, .int x0_15, .int x0_16, .ref o0_17, .ref o0_18, .ref o0_19, .ref o0_20, .ref o0_21, .ref o0_22, .ref o0_23])), (a1, .inl (G.2.1 0, n1, .inl f1)), (a2, .inl (G.2.1 0, n2, .inl V.2.2.2))]) (va_A [(a0, .inr (9, [.ref a2, .ref a1, .ref o0_2, .int x0_3, .int x0_4, .int x0_5, .int x0_6, .int x0_7, .int x0_8, .int x0_9, .int x0_10, .int x0_11, .int x0_12, .int x0_13, .int x0_14, .int x0_15, .int x0_16, .ref o0_17, .ref o0_18, .ref o0_19, .ref o0_20, .ref o0_21, .ref o0_22, .ref o0_23])), (a1, .inl (G.2.1 0, n1, .inl f1)), (a2, .inl (G.2.1 0, n2, .inl f2))] sz)) 0 0 (va_A [(a0, .inr (9, [.ref a2, .ref a1, .ref o0_2, .int x0_3, .int x0_4, .int x0_5, .int x0_6, .int x0_7, .int x0_8, .int x0_9, .int x0_10, .int x0_11, .int x0_12, .int x0_13, .int x0_14, .int x0_15, .int x0_16, .ref o0_17, .ref o0_18, .ref o0_19, .ref o0_20, .ref o0_21, .ref o0_22, .ref o0_23])), (a1, .inl (G.2.1 0, n1, .inl f1)), (a2, .inl (G.2.1 0, n2, .inl f2))] sz) := by
  refine Met_in (QQ := fun A => QXi G V.1 (fun w => w = [(a0, .inr (9, [.ref a2, .ref a1, .ref o0_2, .int V.2.1, .int x0_4, .int x0_5, .int x0_6, .int x0_7, .int x0_8, .int x0_9, .int V.2.2.1, .int x0_11, .int x0_12, .int x0_13, .int x0_14, .int x0_15, .int x0_16, .ref o0_17, .ref o0_18, .ref o0_19, .ref o0_20, .ref o0_21, .ref o0_22, .ref o0_23])), (a1, .inl (G.2.1 0, n1, .inl f1)), (a2, .inl (G.2.1 0, n2, .inl V.2.2.2))]) A) (by decide) (Nat.le_of_ble_eq_true rfl) (fun p e s m below meth c R Q A ls C0 hRf hRl hRc hRs hP hK hD hT hA hS hl hQ => ?_)
  obtain ⟨hx, hb, hml, hown, hts, hr, hlocks, hin⟩ := id C0
  have hown : s.vm.findClass R_Mo = some m.cls := hown
  have hl : lv_has ls 2 [(0, .ref a0)] := hl
  unfold f_Mo_turn at h
  have hkc : 0 ≤ R.cells := Nat.zero_le _
  have hks : 0 ≤ R.slots := Nat.zero_le _
  obtain ⟨H, hH⟩ : ∃ H, H = s.heap := ⟨_, rfl⟩
  obtain ⟨locs, hlc⟩ : ∃ x : List Loc, x = [] := ⟨_, rfl⟩
  rw [← hH] at hP
  have hS : va_S A s.heap H locs := by rw [hH, hlc]; exact hS
  suffices hgo : W p l e R s m [.ref a0].toArray below meth c H locs 0 0 Q (F0 m 0 ls []) by rw [hH, hlc] at hgo; exact hgo
  refine lv_aload_n hx hb d_Mo_turn_0 rfl (lv_at hl 0 rfl) ?_
  refine lv_iconst (v := 0) hx hb d_Mo_turn_1 (by decide) ?_
  refine va_put (D := G.1) (ci := 9) (v := .int 0) (ty := .int) (C := R_Mo) (T := F_Mo) (N := 24) hx hb hts i_Mo t_Mo t_Mo_ok n_Mo hown hK hP hD hS 0 rfl rfl 10 (by decide) (hts _ q434) (fun _ h9 => h9) rfl (by decide +kernel) rfl rfl (Nat.le_of_ble_eq_true rfl) d_Mo_turn_2 (fun H locs hP hD hS => ?_)
  have hP : va_P G.1 classes [(a0, .inr (9, [.ref a2, .ref a1, .ref o0_2, .int x0_3, .int x0_4, .int x0_5, .int x0_6, .int x0_7, .int x0_8, .int x0_9, .int 0, .int x0_11, .int x0_12, .int x0_13, .int x0_14, .int x0_15, .int x0_16, .ref o0_17, .ref o0_18, .ref o0_19, .ref o0_20, .ref o0_21, .ref o0_22, .ref o0_23])), (a1, .inl (G.2.1 0, n1, .inl f1)), (a2, .inl (G.2.1 0, n2, .inl f2))] H := hP
  have hD : va_D A [(a0, .inr (9, [.ref a2, .ref a1, .ref o0_2, .int x0_3, .int x0_4, .int x0_5, .int x0_6, .int x0_7, .int x0_8, .int x0_9, .int 0, .int x0_11, .int x0_12, .int x0_13, .int x0_14, .int x0_15, .int x0_16, .ref o0_17, .ref o0_18, .ref o0_19, .ref o0_20, .ref o0_21, .ref o0_22, .ref o0_23])), (a1, .inl (G.2.1 0, n1, .inl f1)), (a2, .inl (G.2.1 0, n2, .inl f2))] := hD
  refine lv_aload_n hx hb d_Mo_turn_5 rfl (lv_at hl 0 rfl) ?_
  refine va_get (D := G.1) (ci := 9) (v := .int x0_4) (C := R_Mo) (T := F_Mo) (N := 24) hx hb hts i_Mo hown hK hP 0 rfl rfl 4 (by decide) (hts _ q482) (fun _ h9 => h9) rfl d_Mo_turn_6 ?_
  refine lv_ldc (v := 65536) hx hb hown (hts _ q422) d_Mo_turn_9 ?_
  refine lv_icmp_le (tgt := 20) hx hb d_Mo_turn_11 (by decide) (fun cq1 => ?_) (fun cq1 => ?_)
  · replace h := (if_pos cq1).symm.trans h
    refine lv_iconst (v := 0) hx hb d_Mo_turn_20 (by decide) ?_
    refine lv_istore_n (lv' := [(1, .int 0), (0, .ref a0)]) hx hb d_Mo_turn_21 rfl hl (by decide) rfl (fun ls hl => ?_)
    obtain ⟨r12, hc12, h⟩ := Bd_e h
    refine w_Mo_turn_22 C0 hRf hRl hA hK hT N x0_3 x0_4 x0_5 x0_6 x0_7 x0_8 x0_9 0 x0_11 x0_12 x0_13 x0_14 x0_15 x0_16 n2 n1 f1 a0 a2 a1 o0_2 o0_17 o0_18 o0_19 o0_20 o0_21 o0_22 o0_23 r12 (kc := 0) (ks := 0) hkc hks ?_ N 0 f2  _ _ _ hc12 (hP.sub (ws' := [(a0, .inr (9, [.ref a2, .ref a1, .ref o0_2, .int x0_3, .int x0_4, .int x0_5, .int x0_6, .int x0_7, .int x0_8, .int x0_9, .int 0, .int x0_11, .int x0_12, .int x0_13, .int x0_14, .int x0_15, .int x0_16, .ref o0_17, .ref o0_18, .ref o0_19, .ref o0_20, .ref o0_21, .ref o0_22, .ref o0_23])), (a2, .inl (G.2.1 0, n2, .inl f2)), (a1, .inl (G.2.1 0, n1, .inl f1))]) [0, 2, 1] rfl) (hD.sub (ws' := [(a0, .inr (9, [.ref a2, .ref a1, .ref o0_2, .int x0_3, .int x0_4, .int x0_5, .int x0_6, .int x0_7, .int x0_8, .int x0_9, .int 0, .int x0_11, .int x0_12, .int x0_13, .int x0_14, .int x0_15, .int x0_16, .ref o0_17, .ref o0_18, .ref o0_19, .ref o0_20, .ref o0_21, .ref o0_22, .ref o0_23])), (a2, .inl (G.2.1 0, n2, .inl f2)), (a1, .inl (G.2.1 0, n1, .inl f1))]) [0, 2, 1] (by decide) rfl) hS (lv_sub hl [1, 0] rfl)
    · intro H locs ls hP hD hS hl
      refine lv_aload_n hx hb d_Mo_turn_48 rfl (lv_at hl 0 rfl) ?_
      refine lv_aload_n hx hb d_Mo_turn_49 rfl (lv_at hl 0 rfl) ?_
      refine va_get (D := G.1) (ci := 9) (v := .int x0_4) (C := R_Mo) (T := F_Mo) (N := 24) hx hb hts i_Mo hown hK hP 0 rfl rfl 4 (by decide) (hts _ q482) (fun _ h9 => h9) rfl d_Mo_turn_50 ?_
      refine va_put (D := G.1) (ci := 9) (v := .int x0_4) (ty := .int) (C := R_Mo) (T := F_Mo) (N := 24) hx hb hts i_Mo t_Mo t_Mo_ok n_Mo hown hK hP hD hS 0 rfl rfl 3 (by decide) (hts _ q435) (fun _ h9 => h9) rfl (by decide +kernel) rfl rfl (Nat.le_of_ble_eq_true rfl) d_Mo_turn_53 (fun H locs hP hD hS => ?_)
      have hP : va_P G.1 classes [(a0, .inr (9, [.ref a2, .ref a1, .ref o0_2, .int x0_4, .int x0_4, .int x0_5, .int x0_6, .int x0_7, .int x0_8, .int x0_9, .int 0, .int x0_11, .int x0_12, .int x0_13, .int x0_14, .int x0_15, .int x0_16, .ref o0_17, .ref o0_18, .ref o0_19, .ref o0_20, .ref o0_21, .ref o0_22, .ref o0_23])), (a2, .inl (G.2.1 0, n2, .inl r12)), (a1, .inl (G.2.1 0, n1, .inl f1))] H := hP
      have hD : va_D A [(a0, .inr (9, [.ref a2, .ref a1, .ref o0_2, .int x0_4, .int x0_4, .int x0_5, .int x0_6, .int x0_7, .int x0_8, .int x0_9, .int 0, .int x0_11, .int x0_12, .int x0_13, .int x0_14, .int x0_15, .int x0_16, .ref o0_17, .ref o0_18, .ref o0_19, .ref o0_20, .ref o0_21, .ref o0_22, .ref o0_23])), (a2, .inl (G.2.1 0, n2, .inl r12)), (a1, .inl (G.2.1 0, n1, .inl f1))] := hD
      refine lv_aload_n hx hb d_Mo_turn_56 rfl (lv_at hl 0 rfl) ?_
      refine va_get (D := G.1) (ci := 9) (v := .int x0_4) (C := R_Mo) (T := F_Mo) (N := 24) hx hb hts i_Mo hown hK hP 0 rfl rfl 3 (by decide) (hts _ q435) (fun _ h9 => h9) rfl d_Mo_turn_57 ?_
      have eV := so1 h
      subst eV
      exact x_iret C0 hQ (hP.sub (ws' := [(a0, .inr (9, [.ref a2, .ref a1, .ref o0_2, .int x0_4, .int x0_4, .int x0_5, .int x0_6, .int x0_7, .int x0_8, .int x0_9, .int 0, .int x0_11, .int x0_12, .int x0_13, .int x0_14, .int x0_15, .int x0_16, .ref o0_17, .ref o0_18, .ref o0_19, .ref o0_20, .ref o0_21, .ref o0_22, .ref o0_23])), (a1, .inl (G.2.1 0, n1, .inl f1)), (a2, .inl (G.2.1 0, n2, .inl r12))]) [0, 2, 1] rfl) (hD.sub (ws' := [(a0, .inr (9, [.ref a2, .ref a1, .ref o0_2, .int x0_4, .int x0_4, .int x0_5, .int x0_6, .int x0_7, .int x0_8, .int x0_9, .int 0, .int x0_11, .int x0_12, .int x0_13, .int x0_14, .int x0_15, .int x0_16, .ref o0_17, .ref o0_18, .ref o0_19, .ref o0_20, .ref o0_21, .ref o0_22, .ref o0_23])), (a1, .inl (G.2.1 0, n1, .inl f1)), (a2, .inl (G.2.1 0, n2, .inl r12))]) [0, 2, 1] (by decide) rfl) hS rfl (Nat.zero_le _) (Nat.zero_le _) d_Mo_turn_60
  · replace h := (if_neg cq1).symm.trans h
    refine lv_aload_n hx hb d_Mo_turn_14 rfl (lv_at hl 0 rfl) ?_
    refine lv_iconst (v := 1) hx hb d_Mo_turn_15 (by decide) ?_
    obtain ⟨r13, hc13, h⟩ := Bd_e h
    refine xV_i0 (wr := [(a1, .inl (G.2.1 0, n1, .inl f1)), (a2, .inl (G.2.1 0, n2, .inl f2))]) (rest := []) C0 hK hT hA hP hD hS hl.1 (c_Mo_refuse l G a0 a2 a1 o0_2 o0_17 o0_18 o0_19 o0_20 o0_21 o0_22 o0_23 _ x0_3 x0_4 x0_5 x0_6 x0_7 x0_8 x0_9 0 x0_11 x0_12 x0_13 x0_14 x0_15 x0_16 1 N r13 hc13) (goodV q436 q437 q438 q439 q440) 1 rfl hd_Mo_refuse (Nat.le_trans (by decide) hRf) (Nat.le_trans (by decide) hRl) [0] [1, 2] rfl rfl (by decide) (by decide) (by decide) 9 0 rfl rfl rfl (Nat.le_of_ble_eq_true rfl) d_Mo_turn_16 hkc hks (fun w1 H locs hE hP hD hS => ?_)
    subst hE
    have hP : va_P G.1 classes [(a1, .inl (G.2.1 0, n1, .inl f1)), (a2, .inl (G.2.1 0, n2, .inl f2)), (a0, .inr (9, [.ref a2, .ref a1, .ref o0_2, .int x0_3, .int x0_4, .int x0_5, .int x0_6, .int x0_7, .int x0_8, .int x0_9, .int r13.2, .int x0_11, .int x0_12, .int x0_13, .int x0_14, .int x0_15, .int x0_16, .ref o0_17, .ref o0_18, .ref o0_19, .ref o0_20, .ref o0_21, .ref o0_22, .ref o0_23]))] H := hP
    have hD : va_D A [(a1, .inl (G.2.1 0, n1, .inl f1)), (a2, .inl (G.2.1 0, n2, .inl f2)), (a0, .inr (9, [.ref a2, .ref a1, .ref o0_2, .int x0_3, .int x0_4, .int x0_5, .int x0_6, .int x0_7, .int x0_8, .int x0_9, .int r13.2, .int x0_11, .int x0_12, .int x0_13, .int x0_14, .int x0_15, .int x0_16, .ref o0_17, .ref o0_18, .ref o0_19, .ref o0_20, .ref o0_21, .ref o0_22, .ref o0_23]))] := hD
    have eV := so1 h
    subst eV
    exact x_iret C0 hQ (hP.sub (ws' := [(a0, .inr (9, [.ref a2, .ref a1, .ref o0_2, .int x0_3, .int x0_4, .int x0_5, .int x0_6, .int x0_7, .int x0_8, .int x0_9, .int r13.2, .int x0_11, .int x0_12, .int x0_13, .int x0_14, .int x0_15, .int x0_16, .ref o0_17, .ref o0_18, .ref o0_19, .ref o0_20, .ref o0_21, .ref o0_22, .ref o0_23])), (a1, .inl (G.2.1 0, n1, .inl f1)), (a2, .inl (G.2.1 0, n2, .inl f2))]) [2, 0, 1] rfl) (hD.sub (ws' := [(a0, .inr (9, [.ref a2, .ref a1, .ref o0_2, .int x0_3, .int x0_4, .int x0_5, .int x0_6, .int x0_7, .int x0_8, .int x0_9, .int r13.2, .int x0_11, .int x0_12, .int x0_13, .int x0_14, .int x0_15, .int x0_16, .ref o0_17, .ref o0_18, .ref o0_19, .ref o0_20, .ref o0_21, .ref o0_22, .ref o0_23])), (a1, .inl (G.2.1 0, n1, .inl f1)), (a2, .inl (G.2.1 0, n2, .inl f2))]) [2, 0, 1] (by decide) rfl) hS rfl (Nat.zero_le _) (Nat.zero_le _) d_Mo_turn_19
set_option maxHeartbeats 4000000 in
set_option maxRecDepth 100000 in
theorem c_Mo_padded (l : Launch) (G : GX) (a0 a1 o0_1 o0_2 o0_17 o0_18 o0_19 o0_20 o0_21 o0_22 o0_23 : Nat) (sz : Nat) (x0_3 : Int32) (x0_4 : Int32) (x0_5 : Int32) (x0_6 : Int32) (x0_7 : Int32) (x0_8 : Int32) (x0_9 : Int32) (x0_10 : Int32) (x0_11 : Int32) (x0_12 : Int32) (x0_13 : Int32) (x0_14 : Int32) (x0_15 : Int32) (x0_16 : Int32) (n1 : Nat) (f1 : (Nat → Int32)) (p1 : Int32) (p2 : Int32) (N : Nat) (V : Int32) (h : f_Mo_padded N x0_3 n1 f1 p1 p2 = some V) :
    Met l y_Mo_padded (wd y_Mo_padded b_Mo_padded 3 (some .int)) { frames := 0, cells := 0, slots := 0, locals := 0 } (PX G [.ref a0, .int p1, .int p2] sz [(a0, .inr (9, [.ref a1, .ref o0_1, .ref o0_2, .int x0_3, .int x0_4, .int x0_5, .int x0_6, .int x0_7, .int x0_8, .int x0_9, .int x0_10, .int x0_11, .int x0_12, .int x0_13, .int x0_14, .int x0_15, .int x0_16, .ref o0_17, .ref o0_18, .ref o0_19, .ref o0_20, .ref o0_21, .ref o0_22, .ref o0_23])), (a1, .inl (G.2.1 0, n1, .inl f1))])
      (QXi G V (fun w => w = [(a0, .inr (9, [.ref a1, .ref o0_1, .ref o0_2, .int x0_3, .int x0_4, .int x0_5, .int x0_6, .int x0_7, .int x0_8, .int x0_9, .int x0_10, .int x0_11, .int x0_12, .int x0_13, .int x0_14, .int x0_15, .int x0_16, .ref o0_17, .ref o0_18, .ref o0_19, .ref o0_20, .ref o0_21, .ref o0_22, .ref o0_23])), (a1, .inl (G.2.1 0, n1, .inl f1))]) (va_A [(a0, .inr (9, [.ref a1, .ref o0_1, .ref o0_2, .int x0_3, .int x0_4, .int x0_5, .int x0_6, .int x0_7, .int x0_8, .int x0_9, .int x0_10, .int x0_11, .int x0_12, .int x0_13, .int x0_14, .int x0_15, .int x0_16, .ref o0_17, .ref o0_18, .ref o0_19, .ref o0_20, .ref o0_21, .ref o0_22, .ref o0_23])), (a1, .inl (G.2.1 0, n1, .inl f1))] sz)) 0 0 (va_A [(a0, .inr (9, [.ref a1, .ref o0_1, .ref o0_2, .int x0_3, .int x0_4, .int x0_5, .int x0_6, .int x0_7, .int x0_8, .int x0_9, .int x0_10, .int x0_11, .int x0_12, .int x0_13, .int x0_14, .int x0_15, .int x0_16, .ref o0_17, .ref o0_18, .ref o0_19, .ref o0_20, .ref o0_21, .ref o0_22, .ref o0_23])), (a1, .inl (G.2.1 0, n1, .inl f1))] sz) := by
  refine Met_in (QQ := fun A => QXi G V (fun w => w = [(a0, .inr (9, [.ref a1, .ref o0_1, .ref o0_2, .int x0_3, .int x0_4, .int x0_5, .int x0_6, .int x0_7, .int x0_8, .int x0_9, .int x0_10, .int x0_11, .int x0_12, .int x0_13, .int x0_14, .int x0_15, .int x0_16, .ref o0_17, .ref o0_18, .ref o0_19, .ref o0_20, .ref o0_21, .ref o0_22, .ref o0_23])), (a1, .inl (G.2.1 0, n1, .inl f1))]) A) (by decide) (Nat.le_of_ble_eq_true rfl) (fun p e s m below meth c R Q A ls C0 hRf hRl hRc hRs hP hK hD hT hA hS hl hQ => ?_)
  obtain ⟨hx, hb, hml, hown, hts, hr, hlocks, hin⟩ := id C0
  have hown : s.vm.findClass R_Mo = some m.cls := hown
  have hl : lv_has ls 3 [(0, .ref a0), (1, .int p1), (2, .int p2)] := hl
  unfold f_Mo_padded at h
  have hkc : 0 ≤ R.cells := Nat.zero_le _
  have hks : 0 ≤ R.slots := Nat.zero_le _
  obtain ⟨H, hH⟩ : ∃ H, H = s.heap := ⟨_, rfl⟩
  obtain ⟨locs, hlc⟩ : ∃ x : List Loc, x = [] := ⟨_, rfl⟩
  rw [← hH] at hP
  have hS : va_S A s.heap H locs := by rw [hH, hlc]; exact hS
  suffices hgo : W p l e R s m [.ref a0, .int p1, .int p2].toArray below meth c H locs 0 0 Q (F0 m 0 ls []) by rw [hH, hlc] at hgo; exact hgo
  refine lv_iload_n hx hb d_Mo_padded_0 rfl (lv_at hl 1 rfl) ?_
  refine lv_aload_n hx hb d_Mo_padded_1 rfl (lv_at hl 0 rfl) ?_
  refine va_get (D := G.1) (ci := 9) (v := .int x0_3) (C := R_Mo) (T := F_Mo) (N := 24) hx hb hts i_Mo hown hK hP 0 rfl rfl 3 (by decide) (hts _ q435) (fun _ h9 => h9) rfl d_Mo_padded_2 ?_
  refine lv_icmp_ge (tgt := 19) hx hb d_Mo_padded_5 (by decide) (fun cq1 => ?_) (fun cq1 => ?_)
  · replace h := (if_pos cq1).symm.trans h
    refine lv_iload_n hx hb d_Mo_padded_19 rfl (lv_at hl 1 rfl) ?_
    refine lv_aload_n hx hb d_Mo_padded_20 rfl (lv_at hl 0 rfl) ?_
    refine va_get (D := G.1) (ci := 9) (v := .int x0_3) (C := R_Mo) (T := F_Mo) (N := 24) hx hb hts i_Mo hown hK hP 0 rfl rfl 3 (by decide) (hts _ q435) (fun _ h9 => h9) rfl d_Mo_padded_21 ?_
    refine lv_icmp_ne (tgt := 31) hx hb d_Mo_padded_24 (by decide) (fun cq2 => ?_) (fun cq2 => ?_)
    · replace h := (if_neg cq2).symm.trans h
      refine lv_iload_n hx hb d_Mo_padded_31 rfl (lv_at hl 1 rfl) ?_
      refine lv_iload_n hx hb d_Mo_padded_32 rfl (lv_at hl 2 rfl) ?_
      refine lv_iconst (v := 4) hx hb d_Mo_padded_33 (by decide) ?_
      refine lv_isub hx hb d_Mo_padded_34 ?_
      refine lv_icmp_ge (tgt := 42) hx hb d_Mo_padded_35 (by decide) (fun cq3 => ?_) (fun cq3 => ?_)
      · replace h := (if_pos cq3).symm.trans h
        refine lv_aload_n hx hb d_Mo_padded_42 rfl (lv_at hl 0 rfl) ?_
        refine va_get (D := G.1) (ci := 9) (v := .int x0_3) (C := R_Mo) (T := F_Mo) (N := 24) hx hb hts i_Mo hown hK hP 0 rfl rfl 3 (by decide) (hts _ q435) (fun _ h9 => h9) rfl d_Mo_padded_43 ?_
        refine lv_bipush (v := 8) hx hb d_Mo_padded_46 (by decide) ?_
        refine lv_imul hx hb d_Mo_padded_48 ?_
        refine lv_iload_n hx hb d_Mo_padded_49 rfl (lv_at hl 2 rfl) ?_
        refine lv_iconst (v := 1) hx hb d_Mo_padded_50 (by decide) ?_
        refine lv_isub hx hb d_Mo_padded_51 ?_
        refine lv_iload_n hx hb d_Mo_padded_52 rfl (lv_at hl 1 rfl) ?_
        refine lv_isub hx hb d_Mo_padded_53 ?_
        refine lv_bipush (v := 8) hx hb d_Mo_padded_54 (by decide) ?_
        refine lv_imul hx hb d_Mo_padded_56 ?_
        refine lv_iushr (v := us (x0_3 * 8) (((p2 - 1) - p1) * 8)) hx hb d_Mo_padded_57 rfl ?_
        refine lv_sipush (v := 255) hx hb d_Mo_padded_58 (by decide) ?_
        refine lv_iand hx hb d_Mo_padded_61 ?_
        have eV := so1 h
        subst eV
        exact x_iret C0 hQ hP hD hS rfl (Nat.zero_le _) (Nat.zero_le _) d_Mo_padded_62
      · replace h := (if_neg cq3).symm.trans h
        refine lv_iconst (v := 0) hx hb d_Mo_padded_38 (by decide) ?_
        refine lv_goto (tgt := 62) hx hb d_Mo_padded_39 (by decide) ?_
        have eV := so1 h
        subst eV
        exact x_iret C0 hQ hP hD hS rfl (Nat.zero_le _) (Nat.zero_le _) d_Mo_padded_62
    · replace h := (if_pos cq2).symm.trans h
      refine lv_sipush (v := 128) hx hb d_Mo_padded_27 (by decide) ?_
      have eV := so1 h
      subst eV
      exact x_iret C0 hQ hP hD hS rfl (Nat.zero_le _) (Nat.zero_le _) d_Mo_padded_30
  · replace h := (if_neg cq1).symm.trans h
    refine lv_aload_n hx hb d_Mo_padded_8 rfl (lv_at hl 0 rfl) ?_
    refine va_get (D := G.1) (ci := 9) (v := .ref a1) (C := R_Mo) (T := F_Mo) (N := 24) hx hb hts i_Mo hown hK hP 0 rfl rfl 0 (by decide) (hts _ q423) (fun _ h9 => h9) rfl d_Mo_padded_9 ?_
    refine lv_iload_n hx hb d_Mo_padded_12 rfl (lv_at hl 1 rfl) ?_
    obtain ⟨hi4, h⟩ := Ix_e h
    refine va_bald hx hb hK hP 1 0 rfl rfl hi4 d_Mo_padded_13 ?_
    refine lv_sipush (v := 255) hx hb d_Mo_padded_14 (by decide) ?_
    refine lv_iand hx hb d_Mo_padded_17 ?_
    have eV := so1 h
    subst eV
    exact x_iret C0 hQ hP hD hS rfl (Nat.zero_le _) (Nat.zero_le _) d_Mo_padded_18
set_option maxHeartbeats 4000000 in
set_option maxRecDepth 100000 in
theorem c_Mo_turned (l : Launch) (G : GX) (sz : Nat)  (p0 : Int32) (p1 : Int32) (N : Nat) (V : Int32) (h : f_Mo_turned N p0 p1 = some V) :
    Met l y_Mo_turned (wd y_Mo_turned b_Mo_turned 2 (some .int)) { frames := 0, cells := 0, slots := 0, locals := 0 } (PX G [.int p0, .int p1] sz [])
      (QXi G V (fun w => w = []) (va_A [] sz)) 0 0 (va_A [] sz) := by
  refine Met_in (QQ := fun A => QXi G V (fun w => w = []) A) (by decide) (Nat.le_of_ble_eq_true rfl) (fun p e s m below meth c R Q A ls C0 hRf hRl hRc hRs hP hK hD hT hA hS hl hQ => ?_)
  obtain ⟨hx, hb, hml, hown, hts, hr, hlocks, hin⟩ := id C0
  have hown : s.vm.findClass R_Mo = some m.cls := hown
  have hl : lv_has ls 2 [(0, .int p0), (1, .int p1)] := hl
  unfold f_Mo_turned at h
  have hkc : 0 ≤ R.cells := Nat.zero_le _
  have hks : 0 ≤ R.slots := Nat.zero_le _
  obtain ⟨H, hH⟩ : ∃ H, H = s.heap := ⟨_, rfl⟩
  obtain ⟨locs, hlc⟩ : ∃ x : List Loc, x = [] := ⟨_, rfl⟩
  rw [← hH] at hP
  have hS : va_S A s.heap H locs := by rw [hH, hlc]; exact hS
  suffices hgo : W p l e R s m [.int p0, .int p1].toArray below meth c H locs 0 0 Q (F0 m 0 ls []) by rw [hH, hlc] at hgo; exact hgo
  refine lv_iload_n hx hb d_Mo_turned_0 rfl (lv_at hl 0 rfl) ?_
  refine lv_iload_n hx hb d_Mo_turned_1 rfl (lv_at hl 1 rfl) ?_
  refine lv_ishl hx hb d_Mo_turned_2 ?_
  refine lv_iload_n hx hb d_Mo_turned_3 rfl (lv_at hl 0 rfl) ?_
  refine lv_bipush (v := 32) hx hb d_Mo_turned_4 (by decide) ?_
  refine lv_iload_n hx hb d_Mo_turned_6 rfl (lv_at hl 1 rfl) ?_
  refine lv_isub hx hb d_Mo_turned_7 ?_
  refine lv_iushr (v := us p0 (32 - p1)) hx hb d_Mo_turned_8 rfl ?_
  refine lv_ior hx hb d_Mo_turned_9 ?_
  have eV := so1 h
  subst eV
  exact x_iret C0 hQ hP hD hS rfl (Nat.zero_le _) (Nat.zero_le _) d_Mo_turned_10
set_option maxHeartbeats 4000000 in
set_option maxRecDepth 100000 in
theorem w_Mo_chunk_2 {p : Program} {l : Launch} {e : Env} {R : Room} {s : State} {m : MethodId} {args : Array Value} {below : List Frame} {meth : Method} {c : Code} {Q : State → Prop} {G : GX} {A : Nat → Prop} (C0 : Cx p s m args meth c b_Mo_chunk 11 y_Mo_chunk none) (hRf : 1 ≤ R.frames) (hRl : 22 ≤ R.locals) (hA : ∀ q, s.heap.size ≤ q → A q) (hK : KX G s) (hT : TX G A s) (N : Nat) (i1 : Int32) (i2 : Int32) (y0_3 : Int32) (y0_4 : Int32) (y0_5 : Int32) (y0_6 : Int32) (y0_7 : Int32) (y0_8 : Int32) (y0_9 : Int32) (y0_10 : Int32) (y0_11 : Int32) (y0_12 : Int32) (y0_13 : Int32) (y0_14 : Int32) (y0_15 : Int32) (y0_16 : Int32) (m1 : Nat) (g_1 : (Nat → Int32)) (m2 : Nat) (m3 : Nat) (g_3 : (Nat → Int32)) (c0 c1 c2 c3 u0_1 u0_2 u0_17 u0_18 u0_19 u0_20 u0_21 : Nat) (out : (Nat → Int32)) {kc ks : Nat} (hkc : kc ≤ R.cells) (hks : ks ≤ R.slots)
    (kx78 : ∀ (H : Heap) (locs : List Loc) (ls : Array Slot), va_P G.1 classes [(c0, .inr (9, [.ref c1, .ref u0_1, .ref u0_2, .int y0_3, .int y0_4, .int y0_5, .int y0_6, .int y0_7, .int y0_8, .int y0_9, .int y0_10, .int y0_11, .int y0_12, .int y0_13, .int y0_14, .int y0_15, .int y0_16, .ref u0_17, .ref u0_18, .ref u0_19, .ref u0_20, .ref u0_21, .ref c2, .ref c3])), (c1, .inl (G.2.1 0, m1, .inl g_1)), (c2, .inl (G.2.1 1, m2, .inl out)), (c3, .inl (G.2.1 1, m3, .inl g_3))] H → va_D A [(c0, .inr (9, [.ref c1, .ref u0_1, .ref u0_2, .int y0_3, .int y0_4, .int y0_5, .int y0_6, .int y0_7, .int y0_8, .int y0_9, .int y0_10, .int y0_11, .int y0_12, .int y0_13, .int y0_14, .int y0_15, .int y0_16, .ref u0_17, .ref u0_18, .ref u0_19, .ref u0_20, .ref u0_21, .ref c2, .ref c3])), (c1, .inl (G.2.1 0, m1, .inl g_1)), (c2, .inl (G.2.1 1, m2, .inl out)), (c3, .inl (G.2.1 1, m3, .inl g_3))] → va_S A s.heap H locs → lv_has ls 11 [(0, .ref c0)] → W p l e R s m args below meth c H locs kc ks Q (F0 m 78 ls [])) :
    ∀ (n : Nat) (i3 : Int32) (g_2 : (Nat → Int32)) (H : Heap) (locs : List Loc) (ls : Array Slot), lp_Mo_chunk_2 N i1 i2 y0_3 m1 g_1 m2 n i3 g_2 = some out → va_P G.1 classes [(c0, .inr (9, [.ref c1, .ref u0_1, .ref u0_2, .int y0_3, .int y0_4, .int y0_5, .int y0_6, .int y0_7, .int y0_8, .int y0_9, .int y0_10, .int y0_11, .int y0_12, .int y0_13, .int y0_14, .int y0_15, .int y0_16, .ref u0_17, .ref u0_18, .ref u0_19, .ref u0_20, .ref u0_21, .ref c2, .ref c3])), (c1, .inl (G.2.1 0, m1, .inl g_1)), (c2, .inl (G.2.1 1, m2, .inl g_2)), (c3, .inl (G.2.1 1, m3, .inl g_3))] H → va_D A [(c0, .inr (9, [.ref c1, .ref u0_1, .ref u0_2, .int y0_3, .int y0_4, .int y0_5, .int y0_6, .int y0_7, .int y0_8, .int y0_9, .int y0_10, .int y0_11, .int y0_12, .int y0_13, .int y0_14, .int y0_15, .int y0_16, .ref u0_17, .ref u0_18, .ref u0_19, .ref u0_20, .ref u0_21, .ref c2, .ref c3])), (c1, .inl (G.2.1 0, m1, .inl g_1)), (c2, .inl (G.2.1 1, m2, .inl g_2)), (c3, .inl (G.2.1 1, m3, .inl g_3))] → va_S A s.heap H locs → lv_has ls 11 [(0, .ref c0), (1, .int i1), (2, .int i2), (3, .int i3)] → W p l e R s m args below meth c H locs kc ks Q (F0 m 2 ls []) := by
  obtain ⟨hx, hb, hml, hown, hts, hr, hlocks, hin⟩ := id C0
  have hown : s.vm.findClass R_Mo = some m.cls := hown
  intro n
  induction n with
  | zero => intro i3 g_2 H locs ls h; cases h
  | succ n ih =>
    intro i3 g_2 H locs ls h hP hD hS hl
    replace h : lb_Mo_chunk_2 N i1 i2 y0_3 m1 g_1 m2 (lp_Mo_chunk_2 N i1 i2 y0_3 m1 g_1 m2 n) i3 g_2 = some out := h
    unfold lb_Mo_chunk_2 at h
    refine lv_iload_n hx hb d_Mo_chunk_2 rfl (lv_at hl 3 rfl) ?_
    refine lv_bipush (v := 16) hx hb d_Mo_chunk_3 (by decide) ?_
    refine lv_icmp_ge (tgt := 78) hx hb d_Mo_chunk_5 (by decide) (fun cq9 => ?_) (fun cq9 => ?_)
    · replace h := (if_pos cq9).symm.trans h
      have eV := so1 h
      subst eV
      exact kx78 _ _ _ hP hD hS (lv_sub hl [0] rfl)
    · replace h := (if_neg cq9).symm.trans h
      refine lv_aload_n hx hb d_Mo_chunk_8 rfl (lv_at hl 0 rfl) ?_
      refine va_get (D := G.1) (ci := 9) (v := .ref c2) (C := R_Mo) (T := F_Mo) (N := 24) hx hb hts i_Mo hown hK hP 0 rfl rfl 22 (by decide) (hts _ q432) (fun _ h9 => h9) rfl d_Mo_chunk_9 ?_
      refine lv_iload_n hx hb d_Mo_chunk_12 rfl (lv_at hl 3 rfl) ?_
      refine lv_aload_n hx hb d_Mo_chunk_13 rfl (lv_at hl 0 rfl) ?_
      refine lv_iload_n hx hb d_Mo_chunk_14 rfl (lv_at hl 1 rfl) ?_
      refine lv_iload_n hx hb d_Mo_chunk_15 rfl (lv_at hl 3 rfl) ?_
      refine lv_iconst (v := 4) hx hb d_Mo_chunk_16 (by decide) ?_
      refine lv_imul hx hb d_Mo_chunk_17 ?_
      refine lv_iadd hx hb d_Mo_chunk_18 ?_
      refine lv_iload_n hx hb d_Mo_chunk_19 rfl (lv_at hl 2 rfl) ?_
      obtain ⟨r10, hc10, h⟩ := Bd_e h
      refine xV_i0 (wr := [(c2, .inl (G.2.1 1, m2, .inl g_2)), (c3, .inl (G.2.1 1, m3, .inl g_3))]) (rest := [.int i3, .ref c2]) C0 hK hT hA hP hD hS hl.1 (c_Mo_padded l G c0 c1 u0_1 u0_2 u0_17 u0_18 u0_19 u0_20 u0_21 c2 c3 _ y0_3 y0_4 y0_5 y0_6 y0_7 y0_8 y0_9 y0_10 y0_11 y0_12 y0_13 y0_14 y0_15 y0_16 m1 g_1 (i1 + (i3 * 4)) i2 N r10 hc10) (goodV q547 q548 q549 q439 q550) 2 rfl hd_Mo_padded (Nat.le_trans (by decide) hRf) (Nat.le_trans (by decide) hRl) [0, 1] [2, 3] rfl rfl (by decide) (by decide) (by decide) 9 0 rfl rfl rfl (Nat.le_of_ble_eq_true rfl) d_Mo_chunk_20 hkc hks (fun w1 H locs hE hP hD hS => ?_)
      subst hE
      have hP : va_P G.1 classes [(c2, .inl (G.2.1 1, m2, .inl g_2)), (c3, .inl (G.2.1 1, m3, .inl g_3)), (c0, .inr (9, [.ref c1, .ref u0_1, .ref u0_2, .int y0_3, .int y0_4, .int y0_5, .int y0_6, .int y0_7, .int y0_8, .int y0_9, .int y0_10, .int y0_11, .int y0_12, .int y0_13, .int y0_14, .int y0_15, .int y0_16, .ref u0_17, .ref u0_18, .ref u0_19, .ref u0_20, .ref u0_21, .ref c2, .ref c3])), (c1, .inl (G.2.1 0, m1, .inl g_1))] H := hP
      have hD : va_D A [(c2, .inl (G.2.1 1, m2, .inl g_2)), (c3, .inl (G.2.1 1, m3, .inl g_3)), (c0, .inr (9, [.ref c1, .ref u0_1, .ref u0_2, .int y0_3, .int y0_4, .int y0_5, .int y0_6, .int y0_7, .int y0_8, .int y0_9, .int y0_10, .int y0_11, .int y0_12, .int y0_13, .int y0_14, .int y0_15, .int y0_16, .ref u0_17, .ref u0_18, .ref u0_19, .ref u0_20, .ref u0_21, .ref c2, .ref c3])), (c1, .inl (G.2.1 0, m1, .inl g_1))] := hD
      refine lv_bipush (v := 24) hx hb d_Mo_chunk_23 (by decide) ?_
      refine lv_ishl hx hb d_Mo_chunk_25 ?_
      refine lv_aload_n hx hb d_Mo_chunk_26 rfl (lv_at hl 0 rfl) ?_
      refine lv_iload_n hx hb d_Mo_chunk_27 rfl (lv_at hl 1 rfl) ?_
      refine lv_iload_n hx hb d_Mo_chunk_28 rfl (lv_at hl 3 rfl) ?_
      refine lv_iconst (v := 4) hx hb d_Mo_chunk_29 (by decide) ?_
      refine lv_imul hx hb d_Mo_chunk_30 ?_
      refine lv_iadd hx hb d_Mo_chunk_31 ?_
      refine lv_iconst (v := 1) hx hb d_Mo_chunk_32 (by decide) ?_
      refine lv_iadd hx hb d_Mo_chunk_33 ?_
      refine lv_iload_n hx hb d_Mo_chunk_34 rfl (lv_at hl 2 rfl) ?_
      obtain ⟨r11, hc11, h⟩ := Bd_e h
      refine xV_i0 (wr := [(c2, .inl (G.2.1 1, m2, .inl g_2)), (c3, .inl (G.2.1 1, m3, .inl g_3))]) (rest := [.int (r10 <<< ((24 : Int32) &&& 31)), .int i3, .ref c2]) C0 hK hT hA hP hD hS hl.1 (c_Mo_padded l G c0 c1 u0_1 u0_2 u0_17 u0_18 u0_19 u0_20 u0_21 c2 c3 _ y0_3 y0_4 y0_5 y0_6 y0_7 y0_8 y0_9 y0_10 y0_11 y0_12 y0_13 y0_14 y0_15 y0_16 m1 g_1 ((i1 + (i3 * 4)) + 1) i2 N r11 hc11) (goodV q547 q548 q549 q439 q550) 2 rfl hd_Mo_padded (Nat.le_trans (by decide) hRf) (Nat.le_trans (by decide) hRl) [2, 3] [0, 1] rfl rfl (by decide) (by decide) (by decide) 9 2 rfl rfl rfl (Nat.le_of_ble_eq_true rfl) d_Mo_chunk_35 hkc hks (fun w1 H locs hE hP hD hS => ?_)
      subst hE
      have hP : va_P G.1 classes [(c2, .inl (G.2.1 1, m2, .inl g_2)), (c3, .inl (G.2.1 1, m3, .inl g_3)), (c0, .inr (9, [.ref c1, .ref u0_1, .ref u0_2, .int y0_3, .int y0_4, .int y0_5, .int y0_6, .int y0_7, .int y0_8, .int y0_9, .int y0_10, .int y0_11, .int y0_12, .int y0_13, .int y0_14, .int y0_15, .int y0_16, .ref u0_17, .ref u0_18, .ref u0_19, .ref u0_20, .ref u0_21, .ref c2, .ref c3])), (c1, .inl (G.2.1 0, m1, .inl g_1))] H := hP
      have hD : va_D A [(c2, .inl (G.2.1 1, m2, .inl g_2)), (c3, .inl (G.2.1 1, m3, .inl g_3)), (c0, .inr (9, [.ref c1, .ref u0_1, .ref u0_2, .int y0_3, .int y0_4, .int y0_5, .int y0_6, .int y0_7, .int y0_8, .int y0_9, .int y0_10, .int y0_11, .int y0_12, .int y0_13, .int y0_14, .int y0_15, .int y0_16, .ref u0_17, .ref u0_18, .ref u0_19, .ref u0_20, .ref u0_21, .ref c2, .ref c3])), (c1, .inl (G.2.1 0, m1, .inl g_1))] := hD
      refine lv_bipush (v := 16) hx hb d_Mo_chunk_38 (by decide) ?_
      refine lv_ishl hx hb d_Mo_chunk_40 ?_
      refine lv_ior hx hb d_Mo_chunk_41 ?_
      refine lv_aload_n hx hb d_Mo_chunk_42 rfl (lv_at hl 0 rfl) ?_
      refine lv_iload_n hx hb d_Mo_chunk_43 rfl (lv_at hl 1 rfl) ?_
      refine lv_iload_n hx hb d_Mo_chunk_44 rfl (lv_at hl 3 rfl) ?_
      refine lv_iconst (v := 4) hx hb d_Mo_chunk_45 (by decide) ?_
      refine lv_imul hx hb d_Mo_chunk_46 ?_
      refine lv_iadd hx hb d_Mo_chunk_47 ?_
      refine lv_iconst (v := 2) hx hb d_Mo_chunk_48 (by decide) ?_
      refine lv_iadd hx hb d_Mo_chunk_49 ?_
      refine lv_iload_n hx hb d_Mo_chunk_50 rfl (lv_at hl 2 rfl) ?_
      obtain ⟨r12, hc12, h⟩ := Bd_e h
      refine xV_i0 (wr := [(c2, .inl (G.2.1 1, m2, .inl g_2)), (c3, .inl (G.2.1 1, m3, .inl g_3))]) (rest := [.int ((r10 <<< ((24 : Int32) &&& 31)) ||| (r11 <<< ((16 : Int32) &&& 31))), .int i3, .ref c2]) C0 hK hT hA hP hD hS hl.1 (c_Mo_padded l G c0 c1 u0_1 u0_2 u0_17 u0_18 u0_19 u0_20 u0_21 c2 c3 _ y0_3 y0_4 y0_5 y0_6 y0_7 y0_8 y0_9 y0_10 y0_11 y0_12 y0_13 y0_14 y0_15 y0_16 m1 g_1 ((i1 + (i3 * 4)) + 2) i2 N r12 hc12) (goodV q547 q548 q549 q439 q550) 2 rfl hd_Mo_padded (Nat.le_trans (by decide) hRf) (Nat.le_trans (by decide) hRl) [2, 3] [0, 1] rfl rfl (by decide) (by decide) (by decide) 9 2 rfl rfl rfl (Nat.le_of_ble_eq_true rfl) d_Mo_chunk_51 hkc hks (fun w1 H locs hE hP hD hS => ?_)
      subst hE
      have hP : va_P G.1 classes [(c2, .inl (G.2.1 1, m2, .inl g_2)), (c3, .inl (G.2.1 1, m3, .inl g_3)), (c0, .inr (9, [.ref c1, .ref u0_1, .ref u0_2, .int y0_3, .int y0_4, .int y0_5, .int y0_6, .int y0_7, .int y0_8, .int y0_9, .int y0_10, .int y0_11, .int y0_12, .int y0_13, .int y0_14, .int y0_15, .int y0_16, .ref u0_17, .ref u0_18, .ref u0_19, .ref u0_20, .ref u0_21, .ref c2, .ref c3])), (c1, .inl (G.2.1 0, m1, .inl g_1))] H := hP
      have hD : va_D A [(c2, .inl (G.2.1 1, m2, .inl g_2)), (c3, .inl (G.2.1 1, m3, .inl g_3)), (c0, .inr (9, [.ref c1, .ref u0_1, .ref u0_2, .int y0_3, .int y0_4, .int y0_5, .int y0_6, .int y0_7, .int y0_8, .int y0_9, .int y0_10, .int y0_11, .int y0_12, .int y0_13, .int y0_14, .int y0_15, .int y0_16, .ref u0_17, .ref u0_18, .ref u0_19, .ref u0_20, .ref u0_21, .ref c2, .ref c3])), (c1, .inl (G.2.1 0, m1, .inl g_1))] := hD
      refine lv_bipush (v := 8) hx hb d_Mo_chunk_54 (by decide) ?_
      refine lv_ishl hx hb d_Mo_chunk_56 ?_
      refine lv_ior hx hb d_Mo_chunk_57 ?_
      refine lv_aload_n hx hb d_Mo_chunk_58 rfl (lv_at hl 0 rfl) ?_
      refine lv_iload_n hx hb d_Mo_chunk_59 rfl (lv_at hl 1 rfl) ?_
      refine lv_iload_n hx hb d_Mo_chunk_60 rfl (lv_at hl 3 rfl) ?_
      refine lv_iconst (v := 4) hx hb d_Mo_chunk_61 (by decide) ?_
      refine lv_imul hx hb d_Mo_chunk_62 ?_
      refine lv_iadd hx hb d_Mo_chunk_63 ?_
      refine lv_iconst (v := 3) hx hb d_Mo_chunk_64 (by decide) ?_
      refine lv_iadd hx hb d_Mo_chunk_65 ?_
      refine lv_iload_n hx hb d_Mo_chunk_66 rfl (lv_at hl 2 rfl) ?_
      obtain ⟨r13, hc13, h⟩ := Bd_e h
      refine xV_i0 (wr := [(c2, .inl (G.2.1 1, m2, .inl g_2)), (c3, .inl (G.2.1 1, m3, .inl g_3))]) (rest := [.int (((r10 <<< ((24 : Int32) &&& 31)) ||| (r11 <<< ((16 : Int32) &&& 31))) ||| (r12 <<< ((8 : Int32) &&& 31))), .int i3, .ref c2]) C0 hK hT hA hP hD hS hl.1 (c_Mo_padded l G c0 c1 u0_1 u0_2 u0_17 u0_18 u0_19 u0_20 u0_21 c2 c3 _ y0_3 y0_4 y0_5 y0_6 y0_7 y0_8 y0_9 y0_10 y0_11 y0_12 y0_13 y0_14 y0_15 y0_16 m1 g_1 ((i1 + (i3 * 4)) + 3) i2 N r13 hc13) (goodV q547 q548 q549 q439 q550) 2 rfl hd_Mo_padded (Nat.le_trans (by decide) hRf) (Nat.le_trans (by decide) hRl) [2, 3] [0, 1] rfl rfl (by decide) (by decide) (by decide) 9 2 rfl rfl rfl (Nat.le_of_ble_eq_true rfl) d_Mo_chunk_67 hkc hks (fun w1 H locs hE hP hD hS => ?_)
      subst hE
      have hP : va_P G.1 classes [(c2, .inl (G.2.1 1, m2, .inl g_2)), (c3, .inl (G.2.1 1, m3, .inl g_3)), (c0, .inr (9, [.ref c1, .ref u0_1, .ref u0_2, .int y0_3, .int y0_4, .int y0_5, .int y0_6, .int y0_7, .int y0_8, .int y0_9, .int y0_10, .int y0_11, .int y0_12, .int y0_13, .int y0_14, .int y0_15, .int y0_16, .ref u0_17, .ref u0_18, .ref u0_19, .ref u0_20, .ref u0_21, .ref c2, .ref c3])), (c1, .inl (G.2.1 0, m1, .inl g_1))] H := hP
      have hD : va_D A [(c2, .inl (G.2.1 1, m2, .inl g_2)), (c3, .inl (G.2.1 1, m3, .inl g_3)), (c0, .inr (9, [.ref c1, .ref u0_1, .ref u0_2, .int y0_3, .int y0_4, .int y0_5, .int y0_6, .int y0_7, .int y0_8, .int y0_9, .int y0_10, .int y0_11, .int y0_12, .int y0_13, .int y0_14, .int y0_15, .int y0_16, .ref u0_17, .ref u0_18, .ref u0_19, .ref u0_20, .ref u0_21, .ref c2, .ref c3])), (c1, .inl (G.2.1 0, m1, .inl g_1))] := hD
      refine lv_ior hx hb d_Mo_chunk_70 ?_
      obtain ⟨hi14, h⟩ := Ix_e h
      refine y_iast hx hb hK hP hD hS 0 1 rfl rfl hi14 d_Mo_chunk_71 (fun g15 H locs eg15 hP hD hS => ?_)
      replace h := Lt_e h eg15
      have hP : va_P G.1 classes [(c2, .inl (G.2.1 1, m2, .inl g15)), (c3, .inl (G.2.1 1, m3, .inl g_3)), (c0, .inr (9, [.ref c1, .ref u0_1, .ref u0_2, .int y0_3, .int y0_4, .int y0_5, .int y0_6, .int y0_7, .int y0_8, .int y0_9, .int y0_10, .int y0_11, .int y0_12, .int y0_13, .int y0_14, .int y0_15, .int y0_16, .ref u0_17, .ref u0_18, .ref u0_19, .ref u0_20, .ref u0_21, .ref c2, .ref c3])), (c1, .inl (G.2.1 0, m1, .inl g_1))] H := hP
      have hD : va_D A [(c2, .inl (G.2.1 1, m2, .inl g15)), (c3, .inl (G.2.1 1, m3, .inl g_3)), (c0, .inr (9, [.ref c1, .ref u0_1, .ref u0_2, .int y0_3, .int y0_4, .int y0_5, .int y0_6, .int y0_7, .int y0_8, .int y0_9, .int y0_10, .int y0_11, .int y0_12, .int y0_13, .int y0_14, .int y0_15, .int y0_16, .ref u0_17, .ref u0_18, .ref u0_19, .ref u0_20, .ref u0_21, .ref c2, .ref c3])), (c1, .inl (G.2.1 0, m1, .inl g_1))] := hD
      obtain ⟨v16, ev16⟩ : ∃ y : Int32, y = i3 + 1 := ⟨_, rfl⟩
      replace h := Lt_e h ev16
      refine lv_iinc (v := v16) (lv' := [(3, .int v16), (0, .ref c0), (1, .int i1), (2, .int i2)]) hx hb d_Mo_chunk_72 hl (k := 3) rfl (by rw [ev16]; rfl) (by decide) rfl (fun ls hl => ?_)
      refine lv_goto (tgt := 2) hx hb d_Mo_chunk_75 (by decide) ?_
      exact ih v16 g15  _ _ _ h (hP.sub (ws' := [(c0, .inr (9, [.ref c1, .ref u0_1, .ref u0_2, .int y0_3, .int y0_4, .int y0_5, .int y0_6, .int y0_7, .int y0_8, .int y0_9, .int y0_10, .int y0_11, .int y0_12, .int y0_13, .int y0_14, .int y0_15, .int y0_16, .ref u0_17, .ref u0_18, .ref u0_19, .ref u0_20, .ref u0_21, .ref c2, .ref c3])), (c1, .inl (G.2.1 0, m1, .inl g_1)), (c2, .inl (G.2.1 1, m2, .inl g15)), (c3, .inl (G.2.1 1, m3, .inl g_3))]) [2, 3, 0, 1] rfl) (hD.sub (ws' := [(c0, .inr (9, [.ref c1, .ref u0_1, .ref u0_2, .int y0_3, .int y0_4, .int y0_5, .int y0_6, .int y0_7, .int y0_8, .int y0_9, .int y0_10, .int y0_11, .int y0_12, .int y0_13, .int y0_14, .int y0_15, .int y0_16, .ref u0_17, .ref u0_18, .ref u0_19, .ref u0_20, .ref u0_21, .ref c2, .ref c3])), (c1, .inl (G.2.1 0, m1, .inl g_1)), (c2, .inl (G.2.1 1, m2, .inl g15)), (c3, .inl (G.2.1 1, m3, .inl g_3))]) [2, 3, 0, 1] (by decide) rfl) hS (lv_sub hl [1, 2, 3, 0] rfl)
set_option maxHeartbeats 4000000 in
set_option maxRecDepth 100000 in
theorem w_Mo_chunk_81 {p : Program} {l : Launch} {e : Env} {R : Room} {s : State} {m : MethodId} {args : Array Value} {below : List Frame} {meth : Method} {c : Code} {Q : State → Prop} {G : GX} {A : Nat → Prop} (C0 : Cx p s m args meth c b_Mo_chunk 11 y_Mo_chunk none) (hRf : 1 ≤ R.frames) (hRl : 22 ≤ R.locals) (hA : ∀ q, s.heap.size ≤ q → A q) (hK : KX G s) (hT : TX G A s) (N : Nat) (y0_3 : Int32) (y0_4 : Int32) (y0_5 : Int32) (y0_6 : Int32) (y0_7 : Int32) (y0_8 : Int32) (y0_9 : Int32) (y0_10 : Int32) (y0_11 : Int32) (y0_12 : Int32) (y0_13 : Int32) (y0_14 : Int32) (y0_15 : Int32) (y0_16 : Int32) (m1 : Nat) (g_1 : (Nat → Int32)) (m2 : Nat) (m3 : Nat) (g_3 : (Nat → Int32)) (c0 c1 c2 c3 u0_1 u0_2 u0_17 u0_18 u0_19 u0_20 u0_21 : Nat) (out : (Nat → Int32)) {kc ks : Nat} (hkc : kc ≤ R.cells) (hks : ks ≤ R.slots)
    (kx141 : ∀ (H : Heap) (locs : List Loc) (ls : Array Slot), va_P G.1 classes [(c0, .inr (9, [.ref c1, .ref u0_1, .ref u0_2, .int y0_3, .int y0_4, .int y0_5, .int y0_6, .int y0_7, .int y0_8, .int y0_9, .int y0_10, .int y0_11, .int y0_12, .int y0_13, .int y0_14, .int y0_15, .int y0_16, .ref u0_17, .ref u0_18, .ref u0_19, .ref u0_20, .ref u0_21, .ref c2, .ref c3])), (c1, .inl (G.2.1 0, m1, .inl g_1)), (c2, .inl (G.2.1 1, m2, .inl out)), (c3, .inl (G.2.1 1, m3, .inl g_3))] H → va_D A [(c0, .inr (9, [.ref c1, .ref u0_1, .ref u0_2, .int y0_3, .int y0_4, .int y0_5, .int y0_6, .int y0_7, .int y0_8, .int y0_9, .int y0_10, .int y0_11, .int y0_12, .int y0_13, .int y0_14, .int y0_15, .int y0_16, .ref u0_17, .ref u0_18, .ref u0_19, .ref u0_20, .ref u0_21, .ref c2, .ref c3])), (c1, .inl (G.2.1 0, m1, .inl g_1)), (c2, .inl (G.2.1 1, m2, .inl out)), (c3, .inl (G.2.1 1, m3, .inl g_3))] → va_S A s.heap H locs → lv_has ls 11 [(0, .ref c0)] → W p l e R s m args below meth c H locs kc ks Q (F0 m 141 ls [])) :
    ∀ (n : Nat) (i3 : Int32) (g_2 : (Nat → Int32)) (H : Heap) (locs : List Loc) (ls : Array Slot), lp_Mo_chunk_81 N m2 n i3 g_2 = some out → va_P G.1 classes [(c0, .inr (9, [.ref c1, .ref u0_1, .ref u0_2, .int y0_3, .int y0_4, .int y0_5, .int y0_6, .int y0_7, .int y0_8, .int y0_9, .int y0_10, .int y0_11, .int y0_12, .int y0_13, .int y0_14, .int y0_15, .int y0_16, .ref u0_17, .ref u0_18, .ref u0_19, .ref u0_20, .ref u0_21, .ref c2, .ref c3])), (c1, .inl (G.2.1 0, m1, .inl g_1)), (c2, .inl (G.2.1 1, m2, .inl g_2)), (c3, .inl (G.2.1 1, m3, .inl g_3))] H → va_D A [(c0, .inr (9, [.ref c1, .ref u0_1, .ref u0_2, .int y0_3, .int y0_4, .int y0_5, .int y0_6, .int y0_7, .int y0_8, .int y0_9, .int y0_10, .int y0_11, .int y0_12, .int y0_13, .int y0_14, .int y0_15, .int y0_16, .ref u0_17, .ref u0_18, .ref u0_19, .ref u0_20, .ref u0_21, .ref c2, .ref c3])), (c1, .inl (G.2.1 0, m1, .inl g_1)), (c2, .inl (G.2.1 1, m2, .inl g_2)), (c3, .inl (G.2.1 1, m3, .inl g_3))] → va_S A s.heap H locs → lv_has ls 11 [(0, .ref c0), (3, .int i3)] → W p l e R s m args below meth c H locs kc ks Q (F0 m 81 ls []) := by
  obtain ⟨hx, hb, hml, hown, hts, hr, hlocks, hin⟩ := id C0
  have hown : s.vm.findClass R_Mo = some m.cls := hown
  intro n
  induction n with
  | zero => intro i3 g_2 H locs ls h; cases h
  | succ n ih =>
    intro i3 g_2 H locs ls h hP hD hS hl
    replace h : lb_Mo_chunk_81 N m2 (lp_Mo_chunk_81 N m2 n) i3 g_2 = some out := h
    unfold lb_Mo_chunk_81 at h
    refine lv_iload_n hx hb d_Mo_chunk_81 rfl (lv_at hl 1 rfl) ?_
    refine lv_bipush (v := 80) hx hb d_Mo_chunk_82 (by decide) ?_
    refine lv_icmp_ge (tgt := 141) hx hb d_Mo_chunk_84 (by decide) (fun cq27 => ?_) (fun cq27 => ?_)
    · replace h := (if_pos cq27).symm.trans h
      have eV := so1 h
      subst eV
      exact kx141 _ _ _ hP hD hS (lv_sub hl [0] rfl)
    · replace h := (if_neg cq27).symm.trans h
      refine lv_aload_n hx hb d_Mo_chunk_87 rfl (lv_at hl 0 rfl) ?_
      refine va_get (D := G.1) (ci := 9) (v := .ref c2) (C := R_Mo) (T := F_Mo) (N := 24) hx hb hts i_Mo hown hK hP 0 rfl rfl 22 (by decide) (hts _ q432) (fun _ h9 => h9) rfl d_Mo_chunk_88 ?_
      refine lv_iload_n hx hb d_Mo_chunk_91 rfl (lv_at hl 1 rfl) ?_
      refine lv_aload_n hx hb d_Mo_chunk_92 rfl (lv_at hl 0 rfl) ?_
      refine va_get (D := G.1) (ci := 9) (v := .ref c2) (C := R_Mo) (T := F_Mo) (N := 24) hx hb hts i_Mo hown hK hP 0 rfl rfl 22 (by decide) (hts _ q432) (fun _ h9 => h9) rfl d_Mo_chunk_93 ?_
      refine lv_iload_n hx hb d_Mo_chunk_96 rfl (lv_at hl 1 rfl) ?_
      refine lv_iconst (v := 3) hx hb d_Mo_chunk_97 (by decide) ?_
      refine lv_isub hx hb d_Mo_chunk_98 ?_
      obtain ⟨hi28, h⟩ := Ix_e h
      refine va_iald hx hb hK hP 2 1 rfl rfl hi28 d_Mo_chunk_99 ?_
      refine lv_aload_n hx hb d_Mo_chunk_100 rfl (lv_at hl 0 rfl) ?_
      refine va_get (D := G.1) (ci := 9) (v := .ref c2) (C := R_Mo) (T := F_Mo) (N := 24) hx hb hts i_Mo hown hK hP 0 rfl rfl 22 (by decide) (hts _ q432) (fun _ h9 => h9) rfl d_Mo_chunk_101 ?_
      refine lv_iload_n hx hb d_Mo_chunk_104 rfl (lv_at hl 1 rfl) ?_
      refine lv_bipush (v := 8) hx hb d_Mo_chunk_105 (by decide) ?_
      refine lv_isub hx hb d_Mo_chunk_107 ?_
      obtain ⟨hi29, h⟩ := Ix_e h
      refine va_iald hx hb hK hP 2 1 rfl rfl hi29 d_Mo_chunk_108 ?_
      refine lv_ixor hx hb d_Mo_chunk_109 ?_
      refine lv_aload_n hx hb d_Mo_chunk_110 rfl (lv_at hl 0 rfl) ?_
      refine va_get (D := G.1) (ci := 9) (v := .ref c2) (C := R_Mo) (T := F_Mo) (N := 24) hx hb hts i_Mo hown hK hP 0 rfl rfl 22 (by decide) (hts _ q432) (fun _ h9 => h9) rfl d_Mo_chunk_111 ?_
      refine lv_iload_n hx hb d_Mo_chunk_114 rfl (lv_at hl 1 rfl) ?_
      refine lv_bipush (v := 14) hx hb d_Mo_chunk_115 (by decide) ?_
      refine lv_isub hx hb d_Mo_chunk_117 ?_
      obtain ⟨hi30, h⟩ := Ix_e h
      refine va_iald hx hb hK hP 2 1 rfl rfl hi30 d_Mo_chunk_118 ?_
      refine lv_ixor hx hb d_Mo_chunk_119 ?_
      refine lv_aload_n hx hb d_Mo_chunk_120 rfl (lv_at hl 0 rfl) ?_
      refine va_get (D := G.1) (ci := 9) (v := .ref c2) (C := R_Mo) (T := F_Mo) (N := 24) hx hb hts i_Mo hown hK hP 0 rfl rfl 22 (by decide) (hts _ q432) (fun _ h9 => h9) rfl d_Mo_chunk_121 ?_
      refine lv_iload_n hx hb d_Mo_chunk_124 rfl (lv_at hl 1 rfl) ?_
      refine lv_bipush (v := 16) hx hb d_Mo_chunk_125 (by decide) ?_
      refine lv_isub hx hb d_Mo_chunk_127 ?_
      obtain ⟨hi31, h⟩ := Ix_e h
      refine va_iald hx hb hK hP 2 1 rfl rfl hi31 d_Mo_chunk_128 ?_
      refine lv_ixor hx hb d_Mo_chunk_129 ?_
      refine lv_iconst (v := 1) hx hb d_Mo_chunk_130 (by decide) ?_
      obtain ⟨r32, hc32, h⟩ := Bd_e h
      refine xS_i0 (wr := [(c0, .inr (9, [.ref c1, .ref u0_1, .ref u0_2, .int y0_3, .int y0_4, .int y0_5, .int y0_6, .int y0_7, .int y0_8, .int y0_9, .int y0_10, .int y0_11, .int y0_12, .int y0_13, .int y0_14, .int y0_15, .int y0_16, .ref u0_17, .ref u0_18, .ref u0_19, .ref u0_20, .ref u0_21, .ref c2, .ref c3])), (c1, .inl (G.2.1 0, m1, .inl g_1)), (c2, .inl (G.2.1 1, m2, .inl g_2)), (c3, .inl (G.2.1 1, m3, .inl g_3))]) (rest := [.int i3, .ref c2]) C0 hK hT hA hP hD hS hl.1 (c_Mo_turned l G  _  ((((g_2 (i3 - 3).toNatClampNeg) ^^^ (g_2 (i3 - 8).toNatClampNeg)) ^^^ (g_2 (i3 - 14).toNatClampNeg)) ^^^ (g_2 (i3 - 16).toNatClampNeg)) 1 N r32 hc32) (goodS q551 q552 q439 q553) 2 rfl hd_Mo_turned (Nat.le_trans (by decide) hRf) (Nat.le_trans (by decide) hRl) [] [0, 1, 2, 3] rfl rfl (by decide) (by decide) (by decide) rfl (Nat.le_of_ble_eq_true rfl) d_Mo_chunk_131 hkc hks (fun w1 H locs hE hP hD hS => ?_)
      subst hE
      have hP : va_P G.1 classes [(c0, .inr (9, [.ref c1, .ref u0_1, .ref u0_2, .int y0_3, .int y0_4, .int y0_5, .int y0_6, .int y0_7, .int y0_8, .int y0_9, .int y0_10, .int y0_11, .int y0_12, .int y0_13, .int y0_14, .int y0_15, .int y0_16, .ref u0_17, .ref u0_18, .ref u0_19, .ref u0_20, .ref u0_21, .ref c2, .ref c3])), (c1, .inl (G.2.1 0, m1, .inl g_1)), (c2, .inl (G.2.1 1, m2, .inl g_2)), (c3, .inl (G.2.1 1, m3, .inl g_3))] H := hP
      have hD : va_D A [(c0, .inr (9, [.ref c1, .ref u0_1, .ref u0_2, .int y0_3, .int y0_4, .int y0_5, .int y0_6, .int y0_7, .int y0_8, .int y0_9, .int y0_10, .int y0_11, .int y0_12, .int y0_13, .int y0_14, .int y0_15, .int y0_16, .ref u0_17, .ref u0_18, .ref u0_19, .ref u0_20, .ref u0_21, .ref c2, .ref c3])), (c1, .inl (G.2.1 0, m1, .inl g_1)), (c2, .inl (G.2.1 1, m2, .inl g_2)), (c3, .inl (G.2.1 1, m3, .inl g_3))] := hD
      obtain ⟨hi33, h⟩ := Ix_e h
      refine y_iast hx hb hK hP hD hS 2 1 rfl rfl hi33 d_Mo_chunk_134 (fun g34 H locs eg34 hP hD hS => ?_)
      replace h := Lt_e h eg34
      have hP : va_P G.1 classes [(c0, .inr (9, [.ref c1, .ref u0_1, .ref u0_2, .int y0_3, .int y0_4, .int y0_5, .int y0_6, .int y0_7, .int y0_8, .int y0_9, .int y0_10, .int y0_11, .int y0_12, .int y0_13, .int y0_14, .int y0_15, .int y0_16, .ref u0_17, .ref u0_18, .ref u0_19, .ref u0_20, .ref u0_21, .ref c2, .ref c3])), (c1, .inl (G.2.1 0, m1, .inl g_1)), (c2, .inl (G.2.1 1, m2, .inl g34)), (c3, .inl (G.2.1 1, m3, .inl g_3))] H := hP
      have hD : va_D A [(c0, .inr (9, [.ref c1, .ref u0_1, .ref u0_2, .int y0_3, .int y0_4, .int y0_5, .int y0_6, .int y0_7, .int y0_8, .int y0_9, .int y0_10, .int y0_11, .int y0_12, .int y0_13, .int y0_14, .int y0_15, .int y0_16, .ref u0_17, .ref u0_18, .ref u0_19, .ref u0_20, .ref u0_21, .ref c2, .ref c3])), (c1, .inl (G.2.1 0, m1, .inl g_1)), (c2, .inl (G.2.1 1, m2, .inl g34)), (c3, .inl (G.2.1 1, m3, .inl g_3))] := hD
      obtain ⟨v35, ev35⟩ : ∃ y : Int32, y = i3 + 1 := ⟨_, rfl⟩
      replace h := Lt_e h ev35
      refine lv_iinc (v := v35) (lv' := [(3, .int v35), (0, .ref c0)]) hx hb d_Mo_chunk_135 hl (k := 1) rfl (by rw [ev35]; rfl) (by decide) rfl (fun ls hl => ?_)
      refine lv_goto (tgt := 81) hx hb d_Mo_chunk_138 (by decide) ?_
      exact ih v35 g34  _ _ _ h hP hD hS (lv_sub hl [1, 0] rfl)
set_option maxHeartbeats 4000000 in
set_option maxRecDepth 100000 in
theorem w_Mo_chunk_183 {p : Program} {l : Launch} {e : Env} {R : Room} {s : State} {m : MethodId} {args : Array Value} {below : List Frame} {meth : Method} {c : Code} {Q : State → Prop} {G : GX} {A : Nat → Prop} (C0 : Cx p s m args meth c b_Mo_chunk 11 y_Mo_chunk none) (hRf : 1 ≤ R.frames) (hRl : 22 ≤ R.locals) (hA : ∀ q, s.heap.size ≤ q → A q) (hK : KX G s) (hT : TX G A s) (N : Nat) (y0_3 : Int32) (y0_4 : Int32) (y0_5 : Int32) (y0_6 : Int32) (y0_7 : Int32) (y0_8 : Int32) (y0_9 : Int32) (y0_10 : Int32) (y0_11 : Int32) (y0_12 : Int32) (y0_13 : Int32) (y0_14 : Int32) (y0_15 : Int32) (y0_16 : Int32) (m1 : Nat) (g_1 : (Nat → Int32)) (m2 : Nat) (g_2 : (Nat → Int32)) (m3 : Nat) (g_3 : (Nat → Int32)) (c0 c1 c2 c3 u0_1 u0_2 u0_17 u0_18 u0_19 u0_20 u0_21 : Nat) (out : Int32 × Int32 × Int32 × Int32 × Int32) {kc ks : Nat} (hkc : kc ≤ R.cells) (hks : ks ≤ R.slots)
    (kx330 : ∀ (H : Heap) (locs : List Loc) (ls : Array Slot), va_P G.1 classes [(c0, .inr (9, [.ref c1, .ref u0_1, .ref u0_2, .int y0_3, .int y0_4, .int y0_5, .int y0_6, .int y0_7, .int y0_8, .int y0_9, .int y0_10, .int y0_11, .int y0_12, .int y0_13, .int y0_14, .int y0_15, .int y0_16, .ref u0_17, .ref u0_18, .ref u0_19, .ref u0_20, .ref u0_21, .ref c2, .ref c3])), (c1, .inl (G.2.1 0, m1, .inl g_1)), (c2, .inl (G.2.1 1, m2, .inl g_2)), (c3, .inl (G.2.1 1, m3, .inl g_3))] H → va_D A [(c0, .inr (9, [.ref c1, .ref u0_1, .ref u0_2, .int y0_3, .int y0_4, .int y0_5, .int y0_6, .int y0_7, .int y0_8, .int y0_9, .int y0_10, .int y0_11, .int y0_12, .int y0_13, .int y0_14, .int y0_15, .int y0_16, .ref u0_17, .ref u0_18, .ref u0_19, .ref u0_20, .ref u0_21, .ref c2, .ref c3])), (c1, .inl (G.2.1 0, m1, .inl g_1)), (c2, .inl (G.2.1 1, m2, .inl g_2)), (c3, .inl (G.2.1 1, m3, .inl g_3))] → va_S A s.heap H locs → lv_has ls 11 [(0, .ref c0), (3, .int out.1), (4, .int out.2.1), (5, .int out.2.2.1), (6, .int out.2.2.2.1), (7, .int out.2.2.2.2)] → W p l e R s m args below meth c H locs kc ks Q (F0 m 330 ls [])) :
    ∀ (n : Nat) (i3 : Int32) (i4 : Int32) (i5 : Int32) (i6 : Int32) (i7 : Int32) (i8 : Int32) (H : Heap) (locs : List Loc) (ls : Array Slot), lp_Mo_chunk_183 N m2 g_2 n i3 i4 i5 i6 i7 i8 = some out → va_P G.1 classes [(c0, .inr (9, [.ref c1, .ref u0_1, .ref u0_2, .int y0_3, .int y0_4, .int y0_5, .int y0_6, .int y0_7, .int y0_8, .int y0_9, .int y0_10, .int y0_11, .int y0_12, .int y0_13, .int y0_14, .int y0_15, .int y0_16, .ref u0_17, .ref u0_18, .ref u0_19, .ref u0_20, .ref u0_21, .ref c2, .ref c3])), (c1, .inl (G.2.1 0, m1, .inl g_1)), (c2, .inl (G.2.1 1, m2, .inl g_2)), (c3, .inl (G.2.1 1, m3, .inl g_3))] H → va_D A [(c0, .inr (9, [.ref c1, .ref u0_1, .ref u0_2, .int y0_3, .int y0_4, .int y0_5, .int y0_6, .int y0_7, .int y0_8, .int y0_9, .int y0_10, .int y0_11, .int y0_12, .int y0_13, .int y0_14, .int y0_15, .int y0_16, .ref u0_17, .ref u0_18, .ref u0_19, .ref u0_20, .ref u0_21, .ref c2, .ref c3])), (c1, .inl (G.2.1 0, m1, .inl g_1)), (c2, .inl (G.2.1 1, m2, .inl g_2)), (c3, .inl (G.2.1 1, m3, .inl g_3))] → va_S A s.heap H locs → lv_has ls 11 [(0, .ref c0), (3, .int i3), (4, .int i4), (5, .int i5), (6, .int i6), (7, .int i7), (8, .int i8)] → W p l e R s m args below meth c H locs kc ks Q (F0 m 183 ls []) := by
  obtain ⟨hx, hb, hml, hown, hts, hr, hlocks, hin⟩ := id C0
  have hown : s.vm.findClass R_Mo = some m.cls := hown
  intro n
  induction n with
  | zero => intro i3 i4 i5 i6 i7 i8 H locs ls h; cases h
  | succ n ih =>
    intro i3 i4 i5 i6 i7 i8 H locs ls h hP hD hS hl
    replace h : lb_Mo_chunk_183 N m2 g_2 (lp_Mo_chunk_183 N m2 g_2 n) i3 i4 i5 i6 i7 i8 = some out := h
    unfold lb_Mo_chunk_183 at h
    refine lv_iload hx hb d_Mo_chunk_183 (lv_at hl 6 rfl) ?_
    refine lv_bipush (v := 80) hx hb d_Mo_chunk_185 (by decide) ?_
    refine lv_icmp_ge (tgt := 330) hx hb d_Mo_chunk_187 (by decide) (fun cq57 => ?_) (fun cq57 => ?_)
    · replace h := (if_pos cq57).symm.trans h
      have eV := so1 h
      subst eV
      exact kx330 _ _ _ hP hD hS (lv_sub hl [0, 1, 2, 3, 4, 5] rfl)
    · replace h := (if_neg cq57).symm.trans h
      refine lv_iload hx hb d_Mo_chunk_190 (lv_at hl 6 rfl) ?_
      refine lv_bipush (v := 20) hx hb d_Mo_chunk_192 (by decide) ?_
      obtain ⟨j61, ej61, h⟩ := Jn_e h
      have hj61 : ∀ (t61 : Int32) (H : Heap) (locs : List Loc) (ls : Array Slot), j61 t61 = some out → va_P G.1 classes [(c0, .inr (9, [.ref c1, .ref u0_1, .ref u0_2, .int y0_3, .int y0_4, .int y0_5, .int y0_6, .int y0_7, .int y0_8, .int y0_9, .int y0_10, .int y0_11, .int y0_12, .int y0_13, .int y0_14, .int y0_15, .int y0_16, .ref u0_17, .ref u0_18, .ref u0_19, .ref u0_20, .ref u0_21, .ref c2, .ref c3])), (c1, .inl (G.2.1 0, m1, .inl g_1)), (c2, .inl (G.2.1 1, m2, .inl g_2)), (c3, .inl (G.2.1 1, m3, .inl g_3))] H → va_D A [(c0, .inr (9, [.ref c1, .ref u0_1, .ref u0_2, .int y0_3, .int y0_4, .int y0_5, .int y0_6, .int y0_7, .int y0_8, .int y0_9, .int y0_10, .int y0_11, .int y0_12, .int y0_13, .int y0_14, .int y0_15, .int y0_16, .ref u0_17, .ref u0_18, .ref u0_19, .ref u0_20, .ref u0_21, .ref c2, .ref c3])), (c1, .inl (G.2.1 0, m1, .inl g_1)), (c2, .inl (G.2.1 1, m2, .inl g_2)), (c3, .inl (G.2.1 1, m3, .inl g_3))] → va_S A s.heap H locs → lv_has ls 11 [(0, .ref c0), (3, .int i3), (4, .int i4), (5, .int i5), (6, .int i6), (7, .int i7), (8, .int i8)] → W p l e R s m args below meth c H locs kc ks Q (F0 m 278 ls [.int t61]) := by
        intro t61 H locs ls h hP hD hS hl
        replace h := ej61 _ _ h
        refine lv_istore (lv' := [(9, .int t61), (0, .ref c0), (3, .int i3), (4, .int i4), (5, .int i5), (6, .int i6), (7, .int i7), (8, .int i8)]) hx hb d_Mo_chunk_278 hl (by decide) rfl (fun ls hl => ?_)
        refine lv_iload_n hx hb d_Mo_chunk_280 rfl (lv_at hl 2 rfl) ?_
        refine lv_iconst (v := 5) hx hb d_Mo_chunk_281 (by decide) ?_
        obtain ⟨r62, hc62, h⟩ := Bd_e h
        refine xS_i0 (wr := [(c0, .inr (9, [.ref c1, .ref u0_1, .ref u0_2, .int y0_3, .int y0_4, .int y0_5, .int y0_6, .int y0_7, .int y0_8, .int y0_9, .int y0_10, .int y0_11, .int y0_12, .int y0_13, .int y0_14, .int y0_15, .int y0_16, .ref u0_17, .ref u0_18, .ref u0_19, .ref u0_20, .ref u0_21, .ref c2, .ref c3])), (c1, .inl (G.2.1 0, m1, .inl g_1)), (c2, .inl (G.2.1 1, m2, .inl g_2)), (c3, .inl (G.2.1 1, m3, .inl g_3))]) (rest := []) C0 hK hT hA hP hD hS hl.1 (c_Mo_turned l G  _  i3 5 N r62 hc62) (goodS q551 q552 q439 q553) 2 rfl hd_Mo_turned (Nat.le_trans (by decide) hRf) (Nat.le_trans (by decide) hRl) [] [0, 1, 2, 3] rfl rfl (by decide) (by decide) (by decide) rfl (Nat.le_of_ble_eq_true rfl) d_Mo_chunk_282 hkc hks (fun w1 H locs hE hP hD hS => ?_)
        subst hE
        have hP : va_P G.1 classes [(c0, .inr (9, [.ref c1, .ref u0_1, .ref u0_2, .int y0_3, .int y0_4, .int y0_5, .int y0_6, .int y0_7, .int y0_8, .int y0_9, .int y0_10, .int y0_11, .int y0_12, .int y0_13, .int y0_14, .int y0_15, .int y0_16, .ref u0_17, .ref u0_18, .ref u0_19, .ref u0_20, .ref u0_21, .ref c2, .ref c3])), (c1, .inl (G.2.1 0, m1, .inl g_1)), (c2, .inl (G.2.1 1, m2, .inl g_2)), (c3, .inl (G.2.1 1, m3, .inl g_3))] H := hP
        have hD : va_D A [(c0, .inr (9, [.ref c1, .ref u0_1, .ref u0_2, .int y0_3, .int y0_4, .int y0_5, .int y0_6, .int y0_7, .int y0_8, .int y0_9, .int y0_10, .int y0_11, .int y0_12, .int y0_13, .int y0_14, .int y0_15, .int y0_16, .ref u0_17, .ref u0_18, .ref u0_19, .ref u0_20, .ref u0_21, .ref c2, .ref c3])), (c1, .inl (G.2.1 0, m1, .inl g_1)), (c2, .inl (G.2.1 1, m2, .inl g_2)), (c3, .inl (G.2.1 1, m3, .inl g_3))] := hD
        refine lv_iload hx hb d_Mo_chunk_285 (lv_at hl 0 rfl) ?_
        refine lv_iadd hx hb d_Mo_chunk_287 ?_
        refine lv_iload hx hb d_Mo_chunk_288 (lv_at hl 6 rfl) ?_
        refine lv_iadd hx hb d_Mo_chunk_290 ?_
        refine lv_aload_n hx hb d_Mo_chunk_291 rfl (lv_at hl 1 rfl) ?_
        refine va_get (D := G.1) (ci := 9) (v := .ref c2) (C := R_Mo) (T := F_Mo) (N := 24) hx hb hts i_Mo hown hK hP 0 rfl rfl 22 (by decide) (hts _ q432) (fun _ h9 => h9) rfl d_Mo_chunk_292 ?_
        refine lv_iload hx hb d_Mo_chunk_295 (lv_at hl 7 rfl) ?_
        obtain ⟨hi63, h⟩ := Ix_e h
        refine va_iald hx hb hK hP 2 1 rfl rfl hi63 d_Mo_chunk_297 ?_
        refine lv_iadd hx hb d_Mo_chunk_298 ?_
        refine lv_topi (fun v64 ev64 => ?_)
        replace h := Lt_e h ev64
        refine lv_istore (lv' := [(10, .int v64), (9, .int t61), (0, .ref c0), (3, .int i3), (4, .int i4), (5, .int i5), (6, .int i6), (7, .int i7), (8, .int i8)]) hx hb d_Mo_chunk_299 hl (by decide) rfl (fun ls hl => ?_)
        refine lv_iload hx hb d_Mo_chunk_301 (lv_at hl 6 rfl) ?_
        refine lv_istore (lv' := [(7, .int i6), (10, .int v64), (9, .int t61), (0, .ref c0), (3, .int i3), (4, .int i4), (5, .int i5), (6, .int i6), (8, .int i8)]) hx hb d_Mo_chunk_303 hl (by decide) rfl (fun ls hl => ?_)
        refine lv_iload hx hb d_Mo_chunk_305 (lv_at hl 6 rfl) ?_
        refine lv_istore (lv' := [(6, .int i5), (7, .int i6), (10, .int v64), (9, .int t61), (0, .ref c0), (3, .int i3), (4, .int i4), (5, .int i5), (8, .int i8)]) hx hb d_Mo_chunk_307 hl (by decide) rfl (fun ls hl => ?_)
        refine lv_iload hx hb d_Mo_chunk_309 (lv_at hl 6 rfl) ?_
        refine lv_bipush (v := 30) hx hb d_Mo_chunk_311 (by decide) ?_
        obtain ⟨r65, hc65, h⟩ := Bd_e h
        refine xS_i0 (wr := [(c0, .inr (9, [.ref c1, .ref u0_1, .ref u0_2, .int y0_3, .int y0_4, .int y0_5, .int y0_6, .int y0_7, .int y0_8, .int y0_9, .int y0_10, .int y0_11, .int y0_12, .int y0_13, .int y0_14, .int y0_15, .int y0_16, .ref u0_17, .ref u0_18, .ref u0_19, .ref u0_20, .ref u0_21, .ref c2, .ref c3])), (c1, .inl (G.2.1 0, m1, .inl g_1)), (c2, .inl (G.2.1 1, m2, .inl g_2)), (c3, .inl (G.2.1 1, m3, .inl g_3))]) (rest := []) C0 hK hT hA hP hD hS hl.1 (c_Mo_turned l G  _  i4 30 N r65 hc65) (goodS q551 q552 q439 q553) 2 rfl hd_Mo_turned (Nat.le_trans (by decide) hRf) (Nat.le_trans (by decide) hRl) [] [0, 1, 2, 3] rfl rfl (by decide) (by decide) (by decide) rfl (Nat.le_of_ble_eq_true rfl) d_Mo_chunk_313 hkc hks (fun w1 H locs hE hP hD hS => ?_)
        subst hE
        have hP : va_P G.1 classes [(c0, .inr (9, [.ref c1, .ref u0_1, .ref u0_2, .int y0_3, .int y0_4, .int y0_5, .int y0_6, .int y0_7, .int y0_8, .int y0_9, .int y0_10, .int y0_11, .int y0_12, .int y0_13, .int y0_14, .int y0_15, .int y0_16, .ref u0_17, .ref u0_18, .ref u0_19, .ref u0_20, .ref u0_21, .ref c2, .ref c3])), (c1, .inl (G.2.1 0, m1, .inl g_1)), (c2, .inl (G.2.1 1, m2, .inl g_2)), (c3, .inl (G.2.1 1, m3, .inl g_3))] H := hP
        have hD : va_D A [(c0, .inr (9, [.ref c1, .ref u0_1, .ref u0_2, .int y0_3, .int y0_4, .int y0_5, .int y0_6, .int y0_7, .int y0_8, .int y0_9, .int y0_10, .int y0_11, .int y0_12, .int y0_13, .int y0_14, .int y0_15, .int y0_16, .ref u0_17, .ref u0_18, .ref u0_19, .ref u0_20, .ref u0_21, .ref c2, .ref c3])), (c1, .inl (G.2.1 0, m1, .inl g_1)), (c2, .inl (G.2.1 1, m2, .inl g_2)), (c3, .inl (G.2.1 1, m3, .inl g_3))] := hD
        refine lv_istore (lv' := [(5, .int r65), (6, .int i5), (7, .int i6), (10, .int v64), (9, .int t61), (0, .ref c0), (3, .int i3), (4, .int i4), (8, .int i8)]) hx hb d_Mo_chunk_316 hl (by decide) rfl (fun ls hl => ?_)
        refine lv_iload_n hx hb d_Mo_chunk_318 rfl (lv_at hl 6 rfl) ?_
        refine lv_istore (lv' := [(4, .int i3), (5, .int r65), (6, .int i5), (7, .int i6), (10, .int v64), (9, .int t61), (0, .ref c0), (3, .int i3), (8, .int i8)]) hx hb d_Mo_chunk_319 hl (by decide) rfl (fun ls hl => ?_)
        refine lv_iload hx hb d_Mo_chunk_321 (lv_at hl 4 rfl) ?_
        refine lv_istore_n (lv' := [(3, .int v64), (4, .int i3), (5, .int r65), (6, .int i5), (7, .int i6), (10, .int v64), (9, .int t61), (0, .ref c0), (8, .int i8)]) hx hb d_Mo_chunk_323 rfl hl (by decide) rfl (fun ls hl => ?_)
        obtain ⟨v66, ev66⟩ : ∃ y : Int32, y = i8 + 1 := ⟨_, rfl⟩
        replace h := Lt_e h ev66
        refine lv_iinc (v := v66) (lv' := [(8, .int v66), (3, .int v64), (4, .int i3), (5, .int r65), (6, .int i5), (7, .int i6), (10, .int v64), (9, .int t61), (0, .ref c0)]) hx hb d_Mo_chunk_324 hl (k := 8) rfl (by rw [ev66]; rfl) (by decide) rfl (fun ls hl => ?_)
        refine lv_goto (tgt := 183) hx hb d_Mo_chunk_327 (by decide) ?_
        exact ih v64 i3 r65 i5 i6 v66  _ _ _ h hP hD hS (lv_sub hl [8, 1, 2, 3, 4, 5, 0] rfl)
      refine lv_icmp_ge (tgt := 216) hx hb d_Mo_chunk_194 (by decide) (fun cq67 => ?_) (fun cq67 => ?_)
      · replace h := (if_pos cq67).symm.trans h
        refine lv_iload hx hb d_Mo_chunk_216 (lv_at hl 6 rfl) ?_
        refine lv_bipush (v := 40) hx hb d_Mo_chunk_218 (by decide) ?_
        refine lv_icmp_ge (tgt := 237) hx hb d_Mo_chunk_220 (by decide) (fun cq68 => ?_) (fun cq68 => ?_)
        · replace h := (if_pos cq68).symm.trans h
          refine lv_iload hx hb d_Mo_chunk_237 (lv_at hl 6 rfl) ?_
          refine lv_bipush (v := 60) hx hb d_Mo_chunk_239 (by decide) ?_
          refine lv_icmp_ge (tgt := 267) hx hb d_Mo_chunk_241 (by decide) (fun cq69 => ?_) (fun cq69 => ?_)
          · replace h := (if_pos cq69).symm.trans h
            refine lv_iload hx hb d_Mo_chunk_267 (lv_at hl 2 rfl) ?_
            refine lv_iload hx hb d_Mo_chunk_269 (lv_at hl 3 rfl) ?_
            refine lv_ixor hx hb d_Mo_chunk_271 ?_
            refine lv_iload hx hb d_Mo_chunk_272 (lv_at hl 4 rfl) ?_
            refine lv_ixor hx hb d_Mo_chunk_274 ?_
            refine lv_ldc (v := (-899497514)) hx hb hown (hts _ q554) d_Mo_chunk_275 ?_
            refine lv_iadd hx hb d_Mo_chunk_277 ?_
            exact hj61 (((i4 ^^^ i5) ^^^ i6) + ((-899497514))) _ _ _ h hP hD hS hl
          · replace h := (if_neg cq69).symm.trans h
            refine lv_iload hx hb d_Mo_chunk_244 (lv_at hl 2 rfl) ?_
            refine lv_iload hx hb d_Mo_chunk_246 (lv_at hl 3 rfl) ?_
            refine lv_iand hx hb d_Mo_chunk_248 ?_
            refine lv_iload hx hb d_Mo_chunk_249 (lv_at hl 2 rfl) ?_
            refine lv_iload hx hb d_Mo_chunk_251 (lv_at hl 4 rfl) ?_
            refine lv_iand hx hb d_Mo_chunk_253 ?_
            refine lv_ixor hx hb d_Mo_chunk_254 ?_
            refine lv_iload hx hb d_Mo_chunk_255 (lv_at hl 3 rfl) ?_
            refine lv_iload hx hb d_Mo_chunk_257 (lv_at hl 4 rfl) ?_
            refine lv_iand hx hb d_Mo_chunk_259 ?_
            refine lv_ixor hx hb d_Mo_chunk_260 ?_
            refine lv_ldc (v := (-1894007588)) hx hb hown (hts _ q555) d_Mo_chunk_261 ?_
            refine lv_iadd hx hb d_Mo_chunk_263 ?_
            refine lv_goto (tgt := 278) hx hb d_Mo_chunk_264 (by decide) ?_
            exact hj61 ((((i4 &&& i5) ^^^ (i4 &&& i6)) ^^^ (i5 &&& i6)) + ((-1894007588))) _ _ _ h hP hD hS hl
        · replace h := (if_neg cq68).symm.trans h
          refine lv_iload hx hb d_Mo_chunk_223 (lv_at hl 2 rfl) ?_
          refine lv_iload hx hb d_Mo_chunk_225 (lv_at hl 3 rfl) ?_
          refine lv_ixor hx hb d_Mo_chunk_227 ?_
          refine lv_iload hx hb d_Mo_chunk_228 (lv_at hl 4 rfl) ?_
          refine lv_ixor hx hb d_Mo_chunk_230 ?_
          refine lv_ldc (v := 1859775393) hx hb hown (hts _ q556) d_Mo_chunk_231 ?_
          refine lv_iadd hx hb d_Mo_chunk_233 ?_
          refine lv_goto (tgt := 278) hx hb d_Mo_chunk_234 (by decide) ?_
          exact hj61 (((i4 ^^^ i5) ^^^ i6) + 1859775393) _ _ _ h hP hD hS hl
      · replace h := (if_neg cq67).symm.trans h
        refine lv_iload hx hb d_Mo_chunk_197 (lv_at hl 2 rfl) ?_
        refine lv_iload hx hb d_Mo_chunk_199 (lv_at hl 3 rfl) ?_
        refine lv_iand hx hb d_Mo_chunk_201 ?_
        refine lv_ldc (v := 1518500249) hx hb hown (hts _ q557) d_Mo_chunk_202 ?_
        refine lv_iadd hx hb d_Mo_chunk_204 ?_
        refine lv_iload hx hb d_Mo_chunk_205 (lv_at hl 2 rfl) ?_
        refine lv_iconst (v := (-1)) hx hb d_Mo_chunk_207 (by decide) ?_
        refine lv_ixor hx hb d_Mo_chunk_208 ?_
        refine lv_iload hx hb d_Mo_chunk_209 (lv_at hl 4 rfl) ?_
        refine lv_iand hx hb d_Mo_chunk_211 ?_
        refine lv_iadd hx hb d_Mo_chunk_212 ?_
        refine lv_goto (tgt := 278) hx hb d_Mo_chunk_213 (by decide) ?_
        exact hj61 (((i4 &&& i5) + 1518500249) + ((i4 ^^^ ((-1))) &&& i6)) _ _ _ h hP hD hS hl
set_option maxHeartbeats 4000000 in
set_option maxRecDepth 100000 in
theorem c_Mo_chunk (l : Launch) (G : GX) (a0 a1 a2 a3 o0_1 o0_2 o0_17 o0_18 o0_19 o0_20 o0_21 : Nat) (sz : Nat) (x0_3 : Int32) (x0_4 : Int32) (x0_5 : Int32) (x0_6 : Int32) (x0_7 : Int32) (x0_8 : Int32) (x0_9 : Int32) (x0_10 : Int32) (x0_11 : Int32) (x0_12 : Int32) (x0_13 : Int32) (x0_14 : Int32) (x0_15 : Int32) (x0_16 : Int32) (n1 : Nat) (f1 : (Nat → Int32)) (n2 : Nat) (f2 : (Nat → Int32)) (n3 : Nat) (f3 : (Nat → Int32)) (p1 : Int32) (p2 : Int32) (N : Nat) (V : (Nat → Int32) × (Nat → Int32)) (h : f_Mo_chunk N x0_3 n1 f1 n2 f2 n3 f3 p1 p2 = some V) :
    Met l y_Mo_chunk (wd y_Mo_chunk b_Mo_chunk 11 none) { frames := 1, cells := 0, slots := 0, locals := 22 } (PX G [.ref a0, .int p1, .int p2] sz [(a0, .inr (9, [.ref a1, .ref o0_1, .ref o0_2, .int x0_3, .int x0_4, .int x0_5, .int x0_6, .int x0_7, .int x0_8, .int x0_9, .int x0_10, .int x0_11, .int x0_12, .int x0_13, .int x0_14, .int x0_15, .int x0_16, .ref o0_17, .ref o0_18, .ref o0_19, .ref o0_20, .ref o0_21, .ref a2, .ref a3])), (a1, .inl (G.2.1 0, n1, .inl f1)), (a2, .inl (G.2.1 1, n2, .inl f2)), (a3, .inl (G.2.1 1, n3, .inl f3))])
      (QXv G (fun w => w = [(a0, .inr (9, [.ref a1, .ref o0_1, .ref o0_2, .int x0_3, .int x0_4, .int x0_5, .int x0_6, .int x0_7, .int x0_8, .int x0_9, .int x0_10, .int x0_11, .int x0_12, .int x0_13, .int x0_14, .int x0_15, .int x0_16, .ref o0_17, .ref o0_18, .ref o0_19, .ref o0_20, .ref o0_21, .ref a2, .ref a3])), (a1, .inl (G.2.1 0, n1, .inl f1)), (a2, .inl (G.2.1 1, n2, .inl V.1)), (a3, .inl (G.2.1 1, n3, .inl V.2))]) (va_A [(a0, .inr (9, [.ref a1, .ref o0_1, .ref o0_2, .int x0_3, .int x0_4, .int x0_5, .int x0_6, .int x0_7, .int x0_8, .int x0_9, .int x0_10, .int x0_11, .int x0_12, .int x0_13, .int x0_14, .int x0_15, .int x0_16, .ref o0_17, .ref o0_18, .ref o0_19, .ref o0_20, .ref o0_21, .ref a2, .ref a3])), (a1, .inl (G.2.1 0, n1, .inl f1)), (a2, .inl (G.2.1 1, n2, .inl f2)), (a3, .inl (G.2.1 1, n3, .inl f3))] sz)) 0 0 (va_A [(a0, .inr (9, [.ref a1, .ref o0_1, .ref o0_2, .int x0_3, .int x0_4, .int x0_5, .int x0_6, .int x0_7, .int x0_8, .int x0_9, .int x0_10, .int x0_11, .int x0_12, .int x0_13, .int x0_14, .int x0_15, .int x0_16, .ref o0_17, .ref o0_18, .ref o0_19, .ref o0_20, .ref o0_21, .ref a2, .ref a3])), (a1, .inl (G.2.1 0, n1, .inl f1)), (a2, .inl (G.2.1 1, n2, .inl f2)), (a3, .inl (G.2.1 1, n3, .inl f3))] sz) := by
  refine Met_in (QQ := fun A => QXv G (fun w => w = [(a0, .inr (9, [.ref a1, .ref o0_1, .ref o0_2, .int x0_3, .int x0_4, .int x0_5, .int x0_6, .int x0_7, .int x0_8, .int x0_9, .int x0_10, .int x0_11, .int x0_12, .int x0_13, .int x0_14, .int x0_15, .int x0_16, .ref o0_17, .ref o0_18, .ref o0_19, .ref o0_20, .ref o0_21, .ref a2, .ref a3])), (a1, .inl (G.2.1 0, n1, .inl f1)), (a2, .inl (G.2.1 1, n2, .inl V.1)), (a3, .inl (G.2.1 1, n3, .inl V.2))]) A) (by decide) (Nat.le_of_ble_eq_true rfl) (fun p e s m below meth c R Q A ls C0 hRf hRl hRc hRs hP hK hD hT hA hS hl hQ => ?_)
  obtain ⟨hx, hb, hml, hown, hts, hr, hlocks, hin⟩ := id C0
  have hown : s.vm.findClass R_Mo = some m.cls := hown
  have hl : lv_has ls 11 [(0, .ref a0), (1, .int p1), (2, .int p2)] := hl
  unfold f_Mo_chunk at h
  have hkc : 0 ≤ R.cells := Nat.zero_le _
  have hks : 0 ≤ R.slots := Nat.zero_le _
  obtain ⟨H, hH⟩ : ∃ H, H = s.heap := ⟨_, rfl⟩
  obtain ⟨locs, hlc⟩ : ∃ x : List Loc, x = [] := ⟨_, rfl⟩
  rw [← hH] at hP
  have hS : va_S A s.heap H locs := by rw [hH, hlc]; exact hS
  suffices hgo : W p l e R s m [.ref a0, .int p1, .int p2].toArray below meth c H locs 0 0 Q (F0 m 0 ls []) by rw [hH, hlc] at hgo; exact hgo
  refine lv_iconst (v := 0) hx hb d_Mo_chunk_0 (by decide) ?_
  refine lv_istore_n (lv' := [(3, .int 0), (0, .ref a0), (1, .int p1), (2, .int p2)]) hx hb d_Mo_chunk_1 rfl hl (by decide) rfl (fun ls hl => ?_)
  obtain ⟨r17, hc17, h⟩ := Bd_e h
  refine w_Mo_chunk_2 C0 hRf hRl hA hK hT N p1 p2 x0_3 x0_4 x0_5 x0_6 x0_7 x0_8 x0_9 x0_10 x0_11 x0_12 x0_13 x0_14 x0_15 x0_16 n1 f1 n2 n3 f3 a0 a1 a2 a3 o0_1 o0_2 o0_17 o0_18 o0_19 o0_20 o0_21 r17 (kc := 0) (ks := 0) hkc hks ?_ N 0 f2  _ _ _ hc17 hP hD hS (lv_sub hl [1, 2, 3, 0] rfl)
  · intro H locs ls hP hD hS hl
    refine lv_bipush (v := 16) hx hb d_Mo_chunk_78 (by decide) ?_
    refine lv_istore_n (lv' := [(3, .int 16), (0, .ref a0)]) hx hb d_Mo_chunk_80 rfl hl (by decide) rfl (fun ls hl => ?_)
    obtain ⟨r36, hc36, h⟩ := Bd_e h
    refine w_Mo_chunk_81 C0 hRf hRl hA hK hT N x0_3 x0_4 x0_5 x0_6 x0_7 x0_8 x0_9 x0_10 x0_11 x0_12 x0_13 x0_14 x0_15 x0_16 n1 f1 n2 n3 f3 a0 a1 a2 a3 o0_1 o0_2 o0_17 o0_18 o0_19 o0_20 o0_21 r36 (kc := 0) (ks := 0) hkc hks ?_ N 16 r17  _ _ _ hc36 hP hD hS (lv_sub hl [1, 0] rfl)
    · intro H locs ls hP hD hS hl
      refine lv_aload_n hx hb d_Mo_chunk_141 rfl (lv_at hl 0 rfl) ?_
      refine va_get (D := G.1) (ci := 9) (v := .ref a3) (C := R_Mo) (T := F_Mo) (N := 24) hx hb hts i_Mo hown hK hP 0 rfl rfl 23 (by decide) (hts _ q433) (fun _ h9 => h9) rfl d_Mo_chunk_142 ?_
      refine lv_iconst (v := 0) hx hb d_Mo_chunk_145 (by decide) ?_
      obtain ⟨hi37, h⟩ := Ix_e h
      refine va_iald hx hb hK hP 3 1 rfl rfl hi37 d_Mo_chunk_146 ?_
      refine lv_topi (fun v38 ev38 => ?_)
      replace h := Lt_e h ev38
      refine lv_istore_n (lv' := [(3, .int v38), (0, .ref a0)]) hx hb d_Mo_chunk_147 rfl hl (by decide) rfl (fun ls hl => ?_)
      refine lv_aload_n hx hb d_Mo_chunk_148 rfl (lv_at hl 1 rfl) ?_
      refine va_get (D := G.1) (ci := 9) (v := .ref a3) (C := R_Mo) (T := F_Mo) (N := 24) hx hb hts i_Mo hown hK hP 0 rfl rfl 23 (by decide) (hts _ q433) (fun _ h9 => h9) rfl d_Mo_chunk_149 ?_
      refine lv_iconst (v := 1) hx hb d_Mo_chunk_152 (by decide) ?_
      obtain ⟨hi39, h⟩ := Ix_e h
      refine va_iald hx hb hK hP 3 1 rfl rfl hi39 d_Mo_chunk_153 ?_
      refine lv_topi (fun v40 ev40 => ?_)
      replace h := Lt_e h ev40
      refine lv_istore (lv' := [(4, .int v40), (3, .int v38), (0, .ref a0)]) hx hb d_Mo_chunk_154 hl (by decide) rfl (fun ls hl => ?_)
      refine lv_aload_n hx hb d_Mo_chunk_156 rfl (lv_at hl 2 rfl) ?_
      refine va_get (D := G.1) (ci := 9) (v := .ref a3) (C := R_Mo) (T := F_Mo) (N := 24) hx hb hts i_Mo hown hK hP 0 rfl rfl 23 (by decide) (hts _ q433) (fun _ h9 => h9) rfl d_Mo_chunk_157 ?_
      refine lv_iconst (v := 2) hx hb d_Mo_chunk_160 (by decide) ?_
      obtain ⟨hi41, h⟩ := Ix_e h
      refine va_iald hx hb hK hP 3 1 rfl rfl hi41 d_Mo_chunk_161 ?_
      refine lv_topi (fun v42 ev42 => ?_)
      replace h := Lt_e h ev42
      refine lv_istore (lv' := [(5, .int v42), (4, .int v40), (3, .int v38), (0, .ref a0)]) hx hb d_Mo_chunk_162 hl (by decide) rfl (fun ls hl => ?_)
      refine lv_aload_n hx hb d_Mo_chunk_164 rfl (lv_at hl 3 rfl) ?_
      refine va_get (D := G.1) (ci := 9) (v := .ref a3) (C := R_Mo) (T := F_Mo) (N := 24) hx hb hts i_Mo hown hK hP 0 rfl rfl 23 (by decide) (hts _ q433) (fun _ h9 => h9) rfl d_Mo_chunk_165 ?_
      refine lv_iconst (v := 3) hx hb d_Mo_chunk_168 (by decide) ?_
      obtain ⟨hi43, h⟩ := Ix_e h
      refine va_iald hx hb hK hP 3 1 rfl rfl hi43 d_Mo_chunk_169 ?_
      refine lv_topi (fun v44 ev44 => ?_)
      replace h := Lt_e h ev44
      refine lv_istore (lv' := [(6, .int v44), (5, .int v42), (4, .int v40), (3, .int v38), (0, .ref a0)]) hx hb d_Mo_chunk_170 hl (by decide) rfl (fun ls hl => ?_)
      refine lv_aload_n hx hb d_Mo_chunk_172 rfl (lv_at hl 4 rfl) ?_
      refine va_get (D := G.1) (ci := 9) (v := .ref a3) (C := R_Mo) (T := F_Mo) (N := 24) hx hb hts i_Mo hown hK hP 0 rfl rfl 23 (by decide) (hts _ q433) (fun _ h9 => h9) rfl d_Mo_chunk_173 ?_
      refine lv_iconst (v := 4) hx hb d_Mo_chunk_176 (by decide) ?_
      obtain ⟨hi45, h⟩ := Ix_e h
      refine va_iald hx hb hK hP 3 1 rfl rfl hi45 d_Mo_chunk_177 ?_
      refine lv_topi (fun v46 ev46 => ?_)
      replace h := Lt_e h ev46
      refine lv_istore (lv' := [(7, .int v46), (6, .int v44), (5, .int v42), (4, .int v40), (3, .int v38), (0, .ref a0)]) hx hb d_Mo_chunk_178 hl (by decide) rfl (fun ls hl => ?_)
      refine lv_iconst (v := 0) hx hb d_Mo_chunk_180 (by decide) ?_
      refine lv_istore (lv' := [(8, .int 0), (7, .int v46), (6, .int v44), (5, .int v42), (4, .int v40), (3, .int v38), (0, .ref a0)]) hx hb d_Mo_chunk_181 hl (by decide) rfl (fun ls hl => ?_)
      obtain ⟨r70, hc70, h⟩ := Bd_e h
      refine w_Mo_chunk_183 C0 hRf hRl hA hK hT N x0_3 x0_4 x0_5 x0_6 x0_7 x0_8 x0_9 x0_10 x0_11 x0_12 x0_13 x0_14 x0_15 x0_16 n1 f1 n2 r36 n3 f3 a0 a1 a2 a3 o0_1 o0_2 o0_17 o0_18 o0_19 o0_20 o0_21 r70 (kc := 0) (ks := 0) hkc hks ?_ N v38 v40 v42 v44 v46 0  _ _ _ hc70 hP hD hS (lv_sub hl [6, 5, 4, 3, 2, 1, 0] rfl)
      · intro H locs ls hP hD hS hl
        refine lv_aload_n hx hb d_Mo_chunk_330 rfl (lv_at hl 0 rfl) ?_
        refine va_get (D := G.1) (ci := 9) (v := .ref a3) (C := R_Mo) (T := F_Mo) (N := 24) hx hb hts i_Mo hown hK hP 0 rfl rfl 23 (by decide) (hts _ q433) (fun _ h9 => h9) rfl d_Mo_chunk_331 ?_
        refine lv_iconst (v := 0) hx hb d_Mo_chunk_334 (by decide) ?_
        refine lv_dup2_11 hx hb d_Mo_chunk_335 rfl rfl ?_
        obtain ⟨hi71, h⟩ := Ix_e h
        refine va_iald hx hb hK hP 3 1 rfl rfl hi71 d_Mo_chunk_336 ?_
        refine lv_iload_n hx hb d_Mo_chunk_337 rfl (lv_at hl 1 rfl) ?_
        refine lv_iadd hx hb d_Mo_chunk_338 ?_
        obtain ⟨hi72, h⟩ := Ix_e h
        refine y_iast hx hb hK hP hD hS 3 1 rfl rfl hi72 d_Mo_chunk_339 (fun g73 H locs eg73 hP hD hS => ?_)
        replace h := Lt_e h eg73
        have hP : va_P G.1 classes [(a0, .inr (9, [.ref a1, .ref o0_1, .ref o0_2, .int x0_3, .int x0_4, .int x0_5, .int x0_6, .int x0_7, .int x0_8, .int x0_9, .int x0_10, .int x0_11, .int x0_12, .int x0_13, .int x0_14, .int x0_15, .int x0_16, .ref o0_17, .ref o0_18, .ref o0_19, .ref o0_20, .ref o0_21, .ref a2, .ref a3])), (a1, .inl (G.2.1 0, n1, .inl f1)), (a2, .inl (G.2.1 1, n2, .inl r36)), (a3, .inl (G.2.1 1, n3, .inl g73))] H := hP
        have hD : va_D A [(a0, .inr (9, [.ref a1, .ref o0_1, .ref o0_2, .int x0_3, .int x0_4, .int x0_5, .int x0_6, .int x0_7, .int x0_8, .int x0_9, .int x0_10, .int x0_11, .int x0_12, .int x0_13, .int x0_14, .int x0_15, .int x0_16, .ref o0_17, .ref o0_18, .ref o0_19, .ref o0_20, .ref o0_21, .ref a2, .ref a3])), (a1, .inl (G.2.1 0, n1, .inl f1)), (a2, .inl (G.2.1 1, n2, .inl r36)), (a3, .inl (G.2.1 1, n3, .inl g73))] := hD
        refine lv_aload_n hx hb d_Mo_chunk_340 rfl (lv_at hl 0 rfl) ?_
        refine va_get (D := G.1) (ci := 9) (v := .ref a3) (C := R_Mo) (T := F_Mo) (N := 24) hx hb hts i_Mo hown hK hP 0 rfl rfl 23 (by decide) (hts _ q433) (fun _ h9 => h9) rfl d_Mo_chunk_341 ?_
        refine lv_iconst (v := 1) hx hb d_Mo_chunk_344 (by decide) ?_
        refine lv_dup2_11 hx hb d_Mo_chunk_345 rfl rfl ?_
        obtain ⟨hi74, h⟩ := Ix_e h
        refine va_iald hx hb hK hP 3 1 rfl rfl hi74 d_Mo_chunk_346 ?_
        refine lv_iload hx hb d_Mo_chunk_347 (lv_at hl 2 rfl) ?_
        refine lv_iadd hx hb d_Mo_chunk_349 ?_
        obtain ⟨hi75, h⟩ := Ix_e h
        refine y_iast hx hb hK hP hD hS 3 1 rfl rfl hi75 d_Mo_chunk_350 (fun g76 H locs eg76 hP hD hS => ?_)
        replace h := Lt_e h eg76
        have hP : va_P G.1 classes [(a0, .inr (9, [.ref a1, .ref o0_1, .ref o0_2, .int x0_3, .int x0_4, .int x0_5, .int x0_6, .int x0_7, .int x0_8, .int x0_9, .int x0_10, .int x0_11, .int x0_12, .int x0_13, .int x0_14, .int x0_15, .int x0_16, .ref o0_17, .ref o0_18, .ref o0_19, .ref o0_20, .ref o0_21, .ref a2, .ref a3])), (a1, .inl (G.2.1 0, n1, .inl f1)), (a2, .inl (G.2.1 1, n2, .inl r36)), (a3, .inl (G.2.1 1, n3, .inl g76))] H := hP
        have hD : va_D A [(a0, .inr (9, [.ref a1, .ref o0_1, .ref o0_2, .int x0_3, .int x0_4, .int x0_5, .int x0_6, .int x0_7, .int x0_8, .int x0_9, .int x0_10, .int x0_11, .int x0_12, .int x0_13, .int x0_14, .int x0_15, .int x0_16, .ref o0_17, .ref o0_18, .ref o0_19, .ref o0_20, .ref o0_21, .ref a2, .ref a3])), (a1, .inl (G.2.1 0, n1, .inl f1)), (a2, .inl (G.2.1 1, n2, .inl r36)), (a3, .inl (G.2.1 1, n3, .inl g76))] := hD
        refine lv_aload_n hx hb d_Mo_chunk_351 rfl (lv_at hl 0 rfl) ?_
        refine va_get (D := G.1) (ci := 9) (v := .ref a3) (C := R_Mo) (T := F_Mo) (N := 24) hx hb hts i_Mo hown hK hP 0 rfl rfl 23 (by decide) (hts _ q433) (fun _ h9 => h9) rfl d_Mo_chunk_352 ?_
        refine lv_iconst (v := 2) hx hb d_Mo_chunk_355 (by decide) ?_
        refine lv_dup2_11 hx hb d_Mo_chunk_356 rfl rfl ?_
        obtain ⟨hi77, h⟩ := Ix_e h
        refine va_iald hx hb hK hP 3 1 rfl rfl hi77 d_Mo_chunk_357 ?_
        refine lv_iload hx hb d_Mo_chunk_358 (lv_at hl 3 rfl) ?_
        refine lv_iadd hx hb d_Mo_chunk_360 ?_
        obtain ⟨hi78, h⟩ := Ix_e h
        refine y_iast hx hb hK hP hD hS 3 1 rfl rfl hi78 d_Mo_chunk_361 (fun g79 H locs eg79 hP hD hS => ?_)
        replace h := Lt_e h eg79
        have hP : va_P G.1 classes [(a0, .inr (9, [.ref a1, .ref o0_1, .ref o0_2, .int x0_3, .int x0_4, .int x0_5, .int x0_6, .int x0_7, .int x0_8, .int x0_9, .int x0_10, .int x0_11, .int x0_12, .int x0_13, .int x0_14, .int x0_15, .int x0_16, .ref o0_17, .ref o0_18, .ref o0_19, .ref o0_20, .ref o0_21, .ref a2, .ref a3])), (a1, .inl (G.2.1 0, n1, .inl f1)), (a2, .inl (G.2.1 1, n2, .inl r36)), (a3, .inl (G.2.1 1, n3, .inl g79))] H := hP
        have hD : va_D A [(a0, .inr (9, [.ref a1, .ref o0_1, .ref o0_2, .int x0_3, .int x0_4, .int x0_5, .int x0_6, .int x0_7, .int x0_8, .int x0_9, .int x0_10, .int x0_11, .int x0_12, .int x0_13, .int x0_14, .int x0_15, .int x0_16, .ref o0_17, .ref o0_18, .ref o0_19, .ref o0_20, .ref o0_21, .ref a2, .ref a3])), (a1, .inl (G.2.1 0, n1, .inl f1)), (a2, .inl (G.2.1 1, n2, .inl r36)), (a3, .inl (G.2.1 1, n3, .inl g79))] := hD
        refine lv_aload_n hx hb d_Mo_chunk_362 rfl (lv_at hl 0 rfl) ?_
        refine va_get (D := G.1) (ci := 9) (v := .ref a3) (C := R_Mo) (T := F_Mo) (N := 24) hx hb hts i_Mo hown hK hP 0 rfl rfl 23 (by decide) (hts _ q433) (fun _ h9 => h9) rfl d_Mo_chunk_363 ?_
        refine lv_iconst (v := 3) hx hb d_Mo_chunk_366 (by decide) ?_
        refine lv_dup2_11 hx hb d_Mo_chunk_367 rfl rfl ?_
        obtain ⟨hi80, h⟩ := Ix_e h
        refine va_iald hx hb hK hP 3 1 rfl rfl hi80 d_Mo_chunk_368 ?_
        refine lv_iload hx hb d_Mo_chunk_369 (lv_at hl 4 rfl) ?_
        refine lv_iadd hx hb d_Mo_chunk_371 ?_
        obtain ⟨hi81, h⟩ := Ix_e h
        refine y_iast hx hb hK hP hD hS 3 1 rfl rfl hi81 d_Mo_chunk_372 (fun g82 H locs eg82 hP hD hS => ?_)
        replace h := Lt_e h eg82
        have hP : va_P G.1 classes [(a0, .inr (9, [.ref a1, .ref o0_1, .ref o0_2, .int x0_3, .int x0_4, .int x0_5, .int x0_6, .int x0_7, .int x0_8, .int x0_9, .int x0_10, .int x0_11, .int x0_12, .int x0_13, .int x0_14, .int x0_15, .int x0_16, .ref o0_17, .ref o0_18, .ref o0_19, .ref o0_20, .ref o0_21, .ref a2, .ref a3])), (a1, .inl (G.2.1 0, n1, .inl f1)), (a2, .inl (G.2.1 1, n2, .inl r36)), (a3, .inl (G.2.1 1, n3, .inl g82))] H := hP
        have hD : va_D A [(a0, .inr (9, [.ref a1, .ref o0_1, .ref o0_2, .int x0_3, .int x0_4, .int x0_5, .int x0_6, .int x0_7, .int x0_8, .int x0_9, .int x0_10, .int x0_11, .int x0_12, .int x0_13, .int x0_14, .int x0_15, .int x0_16, .ref o0_17, .ref o0_18, .ref o0_19, .ref o0_20, .ref o0_21, .ref a2, .ref a3])), (a1, .inl (G.2.1 0, n1, .inl f1)), (a2, .inl (G.2.1 1, n2, .inl r36)), (a3, .inl (G.2.1 1, n3, .inl g82))] := hD
        refine lv_aload_n hx hb d_Mo_chunk_373 rfl (lv_at hl 0 rfl) ?_
        refine va_get (D := G.1) (ci := 9) (v := .ref a3) (C := R_Mo) (T := F_Mo) (N := 24) hx hb hts i_Mo hown hK hP 0 rfl rfl 23 (by decide) (hts _ q433) (fun _ h9 => h9) rfl d_Mo_chunk_374 ?_
        refine lv_iconst (v := 4) hx hb d_Mo_chunk_377 (by decide) ?_
        refine lv_dup2_11 hx hb d_Mo_chunk_378 rfl rfl ?_
        obtain ⟨hi83, h⟩ := Ix_e h
        refine va_iald hx hb hK hP 3 1 rfl rfl hi83 d_Mo_chunk_379 ?_
        refine lv_iload hx hb d_Mo_chunk_380 (lv_at hl 5 rfl) ?_
        refine lv_iadd hx hb d_Mo_chunk_382 ?_
        obtain ⟨hi84, h⟩ := Ix_e h
        refine y_iast hx hb hK hP hD hS 3 1 rfl rfl hi84 d_Mo_chunk_383 (fun g85 H locs eg85 hP hD hS => ?_)
        replace h := Lt_e h eg85
        have hP : va_P G.1 classes [(a0, .inr (9, [.ref a1, .ref o0_1, .ref o0_2, .int x0_3, .int x0_4, .int x0_5, .int x0_6, .int x0_7, .int x0_8, .int x0_9, .int x0_10, .int x0_11, .int x0_12, .int x0_13, .int x0_14, .int x0_15, .int x0_16, .ref o0_17, .ref o0_18, .ref o0_19, .ref o0_20, .ref o0_21, .ref a2, .ref a3])), (a1, .inl (G.2.1 0, n1, .inl f1)), (a2, .inl (G.2.1 1, n2, .inl r36)), (a3, .inl (G.2.1 1, n3, .inl g85))] H := hP
        have hD : va_D A [(a0, .inr (9, [.ref a1, .ref o0_1, .ref o0_2, .int x0_3, .int x0_4, .int x0_5, .int x0_6, .int x0_7, .int x0_8, .int x0_9, .int x0_10, .int x0_11, .int x0_12, .int x0_13, .int x0_14, .int x0_15, .int x0_16, .ref o0_17, .ref o0_18, .ref o0_19, .ref o0_20, .ref o0_21, .ref a2, .ref a3])), (a1, .inl (G.2.1 0, n1, .inl f1)), (a2, .inl (G.2.1 1, n2, .inl r36)), (a3, .inl (G.2.1 1, n3, .inl g85))] := hD
        have eV := so1 h
        subst eV
        exact x_vret C0 hQ hP hD hS rfl (Nat.zero_le _) (Nat.zero_le _) d_Mo_chunk_384
set_option maxHeartbeats 4000000 in
set_option maxRecDepth 100000 in
theorem w_Mo_hash_80 {p : Program} {l : Launch} {e : Env} {R : Room} {s : State} {m : MethodId} {args : Array Value} {below : List Frame} {meth : Method} {c : Code} {Q : State → Prop} {G : GX} {A : Nat → Prop} (C0 : Cx p s m args meth c b_Mo_hash 5 y_Mo_hash (some .long)) (hRf : 2 ≤ R.frames) (hRl : 52 ≤ R.locals) (hA : ∀ q, s.heap.size ≤ q → A q) (hK : KX G s) (hT : TX G A s) (N : Nat) (i1 : Int32) (i2 : Int32) (y0_3 : Int32) (y0_4 : Int32) (y0_5 : Int32) (y0_6 : Int32) (y0_7 : Int32) (y0_8 : Int32) (y0_9 : Int32) (y0_10 : Int32) (y0_11 : Int32) (y0_12 : Int32) (y0_13 : Int32) (y0_14 : Int32) (y0_15 : Int32) (y0_16 : Int32) (m1 : Nat) (g_1 : (Nat → Int32)) (m2 : Nat) (m3 : Nat) (c0 c1 c2 c3 u0_1 u0_2 u0_17 u0_18 u0_19 u0_20 u0_21 : Nat) (out : (Nat → Int32) × (Nat → Int32)) {kc ks : Nat} (hkc : kc ≤ R.cells) (hks : ks ≤ R.slots)
    (kx97 : ∀ (H : Heap) (locs : List Loc) (ls : Array Slot), va_P G.1 classes [(c0, .inr (9, [.ref c1, .ref u0_1, .ref u0_2, .int y0_3, .int y0_4, .int y0_5, .int y0_6, .int y0_7, .int y0_8, .int y0_9, .int y0_10, .int y0_11, .int y0_12, .int y0_13, .int y0_14, .int y0_15, .int y0_16, .ref u0_17, .ref u0_18, .ref u0_19, .ref u0_20, .ref u0_21, .ref c2, .ref c3])), (c1, .inl (G.2.1 0, m1, .inl g_1)), (c2, .inl (G.2.1 1, m2, .inl out.1)), (c3, .inl (G.2.1 1, m3, .inl out.2))] H → va_D A [(c0, .inr (9, [.ref c1, .ref u0_1, .ref u0_2, .int y0_3, .int y0_4, .int y0_5, .int y0_6, .int y0_7, .int y0_8, .int y0_9, .int y0_10, .int y0_11, .int y0_12, .int y0_13, .int y0_14, .int y0_15, .int y0_16, .ref u0_17, .ref u0_18, .ref u0_19, .ref u0_20, .ref u0_21, .ref c2, .ref c3])), (c1, .inl (G.2.1 0, m1, .inl g_1)), (c2, .inl (G.2.1 1, m2, .inl out.1)), (c3, .inl (G.2.1 1, m3, .inl out.2))] → va_S A s.heap H locs → lv_has ls 5 [(0, .ref c0), (1, .int i1)] → W p l e R s m args below meth c H locs kc ks Q (F0 m 97 ls [])) :
    ∀ (n : Nat) (i3 : Int32) (g_2 : (Nat → Int32)) (g_3 : (Nat → Int32)) (H : Heap) (locs : List Loc) (ls : Array Slot), lp_Mo_hash_80 N i2 y0_3 m1 g_1 m2 m3 n i3 g_2 g_3 = some out → va_P G.1 classes [(c0, .inr (9, [.ref c1, .ref u0_1, .ref u0_2, .int y0_3, .int y0_4, .int y0_5, .int y0_6, .int y0_7, .int y0_8, .int y0_9, .int y0_10, .int y0_11, .int y0_12, .int y0_13, .int y0_14, .int y0_15, .int y0_16, .ref u0_17, .ref u0_18, .ref u0_19, .ref u0_20, .ref u0_21, .ref c2, .ref c3])), (c1, .inl (G.2.1 0, m1, .inl g_1)), (c2, .inl (G.2.1 1, m2, .inl g_2)), (c3, .inl (G.2.1 1, m3, .inl g_3))] H → va_D A [(c0, .inr (9, [.ref c1, .ref u0_1, .ref u0_2, .int y0_3, .int y0_4, .int y0_5, .int y0_6, .int y0_7, .int y0_8, .int y0_9, .int y0_10, .int y0_11, .int y0_12, .int y0_13, .int y0_14, .int y0_15, .int y0_16, .ref u0_17, .ref u0_18, .ref u0_19, .ref u0_20, .ref u0_21, .ref c2, .ref c3])), (c1, .inl (G.2.1 0, m1, .inl g_1)), (c2, .inl (G.2.1 1, m2, .inl g_2)), (c3, .inl (G.2.1 1, m3, .inl g_3))] → va_S A s.heap H locs → lv_has ls 5 [(0, .ref c0), (1, .int i1), (2, .int i2), (3, .int i3)] → W p l e R s m args below meth c H locs kc ks Q (F0 m 80 ls []) := by
  obtain ⟨hx, hb, hml, hown, hts, hr, hlocks, hin⟩ := id C0
  have hown : s.vm.findClass R_Mo = some m.cls := hown
  intro n
  induction n with
  | zero => intro i3 g_2 g_3 H locs ls h; cases h
  | succ n ih =>
    intro i3 g_2 g_3 H locs ls h hP hD hS hl
    replace h : lb_Mo_hash_80 N i2 y0_3 m1 g_1 m2 m3 (lp_Mo_hash_80 N i2 y0_3 m1 g_1 m2 m3 n) i3 g_2 g_3 = some out := h
    unfold lb_Mo_hash_80 at h
    refine lv_iload_n hx hb d_Mo_hash_80 rfl (lv_at hl 3 rfl) ?_
    refine lv_iload_n hx hb d_Mo_hash_81 rfl (lv_at hl 2 rfl) ?_
    refine lv_icmp_ge (tgt := 97) hx hb d_Mo_hash_82 (by decide) (fun cq40 => ?_) (fun cq40 => ?_)
    · replace h := (if_pos cq40).symm.trans h
      have eV := so1 h
      subst eV
      exact kx97 _ _ _ hP hD hS (lv_sub hl [0, 1] rfl)
    · replace h := (if_neg cq40).symm.trans h
      refine lv_aload_n hx hb d_Mo_hash_85 rfl (lv_at hl 0 rfl) ?_
      refine lv_iload_n hx hb d_Mo_hash_86 rfl (lv_at hl 3 rfl) ?_
      refine lv_iload_n hx hb d_Mo_hash_87 rfl (lv_at hl 2 rfl) ?_
      obtain ⟨r41, hc41, h⟩ := Bd_e h
      refine xV_v0 (wr := []) (rest := []) C0 hK hT hA hP hD hS hl.1 (c_Mo_chunk l G c0 c1 c2 c3 u0_1 u0_2 u0_17 u0_18 u0_19 u0_20 u0_21 _ y0_3 y0_4 y0_5 y0_6 y0_7 y0_8 y0_9 y0_10 y0_11 y0_12 y0_13 y0_14 y0_15 y0_16 m1 g_1 m2 g_2 m3 g_3 i3 i2 N r41 hc41) (goodV q563 q564 q565 q439 q566) 2 rfl hd_Mo_chunk (Nat.le_trans (by decide) hRf) (Nat.le_trans (by decide) hRl) [0, 1, 2, 3] [] rfl rfl (by decide) (by decide) (by decide) 9 0 rfl rfl rfl (Nat.le_of_ble_eq_true rfl) d_Mo_hash_88 hkc hks (fun w1 H locs hE hP hD hS => ?_)
      subst hE
      have hP : va_P G.1 classes [(c0, .inr (9, [.ref c1, .ref u0_1, .ref u0_2, .int y0_3, .int y0_4, .int y0_5, .int y0_6, .int y0_7, .int y0_8, .int y0_9, .int y0_10, .int y0_11, .int y0_12, .int y0_13, .int y0_14, .int y0_15, .int y0_16, .ref u0_17, .ref u0_18, .ref u0_19, .ref u0_20, .ref u0_21, .ref c2, .ref c3])), (c1, .inl (G.2.1 0, m1, .inl g_1)), (c2, .inl (G.2.1 1, m2, .inl r41.1)), (c3, .inl (G.2.1 1, m3, .inl r41.2))] H := hP
      have hD : va_D A [(c0, .inr (9, [.ref c1, .ref u0_1, .ref u0_2, .int y0_3, .int y0_4, .int y0_5, .int y0_6, .int y0_7, .int y0_8, .int y0_9, .int y0_10, .int y0_11, .int y0_12, .int y0_13, .int y0_14, .int y0_15, .int y0_16, .ref u0_17, .ref u0_18, .ref u0_19, .ref u0_20, .ref u0_21, .ref c2, .ref c3])), (c1, .inl (G.2.1 0, m1, .inl g_1)), (c2, .inl (G.2.1 1, m2, .inl r41.1)), (c3, .inl (G.2.1 1, m3, .inl r41.2))] := hD
      obtain ⟨v42, ev42⟩ : ∃ y : Int32, y = i3 + 64 := ⟨_, rfl⟩
      replace h := Lt_e h ev42
      refine lv_iinc (v := v42) (lv' := [(3, .int v42), (0, .ref c0), (1, .int i1), (2, .int i2)]) hx hb d_Mo_hash_91 hl (k := 3) rfl (by rw [ev42]; rfl) (by decide) rfl (fun ls hl => ?_)
      refine lv_goto (tgt := 80) hx hb d_Mo_hash_94 (by decide) ?_
      exact ih v42 r41.1 r41.2  _ _ _ h hP hD hS (lv_sub hl [1, 2, 3, 0] rfl)
set_option maxHeartbeats 4000000 in
set_option maxRecDepth 100000 in
theorem c_Mo_hash (l : Launch) (G : GX) (a0 a1 a2 a3 o0_1 o0_2 o0_17 o0_18 o0_19 o0_20 o0_21 : Nat) (sz : Nat) (x0_3 : Int32) (x0_4 : Int32) (x0_5 : Int32) (x0_6 : Int32) (x0_7 : Int32) (x0_8 : Int32) (x0_9 : Int32) (x0_10 : Int32) (x0_11 : Int32) (x0_12 : Int32) (x0_13 : Int32) (x0_14 : Int32) (x0_15 : Int32) (x0_16 : Int32) (n1 : Nat) (f1 : (Nat → Int32)) (n2 : Nat) (f2 : (Nat → Int32)) (n3 : Nat) (f3 : (Nat → Int32)) (p1 : Int32) (N : Nat) (V : Int64 × Int32 × (Nat → Int32) × (Nat → Int32)) (h : f_Mo_hash N x0_3 n1 f1 n2 f2 n3 f3 p1 = some V) :
    Met l y_Mo_hash (wd y_Mo_hash b_Mo_hash 5 (some .long)) { frames := 2, cells := 0, slots := 0, locals := 52 } (PX G [.ref a0, .int p1] sz [(a0, .inr (9, [.ref a2, .ref o0_1, .ref o0_2, .int x0_3, .int x0_4, .int x0_5, .int x0_6, .int x0_7, .int x0_8, .int x0_9, .int x0_10, .int x0_11, .int x0_12, .int x0_13, .int x0_14, .int x0_15, .int x0_16, .ref o0_17, .ref o0_18, .ref o0_19, .ref o0_20, .ref o0_21, .ref a3, .ref a1])), (a1, .inl (G.2.1 1, n1, .inl f1)), (a2, .inl (G.2.1 0, n2, .inl f2)), (a3, .inl (G.2.1 1, n3, .inl f3))])
      (QXl G V.1 (fun w => w = [(a0, .inr (9, [.ref a2, .ref o0_1, .ref o0_2, .int x0_3, .int x0_4, .int x0_5, .int x0_6, .int x0_7, .int x0_8, .int x0_9, .int V.2.1, .int x0_11, .int x0_12, .int x0_13, .int x0_14, .int x0_15, .int x0_16, .ref o0_17, .ref o0_18, .ref o0_19, .ref o0_20, .ref o0_21, .ref a3, .ref a1])), (a1, .inl (G.2.1 1, n1, .inl V.2.2.1)), (a2, .inl (G.2.1 0, n2, .inl f2)), (a3, .inl (G.2.1 1, n3, .inl V.2.2.2))]) (va_A [(a0, .inr (9, [.ref a2, .ref o0_1, .ref o0_2, .int x0_3, .int x0_4, .int x0_5, .int x0_6, .int x0_7, .int x0_8, .int x0_9, .int x0_10, .int x0_11, .int x0_12, .int x0_13, .int x0_14, .int x0_15, .int x0_16, .ref o0_17, .ref o0_18, .ref o0_19, .ref o0_20, .ref o0_21, .ref a3, .ref a1])), (a1, .inl (G.2.1 1, n1, .inl f1)), (a2, .inl (G.2.1 0, n2, .inl f2)), (a3, .inl (G.2.1 1, n3, .inl f3))] sz)) 0 0 (va_A [(a0, .inr (9, [.ref a2, .ref o0_1, .ref o0_2, .int x0_3, .int x0_4, .int x0_5, .int x0_6, .int x0_7, .int x0_8, .int x0_9, .int x0_10, .int x0_11, .int x0_12, .int x0_13, .int x0_14, .int x0_15, .int x0_16, .ref o0_17, .ref o0_18, .ref o0_19, .ref o0_20, .ref o0_21, .ref a3, .ref a1])), (a1, .inl (G.2.1 1, n1, .inl f1)), (a2, .inl (G.2.1 0, n2, .inl f2)), (a3, .inl (G.2.1 1, n3, .inl f3))] sz) := by
  refine Met_in (QQ := fun A => QXl G V.1 (fun w => w = [(a0, .inr (9, [.ref a2, .ref o0_1, .ref o0_2, .int x0_3, .int x0_4, .int x0_5, .int x0_6, .int x0_7, .int x0_8, .int x0_9, .int V.2.1, .int x0_11, .int x0_12, .int x0_13, .int x0_14, .int x0_15, .int x0_16, .ref o0_17, .ref o0_18, .ref o0_19, .ref o0_20, .ref o0_21, .ref a3, .ref a1])), (a1, .inl (G.2.1 1, n1, .inl V.2.2.1)), (a2, .inl (G.2.1 0, n2, .inl f2)), (a3, .inl (G.2.1 1, n3, .inl V.2.2.2))]) A) (by decide) (Nat.le_of_ble_eq_true rfl) (fun p e s m below meth c R Q A ls C0 hRf hRl hRc hRs hP hK hD hT hA hS hl hQ => ?_)
  obtain ⟨hx, hb, hml, hown, hts, hr, hlocks, hin⟩ := id C0
  have hown : s.vm.findClass R_Mo = some m.cls := hown
  have hl : lv_has ls 5 [(0, .ref a0), (1, .int p1)] := hl
  unfold f_Mo_hash at h
  have hkc : 0 ≤ R.cells := Nat.zero_le _
  have hks : 0 ≤ R.slots := Nat.zero_le _
  obtain ⟨H, hH⟩ : ∃ H, H = s.heap := ⟨_, rfl⟩
  obtain ⟨locs, hlc⟩ : ∃ x : List Loc, x = [] := ⟨_, rfl⟩
  rw [← hH] at hP
  have hS : va_S A s.heap H locs := by rw [hH, hlc]; exact hS
  suffices hgo : W p l e R s m [.ref a0, .int p1].toArray below meth c H locs 0 0 Q (F0 m 0 ls []) by rw [hH, hlc] at hgo; exact hgo
  refine lv_aload_n hx hb d_Mo_hash_0 rfl (lv_at hl 0 rfl) ?_
  refine lv_iconst (v := 0) hx hb d_Mo_hash_1 (by decide) ?_
  refine va_put (D := G.1) (ci := 9) (v := .int 0) (ty := .int) (C := R_Mo) (T := F_Mo) (N := 24) hx hb hts i_Mo t_Mo t_Mo_ok n_Mo hown hK hP hD hS 0 rfl rfl 10 (by decide) (hts _ q434) (fun _ h9 => h9) rfl (by decide +kernel) rfl rfl (Nat.le_of_ble_eq_true rfl) d_Mo_hash_2 (fun H locs hP hD hS => ?_)
  have hP : va_P G.1 classes [(a0, .inr (9, [.ref a2, .ref o0_1, .ref o0_2, .int x0_3, .int x0_4, .int x0_5, .int x0_6, .int x0_7, .int x0_8, .int x0_9, .int 0, .int x0_11, .int x0_12, .int x0_13, .int x0_14, .int x0_15, .int x0_16, .ref o0_17, .ref o0_18, .ref o0_19, .ref o0_20, .ref o0_21, .ref a3, .ref a1])), (a1, .inl (G.2.1 1, n1, .inl f1)), (a2, .inl (G.2.1 0, n2, .inl f2)), (a3, .inl (G.2.1 1, n3, .inl f3))] H := hP
  have hD : va_D A [(a0, .inr (9, [.ref a2, .ref o0_1, .ref o0_2, .int x0_3, .int x0_4, .int x0_5, .int x0_6, .int x0_7, .int x0_8, .int x0_9, .int 0, .int x0_11, .int x0_12, .int x0_13, .int x0_14, .int x0_15, .int x0_16, .ref o0_17, .ref o0_18, .ref o0_19, .ref o0_20, .ref o0_21, .ref a3, .ref a1])), (a1, .inl (G.2.1 1, n1, .inl f1)), (a2, .inl (G.2.1 0, n2, .inl f2)), (a3, .inl (G.2.1 1, n3, .inl f3))] := hD
  refine lv_iload_n hx hb d_Mo_hash_5 rfl (lv_at hl 1 rfl) ?_
  obtain ⟨j22, ej22, h⟩ := Jn_e h
  have hj22 : ∀ (t22 : Unit) (H : Heap) (locs : List Loc) (ls : Array Slot), j22 t22 = some V → va_P G.1 classes [(a0, .inr (9, [.ref a2, .ref o0_1, .ref o0_2, .int x0_3, .int x0_4, .int x0_5, .int x0_6, .int x0_7, .int x0_8, .int x0_9, .int 0, .int x0_11, .int x0_12, .int x0_13, .int x0_14, .int x0_15, .int x0_16, .ref o0_17, .ref o0_18, .ref o0_19, .ref o0_20, .ref o0_21, .ref a3, .ref a1])), (a2, .inl (G.2.1 0, n2, .inl f2)), (a3, .inl (G.2.1 1, n3, .inl f3)), (a1, .inl (G.2.1 1, n1, .inl f1))] H → va_D A [(a0, .inr (9, [.ref a2, .ref o0_1, .ref o0_2, .int x0_3, .int x0_4, .int x0_5, .int x0_6, .int x0_7, .int x0_8, .int x0_9, .int 0, .int x0_11, .int x0_12, .int x0_13, .int x0_14, .int x0_15, .int x0_16, .ref o0_17, .ref o0_18, .ref o0_19, .ref o0_20, .ref o0_21, .ref a3, .ref a1])), (a2, .inl (G.2.1 0, n2, .inl f2)), (a3, .inl (G.2.1 1, n3, .inl f3)), (a1, .inl (G.2.1 1, n1, .inl f1))] → va_S A s.heap H locs → lv_has ls 5 [(0, .ref a0)] → W p l e R s m [.ref a0, .int p1].toArray below meth c H locs 0 0 Q (F0 m 14 ls []) := by
    intro t22 H locs ls h hP hD hS hl
    replace h := ej22 _ _ h
    refine lv_aload_n hx hb d_Mo_hash_14 rfl (lv_at hl 0 rfl) ?_
    refine lv_iconst (v := 1) hx hb d_Mo_hash_15 (by decide) ?_
    obtain ⟨r23, hc23, h⟩ := Bd_e h
    refine xV_i0 (wr := [(a2, .inl (G.2.1 0, n2, .inl f2)), (a3, .inl (G.2.1 1, n3, .inl f3)), (a1, .inl (G.2.1 1, n1, .inl f1))]) (rest := []) C0 hK hT hA hP hD hS hl.1 (c_Mo_refuse l G a0 a2 o0_1 o0_2 o0_17 o0_18 o0_19 o0_20 o0_21 a3 a1 _ x0_3 x0_4 x0_5 x0_6 x0_7 x0_8 x0_9 0 x0_11 x0_12 x0_13 x0_14 x0_15 x0_16 1 N r23 hc23) (goodV q436 q437 q438 q439 q440) 1 rfl hd_Mo_refuse (Nat.le_trans (by decide) hRf) (Nat.le_trans (by decide) hRl) [0] [1, 2, 3] rfl rfl (by decide) (by decide) (by decide) 9 0 rfl rfl rfl (Nat.le_of_ble_eq_true rfl) d_Mo_hash_16 hkc hks (fun w1 H locs hE hP hD hS => ?_)
    subst hE
    have hP : va_P G.1 classes [(a2, .inl (G.2.1 0, n2, .inl f2)), (a3, .inl (G.2.1 1, n3, .inl f3)), (a1, .inl (G.2.1 1, n1, .inl f1)), (a0, .inr (9, [.ref a2, .ref o0_1, .ref o0_2, .int x0_3, .int x0_4, .int x0_5, .int x0_6, .int x0_7, .int x0_8, .int x0_9, .int r23.2, .int x0_11, .int x0_12, .int x0_13, .int x0_14, .int x0_15, .int x0_16, .ref o0_17, .ref o0_18, .ref o0_19, .ref o0_20, .ref o0_21, .ref a3, .ref a1]))] H := hP
    have hD : va_D A [(a2, .inl (G.2.1 0, n2, .inl f2)), (a3, .inl (G.2.1 1, n3, .inl f3)), (a1, .inl (G.2.1 1, n1, .inl f1)), (a0, .inr (9, [.ref a2, .ref o0_1, .ref o0_2, .int x0_3, .int x0_4, .int x0_5, .int x0_6, .int x0_7, .int x0_8, .int x0_9, .int r23.2, .int x0_11, .int x0_12, .int x0_13, .int x0_14, .int x0_15, .int x0_16, .ref o0_17, .ref o0_18, .ref o0_19, .ref o0_20, .ref o0_21, .ref a3, .ref a1]))] := hD
    refine lv_i2l (v := r23.1.toInt64) hx hb d_Mo_hash_19 rfl ?_
    have eV := so1 h
    subst eV
    exact x_lret C0 hQ (hP.sub (ws' := [(a0, .inr (9, [.ref a2, .ref o0_1, .ref o0_2, .int x0_3, .int x0_4, .int x0_5, .int x0_6, .int x0_7, .int x0_8, .int x0_9, .int r23.2, .int x0_11, .int x0_12, .int x0_13, .int x0_14, .int x0_15, .int x0_16, .ref o0_17, .ref o0_18, .ref o0_19, .ref o0_20, .ref o0_21, .ref a3, .ref a1])), (a1, .inl (G.2.1 1, n1, .inl f1)), (a2, .inl (G.2.1 0, n2, .inl f2)), (a3, .inl (G.2.1 1, n3, .inl f3))]) [3, 2, 0, 1] rfl) (hD.sub (ws' := [(a0, .inr (9, [.ref a2, .ref o0_1, .ref o0_2, .int x0_3, .int x0_4, .int x0_5, .int x0_6, .int x0_7, .int x0_8, .int x0_9, .int r23.2, .int x0_11, .int x0_12, .int x0_13, .int x0_14, .int x0_15, .int x0_16, .ref o0_17, .ref o0_18, .ref o0_19, .ref o0_20, .ref o0_21, .ref a3, .ref a1])), (a1, .inl (G.2.1 1, n1, .inl f1)), (a2, .inl (G.2.1 0, n2, .inl f2)), (a3, .inl (G.2.1 1, n3, .inl f3))]) [3, 2, 0, 1] (by decide) rfl) hS rfl (Nat.zero_le _) (Nat.zero_le _) d_Mo_hash_20
  refine lv_if_lt (tgt := 14) hx hb d_Mo_hash_6 (by decide) (fun cq24 => ?_) (fun cq24 => ?_)
  · replace h := (if_pos cq24).symm.trans h
    exact hj22 () _ _ _ h (hP.sub (ws' := [(a0, .inr (9, [.ref a2, .ref o0_1, .ref o0_2, .int x0_3, .int x0_4, .int x0_5, .int x0_6, .int x0_7, .int x0_8, .int x0_9, .int 0, .int x0_11, .int x0_12, .int x0_13, .int x0_14, .int x0_15, .int x0_16, .ref o0_17, .ref o0_18, .ref o0_19, .ref o0_20, .ref o0_21, .ref a3, .ref a1])), (a2, .inl (G.2.1 0, n2, .inl f2)), (a3, .inl (G.2.1 1, n3, .inl f3)), (a1, .inl (G.2.1 1, n1, .inl f1))]) [0, 2, 3, 1] rfl) (hD.sub (ws' := [(a0, .inr (9, [.ref a2, .ref o0_1, .ref o0_2, .int x0_3, .int x0_4, .int x0_5, .int x0_6, .int x0_7, .int x0_8, .int x0_9, .int 0, .int x0_11, .int x0_12, .int x0_13, .int x0_14, .int x0_15, .int x0_16, .ref o0_17, .ref o0_18, .ref o0_19, .ref o0_20, .ref o0_21, .ref a3, .ref a1])), (a2, .inl (G.2.1 0, n2, .inl f2)), (a3, .inl (G.2.1 1, n3, .inl f3)), (a1, .inl (G.2.1 1, n1, .inl f1))]) [0, 2, 3, 1] (by decide) rfl) hS (lv_sub hl [0] rfl)
  · replace h := (if_neg cq24).symm.trans h
    refine lv_iload_n hx hb d_Mo_hash_9 rfl (lv_at hl 1 rfl) ?_
    refine lv_iconst (v := 2) hx hb d_Mo_hash_10 (by decide) ?_
    refine lv_icmp_le (tgt := 21) hx hb d_Mo_hash_11 (by decide) (fun cq25 => ?_) (fun cq25 => ?_)
    · replace h := (if_pos cq25).symm.trans h
      refine lv_aload_n hx hb d_Mo_hash_21 rfl (lv_at hl 0 rfl) ?_
      refine va_get (D := G.1) (ci := 9) (v := .ref a1) (C := R_Mo) (T := F_Mo) (N := 24) hx hb hts i_Mo hown hK hP 0 rfl rfl 23 (by decide) (hts _ q433) (fun _ h9 => h9) rfl d_Mo_hash_22 ?_
      refine lv_iconst (v := 0) hx hb d_Mo_hash_25 (by decide) ?_
      refine lv_ldc (v := 1732584193) hx hb hown (hts _ q558) d_Mo_hash_26 ?_
      obtain ⟨hi26, h⟩ := Ix_e h
      refine y_iast hx hb hK hP hD hS 1 1 rfl rfl hi26 d_Mo_hash_28 (fun g27 H locs eg27 hP hD hS => ?_)
      replace h := Lt_e h eg27
      have hP : va_P G.1 classes [(a0, .inr (9, [.ref a2, .ref o0_1, .ref o0_2, .int x0_3, .int x0_4, .int x0_5, .int x0_6, .int x0_7, .int x0_8, .int x0_9, .int 0, .int x0_11, .int x0_12, .int x0_13, .int x0_14, .int x0_15, .int x0_16, .ref o0_17, .ref o0_18, .ref o0_19, .ref o0_20, .ref o0_21, .ref a3, .ref a1])), (a1, .inl (G.2.1 1, n1, .inl g27)), (a2, .inl (G.2.1 0, n2, .inl f2)), (a3, .inl (G.2.1 1, n3, .inl f3))] H := hP
      have hD : va_D A [(a0, .inr (9, [.ref a2, .ref o0_1, .ref o0_2, .int x0_3, .int x0_4, .int x0_5, .int x0_6, .int x0_7, .int x0_8, .int x0_9, .int 0, .int x0_11, .int x0_12, .int x0_13, .int x0_14, .int x0_15, .int x0_16, .ref o0_17, .ref o0_18, .ref o0_19, .ref o0_20, .ref o0_21, .ref a3, .ref a1])), (a1, .inl (G.2.1 1, n1, .inl g27)), (a2, .inl (G.2.1 0, n2, .inl f2)), (a3, .inl (G.2.1 1, n3, .inl f3))] := hD
      refine lv_aload_n hx hb d_Mo_hash_29 rfl (lv_at hl 0 rfl) ?_
      refine va_get (D := G.1) (ci := 9) (v := .ref a1) (C := R_Mo) (T := F_Mo) (N := 24) hx hb hts i_Mo hown hK hP 0 rfl rfl 23 (by decide) (hts _ q433) (fun _ h9 => h9) rfl d_Mo_hash_30 ?_
      refine lv_iconst (v := 1) hx hb d_Mo_hash_33 (by decide) ?_
      refine lv_ldc (v := (-271733879)) hx hb hown (hts _ q559) d_Mo_hash_34 ?_
      obtain ⟨hi28, h⟩ := Ix_e h
      refine y_iast hx hb hK hP hD hS 1 1 rfl rfl hi28 d_Mo_hash_36 (fun g29 H locs eg29 hP hD hS => ?_)
      replace h := Lt_e h eg29
      have hP : va_P G.1 classes [(a0, .inr (9, [.ref a2, .ref o0_1, .ref o0_2, .int x0_3, .int x0_4, .int x0_5, .int x0_6, .int x0_7, .int x0_8, .int x0_9, .int 0, .int x0_11, .int x0_12, .int x0_13, .int x0_14, .int x0_15, .int x0_16, .ref o0_17, .ref o0_18, .ref o0_19, .ref o0_20, .ref o0_21, .ref a3, .ref a1])), (a1, .inl (G.2.1 1, n1, .inl g29)), (a2, .inl (G.2.1 0, n2, .inl f2)), (a3, .inl (G.2.1 1, n3, .inl f3))] H := hP
      have hD : va_D A [(a0, .inr (9, [.ref a2, .ref o0_1, .ref o0_2, .int x0_3, .int x0_4, .int x0_5, .int x0_6, .int x0_7, .int x0_8, .int x0_9, .int 0, .int x0_11, .int x0_12, .int x0_13, .int x0_14, .int x0_15, .int x0_16, .ref o0_17, .ref o0_18, .ref o0_19, .ref o0_20, .ref o0_21, .ref a3, .ref a1])), (a1, .inl (G.2.1 1, n1, .inl g29)), (a2, .inl (G.2.1 0, n2, .inl f2)), (a3, .inl (G.2.1 1, n3, .inl f3))] := hD
      refine lv_aload_n hx hb d_Mo_hash_37 rfl (lv_at hl 0 rfl) ?_
      refine va_get (D := G.1) (ci := 9) (v := .ref a1) (C := R_Mo) (T := F_Mo) (N := 24) hx hb hts i_Mo hown hK hP 0 rfl rfl 23 (by decide) (hts _ q433) (fun _ h9 => h9) rfl d_Mo_hash_38 ?_
      refine lv_iconst (v := 2) hx hb d_Mo_hash_41 (by decide) ?_
      refine lv_ldc (v := (-1732584194)) hx hb hown (hts _ q560) d_Mo_hash_42 ?_
      obtain ⟨hi30, h⟩ := Ix_e h
      refine y_iast hx hb hK hP hD hS 1 1 rfl rfl hi30 d_Mo_hash_44 (fun g31 H locs eg31 hP hD hS => ?_)
      replace h := Lt_e h eg31
      have hP : va_P G.1 classes [(a0, .inr (9, [.ref a2, .ref o0_1, .ref o0_2, .int x0_3, .int x0_4, .int x0_5, .int x0_6, .int x0_7, .int x0_8, .int x0_9, .int 0, .int x0_11, .int x0_12, .int x0_13, .int x0_14, .int x0_15, .int x0_16, .ref o0_17, .ref o0_18, .ref o0_19, .ref o0_20, .ref o0_21, .ref a3, .ref a1])), (a1, .inl (G.2.1 1, n1, .inl g31)), (a2, .inl (G.2.1 0, n2, .inl f2)), (a3, .inl (G.2.1 1, n3, .inl f3))] H := hP
      have hD : va_D A [(a0, .inr (9, [.ref a2, .ref o0_1, .ref o0_2, .int x0_3, .int x0_4, .int x0_5, .int x0_6, .int x0_7, .int x0_8, .int x0_9, .int 0, .int x0_11, .int x0_12, .int x0_13, .int x0_14, .int x0_15, .int x0_16, .ref o0_17, .ref o0_18, .ref o0_19, .ref o0_20, .ref o0_21, .ref a3, .ref a1])), (a1, .inl (G.2.1 1, n1, .inl g31)), (a2, .inl (G.2.1 0, n2, .inl f2)), (a3, .inl (G.2.1 1, n3, .inl f3))] := hD
      refine lv_aload_n hx hb d_Mo_hash_45 rfl (lv_at hl 0 rfl) ?_
      refine va_get (D := G.1) (ci := 9) (v := .ref a1) (C := R_Mo) (T := F_Mo) (N := 24) hx hb hts i_Mo hown hK hP 0 rfl rfl 23 (by decide) (hts _ q433) (fun _ h9 => h9) rfl d_Mo_hash_46 ?_
      refine lv_iconst (v := 3) hx hb d_Mo_hash_49 (by decide) ?_
      refine lv_ldc (v := 271733878) hx hb hown (hts _ q561) d_Mo_hash_50 ?_
      obtain ⟨hi32, h⟩ := Ix_e h
      refine y_iast hx hb hK hP hD hS 1 1 rfl rfl hi32 d_Mo_hash_52 (fun g33 H locs eg33 hP hD hS => ?_)
      replace h := Lt_e h eg33
      have hP : va_P G.1 classes [(a0, .inr (9, [.ref a2, .ref o0_1, .ref o0_2, .int x0_3, .int x0_4, .int x0_5, .int x0_6, .int x0_7, .int x0_8, .int x0_9, .int 0, .int x0_11, .int x0_12, .int x0_13, .int x0_14, .int x0_15, .int x0_16, .ref o0_17, .ref o0_18, .ref o0_19, .ref o0_20, .ref o0_21, .ref a3, .ref a1])), (a1, .inl (G.2.1 1, n1, .inl g33)), (a2, .inl (G.2.1 0, n2, .inl f2)), (a3, .inl (G.2.1 1, n3, .inl f3))] H := hP
      have hD : va_D A [(a0, .inr (9, [.ref a2, .ref o0_1, .ref o0_2, .int x0_3, .int x0_4, .int x0_5, .int x0_6, .int x0_7, .int x0_8, .int x0_9, .int 0, .int x0_11, .int x0_12, .int x0_13, .int x0_14, .int x0_15, .int x0_16, .ref o0_17, .ref o0_18, .ref o0_19, .ref o0_20, .ref o0_21, .ref a3, .ref a1])), (a1, .inl (G.2.1 1, n1, .inl g33)), (a2, .inl (G.2.1 0, n2, .inl f2)), (a3, .inl (G.2.1 1, n3, .inl f3))] := hD
      refine lv_aload_n hx hb d_Mo_hash_53 rfl (lv_at hl 0 rfl) ?_
      refine va_get (D := G.1) (ci := 9) (v := .ref a1) (C := R_Mo) (T := F_Mo) (N := 24) hx hb hts i_Mo hown hK hP 0 rfl rfl 23 (by decide) (hts _ q433) (fun _ h9 => h9) rfl d_Mo_hash_54 ?_
      refine lv_iconst (v := 4) hx hb d_Mo_hash_57 (by decide) ?_
      refine lv_ldc (v := (-1009589776)) hx hb hown (hts _ q562) d_Mo_hash_58 ?_
      obtain ⟨hi34, h⟩ := Ix_e h
      refine y_iast hx hb hK hP hD hS 1 1 rfl rfl hi34 d_Mo_hash_60 (fun g35 H locs eg35 hP hD hS => ?_)
      replace h := Lt_e h eg35
      have hP : va_P G.1 classes [(a0, .inr (9, [.ref a2, .ref o0_1, .ref o0_2, .int x0_3, .int x0_4, .int x0_5, .int x0_6, .int x0_7, .int x0_8, .int x0_9, .int 0, .int x0_11, .int x0_12, .int x0_13, .int x0_14, .int x0_15, .int x0_16, .ref o0_17, .ref o0_18, .ref o0_19, .ref o0_20, .ref o0_21, .ref a3, .ref a1])), (a1, .inl (G.2.1 1, n1, .inl g35)), (a2, .inl (G.2.1 0, n2, .inl f2)), (a3, .inl (G.2.1 1, n3, .inl f3))] H := hP
      have hD : va_D A [(a0, .inr (9, [.ref a2, .ref o0_1, .ref o0_2, .int x0_3, .int x0_4, .int x0_5, .int x0_6, .int x0_7, .int x0_8, .int x0_9, .int 0, .int x0_11, .int x0_12, .int x0_13, .int x0_14, .int x0_15, .int x0_16, .ref o0_17, .ref o0_18, .ref o0_19, .ref o0_20, .ref o0_21, .ref a3, .ref a1])), (a1, .inl (G.2.1 1, n1, .inl g35)), (a2, .inl (G.2.1 0, n2, .inl f2)), (a3, .inl (G.2.1 1, n3, .inl f3))] := hD
      refine lv_aload_n hx hb d_Mo_hash_61 rfl (lv_at hl 0 rfl) ?_
      refine va_get (D := G.1) (ci := 9) (v := .int x0_3) (C := R_Mo) (T := F_Mo) (N := 24) hx hb hts i_Mo hown hK hP 0 rfl rfl 3 (by decide) (hts _ q435) (fun _ h9 => h9) rfl d_Mo_hash_62 ?_
      refine lv_bipush (v := 9) hx hb d_Mo_hash_65 (by decide) ?_
      refine lv_iadd hx hb d_Mo_hash_67 ?_
      refine lv_bipush (v := 63) hx hb d_Mo_hash_68 (by decide) ?_
      refine lv_iadd hx hb d_Mo_hash_70 ?_
      refine lv_bipush (v := 64) hx hb d_Mo_hash_71 (by decide) ?_
      refine lv_idiv hx hb d_Mo_hash_73 (by decide) ?_
      refine lv_bipush (v := 64) hx hb d_Mo_hash_74 (by decide) ?_
      refine lv_imul hx hb d_Mo_hash_76 ?_
      refine lv_topi (fun v36 ev36 => ?_)
      replace h := Lt_e h ev36
      refine lv_istore_n (lv' := [(2, .int v36), (0, .ref a0), (1, .int p1)]) hx hb d_Mo_hash_77 rfl hl (by decide) rfl (fun ls hl => ?_)
      refine lv_iconst (v := 0) hx hb d_Mo_hash_78 (by decide) ?_
      refine lv_istore_n (lv' := [(3, .int 0), (2, .int v36), (0, .ref a0), (1, .int p1)]) hx hb d_Mo_hash_79 rfl hl (by decide) rfl (fun ls hl => ?_)
      obtain ⟨r43, hc43, h⟩ := Bd_e h
      refine w_Mo_hash_80 C0 hRf hRl hA hK hT N p1 v36 x0_3 x0_4 x0_5 x0_6 x0_7 x0_8 x0_9 0 x0_11 x0_12 x0_13 x0_14 x0_15 x0_16 n2 f2 n3 n1 a0 a2 a3 a1 o0_1 o0_2 o0_17 o0_18 o0_19 o0_20 o0_21 r43 (kc := 0) (ks := 0) hkc hks ?_ N 0 f3 g35  _ _ _ hc43 (hP.sub (ws' := [(a0, .inr (9, [.ref a2, .ref o0_1, .ref o0_2, .int x0_3, .int x0_4, .int x0_5, .int x0_6, .int x0_7, .int x0_8, .int x0_9, .int 0, .int x0_11, .int x0_12, .int x0_13, .int x0_14, .int x0_15, .int x0_16, .ref o0_17, .ref o0_18, .ref o0_19, .ref o0_20, .ref o0_21, .ref a3, .ref a1])), (a2, .inl (G.2.1 0, n2, .inl f2)), (a3, .inl (G.2.1 1, n3, .inl f3)), (a1, .inl (G.2.1 1, n1, .inl g35))]) [0, 2, 3, 1] rfl) (hD.sub (ws' := [(a0, .inr (9, [.ref a2, .ref o0_1, .ref o0_2, .int x0_3, .int x0_4, .int x0_5, .int x0_6, .int x0_7, .int x0_8, .int x0_9, .int 0, .int x0_11, .int x0_12, .int x0_13, .int x0_14, .int x0_15, .int x0_16, .ref o0_17, .ref o0_18, .ref o0_19, .ref o0_20, .ref o0_21, .ref a3, .ref a1])), (a2, .inl (G.2.1 0, n2, .inl f2)), (a3, .inl (G.2.1 1, n3, .inl f3)), (a1, .inl (G.2.1 1, n1, .inl g35))]) [0, 2, 3, 1] (by decide) rfl) hS (lv_sub hl [2, 3, 1, 0] rfl)
      · intro H locs ls hP hD hS hl
        refine lv_aload_n hx hb d_Mo_hash_97 rfl (lv_at hl 0 rfl) ?_
        refine va_get (D := G.1) (ci := 9) (v := .ref a1) (C := R_Mo) (T := F_Mo) (N := 24) hx hb hts i_Mo hown hK hP 0 rfl rfl 23 (by decide) (hts _ q433) (fun _ h9 => h9) rfl d_Mo_hash_98 ?_
        refine lv_iload_n hx hb d_Mo_hash_101 rfl (lv_at hl 1 rfl) ?_
        refine lv_iconst (v := 2) hx hb d_Mo_hash_102 (by decide) ?_
        refine lv_imul hx hb d_Mo_hash_103 ?_
        obtain ⟨hi44, h⟩ := Ix_e h
        refine va_iald hx hb hK hP 3 1 rfl rfl hi44 d_Mo_hash_104 ?_
        refine lv_i2l (v := (r43.2 (p1 * 2).toNatClampNeg).toInt64) hx hb d_Mo_hash_105 rfl ?_
        refine lv_topl (fun v45 ev45 => ?_)
        replace h := Lt_e h ev45
        refine lv_lstore_n (lv' := [(3, .long v45), (0, .ref a0), (1, .int p1)]) hx hb d_Mo_hash_106 rfl hl (by decide) rfl (fun ls hl => ?_)
        refine lv_iload_n hx hb d_Mo_hash_107 rfl (lv_at hl 2 rfl) ?_
        refine lv_iconst (v := 2) hx hb d_Mo_hash_108 (by decide) ?_
        refine lv_icmp_ne (tgt := 120) hx hb d_Mo_hash_109 (by decide) (fun cq46 => ?_) (fun cq46 => ?_)
        · replace h := (if_neg cq46).symm.trans h
          refine lv_lload_n hx hb d_Mo_hash_120 rfl (lv_at hl 0 rfl) ?_
          refine lv_bipush (v := 32) hx hb d_Mo_hash_121 (by decide) ?_
          refine lv_lshl (v := v45 <<< ((32 : Int32).toInt64 &&& 63)) hx hb d_Mo_hash_123 rfl ?_
          refine lv_aload_n hx hb d_Mo_hash_124 rfl (lv_at hl 1 rfl) ?_
          refine va_get (D := G.1) (ci := 9) (v := .ref a1) (C := R_Mo) (T := F_Mo) (N := 24) hx hb hts i_Mo hown hK hP 0 rfl rfl 23 (by decide) (hts _ q433) (fun _ h9 => h9) rfl d_Mo_hash_125 ?_
          refine lv_iload_n hx hb d_Mo_hash_128 rfl (lv_at hl 2 rfl) ?_
          refine lv_iconst (v := 2) hx hb d_Mo_hash_129 (by decide) ?_
          refine lv_imul hx hb d_Mo_hash_130 ?_
          refine lv_iconst (v := 1) hx hb d_Mo_hash_131 (by decide) ?_
          refine lv_iadd hx hb d_Mo_hash_132 ?_
          obtain ⟨hi47, h⟩ := Ix_e h
          refine va_iald hx hb hK hP 3 1 rfl rfl hi47 d_Mo_hash_133 ?_
          refine lv_i2l (v := (r43.2 ((p1 * 2) + 1).toNatClampNeg).toInt64) hx hb d_Mo_hash_134 rfl ?_
          refine lv_ldc2 (v := 4294967295) hx hb hown (hts _ q567) d_Mo_hash_135 ?_
          refine lv_land hx hb d_Mo_hash_138 ?_
          refine lv_lor hx hb d_Mo_hash_139 ?_
          have eV := so1 h
          subst eV
          exact x_lret C0 hQ (hP.sub (ws' := [(a0, .inr (9, [.ref a2, .ref o0_1, .ref o0_2, .int x0_3, .int x0_4, .int x0_5, .int x0_6, .int x0_7, .int x0_8, .int x0_9, .int 0, .int x0_11, .int x0_12, .int x0_13, .int x0_14, .int x0_15, .int x0_16, .ref o0_17, .ref o0_18, .ref o0_19, .ref o0_20, .ref o0_21, .ref a3, .ref a1])), (a1, .inl (G.2.1 1, n1, .inl r43.2)), (a2, .inl (G.2.1 0, n2, .inl f2)), (a3, .inl (G.2.1 1, n3, .inl r43.1))]) [0, 3, 1, 2] rfl) (hD.sub (ws' := [(a0, .inr (9, [.ref a2, .ref o0_1, .ref o0_2, .int x0_3, .int x0_4, .int x0_5, .int x0_6, .int x0_7, .int x0_8, .int x0_9, .int 0, .int x0_11, .int x0_12, .int x0_13, .int x0_14, .int x0_15, .int x0_16, .ref o0_17, .ref o0_18, .ref o0_19, .ref o0_20, .ref o0_21, .ref a3, .ref a1])), (a1, .inl (G.2.1 1, n1, .inl r43.2)), (a2, .inl (G.2.1 0, n2, .inl f2)), (a3, .inl (G.2.1 1, n3, .inl r43.1))]) [0, 3, 1, 2] (by decide) rfl) hS rfl (Nat.zero_le _) (Nat.zero_le _) d_Mo_hash_140
        · replace h := (if_pos cq46).symm.trans h
          refine lv_lload_n hx hb d_Mo_hash_112 rfl (lv_at hl 0 rfl) ?_
          refine lv_ldc2 (v := 4294967295) hx hb hown (hts _ q567) d_Mo_hash_113 ?_
          refine lv_land hx hb d_Mo_hash_116 ?_
          refine lv_goto (tgt := 140) hx hb d_Mo_hash_117 (by decide) ?_
          have eV := so1 h
          subst eV
          exact x_lret C0 hQ (hP.sub (ws' := [(a0, .inr (9, [.ref a2, .ref o0_1, .ref o0_2, .int x0_3, .int x0_4, .int x0_5, .int x0_6, .int x0_7, .int x0_8, .int x0_9, .int 0, .int x0_11, .int x0_12, .int x0_13, .int x0_14, .int x0_15, .int x0_16, .ref o0_17, .ref o0_18, .ref o0_19, .ref o0_20, .ref o0_21, .ref a3, .ref a1])), (a1, .inl (G.2.1 1, n1, .inl r43.2)), (a2, .inl (G.2.1 0, n2, .inl f2)), (a3, .inl (G.2.1 1, n3, .inl r43.1))]) [0, 3, 1, 2] rfl) (hD.sub (ws' := [(a0, .inr (9, [.ref a2, .ref o0_1, .ref o0_2, .int x0_3, .int x0_4, .int x0_5, .int x0_6, .int x0_7, .int x0_8, .int x0_9, .int 0, .int x0_11, .int x0_12, .int x0_13, .int x0_14, .int x0_15, .int x0_16, .ref o0_17, .ref o0_18, .ref o0_19, .ref o0_20, .ref o0_21, .ref a3, .ref a1])), (a1, .inl (G.2.1 1, n1, .inl r43.2)), (a2, .inl (G.2.1 0, n2, .inl f2)), (a3, .inl (G.2.1 1, n3, .inl r43.1))]) [0, 3, 1, 2] (by decide) rfl) hS rfl (Nat.zero_le _) (Nat.zero_le _) d_Mo_hash_140
    · replace h := (if_neg cq25).symm.trans h
      exact hj22 () _ _ _ h (hP.sub (ws' := [(a0, .inr (9, [.ref a2, .ref o0_1, .ref o0_2, .int x0_3, .int x0_4, .int x0_5, .int x0_6, .int x0_7, .int x0_8, .int x0_9, .int 0, .int x0_11, .int x0_12, .int x0_13, .int x0_14, .int x0_15, .int x0_16, .ref o0_17, .ref o0_18, .ref o0_19, .ref o0_20, .ref o0_21, .ref a3, .ref a1])), (a2, .inl (G.2.1 0, n2, .inl f2)), (a3, .inl (G.2.1 1, n3, .inl f3)), (a1, .inl (G.2.1 1, n1, .inl f1))]) [0, 2, 3, 1] rfl) (hD.sub (ws' := [(a0, .inr (9, [.ref a2, .ref o0_1, .ref o0_2, .int x0_3, .int x0_4, .int x0_5, .int x0_6, .int x0_7, .int x0_8, .int x0_9, .int 0, .int x0_11, .int x0_12, .int x0_13, .int x0_14, .int x0_15, .int x0_16, .ref o0_17, .ref o0_18, .ref o0_19, .ref o0_20, .ref o0_21, .ref a3, .ref a1])), (a2, .inl (G.2.1 0, n2, .inl f2)), (a3, .inl (G.2.1 1, n3, .inl f3)), (a1, .inl (G.2.1 1, n1, .inl f1))]) [0, 2, 3, 1] (by decide) rfl) hS (lv_sub hl [0] rfl)
