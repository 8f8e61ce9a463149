set_option maxHeartbeats 4000000 in
set_option maxRecDepth 100000 in
theorem w_Sha_fillWords_16 {p : Program} {l : Launch} {e : Env} {R : Room} {s : State} {m : MethodId} {args : Array Value} {below : List Frame} {meth : Method} {c : Code} {Q : State → Prop} {G : GX} {A : Nat → Prop} (C0 : Cx p s m args meth c b_Sha_fillWords 7 y_Sha_fillWords none) (hRf : 3 ≤ R.frames) (hRl : 65 ≤ R.locals) (hA : ∀ q, s.heap.size ≤ q → A q) (hK : KX G s) (hT : TX G A s) (N : Nat) (i2 : Int32) (i3 : Int32) (i4 : Int32) (m1 : Nat) (g_1 : (Nat → Int32)) (y2_1 : Int32) (m3 : Nat) (g_3 : (Nat → Int32)) (c0 c1 c2 c3 u0_1 : Nat) (out : Int32) {kc ks : Nat} (hkc : kc ≤ R.cells) (hks : ks ≤ R.slots)
    (kx50 : ∀ (H : Heap) (locs : List Loc) (ls : Array Slot), va_P G.1 classes [(c0, .inr (2, [.ref c1, .ref u0_1])), (c1, .inl (G.2.1 1, m1, .inl g_1)), (c2, .inr (1, [.ref c3, .int y2_1])), (c3, .inl (G.2.1 0, m3, .inl g_3))] H → va_D A [(c0, .inr (2, [.ref c1, .ref u0_1])), (c1, .inl (G.2.1 1, m1, .inl g_1)), (c2, .inr (1, [.ref c3, .int y2_1])), (c3, .inl (G.2.1 0, m3, .inl g_3))] → va_S A s.heap H locs → lv_has ls 7 [(0, .ref c0), (1, .ref c2), (2, .int i2), (3, .int i3), (4, .int i4), (5, .int out)] → W p l e R s m args below meth c H locs kc ks Q (F0 m 50 ls [])) :
    ∀ (n : Nat) (i5 : Int32) (i6 : Int32) (H : Heap) (locs : List Loc) (ls : Array Slot), lp_Sha_fillWords_16 N i2 i3 i4 y2_1 m3 g_3 n i5 i6 = some out → va_P G.1 classes [(c0, .inr (2, [.ref c1, .ref u0_1])), (c1, .inl (G.2.1 1, m1, .inl g_1)), (c2, .inr (1, [.ref c3, .int y2_1])), (c3, .inl (G.2.1 0, m3, .inl g_3))] H → va_D A [(c0, .inr (2, [.ref c1, .ref u0_1])), (c1, .inl (G.2.1 1, m1, .inl g_1)), (c2, .inr (1, [.ref c3, .int y2_1])), (c3, .inl (G.2.1 0, m3, .inl g_3))] → va_S A s.heap H locs → lv_has ls 7 [(0, .ref c0), (1, .ref c2), (2, .int i2), (3, .int i3), (4, .int i4), (5, .int i5), (6, .int i6)] → W p l e R s m args below meth c H locs kc ks Q (F0 m 16 ls []) := by
  obtain ⟨hx, hb, hml, hown, hts, hr, hlocks, hin⟩ := id C0
  have hown : s.vm.findClass R_Sha = some m.cls := hown
  intro n
  induction n with
  | zero => intro i5 i6 H locs ls h; cases h
  | succ n ih =>
    intro i5 i6 H locs ls h hP hD hS hl
    replace h : lb_Sha_fillWords_16 N i2 i3 i4 y2_1 m3 g_3 (lp_Sha_fillWords_16 N i2 i3 i4 y2_1 m3 g_3 n) i5 i6 = some out := h
    unfold lb_Sha_fillWords_16 at h
    refine lv_iload hx hb d_Sha_fillWords_16 (lv_at hl 6 rfl) ?_
    refine lv_iconst (v := 4) hx hb d_Sha_fillWords_18 (by decide) ?_
    refine lv_icmp_ge (tgt := 50) hx hb d_Sha_fillWords_19 (by decide) (fun cq15 => ?_) (fun cq15 => ?_)
    · replace h := (if_pos cq15).symm.trans h
      have eV := so1 h
      subst eV
      exact kx50 _ _ _ hP hD hS (lv_sub hl [0, 1, 2, 3, 4, 5] rfl)
    · replace h := (if_neg cq15).symm.trans h
      refine lv_iload hx hb d_Sha_fillWords_22 (lv_at hl 5 rfl) ?_
      refine lv_bipush (v := 8) hx hb d_Sha_fillWords_24 (by decide) ?_
      refine lv_ishl hx hb d_Sha_fillWords_26 ?_
      refine lv_aload_n hx hb d_Sha_fillWords_27 rfl (lv_at hl 1 rfl) ?_
      refine lv_iload_n hx hb d_Sha_fillWords_28 rfl (lv_at hl 2 rfl) ?_
      refine lv_iconst (v := 4) hx hb d_Sha_fillWords_29 (by decide) ?_
      refine lv_iload hx hb d_Sha_fillWords_30 (lv_at hl 4 rfl) ?_
      refine lv_imul hx hb d_Sha_fillWords_32 ?_
      refine lv_iadd hx hb d_Sha_fillWords_33 ?_
      refine lv_iload hx hb d_Sha_fillWords_34 (lv_at hl 6 rfl) ?_
      refine lv_iadd hx hb d_Sha_fillWords_36 ?_
      refine lv_iload_n hx hb d_Sha_fillWords_37 rfl (lv_at hl 3 rfl) ?_
      obtain ⟨r16, hc16, h⟩ := Bd_e h
      refine xS_i0 (wr := [(c0, .inr (2, [.ref c1, .ref u0_1])), (c1, .inl (G.2.1 1, m1, .inl g_1))]) (rest := [.int (i5 <<< ((8 : Int32) &&& 31))]) C0 hK hT hA hP hD hS hl.1 (c_Sha_paddedByte l G c2 c3 _ y2_1 m3 g_3 ((i2 + (4 * i4)) + i6) i3 N r16 hc16) (goodS q375 q376 q18 q377) 3 rfl hd_Sha_paddedByte (Nat.le_trans (by decide) hRf) (Nat.le_trans (by decide) hRl) [2, 3] [0, 1] rfl rfl (by decide) (by decide) (by decide) rfl (Nat.le_of_ble_eq_true rfl) d_Sha_fillWords_38 hkc hks (fun w1 H locs hE hP hD hS => ?_)
      subst hE
      have hP : va_P G.1 classes [(c0, .inr (2, [.ref c1, .ref u0_1])), (c1, .inl (G.2.1 1, m1, .inl g_1)), (c2, .inr (1, [.ref c3, .int y2_1])), (c3, .inl (G.2.1 0, m3, .inl g_3))] H := hP
      have hD : va_D A [(c0, .inr (2, [.ref c1, .ref u0_1])), (c1, .inl (G.2.1 1, m1, .inl g_1)), (c2, .inr (1, [.ref c3, .int y2_1])), (c3, .inl (G.2.1 0, m3, .inl g_3))] := hD
      refine lv_ior hx hb d_Sha_fillWords_41 ?_
      refine lv_topi (fun v17 ev17 => ?_)
      replace h := Lt_e h ev17
      refine lv_istore (lv' := [(5, .int v17), (0, .ref c0), (1, .ref c2), (2, .int i2), (3, .int i3), (4, .int i4), (6, .int i6)]) hx hb d_Sha_fillWords_42 hl (by decide) rfl (fun ls hl => ?_)
      obtain ⟨v18, ev18⟩ : ∃ y : Int32, y = i6 + 1 := ⟨_, rfl⟩
      replace h := Lt_e h ev18
      refine lv_iinc (v := v18) (lv' := [(6, .int v18), (5, .int v17), (0, .ref c0), (1, .ref c2), (2, .int i2), (3, .int i3), (4, .int i4)]) hx hb d_Sha_fillWords_44 hl (k := 6) rfl (by rw [ev18]; rfl) (by decide) rfl (fun ls hl => ?_)
      refine lv_goto (tgt := 16) hx hb d_Sha_fillWords_47 (by decide) ?_
      exact ih v17 v18  _ _ _ h hP hD hS (lv_sub hl [2, 3, 4, 5, 6, 1, 0] rfl)
set_option maxHeartbeats 4000000 in
set_option maxRecDepth 100000 in
theorem w_Sha_fillWords_3 {p : Program} {l : Launch} {e : Env} {R : Room} {s : State} {m : MethodId} {args : Array Value} {below : List Frame} {meth : Method} {c : Code} {Q : State → Prop} {G : GX} {A : Nat → Prop} (C0 : Cx p s m args meth c b_Sha_fillWords 7 y_Sha_fillWords none) (hRf : 3 ≤ R.frames) (hRl : 65 ≤ R.locals) (hA : ∀ q, s.heap.size ≤ q → A q) (hK : KX G s) (hT : TX G A s) (N : Nat) (i2 : Int32) (i3 : Int32) (m1 : Nat) (y2_1 : Int32) (m3 : Nat) (g_3 : (Nat → Int32)) (c0 c1 c2 c3 u0_1 : Nat) (out : (Nat → Int32)) {kc ks : Nat} (hkc : kc ≤ R.cells) (hks : ks ≤ R.slots)
    (kx65 : ∀ (H : Heap) (locs : List Loc) (ls : Array Slot), va_P G.1 classes [(c0, .inr (2, [.ref c1, .ref u0_1])), (c1, .inl (G.2.1 1, m1, .inl out)), (c2, .inr (1, [.ref c3, .int y2_1])), (c3, .inl (G.2.1 0, m3, .inl g_3))] H → va_D A [(c0, .inr (2, [.ref c1, .ref u0_1])), (c1, .inl (G.2.1 1, m1, .inl out)), (c2, .inr (1, [.ref c3, .int y2_1])), (c3, .inl (G.2.1 0, m3, .inl g_3))] → va_S A s.heap H locs → lv_has ls 7 [(0, .ref c0)] → W p l e R s m args below meth c H locs kc ks Q (F0 m 65 ls [])) :
    ∀ (n : Nat) (i4 : Int32) (g_1 : (Nat → Int32)) (H : Heap) (locs : List Loc) (ls : Array Slot), lp_Sha_fillWords_3 N i2 i3 m1 y2_1 m3 g_3 n i4 g_1 = some out → va_P G.1 classes [(c0, .inr (2, [.ref c1, .ref u0_1])), (c1, .inl (G.2.1 1, m1, .inl g_1)), (c2, .inr (1, [.ref c3, .int y2_1])), (c3, .inl (G.2.1 0, m3, .inl g_3))] H → va_D A [(c0, .inr (2, [.ref c1, .ref u0_1])), (c1, .inl (G.2.1 1, m1, .inl g_1)), (c2, .inr (1, [.ref c3, .int y2_1])), (c3, .inl (G.2.1 0, m3, .inl g_3))] → va_S A s.heap H locs → lv_has ls 7 [(0, .ref c0), (1, .ref c2), (2, .int i2), (3, .int i3), (4, .int i4)] → W p l e R s m args below meth c H locs kc ks Q (F0 m 3 ls []) := by
  obtain ⟨hx, hb, hml, hown, hts, hr, hlocks, hin⟩ := id C0
  have hown : s.vm.findClass R_Sha = some m.cls := hown
  intro n
  induction n with
  | zero => intro i4 g_1 H locs ls h; cases h
  | succ n ih =>
    intro i4 g_1 H locs ls h hP hD hS hl
    replace h : lb_Sha_fillWords_3 N i2 i3 m1 y2_1 m3 g_3 (lp_Sha_fillWords_3 N i2 i3 m1 y2_1 m3 g_3 n) i4 g_1 = some out := h
    unfold lb_Sha_fillWords_3 at h
    refine lv_iload hx hb d_Sha_fillWords_3 (lv_at hl 4 rfl) ?_
    refine lv_bipush (v := 16) hx hb d_Sha_fillWords_5 (by decide) ?_
    refine lv_icmp_ge (tgt := 65) hx hb d_Sha_fillWords_7 (by decide) (fun cq10 => ?_) (fun cq10 => ?_)
    · replace h := (if_pos cq10).symm.trans h
      have eV := so1 h
      subst eV
      exact kx65 _ _ _ hP hD hS (lv_sub hl [0] rfl)
    · replace h := (if_neg cq10).symm.trans h
      refine lv_iconst (v := 0) hx hb d_Sha_fillWords_10 (by decide) ?_
      refine lv_istore (lv' := [(5, .int 0), (0, .ref c0), (1, .ref c2), (2, .int i2), (3, .int i3), (4, .int i4)]) hx hb d_Sha_fillWords_11 hl (by decide) rfl (fun ls hl => ?_)
      refine lv_iconst (v := 0) hx hb d_Sha_fillWords_13 (by decide) ?_
      refine lv_istore (lv' := [(6, .int 0), (5, .int 0), (0, .ref c0), (1, .ref c2), (2, .int i2), (3, .int i3), (4, .int i4)]) hx hb d_Sha_fillWords_14 hl (by decide) rfl (fun ls hl => ?_)
      obtain ⟨r19, hc19, h⟩ := Bd_e h
      refine w_Sha_fillWords_16 C0 hRf hRl hA hK hT N i2 i3 i4 m1 g_1 y2_1 m3 g_3 c0 c1 c2 c3 u0_1 r19 (kc := kc) (ks := ks) hkc hks ?_ N 0 0  _ _ _ hc19 hP hD hS (lv_sub hl [2, 3, 4, 5, 6, 1, 0] rfl)
      · intro H locs ls hP hD hS hl
        refine lv_aload_n hx hb d_Sha_fillWords_50 rfl (lv_at hl 0 rfl) ?_
        refine va_get (D := G.1) (ci := 2) (v := .ref c1) (C := R_Sha) (T := F_Sha) (N := 2) hx hb hts i_Sha hown hK hP 0 rfl rfl 0 (by decide) (hts _ q21) (fun _ h9 => h9) rfl d_Sha_fillWords_51 ?_
        refine lv_iload hx hb d_Sha_fillWords_54 (lv_at hl 4 rfl) ?_
        refine lv_iload hx hb d_Sha_fillWords_56 (lv_at hl 5 rfl) ?_
        obtain ⟨hi20, h⟩ := Ix_e h
        refine y_iast hx hb hK hP hD hS 1 1 rfl rfl hi20 d_Sha_fillWords_58 (fun g21 H locs eg21 hP hD hS => ?_)
        replace h := Lt_e h eg21
        have hP : va_P G.1 classes [(c0, .inr (2, [.ref c1, .ref u0_1])), (c1, .inl (G.2.1 1, m1, .inl g21)), (c2, .inr (1, [.ref c3, .int y2_1])), (c3, .inl (G.2.1 0, m3, .inl g_3))] H := hP
        have hD : va_D A [(c0, .inr (2, [.ref c1, .ref u0_1])), (c1, .inl (G.2.1 1, m1, .inl g21)), (c2, .inr (1, [.ref c3, .int y2_1])), (c3, .inl (G.2.1 0, m3, .inl g_3))] := hD
        obtain ⟨v22, ev22⟩ : ∃ y : Int32, y = i4 + 1 := ⟨_, rfl⟩
        replace h := Lt_e h ev22
        refine lv_iinc (v := v22) (lv' := [(4, .int v22), (0, .ref c0), (1, .ref c2), (2, .int i2), (3, .int i3), (5, .int r19)]) hx hb d_Sha_fillWords_59 hl (k := 4) rfl (by rw [ev22]; rfl) (by decide) rfl (fun ls hl => ?_)
        refine lv_goto (tgt := 3) hx hb d_Sha_fillWords_62 (by decide) ?_
        exact ih v22 g21  _ _ _ h hP hD hS (lv_sub hl [1, 2, 3, 4, 0] rfl)
set_option maxHeartbeats 4000000 in
set_option maxRecDepth 100000 in
theorem w_Sha_fillWords_69 {p : Program} {l : Launch} {e : Env} {R : Room} {s : State} {m : MethodId} {args : Array Value} {below : List Frame} {meth : Method} {c : Code} {Q : State → Prop} {G : GX} {A : Nat → Prop} (C0 : Cx p s m args meth c b_Sha_fillWords 7 y_Sha_fillWords none) (hRf : 3 ≤ R.frames) (hRl : 65 ≤ R.locals) (hA : ∀ q, s.heap.size ≤ q → A q) (hK : KX G s) (hT : TX G A s) (N : Nat) (m1 : Nat) (y2_1 : Int32) (m3 : Nat) (g_3 : (Nat → Int32)) (c0 c1 c2 c3 u0_1 : Nat) (out : (Nat → Int32)) {kc ks : Nat} (hkc : kc ≤ R.cells) (hks : ks ≤ R.slots)
    (kx142 : ∀ (H : Heap) (locs : List Loc) (ls : Array Slot), va_P G.1 classes [(c0, .inr (2, [.ref c1, .ref u0_1])), (c1, .inl (G.2.1 1, m1, .inl out)), (c2, .inr (1, [.ref c3, .int y2_1])), (c3, .inl (G.2.1 0, m3, .inl g_3))] H → va_D A [(c0, .inr (2, [.ref c1, .ref u0_1])), (c1, .inl (G.2.1 1, m1, .inl out)), (c2, .inr (1, [.ref c3, .int y2_1])), (c3, .inl (G.2.1 0, m3, .inl g_3))] → va_S A s.heap H locs → lv_has ls 7 [] → W p l e R s m args below meth c H locs kc ks Q (F0 m 142 ls [])) :
    ∀ (n : Nat) (i4 : Int32) (g_1 : (Nat → Int32)) (H : Heap) (locs : List Loc) (ls : Array Slot), lp_Sha_fillWords_69 N m1 n i4 g_1 = some out → va_P G.1 classes [(c0, .inr (2, [.ref c1, .ref u0_1])), (c1, .inl (G.2.1 1, m1, .inl g_1)), (c2, .inr (1, [.ref c3, .int y2_1])), (c3, .inl (G.2.1 0, m3, .inl g_3))] H → va_D A [(c0, .inr (2, [.ref c1, .ref u0_1])), (c1, .inl (G.2.1 1, m1, .inl g_1)), (c2, .inr (1, [.ref c3, .int y2_1])), (c3, .inl (G.2.1 0, m3, .inl g_3))] → va_S A s.heap H locs → lv_has ls 7 [(0, .ref c0), (4, .int i4)] → W p l e R s m args below meth c H locs kc ks Q (F0 m 69 ls []) := by
  obtain ⟨hx, hb, hml, hown, hts, hr, hlocks, hin⟩ := id C0
  have hown : s.vm.findClass R_Sha = some m.cls := hown
  intro n
  induction n with
  | zero => intro i4 g_1 H locs ls h; cases h
  | succ n ih =>
    intro i4 g_1 H locs ls h hP hD hS hl
    replace h : lb_Sha_fillWords_69 N m1 (lp_Sha_fillWords_69 N m1 n) i4 g_1 = some out := h
    unfold lb_Sha_fillWords_69 at h
    refine lv_iload hx hb d_Sha_fillWords_69 (lv_at hl 1 rfl) ?_
    refine lv_aload_n hx hb d_Sha_fillWords_71 rfl (lv_at hl 0 rfl) ?_
    refine va_get (D := G.1) (ci := 2) (v := .ref c1) (C := R_Sha) (T := F_Sha) (N := 2) hx hb hts i_Sha hown hK hP 0 rfl rfl 0 (by decide) (hts _ q21) (fun _ h9 => h9) rfl d_Sha_fillWords_72 ?_
    refine va_alen (v := nI m1) hx hb hK hP 1 1 rfl rfl rfl d_Sha_fillWords_75 ?_
    refine lv_icmp_ge (tgt := 142) hx hb d_Sha_fillWords_76 (by decide) (fun cq34 => ?_) (fun cq34 => ?_)
    · replace h := (if_pos cq34).symm.trans h
      have eV := so1 h
      subst eV
      exact kx142 _ _ _ hP hD hS (lv_sub hl [] rfl)
    · replace h := (if_neg cq34).symm.trans h
      refine lv_aload_n hx hb d_Sha_fillWords_79 rfl (lv_at hl 0 rfl) ?_
      refine va_get (D := G.1) (ci := 2) (v := .ref c1) (C := R_Sha) (T := F_Sha) (N := 2) hx hb hts i_Sha hown hK hP 0 rfl rfl 0 (by decide) (hts _ q21) (fun _ h9 => h9) rfl d_Sha_fillWords_80 ?_
      refine lv_iload hx hb d_Sha_fillWords_83 (lv_at hl 1 rfl) ?_
      refine lv_iconst (v := 3) hx hb d_Sha_fillWords_85 (by decide) ?_
      refine lv_isub hx hb d_Sha_fillWords_86 ?_
      obtain ⟨hi35, h⟩ := Ix_e h
      refine va_iald hx hb hK hP 1 1 rfl rfl hi35 d_Sha_fillWords_87 ?_
      refine lv_aload_n hx hb d_Sha_fillWords_88 rfl (lv_at hl 0 rfl) ?_
      refine va_get (D := G.1) (ci := 2) (v := .ref c1) (C := R_Sha) (T := F_Sha) (N := 2) hx hb hts i_Sha hown hK hP 0 rfl rfl 0 (by decide) (hts _ q21) (fun _ h9 => h9) rfl d_Sha_fillWords_89 ?_
      refine lv_iload hx hb d_Sha_fillWords_92 (lv_at hl 1 rfl) ?_
      refine lv_bipush (v := 8) hx hb d_Sha_fillWords_94 (by decide) ?_
      refine lv_isub hx hb d_Sha_fillWords_96 ?_
      obtain ⟨hi36, h⟩ := Ix_e h
      refine va_iald hx hb hK hP 1 1 rfl rfl hi36 d_Sha_fillWords_97 ?_
      refine lv_ixor hx hb d_Sha_fillWords_98 ?_
      refine lv_aload_n hx hb d_Sha_fillWords_99 rfl (lv_at hl 0 rfl) ?_
      refine va_get (D := G.1) (ci := 2) (v := .ref c1) (C := R_Sha) (T := F_Sha) (N := 2) hx hb hts i_Sha hown hK hP 0 rfl rfl 0 (by decide) (hts _ q21) (fun _ h9 => h9) rfl d_Sha_fillWords_100 ?_
      refine lv_iload hx hb d_Sha_fillWords_103 (lv_at hl 1 rfl) ?_
      refine lv_bipush (v := 14) hx hb d_Sha_fillWords_105 (by decide) ?_
      refine lv_isub hx hb d_Sha_fillWords_107 ?_
      obtain ⟨hi37, h⟩ := Ix_e h
      refine va_iald hx hb hK hP 1 1 rfl rfl hi37 d_Sha_fillWords_108 ?_
      refine lv_ixor hx hb d_Sha_fillWords_109 ?_
      refine lv_aload_n hx hb d_Sha_fillWords_110 rfl (lv_at hl 0 rfl) ?_
      refine va_get (D := G.1) (ci := 2) (v := .ref c1) (C := R_Sha) (T := F_Sha) (N := 2) hx hb hts i_Sha hown hK hP 0 rfl rfl 0 (by decide) (hts _ q21) (fun _ h9 => h9) rfl d_Sha_fillWords_111 ?_
      refine lv_iload hx hb d_Sha_fillWords_114 (lv_at hl 1 rfl) ?_
      refine lv_bipush (v := 16) hx hb d_Sha_fillWords_116 (by decide) ?_
      refine lv_isub hx hb d_Sha_fillWords_118 ?_
      obtain ⟨hi38, h⟩ := Ix_e h
      refine va_iald hx hb hK hP 1 1 rfl rfl hi38 d_Sha_fillWords_119 ?_
      refine lv_ixor hx hb d_Sha_fillWords_120 ?_
      refine lv_topi (fun v39 ev39 => ?_)
      replace h := Lt_e h ev39
      refine lv_istore (lv' := [(5, .int v39), (0, .ref c0), (4, .int i4)]) hx hb d_Sha_fillWords_121 hl (by decide) rfl (fun ls hl => ?_)
      refine lv_aload_n hx hb d_Sha_fillWords_123 rfl (lv_at hl 1 rfl) ?_
      refine va_get (D := G.1) (ci := 2) (v := .ref c1) (C := R_Sha) (T := F_Sha) (N := 2) hx hb hts i_Sha hown hK hP 0 rfl rfl 0 (by decide) (hts _ q21) (fun _ h9 => h9) rfl d_Sha_fillWords_124 ?_
      refine lv_iload hx hb d_Sha_fillWords_127 (lv_at hl 2 rfl) ?_
      refine lv_iload hx hb d_Sha_fillWords_129 (lv_at hl 0 rfl) ?_
      refine lv_iconst (v := 1) hx hb d_Sha_fillWords_131 (by decide) ?_
      obtain ⟨r40, hc40, h⟩ := Bd_e h
      refine xS_i0 (wr := [(c0, .inr (2, [.ref c1, .ref u0_1])), (c1, .inl (G.2.1 1, m1, .inl g_1)), (c2, .inr (1, [.ref c3, .int y2_1])), (c3, .inl (G.2.1 0, m3, .inl g_3))]) (rest := [.int i4, .ref c1]) C0 hK hT hA hP hD hS hl.1 (c_Sha_rotated l G  _  v39 1 N r40 hc40) (goodS q378 q379 q18 q380) 2 rfl hd_Sha_rotated (Nat.le_trans (by decide) hRf) (Nat.le_trans (by decide) hRl) [] [0, 1, 2, 3] rfl rfl (by decide) (by decide) (by decide) rfl (Nat.le_of_ble_eq_true rfl) d_Sha_fillWords_132 hkc hks (fun w1 H locs hE hP hD hS => ?_)
      subst hE
      have hP : va_P G.1 classes [(c0, .inr (2, [.ref c1, .ref u0_1])), (c1, .inl (G.2.1 1, m1, .inl g_1)), (c2, .inr (1, [.ref c3, .int y2_1])), (c3, .inl (G.2.1 0, m3, .inl g_3))] H := hP
      have hD : va_D A [(c0, .inr (2, [.ref c1, .ref u0_1])), (c1, .inl (G.2.1 1, m1, .inl g_1)), (c2, .inr (1, [.ref c3, .int y2_1])), (c3, .inl (G.2.1 0, m3, .inl g_3))] := hD
      obtain ⟨hi41, h⟩ := Ix_e h
      refine y_iast hx hb hK hP hD hS 1 1 rfl rfl hi41 d_Sha_fillWords_135 (fun g42 H locs eg42 hP hD hS => ?_)
      replace h := Lt_e h eg42
      have hP : va_P G.1 classes [(c0, .inr (2, [.ref c1, .ref u0_1])), (c1, .inl (G.2.1 1, m1, .inl g42)), (c2, .inr (1, [.ref c3, .int y2_1])), (c3, .inl (G.2.1 0, m3, .inl g_3))] H := hP
      have hD : va_D A [(c0, .inr (2, [.ref c1, .ref u0_1])), (c1, .inl (G.2.1 1, m1, .inl g42)), (c2, .inr (1, [.ref c3, .int y2_1])), (c3, .inl (G.2.1 0, m3, .inl g_3))] := hD
      obtain ⟨v43, ev43⟩ : ∃ y : Int32, y = i4 + 1 := ⟨_, rfl⟩
      replace h := Lt_e h ev43
      refine lv_iinc (v := v43) (lv' := [(4, .int v43), (5, .int v39), (0, .ref c0)]) hx hb d_Sha_fillWords_136 hl (k := 2) rfl (by rw [ev43]; rfl) (by decide) rfl (fun ls hl => ?_)
      refine lv_goto (tgt := 69) hx hb d_Sha_fillWords_139 (by decide) ?_
      exact ih v43 g42  _ _ _ h hP hD hS (lv_sub hl [2, 0] rfl)
set_option maxHeartbeats 4000000 in
set_option maxRecDepth 100000 in
theorem c_Sha_fillWords (l : Launch) (G : GX) (a0 a1 a2 a3 o2_1 : Nat) (sz : Nat) (x0_1 : Int32) (n1 : Nat) (f1 : (Nat → Int32)) (n3 : Nat) (f3 : (Nat → Int32)) (p2 : Int32) (p3 : Int32) (N : Nat) (V : (Nat → Int32)) (h : f_Sha_fillWords N x0_1 n1 f1 n3 f3 p2 p3 = some V) :
    Met l y_Sha_fillWords (wd y_Sha_fillWords b_Sha_fillWords 7 none) { frames := 3, cells := 0, slots := 0, locals := 65 } (PX G [.ref a2, .ref a0, .int p2, .int p3] sz [(a0, .inr (1, [.ref a1, .int x0_1])), (a1, .inl (G.2.1 0, n1, .inl f1)), (a2, .inr (2, [.ref a3, .ref o2_1])), (a3, .inl (G.2.1 1, n3, .inl f3))])
      (QXv G (fun w => w = [(a0, .inr (1, [.ref a1, .int x0_1])), (a1, .inl (G.2.1 0, n1, .inl f1)), (a2, .inr (2, [.ref a3, .ref o2_1])), (a3, .inl (G.2.1 1, n3, .inl V))]) (va_A [(a0, .inr (1, [.ref a1, .int x0_1])), (a1, .inl (G.2.1 0, n1, .inl f1)), (a2, .inr (2, [.ref a3, .ref o2_1])), (a3, .inl (G.2.1 1, n3, .inl f3))] sz)) 0 0 (va_A [(a0, .inr (1, [.ref a1, .int x0_1])), (a1, .inl (G.2.1 0, n1, .inl f1)), (a2, .inr (2, [.ref a3, .ref o2_1])), (a3, .inl (G.2.1 1, n3, .inl f3))] sz) := by
  refine Met_in (QQ := fun A => QXv G (fun w => w = [(a0, .inr (1, [.ref a1, .int x0_1])), (a1, .inl (G.2.1 0, n1, .inl f1)), (a2, .inr (2, [.ref a3, .ref o2_1])), (a3, .inl (G.2.1 1, n3, .inl V))]) A) (by decide) (Nat.le_of_ble_eq_true rfl) (fun p e s m below meth c R Q A ls C0 hRf hRl hRc hRs hP hK hD hT hA hS hl hQ => ?_)
  obtain ⟨hx, hb, hml, hown, hts, hr, hlocks, hin⟩ := id C0
  have hown : s.vm.findClass R_Sha = some m.cls := hown
  have hl : lv_has ls 7 [(0, .ref a2), (1, .ref a0), (2, .int p2), (3, .int p3)] := hl
  unfold f_Sha_fillWords at h
  have hkc : 0 ≤ R.cells := Nat.zero_le _
  have hks : 0 ≤ R.slots := Nat.zero_le _
  obtain ⟨H, hH⟩ : ∃ H, H = s.heap := ⟨_, rfl⟩
  obtain ⟨locs, hlc⟩ : ∃ x : List Loc, x = [] := ⟨_, rfl⟩
  rw [← hH] at hP
  have hS : va_S A s.heap H locs := by rw [hH, hlc]; exact hS
  suffices hgo : W p l e R s m [.ref a2, .ref a0, .int p2, .int p3].toArray below meth c H locs 0 0 Q (F0 m 0 ls []) by rw [hH, hlc] at hgo; exact hgo
  refine lv_iconst (v := 0) hx hb d_Sha_fillWords_0 (by decide) ?_
  refine lv_istore (lv' := [(4, .int 0), (0, .ref a2), (1, .ref a0), (2, .int p2), (3, .int p3)]) hx hb d_Sha_fillWords_1 hl (by decide) rfl (fun ls hl => ?_)
  obtain ⟨r23, hc23, h⟩ := Bd_e h
  refine w_Sha_fillWords_3 C0 hRf hRl hA hK hT N p2 p3 n3 x0_1 n1 f1 a2 a3 a0 a1 o2_1 r23 (kc := 0) (ks := 0) hkc hks ?_ N 0 f3  _ _ _ hc23 (hP.sub (ws' := [(a2, .inr (2, [.ref a3, .ref o2_1])), (a3, .inl (G.2.1 1, n3, .inl f3)), (a0, .inr (1, [.ref a1, .int x0_1])), (a1, .inl (G.2.1 0, n1, .inl f1))]) [2, 3, 0, 1] rfl) (hD.sub (ws' := [(a2, .inr (2, [.ref a3, .ref o2_1])), (a3, .inl (G.2.1 1, n3, .inl f3)), (a0, .inr (1, [.ref a1, .int x0_1])), (a1, .inl (G.2.1 0, n1, .inl f1))]) [2, 3, 0, 1] (by decide) rfl) hS (lv_sub hl [1, 2, 3, 4, 0] rfl)
  · intro H locs ls hP hD hS hl
    refine lv_bipush (v := 16) hx hb d_Sha_fillWords_65 (by decide) ?_
    refine lv_istore (lv' := [(4, .int 16), (0, .ref a2)]) hx hb d_Sha_fillWords_67 hl (by decide) rfl (fun ls hl => ?_)
    obtain ⟨r44, hc44, h⟩ := Bd_e h
    refine w_Sha_fillWords_69 C0 hRf hRl hA hK hT N n3 x0_1 n1 f1 a2 a3 a0 a1 o2_1 r44 (kc := 0) (ks := 0) hkc hks ?_ N 16 r23  _ _ _ hc44 hP hD hS (lv_sub hl [1, 0] rfl)
    · intro H locs ls hP hD hS hl
      have eV := so1 h
      subst eV
      exact x_vret C0 hQ (hP.sub (ws' := [(a0, .inr (1, [.ref a1, .int x0_1])), (a1, .inl (G.2.1 0, n1, .inl f1)), (a2, .inr (2, [.ref a3, .ref o2_1])), (a3, .inl (G.2.1 1, n3, .inl r44))]) [2, 3, 0, 1] rfl) (hD.sub (ws' := [(a0, .inr (1, [.ref a1, .int x0_1])), (a1, .inl (G.2.1 0, n1, .inl f1)), (a2, .inr (2, [.ref a3, .ref o2_1])), (a3, .inl (G.2.1 1, n3, .inl r44))]) [2, 3, 0, 1] (by decide) rfl) hS rfl (Nat.zero_le _) (Nat.zero_le _) d_Sha_fillWords_142
set_option maxHeartbeats 4000000 in
set_option maxRecDepth 100000 in
theorem c_Sha_chosen (l : Launch) (G : GX) (sz : Nat)  (p0 : Int32) (p1 : Int32) (p2 : Int32) (p3 : Int32) (N : Nat) (V : Int32) (h : f_Sha_chosen N p0 p1 p2 p3 = some V) :
    Met l y_Sha_chosen (wd y_Sha_chosen b_Sha_chosen 4 (some .int)) { frames := 0, cells := 0, slots := 0, locals := 0 } (PX G [.int p0, .int p1, .int p2, .int p3] sz [])
      (QXi G V (fun w => w = []) (va_A [] sz)) 0 0 (va_A [] sz) := by
  refine Met_in (QQ := fun A => QXi G V (fun w => w = []) A) (by decide) (Nat.le_of_ble_eq_true rfl) (fun p e s m below meth c R Q A ls C0 hRf hRl hRc hRs hP hK hD hT hA hS hl hQ => ?_)
  obtain ⟨hx, hb, hml, hown, hts, hr, hlocks, hin⟩ := id C0
  have hown : s.vm.findClass R_Sha = some m.cls := hown
  have hl : lv_has ls 4 [(0, .int p0), (1, .int p1), (2, .int p2), (3, .int p3)] := hl
  unfold f_Sha_chosen at h
  have hkc : 0 ≤ R.cells := Nat.zero_le _
  have hks : 0 ≤ R.slots := Nat.zero_le _
  obtain ⟨H, hH⟩ : ∃ H, H = s.heap := ⟨_, rfl⟩
  obtain ⟨locs, hlc⟩ : ∃ x : List Loc, x = [] := ⟨_, rfl⟩
  rw [← hH] at hP
  have hS : va_S A s.heap H locs := by rw [hH, hlc]; exact hS
  suffices hgo : W p l e R s m [.int p0, .int p1, .int p2, .int p3].toArray below meth c H locs 0 0 Q (F0 m 0 ls []) by rw [hH, hlc] at hgo; exact hgo
  refine lv_iload_n hx hb d_Sha_chosen_0 rfl (lv_at hl 0 rfl) ?_
  refine lv_bipush (v := 20) hx hb d_Sha_chosen_1 (by decide) ?_
  refine lv_icmp_ge (tgt := 16) hx hb d_Sha_chosen_3 (by decide) (fun cq1 => ?_) (fun cq1 => ?_)
  · replace h := (if_pos cq1).symm.trans h
    refine lv_iload_n hx hb d_Sha_chosen_16 rfl (lv_at hl 0 rfl) ?_
    refine lv_bipush (v := 40) hx hb d_Sha_chosen_17 (by decide) ?_
    obtain ⟨j4, ej4, h⟩ := Jn_e h
    have hj4 : ∀ (t4 : Unit) (H : Heap) (locs : List Loc) (ls : Array Slot), j4 t4 = some V → va_P G.1 classes [] H → va_D A [] → va_S A s.heap H locs → lv_has ls 4 [(1, .int p1), (2, .int p2), (3, .int p3)] → W p l e R s m [.int p0, .int p1, .int p2, .int p3].toArray below meth c H locs 0 0 Q (F0 m 28 ls []) := by
      intro t4 H locs ls h hP hD hS hl
      replace h := ej4 _ _ h
      refine lv_iload_n hx hb d_Sha_chosen_28 rfl (lv_at hl 0 rfl) ?_
      refine lv_iload_n hx hb d_Sha_chosen_29 rfl (lv_at hl 1 rfl) ?_
      refine lv_ixor hx hb d_Sha_chosen_30 ?_
      refine lv_iload_n hx hb d_Sha_chosen_31 rfl (lv_at hl 2 rfl) ?_
      refine lv_ixor hx hb d_Sha_chosen_32 ?_
      have eV := so1 h
      subst eV
      exact x_iret C0 hQ hP hD hS rfl (Nat.zero_le _) (Nat.zero_le _) d_Sha_chosen_33
    refine lv_icmp_lt (tgt := 28) hx hb d_Sha_chosen_19 (by decide) (fun cq5 => ?_) (fun cq5 => ?_)
    · replace h := (if_pos cq5).symm.trans h
      exact hj4 () _ _ _ h hP hD hS (lv_sub hl [1, 2, 3] rfl)
    · replace h := (if_neg cq5).symm.trans h
      refine lv_iload_n hx hb d_Sha_chosen_22 rfl (lv_at hl 0 rfl) ?_
      refine lv_bipush (v := 60) hx hb d_Sha_chosen_23 (by decide) ?_
      refine lv_icmp_lt (tgt := 34) hx hb d_Sha_chosen_25 (by decide) (fun cq6 => ?_) (fun cq6 => ?_)
      · replace h := (if_pos cq6).symm.trans h
        refine lv_iload_n hx hb d_Sha_chosen_34 rfl (lv_at hl 1 rfl) ?_
        refine lv_iload_n hx hb d_Sha_chosen_35 rfl (lv_at hl 2 rfl) ?_
        refine lv_iand hx hb d_Sha_chosen_36 ?_
        refine lv_iload_n hx hb d_Sha_chosen_37 rfl (lv_at hl 1 rfl) ?_
        refine lv_iload_n hx hb d_Sha_chosen_38 rfl (lv_at hl 3 rfl) ?_
        refine lv_iand hx hb d_Sha_chosen_39 ?_
        refine lv_ior hx hb d_Sha_chosen_40 ?_
        refine lv_iload_n hx hb d_Sha_chosen_41 rfl (lv_at hl 2 rfl) ?_
        refine lv_iload_n hx hb d_Sha_chosen_42 rfl (lv_at hl 3 rfl) ?_
        refine lv_iand hx hb d_Sha_chosen_43 ?_
        refine lv_ior hx hb d_Sha_chosen_44 ?_
        have eV := so1 h
        subst eV
        exact x_iret C0 hQ hP hD hS rfl (Nat.zero_le _) (Nat.zero_le _) d_Sha_chosen_45
      · replace h := (if_neg cq6).symm.trans h
        exact hj4 () _ _ _ h hP hD hS (lv_sub hl [1, 2, 3] rfl)
  · replace h := (if_neg cq1).symm.trans h
    refine lv_iload_n hx hb d_Sha_chosen_6 rfl (lv_at hl 1 rfl) ?_
    refine lv_iload_n hx hb d_Sha_chosen_7 rfl (lv_at hl 2 rfl) ?_
    refine lv_iand hx hb d_Sha_chosen_8 ?_
    refine lv_iload_n hx hb d_Sha_chosen_9 rfl (lv_at hl 1 rfl) ?_
    refine lv_iconst (v := (-1)) hx hb d_Sha_chosen_10 (by decide) ?_
    refine lv_ixor hx hb d_Sha_chosen_11 ?_
    refine lv_iload_n hx hb d_Sha_chosen_12 rfl (lv_at hl 3 rfl) ?_
    refine lv_iand hx hb d_Sha_chosen_13 ?_
    refine lv_ior hx hb d_Sha_chosen_14 ?_
    have eV := so1 h
    subst eV
    exact x_iret C0 hQ hP hD hS rfl (Nat.zero_le _) (Nat.zero_le _) d_Sha_chosen_15
set_option maxHeartbeats 4000000 in
set_option maxRecDepth 100000 in
theorem c_Sha_addend (l : Launch) (G : GX) (sz : Nat)  (p0 : Int32) (N : Nat) (V : Int32) (h : f_Sha_addend N p0 = some V) :
    Met l y_Sha_addend (wd y_Sha_addend b_Sha_addend 1 (some .int)) { frames := 0, cells := 0, slots := 0, locals := 0 } (PX G [.int p0] sz [])
      (QXi G V (fun w => w = []) (va_A [] sz)) 0 0 (va_A [] sz) := by
  refine Met_in (QQ := fun A => QXi G V (fun w => w = []) A) (by decide) (Nat.le_of_ble_eq_true rfl) (fun p e s m below meth c R Q A ls C0 hRf hRl hRc hRs hP hK hD hT hA hS hl hQ => ?_)
  obtain ⟨hx, hb, hml, hown, hts, hr, hlocks, hin⟩ := id C0
  have hown : s.vm.findClass R_Sha = some m.cls := hown
  have hl : lv_has ls 1 [(0, .int p0)] := hl
  unfold f_Sha_addend at h
  have hkc : 0 ≤ R.cells := Nat.zero_le _
  have hks : 0 ≤ R.slots := Nat.zero_le _
  obtain ⟨H, hH⟩ : ∃ H, H = s.heap := ⟨_, rfl⟩
  obtain ⟨locs, hlc⟩ : ∃ x : List Loc, x = [] := ⟨_, rfl⟩
  rw [← hH] at hP
  have hS : va_S A s.heap H locs := by rw [hH, hlc]; exact hS
  suffices hgo : W p l e R s m [.int p0].toArray below meth c H locs 0 0 Q (F0 m 0 ls []) by rw [hH, hlc] at hgo; exact hgo
  refine lv_iload_n hx hb d_Sha_addend_0 rfl (lv_at hl 0 rfl) ?_
  refine lv_bipush (v := 20) hx hb d_Sha_addend_1 (by decide) ?_
  refine lv_icmp_ge (tgt := 9) hx hb d_Sha_addend_3 (by decide) (fun cq1 => ?_) (fun cq1 => ?_)
  · replace h := (if_pos cq1).symm.trans h
    refine lv_iload_n hx hb d_Sha_addend_9 rfl (lv_at hl 0 rfl) ?_
    refine lv_bipush (v := 40) hx hb d_Sha_addend_10 (by decide) ?_
    refine lv_icmp_ge (tgt := 18) hx hb d_Sha_addend_12 (by decide) (fun cq2 => ?_) (fun cq2 => ?_)
    · replace h := (if_pos cq2).symm.trans h
      refine lv_iload_n hx hb d_Sha_addend_18 rfl (lv_at hl 0 rfl) ?_
      refine lv_bipush (v := 60) hx hb d_Sha_addend_19 (by decide) ?_
      refine lv_icmp_ge (tgt := 29) hx hb d_Sha_addend_21 (by decide) (fun cq3 => ?_) (fun cq3 => ?_)
      · replace h := (if_pos cq3).symm.trans h
        refine lv_ldc (v := (-899497514)) hx hb hown (hts _ q388) d_Sha_addend_29 ?_
        have eV := so1 h
        subst eV
        exact x_iret C0 hQ hP hD hS rfl (Nat.zero_le _) (Nat.zero_le _) d_Sha_addend_31
      · replace h := (if_neg cq3).symm.trans h
        refine lv_ldc (v := (-1894007588)) hx hb hown (hts _ q389) d_Sha_addend_24 ?_
        refine lv_goto (tgt := 31) hx hb d_Sha_addend_26 (by decide) ?_
        have eV := so1 h
        subst eV
        exact x_iret C0 hQ hP hD hS rfl (Nat.zero_le _) (Nat.zero_le _) d_Sha_addend_31
    · replace h := (if_neg cq2).symm.trans h
      refine lv_ldc (v := 1859775393) hx hb hown (hts _ q390) d_Sha_addend_15 ?_
      have eV := so1 h
      subst eV
      exact x_iret C0 hQ hP hD hS rfl (Nat.zero_le _) (Nat.zero_le _) d_Sha_addend_17
  · replace h := (if_neg cq1).symm.trans h
    refine lv_ldc (v := 1518500249) hx hb hown (hts _ q391) d_Sha_addend_6 ?_
    have eV := so1 h
    subst eV
    exact x_iret C0 hQ hP hD hS rfl (Nat.zero_le _) (Nat.zero_le _) d_Sha_addend_8
set_option maxHeartbeats 4000000 in
set_option maxRecDepth 100000 in
theorem w_Sha_mixBlock_40 {p : Program} {l : Launch} {e : Env} {R : Room} {s : State} {m : MethodId} {args : Array Value} {below : List Frame} {meth : Method} {c : Code} {Q : State → Prop} {G : GX} {A : Nat → Prop} (C0 : Cx p s m args meth c b_Sha_mixBlock 8 y_Sha_mixBlock none) (hRf : 1 ≤ R.frames) (hRl : 23 ≤ R.locals) (hA : ∀ q, s.heap.size ≤ q → A q) (hK : KX G s) (hT : TX G A s) (N : Nat) (m1 : Nat) (g_1 : (Nat → Int32)) (m2 : Nat) (g_2 : (Nat → Int32)) (c0 c1 c2 : Nat) (out : Int32 × Int32 × Int32 × Int32 × Int32) {kc ks : Nat} (hkc : kc ≤ R.cells) (hks : ks ≤ R.slots)
    (kx109 : ∀ (H : Heap) (locs : List Loc) (ls : Array Slot), va_P G.1 classes [(c0, .inr (2, [.ref c1, .ref c2])), (c1, .inl (G.2.1 1, m1, .inl g_1)), (c2, .inl (G.2.1 1, m2, .inl g_2))] H → va_D A [(c0, .inr (2, [.ref c1, .ref c2])), (c1, .inl (G.2.1 1, m1, .inl g_1)), (c2, .inl (G.2.1 1, m2, .inl g_2))] → va_S A s.heap H locs → lv_has ls 8 [(0, .ref c0), (1, .int out.1), (2, .int out.2.1), (3, .int out.2.2.1), (4, .int out.2.2.2.1), (5, .int out.2.2.2.2)] → W p l e R s m args below meth c H locs kc ks Q (F0 m 109 ls [])) :
    ∀ (n : Nat) (i1 : Int32) (i2 : Int32) (i3 : Int32) (i4 : Int32) (i5 : Int32) (i6 : Int32) (H : Heap) (locs : List Loc) (ls : Array Slot), lp_Sha_mixBlock_40 N m1 g_1 n i1 i2 i3 i4 i5 i6 = some out → va_P G.1 classes [(c0, .inr (2, [.ref c1, .ref c2])), (c1, .inl (G.2.1 1, m1, .inl g_1)), (c2, .inl (G.2.1 1, m2, .inl g_2))] H → va_D A [(c0, .inr (2, [.ref c1, .ref c2])), (c1, .inl (G.2.1 1, m1, .inl g_1)), (c2, .inl (G.2.1 1, m2, .inl g_2))] → va_S A s.heap H locs → lv_has ls 8 [(0, .ref c0), (1, .int i1), (2, .int i2), (3, .int i3), (4, .int i4), (5, .int i5), (6, .int i6)] → W p l e R s m args below meth c H locs kc ks Q (F0 m 40 ls []) := by
  obtain ⟨hx, hb, hml, hown, hts, hr, hlocks, hin⟩ := id C0
  have hown : s.vm.findClass R_Sha = some m.cls := hown
  intro n
  induction n with
  | zero => intro i1 i2 i3 i4 i5 i6 H locs ls h; cases h
  | succ n ih =>
    intro i1 i2 i3 i4 i5 i6 H locs ls h hP hD hS hl
    replace h : lb_Sha_mixBlock_40 N m1 g_1 (lp_Sha_mixBlock_40 N m1 g_1 n) i1 i2 i3 i4 i5 i6 = some out := h
    unfold lb_Sha_mixBlock_40 at h
    refine lv_iload hx hb d_Sha_mixBlock_40 (lv_at hl 6 rfl) ?_
    refine lv_aload_n hx hb d_Sha_mixBlock_42 rfl (lv_at hl 0 rfl) ?_
    refine va_get (D := G.1) (ci := 2) (v := .ref c1) (C := R_Sha) (T := F_Sha) (N := 2) hx hb hts i_Sha hown hK hP 0 rfl rfl 0 (by decide) (hts _ q21) (fun _ h9 => h9) rfl d_Sha_mixBlock_43 ?_
    refine va_alen (v := nI m1) hx hb hK hP 1 1 rfl rfl rfl d_Sha_mixBlock_46 ?_
    refine lv_icmp_ge (tgt := 109) hx hb d_Sha_mixBlock_47 (by decide) (fun cq19 => ?_) (fun cq19 => ?_)
    · replace h := (if_pos cq19).symm.trans h
      have eV := so1 h
      subst eV
      exact kx109 _ _ _ hP hD hS (lv_sub hl [0, 1, 2, 3, 4, 5] rfl)
    · replace h := (if_neg cq19).symm.trans h
      refine lv_iload_n hx hb d_Sha_mixBlock_50 rfl (lv_at hl 1 rfl) ?_
      refine lv_iconst (v := 5) hx hb d_Sha_mixBlock_51 (by decide) ?_
      obtain ⟨r20, hc20, h⟩ := Bd_e h
      refine xS_i0 (wr := [(c0, .inr (2, [.ref c1, .ref c2])), (c1, .inl (G.2.1 1, m1, .inl g_1)), (c2, .inl (G.2.1 1, m2, .inl g_2))]) (rest := []) C0 hK hT hA hP hD hS hl.1 (c_Sha_rotated l G  _  i1 5 N r20 hc20) (goodS q378 q379 q18 q380) 2 rfl hd_Sha_rotated (Nat.le_trans (by decide) hRf) (Nat.le_trans (by decide) hRl) [] [0, 1, 2] rfl rfl (by decide) (by decide) (by decide) rfl (Nat.le_of_ble_eq_true rfl) d_Sha_mixBlock_52 hkc hks (fun w1 H locs hE hP hD hS => ?_)
      subst hE
      have hP : va_P G.1 classes [(c0, .inr (2, [.ref c1, .ref c2])), (c1, .inl (G.2.1 1, m1, .inl g_1)), (c2, .inl (G.2.1 1, m2, .inl g_2))] H := hP
      have hD : va_D A [(c0, .inr (2, [.ref c1, .ref c2])), (c1, .inl (G.2.1 1, m1, .inl g_1)), (c2, .inl (G.2.1 1, m2, .inl g_2))] := hD
      refine lv_iload hx hb d_Sha_mixBlock_55 (lv_at hl 6 rfl) ?_
      refine lv_iload_n hx hb d_Sha_mixBlock_57 rfl (lv_at hl 2 rfl) ?_
      refine lv_iload_n hx hb d_Sha_mixBlock_58 rfl (lv_at hl 3 rfl) ?_
      refine lv_iload hx hb d_Sha_mixBlock_59 (lv_at hl 4 rfl) ?_
      obtain ⟨r21, hc21, h⟩ := Bd_e h
      refine xS_i0 (wr := [(c0, .inr (2, [.ref c1, .ref c2])), (c1, .inl (G.2.1 1, m1, .inl g_1)), (c2, .inl (G.2.1 1, m2, .inl g_2))]) (rest := [.int r20]) C0 hK hT hA hP hD hS hl.1 (c_Sha_chosen l G  _  i6 i2 i3 i4 N r21 hc21) (goodS q385 q386 q18 q387) 4 rfl hd_Sha_chosen (Nat.le_trans (by decide) hRf) (Nat.le_trans (by decide) hRl) [] [0, 1, 2] rfl rfl (by decide) (by decide) (by decide) rfl (Nat.le_of_ble_eq_true rfl) d_Sha_mixBlock_61 hkc hks (fun w1 H locs hE hP hD hS => ?_)
      subst hE
      have hP : va_P G.1 classes [(c0, .inr (2, [.ref c1, .ref c2])), (c1, .inl (G.2.1 1, m1, .inl g_1)), (c2, .inl (G.2.1 1, m2, .inl g_2))] H := hP
      have hD : va_D A [(c0, .inr (2, [.ref c1, .ref c2])), (c1, .inl (G.2.1 1, m1, .inl g_1)), (c2, .inl (G.2.1 1, m2, .inl g_2))] := hD
      refine lv_iadd hx hb d_Sha_mixBlock_64 ?_
      refine lv_iload hx hb d_Sha_mixBlock_65 (lv_at hl 5 rfl) ?_
      refine lv_iadd hx hb d_Sha_mixBlock_67 ?_
      refine lv_iload hx hb d_Sha_mixBlock_68 (lv_at hl 6 rfl) ?_
      obtain ⟨r22, hc22, h⟩ := Bd_e h
      refine xS_i0 (wr := [(c0, .inr (2, [.ref c1, .ref c2])), (c1, .inl (G.2.1 1, m1, .inl g_1)), (c2, .inl (G.2.1 1, m2, .inl g_2))]) (rest := [.int ((r20 + r21) + i5)]) C0 hK hT hA hP hD hS hl.1 (c_Sha_addend l G  _  i6 N r22 hc22) (goodS q392 q393 q18 q394) 1 rfl hd_Sha_addend (Nat.le_trans (by decide) hRf) (Nat.le_trans (by decide) hRl) [] [0, 1, 2] rfl rfl (by decide) (by decide) (by decide) rfl (Nat.le_of_ble_eq_true rfl) d_Sha_mixBlock_70 hkc hks (fun w1 H locs hE hP hD hS => ?_)
      subst hE
      have hP : va_P G.1 classes [(c0, .inr (2, [.ref c1, .ref c2])), (c1, .inl (G.2.1 1, m1, .inl g_1)), (c2, .inl (G.2.1 1, m2, .inl g_2))] H := hP
      have hD : va_D A [(c0, .inr (2, [.ref c1, .ref c2])), (c1, .inl (G.2.1 1, m1, .inl g_1)), (c2, .inl (G.2.1 1, m2, .inl g_2))] := hD
      refine lv_iadd hx hb d_Sha_mixBlock_73 ?_
      refine lv_aload_n hx hb d_Sha_mixBlock_74 rfl (lv_at hl 0 rfl) ?_
      refine va_get (D := G.1) (ci := 2) (v := .ref c1) (C := R_Sha) (T := F_Sha) (N := 2) hx hb hts i_Sha hown hK hP 0 rfl rfl 0 (by decide) (hts _ q21) (fun _ h9 => h9) rfl d_Sha_mixBlock_75 ?_
      refine lv_iload hx hb d_Sha_mixBlock_78 (lv_at hl 6 rfl) ?_
      obtain ⟨hi23, h⟩ := Ix_e h
      refine va_iald hx hb hK hP 1 1 rfl rfl hi23 d_Sha_mixBlock_80 ?_
      refine lv_iadd hx hb d_Sha_mixBlock_81 ?_
      refine lv_topi (fun v24 ev24 => ?_)
      replace h := Lt_e h ev24
      refine lv_istore (lv' := [(7, .int v24), (0, .ref c0), (1, .int i1), (2, .int i2), (3, .int i3), (4, .int i4), (5, .int i5), (6, .int i6)]) hx hb d_Sha_mixBlock_82 hl (by decide) rfl (fun ls hl => ?_)
      refine lv_iload hx hb d_Sha_mixBlock_84 (lv_at hl 5 rfl) ?_
      refine lv_istore (lv' := [(5, .int i4), (7, .int v24), (0, .ref c0), (1, .int i1), (2, .int i2), (3, .int i3), (4, .int i4), (6, .int i6)]) hx hb d_Sha_mixBlock_86 hl (by decide) rfl (fun ls hl => ?_)
      refine lv_iload_n hx hb d_Sha_mixBlock_88 rfl (lv_at hl 5 rfl) ?_
      refine lv_istore (lv' := [(4, .int i3), (5, .int i4), (7, .int v24), (0, .ref c0), (1, .int i1), (2, .int i2), (3, .int i3), (6, .int i6)]) hx hb d_Sha_mixBlock_89 hl (by decide) rfl (fun ls hl => ?_)
      refine lv_iload_n hx hb d_Sha_mixBlock_91 rfl (lv_at hl 5 rfl) ?_
      refine lv_bipush (v := 30) hx hb d_Sha_mixBlock_92 (by decide) ?_
      obtain ⟨r25, hc25, h⟩ := Bd_e h
      refine xS_i0 (wr := [(c0, .inr (2, [.ref c1, .ref c2])), (c1, .inl (G.2.1 1, m1, .inl g_1)), (c2, .inl (G.2.1 1, m2, .inl g_2))]) (rest := []) C0 hK hT hA hP hD hS hl.1 (c_Sha_rotated l G  _  i2 30 N r25 hc25) (goodS q378 q379 q18 q380) 2 rfl hd_Sha_rotated (Nat.le_trans (by decide) hRf) (Nat.le_trans (by decide) hRl) [] [0, 1, 2] rfl rfl (by decide) (by decide) (by decide) rfl (Nat.le_of_ble_eq_true rfl) d_Sha_mixBlock_94 hkc hks (fun w1 H locs hE hP hD hS => ?_)
      subst hE
      have hP : va_P G.1 classes [(c0, .inr (2, [.ref c1, .ref c2])), (c1, .inl (G.2.1 1, m1, .inl g_1)), (c2, .inl (G.2.1 1, m2, .inl g_2))] H := hP
      have hD : va_D A [(c0, .inr (2, [.ref c1, .ref c2])), (c1, .inl (G.2.1 1, m1, .inl g_1)), (c2, .inl (G.2.1 1, m2, .inl g_2))] := hD
      refine lv_istore_n (lv' := [(3, .int r25), (4, .int i3), (5, .int i4), (7, .int v24), (0, .ref c0), (1, .int i1), (2, .int i2), (6, .int i6)]) hx hb d_Sha_mixBlock_97 rfl hl (by decide) rfl (fun ls hl => ?_)
      refine lv_iload_n hx hb d_Sha_mixBlock_98 rfl (lv_at hl 5 rfl) ?_
      refine lv_istore_n (lv' := [(2, .int i1), (3, .int r25), (4, .int i3), (5, .int i4), (7, .int v24), (0, .ref c0), (1, .int i1), (6, .int i6)]) hx hb d_Sha_mixBlock_99 rfl hl (by decide) rfl (fun ls hl => ?_)
      refine lv_iload hx hb d_Sha_mixBlock_100 (lv_at hl 4 rfl) ?_
      refine lv_istore_n (lv' := [(1, .int v24), (2, .int i1), (3, .int r25), (4, .int i3), (5, .int i4), (7, .int v24), (0, .ref c0), (6, .int i6)]) hx hb d_Sha_mixBlock_102 rfl hl (by decide) rfl (fun ls hl => ?_)
      obtain ⟨v26, ev26⟩ : ∃ y : Int32, y = i6 + 1 := ⟨_, rfl⟩
      replace h := Lt_e h ev26
      refine lv_iinc (v := v26) (lv' := [(6, .int v26), (1, .int v24), (2, .int i1), (3, .int r25), (4, .int i3), (5, .int i4), (7, .int v24), (0, .ref c0)]) hx hb d_Sha_mixBlock_103 hl (k := 7) rfl (by rw [ev26]; rfl) (by decide) rfl (fun ls hl => ?_)
      refine lv_goto (tgt := 40) hx hb d_Sha_mixBlock_106 (by decide) ?_
      exact ih v24 i1 r25 i3 i4 v26  _ _ _ h hP hD hS (lv_sub hl [7, 1, 2, 3, 4, 5, 0] rfl)
set_option maxHeartbeats 4000000 in
set_option maxRecDepth 100000 in
theorem c_Sha_mixBlock (l : Launch) (G : GX) (a0 a1 a2 : Nat) (sz : Nat) (n1 : Nat) (f1 : (Nat → Int32)) (n2 : Nat) (f2 : (Nat → Int32))  (N : Nat) (V : (Nat → Int32)) (h : f_Sha_mixBlock N n1 f1 n2 f2 = some V) :
    Met l y_Sha_mixBlock (wd y_Sha_mixBlock b_Sha_mixBlock 8 none) { frames := 1, cells := 0, slots := 0, locals := 23 } (PX G [.ref a0] sz [(a0, .inr (2, [.ref a2, .ref a1])), (a1, .inl (G.2.1 1, n1, .inl f1)), (a2, .inl (G.2.1 1, n2, .inl f2))])
      (QXv G (fun w => w = [(a0, .inr (2, [.ref a2, .ref a1])), (a1, .inl (G.2.1 1, n1, .inl V)), (a2, .inl (G.2.1 1, n2, .inl f2))]) (va_A [(a0, .inr (2, [.ref a2, .ref a1])), (a1, .inl (G.2.1 1, n1, .inl f1)), (a2, .inl (G.2.1 1, n2, .inl f2))] sz)) 0 0 (va_A [(a0, .inr (2, [.ref a2, .ref a1])), (a1, .inl (G.2.1 1, n1, .inl f1)), (a2, .inl (G.2.1 1, n2, .inl f2))] sz) := by
  refine Met_in (QQ := fun A => QXv G (fun w => w = [(a0, .inr (2, [.ref a2, .ref a1])), (a1, .inl (G.2.1 1, n1, .inl V)), (a2, .inl (G.2.1 1, n2, .inl f2))]) A) (by decide) (Nat.le_of_ble_eq_true rfl) (fun p e s m below meth c R Q A ls C0 hRf hRl hRc hRs hP hK hD hT hA hS hl hQ => ?_)
  obtain ⟨hx, hb, hml, hown, hts, hr, hlocks, hin⟩ := id C0
  have hown : s.vm.findClass R_Sha = some m.cls := hown
  have hl : lv_has ls 8 [(0, .ref a0)] := hl
  unfold f_Sha_mixBlock at h
  have hkc : 0 ≤ R.cells := Nat.zero_le _
  have hks : 0 ≤ R.slots := Nat.zero_le _
  obtain ⟨H, hH⟩ : ∃ H, H = s.heap := ⟨_, rfl⟩
  obtain ⟨locs, hlc⟩ : ∃ x : List Loc, x = [] := ⟨_, rfl⟩
  rw [← hH] at hP
  have hS : va_S A s.heap H locs := by rw [hH, hlc]; exact hS
  suffices hgo : W p l e R s m [.ref a0].toArray below meth c H locs 0 0 Q (F0 m 0 ls []) by rw [hH, hlc] at hgo; exact hgo
  refine lv_aload_n hx hb d_Sha_mixBlock_0 rfl (lv_at hl 0 rfl) ?_
  refine va_get (D := G.1) (ci := 2) (v := .ref a1) (C := R_Sha) (T := F_Sha) (N := 2) hx hb hts i_Sha hown hK hP 0 rfl rfl 1 (by decide) (hts _ q22) (fun _ h9 => h9) rfl d_Sha_mixBlock_1 ?_
  refine lv_iconst (v := 0) hx hb d_Sha_mixBlock_4 (by decide) ?_
  obtain ⟨hi1, h⟩ := Ix_e h
  refine va_iald hx hb hK hP 1 1 rfl rfl hi1 d_Sha_mixBlock_5 ?_
  refine lv_topi (fun v2 ev2 => ?_)
  replace h := Lt_e h ev2
  refine lv_istore_n (lv' := [(1, .int v2), (0, .ref a0)]) hx hb d_Sha_mixBlock_6 rfl hl (by decide) rfl (fun ls hl => ?_)
  refine lv_aload_n hx hb d_Sha_mixBlock_7 rfl (lv_at hl 1 rfl) ?_
  refine va_get (D := G.1) (ci := 2) (v := .ref a1) (C := R_Sha) (T := F_Sha) (N := 2) hx hb hts i_Sha hown hK hP 0 rfl rfl 1 (by decide) (hts _ q22) (fun _ h9 => h9) rfl d_Sha_mixBlock_8 ?_
  refine lv_iconst (v := 1) hx hb d_Sha_mixBlock_11 (by decide) ?_
  obtain ⟨hi3, h⟩ := Ix_e h
  refine va_iald hx hb hK hP 1 1 rfl rfl hi3 d_Sha_mixBlock_12 ?_
  refine lv_topi (fun v4 ev4 => ?_)
  replace h := Lt_e h ev4
  refine lv_istore_n (lv' := [(2, .int v4), (1, .int v2), (0, .ref a0)]) hx hb d_Sha_mixBlock_13 rfl hl (by decide) rfl (fun ls hl => ?_)
  refine lv_aload_n hx hb d_Sha_mixBlock_14 rfl (lv_at hl 2 rfl) ?_
  refine va_get (D := G.1) (ci := 2) (v := .ref a1) (C := R_Sha) (T := F_Sha) (N := 2) hx hb hts i_Sha hown hK hP 0 rfl rfl 1 (by decide) (hts _ q22) (fun _ h9 => h9) rfl d_Sha_mixBlock_15 ?_
  refine lv_iconst (v := 2) hx hb d_Sha_mixBlock_18 (by decide) ?_
  obtain ⟨hi5, h⟩ := Ix_e h
  refine va_iald hx hb hK hP 1 1 rfl rfl hi5 d_Sha_mixBlock_19 ?_
  refine lv_topi (fun v6 ev6 => ?_)
  replace h := Lt_e h ev6
  refine lv_istore_n (lv' := [(3, .int v6), (2, .int v4), (1, .int v2), (0, .ref a0)]) hx hb d_Sha_mixBlock_20 rfl hl (by decide) rfl (fun ls hl => ?_)
  refine lv_aload_n hx hb d_Sha_mixBlock_21 rfl (lv_at hl 3 rfl) ?_
  refine va_get (D := G.1) (ci := 2) (v := .ref a1) (C := R_Sha) (T := F_Sha) (N := 2) hx hb hts i_Sha hown hK hP 0 rfl rfl 1 (by decide) (hts _ q22) (fun _ h9 => h9) rfl d_Sha_mixBlock_22 ?_
  refine lv_iconst (v := 3) hx hb d_Sha_mixBlock_25 (by decide) ?_
  obtain ⟨hi7, h⟩ := Ix_e h
  refine va_iald hx hb hK hP 1 1 rfl rfl hi7 d_Sha_mixBlock_26 ?_
  refine lv_topi (fun v8 ev8 => ?_)
  replace h := Lt_e h ev8
  refine lv_istore (lv' := [(4, .int v8), (3, .int v6), (2, .int v4), (1, .int v2), (0, .ref a0)]) hx hb d_Sha_mixBlock_27 hl (by decide) rfl (fun ls hl => ?_)
  refine lv_aload_n hx hb d_Sha_mixBlock_29 rfl (lv_at hl 4 rfl) ?_
  refine va_get (D := G.1) (ci := 2) (v := .ref a1) (C := R_Sha) (T := F_Sha) (N := 2) hx hb hts i_Sha hown hK hP 0 rfl rfl 1 (by decide) (hts _ q22) (fun _ h9 => h9) rfl d_Sha_mixBlock_30 ?_
  refine lv_iconst (v := 4) hx hb d_Sha_mixBlock_33 (by decide) ?_
  obtain ⟨hi9, h⟩ := Ix_e h
  refine va_iald hx hb hK hP 1 1 rfl rfl hi9 d_Sha_mixBlock_34 ?_
  refine lv_topi (fun v10 ev10 => ?_)
  replace h := Lt_e h ev10
  refine lv_istore (lv' := [(5, .int v10), (4, .int v8), (3, .int v6), (2, .int v4), (1, .int v2), (0, .ref a0)]) hx hb d_Sha_mixBlock_35 hl (by decide) rfl (fun ls hl => ?_)
  refine lv_iconst (v := 0) hx hb d_Sha_mixBlock_37 (by decide) ?_
  refine lv_istore (lv' := [(6, .int 0), (5, .int v10), (4, .int v8), (3, .int v6), (2, .int v4), (1, .int v2), (0, .ref a0)]) hx hb d_Sha_mixBlock_38 hl (by decide) rfl (fun ls hl => ?_)
  obtain ⟨r27, hc27, h⟩ := Bd_e h
  refine w_Sha_mixBlock_40 C0 hRf hRl hA hK hT N n2 f2 n1 f1 a0 a2 a1 r27 (kc := 0) (ks := 0) hkc hks ?_ N v2 v4 v6 v8 v10 0  _ _ _ hc27 (hP.sub (ws' := [(a0, .inr (2, [.ref a2, .ref a1])), (a2, .inl (G.2.1 1, n2, .inl f2)), (a1, .inl (G.2.1 1, n1, .inl f1))]) [0, 2, 1] rfl) (hD.sub (ws' := [(a0, .inr (2, [.ref a2, .ref a1])), (a2, .inl (G.2.1 1, n2, .inl f2)), (a1, .inl (G.2.1 1, n1, .inl f1))]) [0, 2, 1] (by decide) rfl) hS (lv_sub hl [6, 5, 4, 3, 2, 1, 0] rfl)
  · intro H locs ls hP hD hS hl
    refine lv_aload_n hx hb d_Sha_mixBlock_109 rfl (lv_at hl 0 rfl) ?_
    refine va_get (D := G.1) (ci := 2) (v := .ref a1) (C := R_Sha) (T := F_Sha) (N := 2) hx hb hts i_Sha hown hK hP 0 rfl rfl 1 (by decide) (hts _ q22) (fun _ h9 => h9) rfl d_Sha_mixBlock_110 ?_
    refine lv_iconst (v := 0) hx hb d_Sha_mixBlock_113 (by decide) ?_
    refine lv_dup2_11 hx hb d_Sha_mixBlock_114 rfl rfl ?_
    obtain ⟨hi28, h⟩ := Ix_e h
    refine va_iald hx hb hK hP 2 1 rfl rfl hi28 d_Sha_mixBlock_115 ?_
    refine lv_iload_n hx hb d_Sha_mixBlock_116 rfl (lv_at hl 1 rfl) ?_
    refine lv_iadd hx hb d_Sha_mixBlock_117 ?_
    obtain ⟨hi29, h⟩ := Ix_e h
    refine y_iast hx hb hK hP hD hS 2 1 rfl rfl hi29 d_Sha_mixBlock_118 (fun g30 H locs eg30 hP hD hS => ?_)
    replace h := Lt_e h eg30
    have hP : va_P G.1 classes [(a0, .inr (2, [.ref a2, .ref a1])), (a2, .inl (G.2.1 1, n2, .inl f2)), (a1, .inl (G.2.1 1, n1, .inl g30))] H := hP
    have hD : va_D A [(a0, .inr (2, [.ref a2, .ref a1])), (a2, .inl (G.2.1 1, n2, .inl f2)), (a1, .inl (G.2.1 1, n1, .inl g30))] := hD
    refine lv_aload_n hx hb d_Sha_mixBlock_119 rfl (lv_at hl 0 rfl) ?_
    refine va_get (D := G.1) (ci := 2) (v := .ref a1) (C := R_Sha) (T := F_Sha) (N := 2) hx hb hts i_Sha hown hK hP 0 rfl rfl 1 (by decide) (hts _ q22) (fun _ h9 => h9) rfl d_Sha_mixBlock_120 ?_
    refine lv_iconst (v := 1) hx hb d_Sha_mixBlock_123 (by decide) ?_
    refine lv_dup2_11 hx hb d_Sha_mixBlock_124 rfl rfl ?_
    obtain ⟨hi31, h⟩ := Ix_e h
    refine va_iald hx hb hK hP 2 1 rfl rfl hi31 d_Sha_mixBlock_125 ?_
    refine lv_iload_n hx hb d_Sha_mixBlock_126 rfl (lv_at hl 2 rfl) ?_
    refine lv_iadd hx hb d_Sha_mixBlock_127 ?_
    obtain ⟨hi32, h⟩ := Ix_e h
    refine y_iast hx hb hK hP hD hS 2 1 rfl rfl hi32 d_Sha_mixBlock_128 (fun g33 H locs eg33 hP hD hS => ?_)
    replace h := Lt_e h eg33
    have hP : va_P G.1 classes [(a0, .inr (2, [.ref a2, .ref a1])), (a2, .inl (G.2.1 1, n2, .inl f2)), (a1, .inl (G.2.1 1, n1, .inl g33))] H := hP
    have hD : va_D A [(a0, .inr (2, [.ref a2, .ref a1])), (a2, .inl (G.2.1 1, n2, .inl f2)), (a1, .inl (G.2.1 1, n1, .inl g33))] := hD
    refine lv_aload_n hx hb d_Sha_mixBlock_129 rfl (lv_at hl 0 rfl) ?_
    refine va_get (D := G.1) (ci := 2) (v := .ref a1) (C := R_Sha) (T := F_Sha) (N := 2) hx hb hts i_Sha hown hK hP 0 rfl rfl 1 (by decide) (hts _ q22) (fun _ h9 => h9) rfl d_Sha_mixBlock_130 ?_
    refine lv_iconst (v := 2) hx hb d_Sha_mixBlock_133 (by decide) ?_
    refine lv_dup2_11 hx hb d_Sha_mixBlock_134 rfl rfl ?_
    obtain ⟨hi34, h⟩ := Ix_e h
    refine va_iald hx hb hK hP 2 1 rfl rfl hi34 d_Sha_mixBlock_135 ?_
    refine lv_iload_n hx hb d_Sha_mixBlock_136 rfl (lv_at hl 3 rfl) ?_
    refine lv_iadd hx hb d_Sha_mixBlock_137 ?_
    obtain ⟨hi35, h⟩ := Ix_e h
    refine y_iast hx hb hK hP hD hS 2 1 rfl rfl hi35 d_Sha_mixBlock_138 (fun g36 H locs eg36 hP hD hS => ?_)
    replace h := Lt_e h eg36
    have hP : va_P G.1 classes [(a0, .inr (2, [.ref a2, .ref a1])), (a2, .inl (G.2.1 1, n2, .inl f2)), (a1, .inl (G.2.1 1, n1, .inl g36))] H := hP
    have hD : va_D A [(a0, .inr (2, [.ref a2, .ref a1])), (a2, .inl (G.2.1 1, n2, .inl f2)), (a1, .inl (G.2.1 1, n1, .inl g36))] := hD
    refine lv_aload_n hx hb d_Sha_mixBlock_139 rfl (lv_at hl 0 rfl) ?_
    refine va_get (D := G.1) (ci := 2) (v := .ref a1) (C := R_Sha) (T := F_Sha) (N := 2) hx hb hts i_Sha hown hK hP 0 rfl rfl 1 (by decide) (hts _ q22) (fun _ h9 => h9) rfl d_Sha_mixBlock_140 ?_
    refine lv_iconst (v := 3) hx hb d_Sha_mixBlock_143 (by decide) ?_
    refine lv_dup2_11 hx hb d_Sha_mixBlock_144 rfl rfl ?_
    obtain ⟨hi37, h⟩ := Ix_e h
    refine va_iald hx hb hK hP 2 1 rfl rfl hi37 d_Sha_mixBlock_145 ?_
    refine lv_iload hx hb d_Sha_mixBlock_146 (lv_at hl 4 rfl) ?_
    refine lv_iadd hx hb d_Sha_mixBlock_148 ?_
    obtain ⟨hi38, h⟩ := Ix_e h
    refine y_iast hx hb hK hP hD hS 2 1 rfl rfl hi38 d_Sha_mixBlock_149 (fun g39 H locs eg39 hP hD hS => ?_)
    replace h := Lt_e h eg39
    have hP : va_P G.1 classes [(a0, .inr (2, [.ref a2, .ref a1])), (a2, .inl (G.2.1 1, n2, .inl f2)), (a1, .inl (G.2.1 1, n1, .inl g39))] H := hP
    have hD : va_D A [(a0, .inr (2, [.ref a2, .ref a1])), (a2, .inl (G.2.1 1, n2, .inl f2)), (a1, .inl (G.2.1 1, n1, .inl g39))] := hD
    refine lv_aload_n hx hb d_Sha_mixBlock_150 rfl (lv_at hl 0 rfl) ?_
    refine va_get (D := G.1) (ci := 2) (v := .ref a1) (C := R_Sha) (T := F_Sha) (N := 2) hx hb hts i_Sha hown hK hP 0 rfl rfl 1 (by decide) (hts _ q22) (fun _ h9 => h9) rfl d_Sha_mixBlock_151 ?_
    refine lv_iconst (v := 4) hx hb d_Sha_mixBlock_154 (by decide) ?_
    refine lv_dup2_11 hx hb d_Sha_mixBlock_155 rfl rfl ?_
    obtain ⟨hi40, h⟩ := Ix_e h
    refine va_iald hx hb hK hP 2 1 rfl rfl hi40 d_Sha_mixBlock_156 ?_
    refine lv_iload hx hb d_Sha_mixBlock_157 (lv_at hl 5 rfl) ?_
    refine lv_iadd hx hb d_Sha_mixBlock_159 ?_
    obtain ⟨hi41, h⟩ := Ix_e h
    refine y_iast hx hb hK hP hD hS 2 1 rfl rfl hi41 d_Sha_mixBlock_160 (fun g42 H locs eg42 hP hD hS => ?_)
    replace h := Lt_e h eg42
    have hP : va_P G.1 classes [(a0, .inr (2, [.ref a2, .ref a1])), (a2, .inl (G.2.1 1, n2, .inl f2)), (a1, .inl (G.2.1 1, n1, .inl g42))] H := hP
    have hD : va_D A [(a0, .inr (2, [.ref a2, .ref a1])), (a2, .inl (G.2.1 1, n2, .inl f2)), (a1, .inl (G.2.1 1, n1, .inl g42))] := hD
    have eV := so1 h
    subst eV
    exact x_vret C0 hQ (hP.sub (ws' := [(a0, .inr (2, [.ref a2, .ref a1])), (a1, .inl (G.2.1 1, n1, .inl g42)), (a2, .inl (G.2.1 1, n2, .inl f2))]) [0, 2, 1] rfl) (hD.sub (ws' := [(a0, .inr (2, [.ref a2, .ref a1])), (a1, .inl (G.2.1 1, n1, .inl g42)), (a2, .inl (G.2.1 1, n2, .inl f2))]) [0, 2, 1] (by decide) rfl) hS rfl (Nat.zero_le _) (Nat.zero_le _) d_Sha_mixBlock_161
set_option maxHeartbeats 4000000 in
set_option maxRecDepth 100000 in
theorem w_Sha_run_58 {p : Program} {l : Launch} {e : Env} {R : Room} {s : State} {m : MethodId} {args : Array Value} {below : List Frame} {meth : Method} {c : Code} {Q : State → Prop} {G : GX} {A : Nat → Prop} (C0 : Cx p s m args meth c b_Sha_run 4 y_Sha_run none) (hRf : 4 ≤ R.frames) (hRl : 91 ≤ R.locals) (hA : ∀ q, s.heap.size ≤ q → A q) (hK : KX G s) (hT : TX G A s) (N : Nat) (i2 : Int32) (m1 : Nat) (m2 : Nat) (y3_1 : Int32) (m4 : Nat) (g_4 : (Nat → Int32)) (c0 c1 c2 c3 c4 : Nat) (out : (Nat → Int32) × (Nat → Int32)) {kc ks : Nat} (hkc : kc ≤ R.cells) (hks : ks ≤ R.slots)
    (kx80 : ∀ (H : Heap) (locs : List Loc) (ls : Array Slot), va_P G.1 classes [(c0, .inr (2, [.ref c1, .ref c2])), (c1, .inl (G.2.1 1, m1, .inl out.1)), (c2, .inl (G.2.1 1, m2, .inl out.2)), (c3, .inr (1, [.ref c4, .int y3_1])), (c4, .inl (G.2.1 0, m4, .inl g_4))] H → va_D A [(c0, .inr (2, [.ref c1, .ref c2])), (c1, .inl (G.2.1 1, m1, .inl out.1)), (c2, .inl (G.2.1 1, m2, .inl out.2)), (c3, .inr (1, [.ref c4, .int y3_1])), (c4, .inl (G.2.1 0, m4, .inl g_4))] → va_S A s.heap H locs → lv_has ls 4 [] → W p l e R s m args below meth c H locs kc ks Q (F0 m 80 ls [])) :
    ∀ (n : Nat) (i3 : Int32) (g_1 : (Nat → Int32)) (g_2 : (Nat → Int32)) (H : Heap) (locs : List Loc) (ls : Array Slot), lp_Sha_run_58 N i2 m1 m2 y3_1 m4 g_4 n i3 g_1 g_2 = some out → va_P G.1 classes [(c0, .inr (2, [.ref c1, .ref c2])), (c1, .inl (G.2.1 1, m1, .inl g_1)), (c2, .inl (G.2.1 1, m2, .inl g_2)), (c3, .inr (1, [.ref c4, .int y3_1])), (c4, .inl (G.2.1 0, m4, .inl g_4))] H → va_D A [(c0, .inr (2, [.ref c1, .ref c2])), (c1, .inl (G.2.1 1, m1, .inl g_1)), (c2, .inl (G.2.1 1, m2, .inl g_2)), (c3, .inr (1, [.ref c4, .int y3_1])), (c4, .inl (G.2.1 0, m4, .inl g_4))] → va_S A s.heap H locs → lv_has ls 4 [(0, .ref c0), (1, .ref c3), (2, .int i2), (3, .int i3)] → W p l e R s m args below meth c H locs kc ks Q (F0 m 58 ls []) := by
  obtain ⟨hx, hb, hml, hown, hts, hr, hlocks, hin⟩ := id C0
  have hown : s.vm.findClass R_Sha = some m.cls := hown
  intro n
  induction n with
  | zero => intro i3 g_1 g_2 H locs ls h; cases h
  | succ n ih =>
    intro i3 g_1 g_2 H locs ls h hP hD hS hl
    replace h : lb_Sha_run_58 N i2 m1 m2 y3_1 m4 g_4 (lp_Sha_run_58 N i2 m1 m2 y3_1 m4 g_4 n) i3 g_1 g_2 = some out := h
    unfold lb_Sha_run_58 at h
    refine lv_iload_n hx hb d_Sha_run_58 rfl (lv_at hl 3 rfl) ?_
    refine lv_iload_n hx hb d_Sha_run_59 rfl (lv_at hl 2 rfl) ?_
    refine lv_icmp_ge (tgt := 80) hx hb d_Sha_run_60 (by decide) (fun cq17 => ?_) (fun cq17 => ?_)
    · replace h := (if_pos cq17).symm.trans h
      have eV := so1 h
      subst eV
      exact kx80 _ _ _ hP hD hS (lv_sub hl [] rfl)
    · replace h := (if_neg cq17).symm.trans h
      refine lv_aload_n hx hb d_Sha_run_63 rfl (lv_at hl 0 rfl) ?_
      refine lv_aload_n hx hb d_Sha_run_64 rfl (lv_at hl 1 rfl) ?_
      refine lv_iload_n hx hb d_Sha_run_65 rfl (lv_at hl 3 rfl) ?_
      refine lv_iload_n hx hb d_Sha_run_66 rfl (lv_at hl 2 rfl) ?_
      obtain ⟨r18, hc18, h⟩ := Bd_e h
      refine xV_v0 (wr := [(c2, .inl (G.2.1 1, m2, .inl g_2))]) (rest := []) C0 hK hT hA hP hD hS hl.1 (c_Sha_fillWords l G c3 c4 c0 c1 c2 _ y3_1 m4 g_4 m1 g_1 i3 i2 N r18 hc18) (goodV q381 q382 q383 q18 q384) 3 rfl hd_Sha_fillWords (Nat.le_trans (by decide) hRf) (Nat.le_trans (by decide) hRl) [3, 4, 0, 1] [2] rfl rfl (by decide) (by decide) (by decide) 2 0 rfl rfl rfl (Nat.le_of_ble_eq_true rfl) d_Sha_run_67 hkc hks (fun w1 H locs hE hP hD hS => ?_)
      subst hE
      have hP : va_P G.1 classes [(c2, .inl (G.2.1 1, m2, .inl g_2)), (c3, .inr (1, [.ref c4, .int y3_1])), (c4, .inl (G.2.1 0, m4, .inl g_4)), (c0, .inr (2, [.ref c1, .ref c2])), (c1, .inl (G.2.1 1, m1, .inl r18))] H := hP
      have hD : va_D A [(c2, .inl (G.2.1 1, m2, .inl g_2)), (c3, .inr (1, [.ref c4, .int y3_1])), (c4, .inl (G.2.1 0, m4, .inl g_4)), (c0, .inr (2, [.ref c1, .ref c2])), (c1, .inl (G.2.1 1, m1, .inl r18))] := hD
      refine lv_aload_n hx hb d_Sha_run_70 rfl (lv_at hl 0 rfl) ?_
      obtain ⟨r19, hc19, h⟩ := Bd_e h
      refine xV_v0 (wr := [(c3, .inr (1, [.ref c4, .int y3_1])), (c4, .inl (G.2.1 0, m4, .inl g_4))]) (rest := []) C0 hK hT hA hP hD hS hl.1 (c_Sha_mixBlock l G c0 c2 c1 _ m2 g_2 m1 r18  N r19 hc19) (goodV q395 q396 q397 q18 q398) 0 rfl hd_Sha_mixBlock (Nat.le_trans (by decide) hRf) (Nat.le_trans (by decide) hRl) [3, 0, 4] [1, 2] rfl rfl (by decide) (by decide) (by decide) 2 3 rfl rfl rfl (Nat.le_of_ble_eq_true rfl) d_Sha_run_71 hkc hks (fun w1 H locs hE hP hD hS => ?_)
      subst hE
      have hP : va_P G.1 classes [(c3, .inr (1, [.ref c4, .int y3_1])), (c4, .inl (G.2.1 0, m4, .inl g_4)), (c0, .inr (2, [.ref c1, .ref c2])), (c2, .inl (G.2.1 1, m2, .inl r19)), (c1, .inl (G.2.1 1, m1, .inl r18))] H := hP
      have hD : va_D A [(c3, .inr (1, [.ref c4, .int y3_1])), (c4, .inl (G.2.1 0, m4, .inl g_4)), (c0, .inr (2, [.ref c1, .ref c2])), (c2, .inl (G.2.1 1, m2, .inl r19)), (c1, .inl (G.2.1 1, m1, .inl r18))] := hD
      obtain ⟨v20, ev20⟩ : ∃ y : Int32, y = i3 + 64 := ⟨_, rfl⟩
      replace h := Lt_e h ev20
      refine lv_iinc (v := v20) (lv' := [(3, .int v20), (0, .ref c0), (1, .ref c3), (2, .int i2)]) hx hb d_Sha_run_74 hl (k := 3) rfl (by rw [ev20]; rfl) (by decide) rfl (fun ls hl => ?_)
      refine lv_goto (tgt := 58) hx hb d_Sha_run_77 (by decide) ?_
      exact ih v20 r18 r19  _ _ _ h (hP.sub (ws' := [(c0, .inr (2, [.ref c1, .ref c2])), (c1, .inl (G.2.1 1, m1, .inl r18)), (c2, .inl (G.2.1 1, m2, .inl r19)), (c3, .inr (1, [.ref c4, .int y3_1])), (c4, .inl (G.2.1 0, m4, .inl g_4))]) [2, 4, 3, 0, 1] rfl) (hD.sub (ws' := [(c0, .inr (2, [.ref c1, .ref c2])), (c1, .inl (G.2.1 1, m1, .inl r18)), (c2, .inl (G.2.1 1, m2, .inl r19)), (c3, .inr (1, [.ref c4, .int y3_1])), (c4, .inl (G.2.1 0, m4, .inl g_4))]) [2, 4, 3, 0, 1] (by decide) rfl) hS (lv_sub hl [1, 2, 3, 0] rfl)
set_option maxHeartbeats 4000000 in
set_option maxRecDepth 100000 in
theorem c_Sha_run (l : Launch) (G : GX) (a0 a1 a2 a3 a4 : Nat) (sz : Nat) (n1 : Nat) (f1 : (Nat → Int32)) (x2_1 : Int32) (n3 : Nat) (f3 : (Nat → Int32)) (n4 : Nat) (f4 : (Nat → Int32))  (N : Nat) (V : (Nat → Int32) × (Nat → Int32)) (h : f_Sha_run N n1 f1 x2_1 n3 f3 n4 f4 = some V) :
    Met l y_Sha_run (wd y_Sha_run b_Sha_run 4 none) { frames := 4, cells := 0, slots := 0, locals := 91 } (PX G [.ref a0, .ref a2] sz [(a0, .inr (2, [.ref a4, .ref a1])), (a1, .inl (G.2.1 1, n1, .inl f1)), (a2, .inr (1, [.ref a3, .int x2_1])), (a3, .inl (G.2.1 0, n3, .inl f3)), (a4, .inl (G.2.1 1, n4, .inl f4))])
      (QXv G (fun w => w = [(a0, .inr (2, [.ref a4, .ref a1])), (a1, .inl (G.2.1 1, n1, .inl V.1)), (a2, .inr (1, [.ref a3, .int x2_1])), (a3, .inl (G.2.1 0, n3, .inl f3)), (a4, .inl (G.2.1 1, n4, .inl V.2))]) (va_A [(a0, .inr (2, [.ref a4, .ref a1])), (a1, .inl (G.2.1 1, n1, .inl f1)), (a2, .inr (1, [.ref a3, .int x2_1])), (a3, .inl (G.2.1 0, n3, .inl f3)), (a4, .inl (G.2.1 1, n4, .inl f4))] sz)) 0 0 (va_A [(a0, .inr (2, [.ref a4, .ref a1])), (a1, .inl (G.2.1 1, n1, .inl f1)), (a2, .inr (1, [.ref a3, .int x2_1])), (a3, .inl (G.2.1 0, n3, .inl f3)), (a4, .inl (G.2.1 1, n4, .inl f4))] sz) := by
  refine Met_in (QQ := fun A => QXv G (fun w => w = [(a0, .inr (2, [.ref a4, .ref a1])), (a1, .inl (G.2.1 1, n1, .inl V.1)), (a2, .inr (1, [.ref a3, .int x2_1])), (a3, .inl (G.2.1 0, n3, .inl f3)), (a4, .inl (G.2.1 1, n4, .inl V.2))]) A) (by decide) (Nat.le_of_ble_eq_true rfl) (fun p e s m below meth c R Q A ls C0 hRf hRl hRc hRs hP hK hD hT hA hS hl hQ => ?_)
  obtain ⟨hx, hb, hml, hown, hts, hr, hlocks, hin⟩ := id C0
  have hown : s.vm.findClass R_Sha = some m.cls := hown
  have hl : lv_has ls 4 [(0, .ref a0), (1, .ref a2)] := hl
  unfold f_Sha_run at h
  have hkc : 0 ≤ R.cells := Nat.zero_le _
  have hks : 0 ≤ R.slots := Nat.zero_le _
  obtain ⟨H, hH⟩ : ∃ H, H = s.heap := ⟨_, rfl⟩
  obtain ⟨locs, hlc⟩ : ∃ x : List Loc, x = [] := ⟨_, rfl⟩
  rw [← hH] at hP
  have hS : va_S A s.heap H locs := by rw [hH, hlc]; exact hS
  suffices hgo : W p l e R s m [.ref a0, .ref a2].toArray below meth c H locs 0 0 Q (F0 m 0 ls []) by rw [hH, hlc] at hgo; exact hgo
  refine lv_aload_n hx hb d_Sha_run_0 rfl (lv_at hl 0 rfl) ?_
  refine va_get (D := G.1) (ci := 2) (v := .ref a1) (C := R_Sha) (T := F_Sha) (N := 2) hx hb hts i_Sha hown hK hP 0 rfl rfl 1 (by decide) (hts _ q22) (fun _ h9 => h9) rfl d_Sha_run_1 ?_
  refine lv_iconst (v := 0) hx hb d_Sha_run_4 (by decide) ?_
  refine lv_ldc (v := 1732584193) hx hb hown (hts _ q368) d_Sha_run_5 ?_
  obtain ⟨hi1, h⟩ := Ix_e h
  refine y_iast hx hb hK hP hD hS 1 1 rfl rfl hi1 d_Sha_run_7 (fun g2 H locs eg2 hP hD hS => ?_)
  replace h := Lt_e h eg2
  have hP : va_P G.1 classes [(a0, .inr (2, [.ref a4, .ref a1])), (a1, .inl (G.2.1 1, n1, .inl g2)), (a2, .inr (1, [.ref a3, .int x2_1])), (a3, .inl (G.2.1 0, n3, .inl f3)), (a4, .inl (G.2.1 1, n4, .inl f4))] H := hP
  have hD : va_D A [(a0, .inr (2, [.ref a4, .ref a1])), (a1, .inl (G.2.1 1, n1, .inl g2)), (a2, .inr (1, [.ref a3, .int x2_1])), (a3, .inl (G.2.1 0, n3, .inl f3)), (a4, .inl (G.2.1 1, n4, .inl f4))] := hD
  refine lv_aload_n hx hb d_Sha_run_8 rfl (lv_at hl 0 rfl) ?_
  refine va_get (D := G.1) (ci := 2) (v := .ref a1) (C := R_Sha) (T := F_Sha) (N := 2) hx hb hts i_Sha hown hK hP 0 rfl rfl 1 (by decide) (hts _ q22) (fun _ h9 => h9) rfl d_Sha_run_9 ?_
  refine lv_iconst (v := 1) hx hb d_Sha_run_12 (by decide) ?_
  refine lv_ldc (v := (-271733879)) hx hb hown (hts _ q369) d_Sha_run_13 ?_
  obtain ⟨hi3, h⟩ := Ix_e h
  refine y_iast hx hb hK hP hD hS 1 1 rfl rfl hi3 d_Sha_run_15 (fun g4 H locs eg4 hP hD hS => ?_)
  replace h := Lt_e h eg4
  have hP : va_P G.1 classes [(a0, .inr (2, [.ref a4, .ref a1])), (a1, .inl (G.2.1 1, n1, .inl g4)), (a2, .inr (1, [.ref a3, .int x2_1])), (a3, .inl (G.2.1 0, n3, .inl f3)), (a4, .inl (G.2.1 1, n4, .inl f4))] H := hP
  have hD : va_D A [(a0, .inr (2, [.ref a4, .ref a1])), (a1, .inl (G.2.1 1, n1, .inl g4)), (a2, .inr (1, [.ref a3, .int x2_1])), (a3, .inl (G.2.1 0, n3, .inl f3)), (a4, .inl (G.2.1 1, n4, .inl f4))] := hD
  refine lv_aload_n hx hb d_Sha_run_16 rfl (lv_at hl 0 rfl) ?_
  refine va_get (D := G.1) (ci := 2) (v := .ref a1) (C := R_Sha) (T := F_Sha) (N := 2) hx hb hts i_Sha hown hK hP 0 rfl rfl 1 (by decide) (hts _ q22) (fun _ h9 => h9) rfl d_Sha_run_17 ?_
  refine lv_iconst (v := 2) hx hb d_Sha_run_20 (by decide) ?_
  refine lv_ldc (v := (-1732584194)) hx hb hown (hts _ q370) d_Sha_run_21 ?_
  obtain ⟨hi5, h⟩ := Ix_e h
  refine y_iast hx hb hK hP hD hS 1 1 rfl rfl hi5 d_Sha_run_23 (fun g6 H locs eg6 hP hD hS => ?_)
  replace h := Lt_e h eg6
  have hP : va_P G.1 classes [(a0, .inr (2, [.ref a4, .ref a1])), (a1, .inl (G.2.1 1, n1, .inl g6)), (a2, .inr (1, [.ref a3, .int x2_1])), (a3, .inl (G.2.1 0, n3, .inl f3)), (a4, .inl (G.2.1 1, n4, .inl f4))] H := hP
  have hD : va_D A [(a0, .inr (2, [.ref a4, .ref a1])), (a1, .inl (G.2.1 1, n1, .inl g6)), (a2, .inr (1, [.ref a3, .int x2_1])), (a3, .inl (G.2.1 0, n3, .inl f3)), (a4, .inl (G.2.1 1, n4, .inl f4))] := hD
  refine lv_aload_n hx hb d_Sha_run_24 rfl (lv_at hl 0 rfl) ?_
  refine va_get (D := G.1) (ci := 2) (v := .ref a1) (C := R_Sha) (T := F_Sha) (N := 2) hx hb hts i_Sha hown hK hP 0 rfl rfl 1 (by decide) (hts _ q22) (fun _ h9 => h9) rfl d_Sha_run_25 ?_
  refine lv_iconst (v := 3) hx hb d_Sha_run_28 (by decide) ?_
  refine lv_ldc (v := 271733878) hx hb hown (hts _ q371) d_Sha_run_29 ?_
  obtain ⟨hi7, h⟩ := Ix_e h
  refine y_iast hx hb hK hP hD hS 1 1 rfl rfl hi7 d_Sha_run_31 (fun g8 H locs eg8 hP hD hS => ?_)
  replace h := Lt_e h eg8
  have hP : va_P G.1 classes [(a0, .inr (2, [.ref a4, .ref a1])), (a1, .inl (G.2.1 1, n1, .inl g8)), (a2, .inr (1, [.ref a3, .int x2_1])), (a3, .inl (G.2.1 0, n3, .inl f3)), (a4, .inl (G.2.1 1, n4, .inl f4))] H := hP
  have hD : va_D A [(a0, .inr (2, [.ref a4, .ref a1])), (a1, .inl (G.2.1 1, n1, .inl g8)), (a2, .inr (1, [.ref a3, .int x2_1])), (a3, .inl (G.2.1 0, n3, .inl f3)), (a4, .inl (G.2.1 1, n4, .inl f4))] := hD
  refine lv_aload_n hx hb d_Sha_run_32 rfl (lv_at hl 0 rfl) ?_
  refine va_get (D := G.1) (ci := 2) (v := .ref a1) (C := R_Sha) (T := F_Sha) (N := 2) hx hb hts i_Sha hown hK hP 0 rfl rfl 1 (by decide) (hts _ q22) (fun _ h9 => h9) rfl d_Sha_run_33 ?_
  refine lv_iconst (v := 4) hx hb d_Sha_run_36 (by decide) ?_
  refine lv_ldc (v := (-1009589776)) hx hb hown (hts _ q372) d_Sha_run_37 ?_
  obtain ⟨hi9, h⟩ := Ix_e h
  refine y_iast hx hb hK hP hD hS 1 1 rfl rfl hi9 d_Sha_run_39 (fun g10 H locs eg10 hP hD hS => ?_)
  replace h := Lt_e h eg10
  have hP : va_P G.1 classes [(a0, .inr (2, [.ref a4, .ref a1])), (a1, .inl (G.2.1 1, n1, .inl g10)), (a2, .inr (1, [.ref a3, .int x2_1])), (a3, .inl (G.2.1 0, n3, .inl f3)), (a4, .inl (G.2.1 1, n4, .inl f4))] H := hP
  have hD : va_D A [(a0, .inr (2, [.ref a4, .ref a1])), (a1, .inl (G.2.1 1, n1, .inl g10)), (a2, .inr (1, [.ref a3, .int x2_1])), (a3, .inl (G.2.1 0, n3, .inl f3)), (a4, .inl (G.2.1 1, n4, .inl f4))] := hD
  refine lv_aload_n hx hb d_Sha_run_40 rfl (lv_at hl 1 rfl) ?_
  obtain ⟨r11, hc11, h⟩ := Bd_e h
  refine xV_i0 (wr := [(a0, .inr (2, [.ref a4, .ref a1])), (a1, .inl (G.2.1 1, n1, .inl g10)), (a3, .inl (G.2.1 0, n3, .inl f3)), (a4, .inl (G.2.1 1, n4, .inl f4))]) (rest := []) C0 hK hT hA hP hD hS hl.1 (c_Row_length l G a2 a3 _ x2_1  N r11 hc11) (goodV q373 q110 q111 q5 q112) 0 rfl hd_Row_length (Nat.le_trans (by decide) hRf) (Nat.le_trans (by decide) hRl) [2] [0, 1, 3, 4] rfl rfl (by decide) (by decide) (by decide) 1 2 rfl rfl rfl (Nat.le_of_ble_eq_true rfl) d_Sha_run_41 hkc hks (fun w1 H locs hE hP hD hS => ?_)
  subst hE
  have hP : va_P G.1 classes [(a0, .inr (2, [.ref a4, .ref a1])), (a1, .inl (G.2.1 1, n1, .inl g10)), (a3, .inl (G.2.1 0, n3, .inl f3)), (a4, .inl (G.2.1 1, n4, .inl f4)), (a2, .inr (1, [.ref a3, .int x2_1]))] H := hP
  have hD : va_D A [(a0, .inr (2, [.ref a4, .ref a1])), (a1, .inl (G.2.1 1, n1, .inl g10)), (a3, .inl (G.2.1 0, n3, .inl f3)), (a4, .inl (G.2.1 1, n4, .inl f4)), (a2, .inr (1, [.ref a3, .int x2_1]))] := hD
  refine lv_bipush (v := 8) hx hb d_Sha_run_44 (by decide) ?_
  refine lv_iadd hx hb d_Sha_run_46 ?_
  refine lv_bipush (v := 64) hx hb d_Sha_run_47 (by decide) ?_
  refine lv_idiv hx hb d_Sha_run_49 (by decide) ?_
  refine lv_iconst (v := 1) hx hb d_Sha_run_50 (by decide) ?_
  refine lv_iadd hx hb d_Sha_run_51 ?_
  refine lv_bipush (v := 64) hx hb d_Sha_run_52 (by decide) ?_
  refine lv_imul hx hb d_Sha_run_54 ?_
  refine lv_topi (fun v12 ev12 => ?_)
  replace h := Lt_e h ev12
  refine lv_istore_n (lv' := [(2, .int v12), (0, .ref a0), (1, .ref a2)]) hx hb d_Sha_run_55 rfl hl (by decide) rfl (fun ls hl => ?_)
  refine lv_iconst (v := 0) hx hb d_Sha_run_56 (by decide) ?_
  refine lv_istore_n (lv' := [(3, .int 0), (2, .int v12), (0, .ref a0), (1, .ref a2)]) hx hb d_Sha_run_57 rfl hl (by decide) rfl (fun ls hl => ?_)
  obtain ⟨r21, hc21, h⟩ := Bd_e h
  refine w_Sha_run_58 C0 hRf hRl hA hK hT N v12 n4 n1 x2_1 n3 f3 a0 a4 a1 a2 a3 r21 (kc := 0) (ks := 0) hkc hks ?_ N 0 f4 g10  _ _ _ hc21 (hP.sub (ws' := [(a0, .inr (2, [.ref a4, .ref a1])), (a4, .inl (G.2.1 1, n4, .inl f4)), (a1, .inl (G.2.1 1, n1, .inl g10)), (a2, .inr (1, [.ref a3, .int x2_1])), (a3, .inl (G.2.1 0, n3, .inl f3))]) [0, 3, 1, 4, 2] rfl) (hD.sub (ws' := [(a0, .inr (2, [.ref a4, .ref a1])), (a4, .inl (G.2.1 1, n4, .inl f4)), (a1, .inl (G.2.1 1, n1, .inl g10)), (a2, .inr (1, [.ref a3, .int x2_1])), (a3, .inl (G.2.1 0, n3, .inl f3))]) [0, 3, 1, 4, 2] (by decide) rfl) hS (lv_sub hl [2, 3, 1, 0] rfl)
  · intro H locs ls hP hD hS hl
    have eV := so1 h
    subst eV
    exact x_vret C0 hQ (hP.sub (ws' := [(a0, .inr (2, [.ref a4, .ref a1])), (a1, .inl (G.2.1 1, n1, .inl r21.2)), (a2, .inr (1, [.ref a3, .int x2_1])), (a3, .inl (G.2.1 0, n3, .inl f3)), (a4, .inl (G.2.1 1, n4, .inl r21.1))]) [0, 2, 3, 4, 1] rfl) (hD.sub (ws' := [(a0, .inr (2, [.ref a4, .ref a1])), (a1, .inl (G.2.1 1, n1, .inl r21.2)), (a2, .inr (1, [.ref a3, .int x2_1])), (a3, .inl (G.2.1 0, n3, .inl f3)), (a4, .inl (G.2.1 1, n4, .inl r21.1))]) [0, 2, 3, 4, 1] (by decide) rfl) hS rfl (Nat.zero_le _) (Nat.zero_le _) d_Sha_run_80
set_option maxHeartbeats 4000000 in
set_option maxRecDepth 100000 in
theorem c_Sha_word (l : Launch) (G : GX) (a0 a1 o0_0 : Nat) (sz : Nat) (n1 : Nat) (f1 : (Nat → Int32)) (p1 : Int32) (N : Nat) (V : Int64) (h : f_Sha_word N n1 f1 p1 = some V) :
    Met l y_Sha_word (wd y_Sha_word b_Sha_word 2 (some .long)) { frames := 0, cells := 0, slots := 0, locals := 0 } (PX G [.ref a0, .int p1] sz [(a0, .inr (2, [.ref o0_0, .ref a1])), (a1, .inl (G.2.1 1, n1, .inl f1))])
      (QXl G V (fun w => w = [(a0, .inr (2, [.ref o0_0, .ref a1])), (a1, .inl (G.2.1 1, n1, .inl f1))]) (va_A [(a0, .inr (2, [.ref o0_0, .ref a1])), (a1, .inl (G.2.1 1, n1, .inl f1))] sz)) 0 0 (va_A [(a0, .inr (2, [.ref o0_0, .ref a1])), (a1, .inl (G.2.1 1, n1, .inl f1))] sz) := by
  refine Met_in (QQ := fun A => QXl G V (fun w => w = [(a0, .inr (2, [.ref o0_0, .ref a1])), (a1, .inl (G.2.1 1, n1, .inl f1))]) A) (by decide) (Nat.le_of_ble_eq_true rfl) (fun p e s m below meth c R Q A ls C0 hRf hRl hRc hRs hP hK hD hT hA hS hl hQ => ?_)
  obtain ⟨hx, hb, hml, hown, hts, hr, hlocks, hin⟩ := id C0
  have hown : s.vm.findClass R_Sha = some m.cls := hown
  have hl : lv_has ls 2 [(0, .ref a0), (1, .int p1)] := hl
  unfold f_Sha_word at h
  have hkc : 0 ≤ R.cells := Nat.zero_le _
  have hks : 0 ≤ R.slots := Nat.zero_le _
  obtain ⟨H, hH⟩ : ∃ H, H = s.heap := ⟨_, rfl⟩
  obtain ⟨locs, hlc⟩ : ∃ x : List Loc, x = [] := ⟨_, rfl⟩
  rw [← hH] at hP
  have hS : va_S A s.heap H locs := by rw [hH, hlc]; exact hS
  suffices hgo : W p l e R s m [.ref a0, .int p1].toArray below meth c H locs 0 0 Q (F0 m 0 ls []) by rw [hH, hlc] at hgo; exact hgo
  refine lv_iload_n hx hb d_Sha_word_0 rfl (lv_at hl 1 rfl) ?_
  obtain ⟨j4, ej4, h⟩ := Jn_e h
  have hj4 : ∀ (t4 : Unit) (H : Heap) (locs : List Loc) (ls : Array Slot), j4 t4 = some V → va_P G.1 classes [(a0, .inr (2, [.ref o0_0, .ref a1])), (a1, .inl (G.2.1 1, n1, .inl f1))] H → va_D A [(a0, .inr (2, [.ref o0_0, .ref a1])), (a1, .inl (G.2.1 1, n1, .inl f1))] → va_S A s.heap H locs → lv_has ls 2 [] → W p l e R s m [.ref a0, .int p1].toArray below meth c H locs 0 0 Q (F0 m 27 ls []) := by
    intro t4 H locs ls h hP hD hS hl
    replace h := ej4 _ _ h
    refine lv_lconst (v := 0) hx hb d_Sha_word_27 (by decide) ?_
    have eV := so1 h
    subst eV
    exact x_lret C0 hQ hP hD hS rfl (Nat.zero_le _) (Nat.zero_le _) d_Sha_word_28
  refine lv_if_lt (tgt := 27) hx hb d_Sha_word_1 (by decide) (fun cq5 => ?_) (fun cq5 => ?_)
  · replace h := (if_pos cq5).symm.trans h
    exact hj4 () _ _ _ h hP hD hS (lv_sub hl [] rfl)
  · replace h := (if_neg cq5).symm.trans h
    refine lv_iload_n hx hb d_Sha_word_4 rfl (lv_at hl 1 rfl) ?_
    refine lv_aload_n hx hb d_Sha_word_5 rfl (lv_at hl 0 rfl) ?_
    refine va_get (D := G.1) (ci := 2) (v := .ref a1) (C := R_Sha) (T := F_Sha) (N := 2) hx hb hts i_Sha hown hK hP 0 rfl rfl 1 (by decide) (hts _ q22) (fun _ h9 => h9) rfl d_Sha_word_6 ?_
    refine va_alen (v := nI n1) hx hb hK hP 1 1 rfl rfl rfl d_Sha_word_9 ?_
    refine lv_icmp_ge (tgt := 27) hx hb d_Sha_word_10 (by decide) (fun cq6 => ?_) (fun cq6 => ?_)
    · replace h := (if_pos cq6).symm.trans h
      exact hj4 () _ _ _ h hP hD hS (lv_sub hl [] rfl)
    · replace h := (if_neg cq6).symm.trans h
      refine lv_aload_n hx hb d_Sha_word_13 rfl (lv_at hl 0 rfl) ?_
      refine va_get (D := G.1) (ci := 2) (v := .ref a1) (C := R_Sha) (T := F_Sha) (N := 2) hx hb hts i_Sha hown hK hP 0 rfl rfl 1 (by decide) (hts _ q22) (fun _ h9 => h9) rfl d_Sha_word_14 ?_
      refine lv_iload_n hx hb d_Sha_word_17 rfl (lv_at hl 1 rfl) ?_
      obtain ⟨hi7, h⟩ := Ix_e h
      refine va_iald hx hb hK hP 1 1 rfl rfl hi7 d_Sha_word_18 ?_
      refine lv_i2l (v := (f1 (p1).toNatClampNeg).toInt64) hx hb d_Sha_word_19 rfl ?_
      refine lv_ldc2 (v := 4294967295) hx hb hown (hts _ q403) d_Sha_word_20 ?_
      refine lv_land hx hb d_Sha_word_23 ?_
      refine lv_goto (tgt := 28) hx hb d_Sha_word_24 (by decide) ?_
      have eV := so1 h
      subst eV
      exact x_lret C0 hQ hP hD hS rfl (Nat.zero_le _) (Nat.zero_le _) d_Sha_word_28
theorem own_TP_hash : inT (Jvm.Bundle.ownAtoms R_TP 63 "java/lang/IllegalArgumentException" ["java/lang/RuntimeException", "java/lang/Exception"]) [50, 436, 445, 450, 453, 455, 437, 438, 65, 66, 439, 444, 451, 471, 426, 472, 428, 473, 430, 440, 441, 442, 443, 432, 467, 468, 470, 432, 502, 503, 504, 461, 418, 461, 462, 463, 464, 420, 464, 465, 466, 467, 422, 501, 492, 493, 494, 448, 495, 496, 497, 498, 0, 0, 435, 434, 499] = true := by decide +kernel
set_option maxHeartbeats 4000000 in
set_option maxRecDepth 100000 in
theorem c_TP_hash (l : Launch) (htr : l.stackTraces = false) (G : GX) (a0 a1 a2 a3 a4 a5 o0_1 o0_2 o0_4 o0_5 : Nat) (sz : Nat) (x0_6 : Int32) (x0_7 : Int32) (x0_8 : Int32) (n2 : Nat) (f2 : (Nat → Int32)) (x3_1 : Int32) (n4 : Nat) (f4 : (Nat → Int32)) (n5 : Nat) (f5 : (Nat → Int32)) (p1 : Int32) (N : Nat) (V : Nat × Int64 × (Nat → Int32) × (Nat → Int32)) (K Z : Nat) (h : f_TP_hash N n2 f2 x3_1 n4 f4 n5 f5 p1 = some (V, K, Z)) :
    MetT l y_TP_hash (wd y_TP_hash b_TP_hash 2 (some .long)) { frames := 6, cells := K, slots := Z, locals := 114 } (PX G [.ref a0, .int p1] sz [(a0, .inr (0, [.ref a3, .ref o0_1, .ref o0_2, .ref a1, .ref o0_4, .ref o0_5, .int x0_6, .int x0_7, .int x0_8])), (a1, .inr (2, [.ref a5, .ref a2])), (a2, .inl (G.2.1 1, n2, .inl f2)), (a3, .inr (1, [.ref a4, .int x3_1])), (a4, .inl (G.2.1 0, n4, .inl f4)), (a5, .inl (G.2.1 1, n5, .inl f5))])
      (QT G V.1 (some (.long V.2.1)) "java/lang/IllegalArgumentException" (fun w => w = [(a0, .inr (0, [.ref a3, .ref o0_1, .ref o0_2, .ref a1, .ref o0_4, .ref o0_5, .int x0_6, .int x0_7, .int x0_8])), (a1, .inr (2, [.ref a5, .ref a2])), (a2, .inl (G.2.1 1, n2, .inl V.2.2.1)), (a3, .inr (1, [.ref a4, .int x3_1])), (a4, .inl (G.2.1 0, n4, .inl f4)), (a5, .inl (G.2.1 1, n5, .inl V.2.2.2))]) (va_A [(a0, .inr (0, [.ref a3, .ref o0_1, .ref o0_2, .ref a1, .ref o0_4, .ref o0_5, .int x0_6, .int x0_7, .int x0_8])), (a1, .inr (2, [.ref a5, .ref a2])), (a2, .inl (G.2.1 1, n2, .inl f2)), (a3, .inr (1, [.ref a4, .int x3_1])), (a4, .inl (G.2.1 0, n4, .inl f4)), (a5, .inl (G.2.1 1, n5, .inl f5))] sz)) K Z (va_A [(a0, .inr (0, [.ref a3, .ref o0_1, .ref o0_2, .ref a1, .ref o0_4, .ref o0_5, .int x0_6, .int x0_7, .int x0_8])), (a1, .inr (2, [.ref a5, .ref a2])), (a2, .inl (G.2.1 1, n2, .inl f2)), (a3, .inr (1, [.ref a4, .int x3_1])), (a4, .inl (G.2.1 0, n4, .inl f4)), (a5, .inl (G.2.1 1, n5, .inl f5))] sz) := by
  refine MetT_in (QQ := fun A => QT G V.1 (some (.long V.2.1)) "java/lang/IllegalArgumentException" (fun w => w = [(a0, .inr (0, [.ref a3, .ref o0_1, .ref o0_2, .ref a1, .ref o0_4, .ref o0_5, .int x0_6, .int x0_7, .int x0_8])), (a1, .inr (2, [.ref a5, .ref a2])), (a2, .inl (G.2.1 1, n2, .inl V.2.2.1)), (a3, .inr (1, [.ref a4, .int x3_1])), (a4, .inl (G.2.1 0, n4, .inl f4)), (a5, .inl (G.2.1 1, n5, .inl V.2.2.2))]) A) (by decide) (Nat.le_of_ble_eq_true rfl) (fun p e s m below meth c R Q A ls C0 hex hRf hRl hRc hRs hP hK hD hT hA hS hl hQ => ?_)
  obtain ⟨hx, hb, hml, hown, hts, hr, hlocks, hin⟩ := id C0
  have hown : s.vm.findClass R_TP = some m.cls := hown
  have hl : lv_has ls 2 [(0, .ref a0), (1, .int p1)] := hl
  unfold f_TP_hash at h
  have hKT : K ≤ R.cells := Nat.le_of_eq hRc.symm
  have hZT : Z ≤ R.slots := Nat.le_of_eq hRs.symm
  have ekc : 0 + K = K := by omega
  have ezc : 0 + Z = Z := by omega
  obtain ⟨H, hH⟩ : ∃ H, H = s.heap := ⟨_, rfl⟩
  obtain ⟨locs, hlc⟩ : ∃ x : List Loc, x = [] := ⟨_, rfl⟩
  rw [← hH] at hP
  have hS : va_S A s.heap H locs := by rw [hH, hlc]; exact hS
  suffices hgo : W p l e R s m [.ref a0, .int p1].toArray below meth c H locs 0 0 Q (F0 m 0 ls []) by rw [hH, hlc] at hgo; exact hgo
  refine lv_iload_n hx hb d_TP_hash_0 rfl (lv_at hl 1 rfl) ?_
  obtain ⟨j8, ej8, h⟩ := Jn_e h
  have hj8 : ∀ (t8 : Unit) (kc8 ks8 k8 z8 : Nat) (H : Heap) (locs : List Loc) (ls : Array Slot), j8 t8 = some (V, k8, z8) → kc8 + k8 = K → ks8 + z8 = Z → va_P G.1 classes [(a0, .inr (0, [.ref a3, .ref o0_1, .ref o0_2, .ref a1, .ref o0_4, .ref o0_5, .int x0_6, .int x0_7, .int x0_8])), (a3, .inr (1, [.ref a4, .int x3_1])), (a4, .inl (G.2.1 0, n4, .inl f4)), (a1, .inr (2, [.ref a5, .ref a2])), (a5, .inl (G.2.1 1, n5, .inl f5)), (a2, .inl (G.2.1 1, n2, .inl f2))] H → va_D A [(a0, .inr (0, [.ref a3, .ref o0_1, .ref o0_2, .ref a1, .ref o0_4, .ref o0_5, .int x0_6, .int x0_7, .int x0_8])), (a3, .inr (1, [.ref a4, .int x3_1])), (a4, .inl (G.2.1 0, n4, .inl f4)), (a1, .inr (2, [.ref a5, .ref a2])), (a5, .inl (G.2.1 1, n5, .inl f5)), (a2, .inl (G.2.1 1, n2, .inl f2))] → va_S A s.heap H locs → lv_has ls 2 [] → W p l e R s m [.ref a0, .int p1].toArray below meth c H locs kc8 ks8 Q (F0 m 9 ls []) := by
    intro t8 kc8 ks8 k8 z8 H locs ls h ekc ezc hP hD hS hl
    replace h := ej8 _ _ h
    obtain ⟨k9, z9, h, ek9, ez9⟩ := Ak_e h
    have ekc : kc8 + 1 + k9 = K := by omega
    have ezc : ks8 + 6 + z9 = Z := by omega
    obtain ⟨eV, ek, ez⟩ := so3 h
    subst eV
    exact z_throw (names := ["java/lang/RuntimeException", "java/lang/Exception"]) C0 hex htr hQ hT (hP.sub (ws' := [(a0, .inr (0, [.ref a3, .ref o0_1, .ref o0_2, .ref a1, .ref o0_4, .ref o0_5, .int x0_6, .int x0_7, .int x0_8])), (a1, .inr (2, [.ref a5, .ref a2])), (a2, .inl (G.2.1 1, n2, .inl f2)), (a3, .inr (1, [.ref a4, .int x3_1])), (a4, .inl (G.2.1 0, n4, .inl f4)), (a5, .inl (G.2.1 1, n5, .inl f5))]) [0, 3, 5, 1, 2, 4] rfl) (hD.sub (ws' := [(a0, .inr (0, [.ref a3, .ref o0_1, .ref o0_2, .ref a1, .ref o0_4, .ref o0_5, .int x0_6, .int x0_7, .int x0_8])), (a1, .inr (2, [.ref a5, .ref a2])), (a2, .inl (G.2.1 1, n2, .inl f2)), (a3, .inr (1, [.ref a4, .int x3_1])), (a4, .inl (G.2.1 0, n4, .inl f4)), (a5, .inl (G.2.1 1, n5, .inl f5))]) [0, 3, 5, 1, 2, 4] (by decide) rfl) hS rfl hl.1 (by decide +kernel) (by decide +kernel) own_TP_hash q150 q151 q152 q408 d_TP_hash_9 d_TP_hash_12 d_TP_hash_13 d_TP_hash_15 d_TP_hash_18 (Nat.le_trans (by decide) hRf) (Nat.le_trans (by decide) hRl) (by omega) (by omega) hKT hZT
  refine lv_if_lt (tgt := 9) hx hb d_TP_hash_1 (by decide) (fun cq10 => ?_) (fun cq10 => ?_)
  · replace h := (if_pos cq10).symm.trans h
    exact hj8 () _ _ _ _ _ _ _ h (by omega) (by omega) (hP.sub (ws' := [(a0, .inr (0, [.ref a3, .ref o0_1, .ref o0_2, .ref a1, .ref o0_4, .ref o0_5, .int x0_6, .int x0_7, .int x0_8])), (a3, .inr (1, [.ref a4, .int x3_1])), (a4, .inl (G.2.1 0, n4, .inl f4)), (a1, .inr (2, [.ref a5, .ref a2])), (a5, .inl (G.2.1 1, n5, .inl f5)), (a2, .inl (G.2.1 1, n2, .inl f2))]) [0, 3, 4, 1, 5, 2] rfl) (hD.sub (ws' := [(a0, .inr (0, [.ref a3, .ref o0_1, .ref o0_2, .ref a1, .ref o0_4, .ref o0_5, .int x0_6, .int x0_7, .int x0_8])), (a3, .inr (1, [.ref a4, .int x3_1])), (a4, .inl (G.2.1 0, n4, .inl f4)), (a1, .inr (2, [.ref a5, .ref a2])), (a5, .inl (G.2.1 1, n5, .inl f5)), (a2, .inl (G.2.1 1, n2, .inl f2))]) [0, 3, 4, 1, 5, 2] (by decide) rfl) hS (lv_sub hl [] rfl)
  · replace h := (if_neg cq10).symm.trans h
    refine lv_iload_n hx hb d_TP_hash_4 rfl (lv_at hl 1 rfl) ?_
    refine lv_iconst (v := 2) hx hb d_TP_hash_5 (by decide) ?_
    refine lv_icmp_le (tgt := 19) hx hb d_TP_hash_6 (by decide) (fun cq11 => ?_) (fun cq11 => ?_)
    · replace h := (if_pos cq11).symm.trans h
      refine lv_aload_n hx hb d_TP_hash_19 rfl (lv_at hl 0 rfl) ?_
      refine va_get (D := G.1) (ci := 0) (v := .ref a1) (C := R_TP) (T := F_TP) (N := 9) hx hb hts i_TP hown hK hP 0 rfl rfl 3 (by decide) (hts _ q26) (fun _ h9 => h9) rfl d_TP_hash_20 ?_
      refine lv_aload_n hx hb d_TP_hash_23 rfl (lv_at hl 0 rfl) ?_
      refine va_get (D := G.1) (ci := 0) (v := .ref a3) (C := R_TP) (T := F_TP) (N := 9) hx hb hts i_TP hown hK hP 0 rfl rfl 0 (by decide) (hts _ q13) (fun _ h9 => h9) rfl d_TP_hash_24 ?_
      obtain ⟨r12, hc12, h⟩ := Bd_e h
      refine xV_v0 (wr := [(a0, .inr (0, [.ref a3, .ref o0_1, .ref o0_2, .ref a1, .ref o0_4, .ref o0_5, .int x0_6, .int x0_7, .int x0_8]))]) (rest := []) C0 hK hT hA hP hD hS hl.1 (c_Sha_run l G a1 a2 a3 a4 a5 _ n2 f2 x3_1 n4 f4 n5 f5  N r12 hc12) (goodV q399 q400 q401 q18 q402) 1 rfl hd_Sha_run (Nat.le_trans (by decide) hRf) (Nat.le_trans (by decide) hRl) [1, 2, 3, 4, 5] [0] rfl rfl (by decide) (by decide) (by decide) 2 1 rfl rfl rfl (Nat.le_of_ble_eq_true rfl) d_TP_hash_27 (by omega) (by omega) (fun w1 H locs hE hP hD hS => ?_)
      subst hE
      have hP : va_P G.1 classes [(a0, .inr (0, [.ref a3, .ref o0_1, .ref o0_2, .ref a1, .ref o0_4, .ref o0_5, .int x0_6, .int x0_7, .int x0_8])), (a1, .inr (2, [.ref a5, .ref a2])), (a2, .inl (G.2.1 1, n2, .inl r12.1)), (a3, .inr (1, [.ref a4, .int x3_1])), (a4, .inl (G.2.1 0, n4, .inl f4)), (a5, .inl (G.2.1 1, n5, .inl r12.2))] H := hP
      have hD : va_D A [(a0, .inr (0, [.ref a3, .ref o0_1, .ref o0_2, .ref a1, .ref o0_4, .ref o0_5, .int x0_6, .int x0_7, .int x0_8])), (a1, .inr (2, [.ref a5, .ref a2])), (a2, .inl (G.2.1 1, n2, .inl r12.1)), (a3, .inr (1, [.ref a4, .int x3_1])), (a4, .inl (G.2.1 0, n4, .inl f4)), (a5, .inl (G.2.1 1, n5, .inl r12.2))] := hD
      refine lv_iload_n hx hb d_TP_hash_30 rfl (lv_at hl 1 rfl) ?_
      refine lv_iconst (v := 2) hx hb d_TP_hash_31 (by decide) ?_
      refine lv_icmp_ne (tgt := 44) hx hb d_TP_hash_32 (by decide) (fun cq13 => ?_) (fun cq13 => ?_)
      · replace h := (if_neg cq13).symm.trans h
        refine lv_aload_n hx hb d_TP_hash_44 rfl (lv_at hl 0 rfl) ?_
        refine va_get (D := G.1) (ci := 0) (v := .ref a1) (C := R_TP) (T := F_TP) (N := 9) hx hb hts i_TP hown hK hP 0 rfl rfl 3 (by decide) (hts _ q26) (fun _ h9 => h9) rfl d_TP_hash_45 ?_
        refine lv_iconst (v := 2) hx hb d_TP_hash_48 (by decide) ?_
        refine lv_iload_n hx hb d_TP_hash_49 rfl (lv_at hl 1 rfl) ?_
        refine lv_imul hx hb d_TP_hash_50 ?_
        obtain ⟨r14, hc14, h⟩ := Bd_e h
        refine xV_l0 (wr := [(a0, .inr (0, [.ref a3, .ref o0_1, .ref o0_2, .ref a1, .ref o0_4, .ref o0_5, .int x0_6, .int x0_7, .int x0_8])), (a3, .inr (1, [.ref a4, .int x3_1])), (a4, .inl (G.2.1 0, n4, .inl f4)), (a5, .inl (G.2.1 1, n5, .inl r12.2))]) (rest := []) C0 hK hT hA hP hD hS hl.1 (c_Sha_word l G a1 a2 a5 _ n2 r12.1 (2 * p1) N r14 hc14) (goodV q404 q405 q406 q18 q407) 1 rfl hd_Sha_word (Nat.le_trans (by decide) hRf) (Nat.le_trans (by decide) hRl) [1, 2] [0, 3, 4, 5] rfl rfl (by decide) (by decide) (by decide) 2 1 rfl rfl rfl (Nat.le_of_ble_eq_true rfl) d_TP_hash_51 (by omega) (by omega) (fun w1 H locs hE hP hD hS => ?_)
        subst hE
        have hP : va_P G.1 classes [(a0, .inr (0, [.ref a3, .ref o0_1, .ref o0_2, .ref a1, .ref o0_4, .ref o0_5, .int x0_6, .int x0_7, .int x0_8])), (a3, .inr (1, [.ref a4, .int x3_1])), (a4, .inl (G.2.1 0, n4, .inl f4)), (a5, .inl (G.2.1 1, n5, .inl r12.2)), (a1, .inr (2, [.ref a5, .ref a2])), (a2, .inl (G.2.1 1, n2, .inl r12.1))] H := hP
        have hD : va_D A [(a0, .inr (0, [.ref a3, .ref o0_1, .ref o0_2, .ref a1, .ref o0_4, .ref o0_5, .int x0_6, .int x0_7, .int x0_8])), (a3, .inr (1, [.ref a4, .int x3_1])), (a4, .inl (G.2.1 0, n4, .inl f4)), (a5, .inl (G.2.1 1, n5, .inl r12.2)), (a1, .inr (2, [.ref a5, .ref a2])), (a2, .inl (G.2.1 1, n2, .inl r12.1))] := hD
        refine lv_bipush (v := 32) hx hb d_TP_hash_54 (by decide) ?_
        refine lv_lshl (v := r14 <<< ((32 : Int32).toInt64 &&& 63)) hx hb d_TP_hash_56 rfl ?_
        refine lv_aload_n hx hb d_TP_hash_57 rfl (lv_at hl 0 rfl) ?_
        refine va_get (D := G.1) (ci := 0) (v := .ref a1) (C := R_TP) (T := F_TP) (N := 9) hx hb hts i_TP hown hK hP 0 rfl rfl 3 (by decide) (hts _ q26) (fun _ h9 => h9) rfl d_TP_hash_58 ?_
        refine lv_iconst (v := 2) hx hb d_TP_hash_61 (by decide) ?_
        refine lv_iload_n hx hb d_TP_hash_62 rfl (lv_at hl 1 rfl) ?_
        refine lv_imul hx hb d_TP_hash_63 ?_
        refine lv_iconst (v := 1) hx hb d_TP_hash_64 (by decide) ?_
        refine lv_iadd hx hb d_TP_hash_65 ?_
        obtain ⟨r15, hc15, h⟩ := Bd_e h
        refine xV_l0 (wr := [(a0, .inr (0, [.ref a3, .ref o0_1, .ref o0_2, .ref a1, .ref o0_4, .ref o0_5, .int x0_6, .int x0_7, .int x0_8])), (a3, .inr (1, [.ref a4, .int x3_1])), (a4, .inl (G.2.1 0, n4, .inl f4)), (a5, .inl (G.2.1 1, n5, .inl r12.2))]) (rest := [.long (r14 <<< ((32 : Int32).toInt64 &&& 63))]) C0 hK hT hA hP hD hS hl.1 (c_Sha_word l G a1 a2 a5 _ n2 r12.1 ((2 * p1) + 1) N r15 hc15) (goodV q404 q405 q406 q18 q407) 1 rfl hd_Sha_word (Nat.le_trans (by decide) hRf) (Nat.le_trans (by decide) hRl) [4, 5] [0, 1, 2, 3] rfl rfl (by decide) (by decide) (by decide) 2 4 rfl rfl rfl (Nat.le_of_ble_eq_true rfl) d_TP_hash_66 (by omega) (by omega) (fun w1 H locs hE hP hD hS => ?_)
        subst hE
        have hP : va_P G.1 classes [(a0, .inr (0, [.ref a3, .ref o0_1, .ref o0_2, .ref a1, .ref o0_4, .ref o0_5, .int x0_6, .int x0_7, .int x0_8])), (a3, .inr (1, [.ref a4, .int x3_1])), (a4, .inl (G.2.1 0, n4, .inl f4)), (a5, .inl (G.2.1 1, n5, .inl r12.2)), (a1, .inr (2, [.ref a5, .ref a2])), (a2, .inl (G.2.1 1, n2, .inl r12.1))] H := hP
        have hD : va_D A [(a0, .inr (0, [.ref a3, .ref o0_1, .ref o0_2, .ref a1, .ref o0_4, .ref o0_5, .int x0_6, .int x0_7, .int x0_8])), (a3, .inr (1, [.ref a4, .int x3_1])), (a4, .inl (G.2.1 0, n4, .inl f4)), (a5, .inl (G.2.1 1, n5, .inl r12.2)), (a1, .inr (2, [.ref a5, .ref a2])), (a2, .inl (G.2.1 1, n2, .inl r12.1))] := hD
        refine lv_lor hx hb d_TP_hash_69 ?_
        obtain ⟨eV, ek, ez⟩ := so3 h
        subst eV
        exact x_lretT C0 hQ (hP.sub (ws' := [(a0, .inr (0, [.ref a3, .ref o0_1, .ref o0_2, .ref a1, .ref o0_4, .ref o0_5, .int x0_6, .int x0_7, .int x0_8])), (a1, .inr (2, [.ref a5, .ref a2])), (a2, .inl (G.2.1 1, n2, .inl r12.1)), (a3, .inr (1, [.ref a4, .int x3_1])), (a4, .inl (G.2.1 0, n4, .inl f4)), (a5, .inl (G.2.1 1, n5, .inl r12.2))]) [0, 4, 5, 1, 2, 3] rfl) (hD.sub (ws' := [(a0, .inr (0, [.ref a3, .ref o0_1, .ref o0_2, .ref a1, .ref o0_4, .ref o0_5, .int x0_6, .int x0_7, .int x0_8])), (a1, .inr (2, [.ref a5, .ref a2])), (a2, .inl (G.2.1 1, n2, .inl r12.1)), (a3, .inr (1, [.ref a4, .int x3_1])), (a4, .inl (G.2.1 0, n4, .inl f4)), (a5, .inl (G.2.1 1, n5, .inl r12.2))]) [0, 4, 5, 1, 2, 3] (by decide) rfl) hS rfl (by omega) (by omega) d_TP_hash_70
      · replace h := (if_pos cq13).symm.trans h
        refine lv_aload_n hx hb d_TP_hash_35 rfl (lv_at hl 0 rfl) ?_
        refine va_get (D := G.1) (ci := 0) (v := .ref a1) (C := R_TP) (T := F_TP) (N := 9) hx hb hts i_TP hown hK hP 0 rfl rfl 3 (by decide) (hts _ q26) (fun _ h9 => h9) rfl d_TP_hash_36 ?_
        refine lv_iconst (v := 4) hx hb d_TP_hash_39 (by decide) ?_
        obtain ⟨r16, hc16, h⟩ := Bd_e h
        refine xV_l0 (wr := [(a0, .inr (0, [.ref a3, .ref o0_1, .ref o0_2, .ref a1, .ref o0_4, .ref o0_5, .int x0_6, .int x0_7, .int x0_8])), (a3, .inr (1, [.ref a4, .int x3_1])), (a4, .inl (G.2.1 0, n4, .inl f4)), (a5, .inl (G.2.1 1, n5, .inl r12.2))]) (rest := []) C0 hK hT hA hP hD hS hl.1 (c_Sha_word l G a1 a2 a5 _ n2 r12.1 4 N r16 hc16) (goodV q404 q405 q406 q18 q407) 1 rfl hd_Sha_word (Nat.le_trans (by decide) hRf) (Nat.le_trans (by decide) hRl) [1, 2] [0, 3, 4, 5] rfl rfl (by decide) (by decide) (by decide) 2 1 rfl rfl rfl (Nat.le_of_ble_eq_true rfl) d_TP_hash_40 (by omega) (by omega) (fun w1 H locs hE hP hD hS => ?_)
        subst hE
        have hP : va_P G.1 classes [(a0, .inr (0, [.ref a3, .ref o0_1, .ref o0_2, .ref a1, .ref o0_4, .ref o0_5, .int x0_6, .int x0_7, .int x0_8])), (a3, .inr (1, [.ref a4, .int x3_1])), (a4, .inl (G.2.1 0, n4, .inl f4)), (a5, .inl (G.2.1 1, n5, .inl r12.2)), (a1, .inr (2, [.ref a5, .ref a2])), (a2, .inl (G.2.1 1, n2, .inl r12.1))] H := hP
        have hD : va_D A [(a0, .inr (0, [.ref a3, .ref o0_1, .ref o0_2, .ref a1, .ref o0_4, .ref o0_5, .int x0_6, .int x0_7, .int x0_8])), (a3, .inr (1, [.ref a4, .int x3_1])), (a4, .inl (G.2.1 0, n4, .inl f4)), (a5, .inl (G.2.1 1, n5, .inl r12.2)), (a1, .inr (2, [.ref a5, .ref a2])), (a2, .inl (G.2.1 1, n2, .inl r12.1))] := hD
        obtain ⟨eV, ek, ez⟩ := so3 h
        subst eV
        exact x_lretT C0 hQ (hP.sub (ws' := [(a0, .inr (0, [.ref a3, .ref o0_1, .ref o0_2, .ref a1, .ref o0_4, .ref o0_5, .int x0_6, .int x0_7, .int x0_8])), (a1, .inr (2, [.ref a5, .ref a2])), (a2, .inl (G.2.1 1, n2, .inl r12.1)), (a3, .inr (1, [.ref a4, .int x3_1])), (a4, .inl (G.2.1 0, n4, .inl f4)), (a5, .inl (G.2.1 1, n5, .inl r12.2))]) [0, 4, 5, 1, 2, 3] rfl) (hD.sub (ws' := [(a0, .inr (0, [.ref a3, .ref o0_1, .ref o0_2, .ref a1, .ref o0_4, .ref o0_5, .int x0_6, .int x0_7, .int x0_8])), (a1, .inr (2, [.ref a5, .ref a2])), (a2, .inl (G.2.1 1, n2, .inl r12.1)), (a3, .inr (1, [.ref a4, .int x3_1])), (a4, .inl (G.2.1 0, n4, .inl f4)), (a5, .inl (G.2.1 1, n5, .inl r12.2))]) [0, 4, 5, 1, 2, 3] (by decide) rfl) hS rfl (by omega) (by omega) d_TP_hash_43
    · replace h := (if_neg cq11).symm.trans h
      exact hj8 () _ _ _ _ _ _ _ h (by omega) (by omega) (hP.sub (ws' := [(a0, .inr (0, [.ref a3, .ref o0_1, .ref o0_2, .ref a1, .ref o0_4, .ref o0_5, .int x0_6, .int x0_7, .int x0_8])), (a3, .inr (1, [.ref a4, .int x3_1])), (a4, .inl (G.2.1 0, n4, .inl f4)), (a1, .inr (2, [.ref a5, .ref a2])), (a5, .inl (G.2.1 1, n5, .inl f5)), (a2, .inl (G.2.1 1, n2, .inl f2))]) [0, 3, 4, 1, 5, 2] rfl) (hD.sub (ws' := [(a0, .inr (0, [.ref a3, .ref o0_1, .ref o0_2, .ref a1, .ref o0_4, .ref o0_5, .int x0_6, .int x0_7, .int x0_8])), (a3, .inr (1, [.ref a4, .int x3_1])), (a4, .inl (G.2.1 0, n4, .inl f4)), (a1, .inr (2, [.ref a5, .ref a2])), (a5, .inl (G.2.1 1, n5, .inl f5)), (a2, .inl (G.2.1 1, n2, .inl f2))]) [0, 3, 4, 1, 5, 2] (by decide) rfl) hS (lv_sub hl [] rfl)
theorem own_TP_letter : inT (Jvm.Bundle.ownAtoms R_TP 124 "java/lang/IndexOutOfBoundsException" ["java/lang/RuntimeException", "java/lang/Exception"]) [50, 436, 445, 450, 453, 455, 437, 438, 65, 66, 439, 444, 451, 471, 426, 472, 428, 473, 430, 440, 441, 442, 443, 432, 467, 468, 470, 432, 731, 732, 733, 461, 418, 461, 462, 463, 464, 420, 464, 465, 466, 467, 422, 730, 721, 722, 723, 449, 724, 725, 726, 727, 0, 0, 435, 434, 728] = true := by decide +kernel
set_option maxHeartbeats 4000000 in
set_option maxRecDepth 100000 in
theorem c_TP_letter (l : Launch) (htr : l.stackTraces = false) (G : GX) (a0 a1 a2 o0_0 o0_2 o0_3 o0_4 o0_5 : Nat) (sz : Nat) (x0_6 : Int32) (x0_7 : Int32) (x0_8 : Int32) (x1_1 : Int32) (n2 : Nat) (f2 : (Nat → Int32)) (p1 : Int32) (N : Nat) (V : Nat × Int32) (K Z : Nat) (h : f_TP_letter N x1_1 n2 f2 p1 = some (V, K, Z)) :
    MetT l y_TP_letter (wd y_TP_letter b_TP_letter 2 (some .int)) { frames := 6, cells := K, slots := Z, locals := 85 } (PX G [.ref a0, .int p1] sz [(a0, .inr (0, [.ref o0_0, .ref a1, .ref o0_2, .ref o0_3, .ref o0_4, .ref o0_5, .int x0_6, .int x0_7, .int x0_8])), (a1, .inr (1, [.ref a2, .int x1_1])), (a2, .inl (G.2.1 0, n2, .inl f2))])
      (QT G V.1 (some (.int V.2)) "java/lang/IndexOutOfBoundsException" (fun w => w = [(a0, .inr (0, [.ref o0_0, .ref a1, .ref o0_2, .ref o0_3, .ref o0_4, .ref o0_5, .int x0_6, .int x0_7, .int x0_8])), (a1, .inr (1, [.ref a2, .int x1_1])), (a2, .inl (G.2.1 0, n2, .inl f2))]) (va_A [(a0, .inr (0, [.ref o0_0, .ref a1, .ref o0_2, .ref o0_3, .ref o0_4, .ref o0_5, .int x0_6, .int x0_7, .int x0_8])), (a1, .inr (1, [.ref a2, .int x1_1])), (a2, .inl (G.2.1 0, n2, .inl f2))] sz)) K Z (va_A [(a0, .inr (0, [.ref o0_0, .ref a1, .ref o0_2, .ref o0_3, .ref o0_4, .ref o0_5, .int x0_6, .int x0_7, .int x0_8])), (a1, .inr (1, [.ref a2, .int x1_1])), (a2, .inl (G.2.1 0, n2, .inl f2))] sz) := by
  refine MetT_in (QQ := fun A => QT G V.1 (some (.int V.2)) "java/lang/IndexOutOfBoundsException" (fun w => w = [(a0, .inr (0, [.ref o0_0, .ref a1, .ref o0_2, .ref o0_3, .ref o0_4, .ref o0_5, .int x0_6, .int x0_7, .int x0_8])), (a1, .inr (1, [.ref a2, .int x1_1])), (a2, .inl (G.2.1 0, n2, .inl f2))]) A) (by decide) (Nat.le_of_ble_eq_true rfl) (fun p e s m below meth c R Q A ls C0 hex hRf hRl hRc hRs hP hK hD hT hA hS hl hQ => ?_)
  obtain ⟨hx, hb, hml, hown, hts, hr, hlocks, hin⟩ := id C0
  have hown : s.vm.findClass R_TP = some m.cls := hown
  have hl : lv_has ls 2 [(0, .ref a0), (1, .int p1)] := hl
  unfold f_TP_letter at h
  have hKT : K ≤ R.cells := Nat.le_of_eq hRc.symm
  have hZT : Z ≤ R.slots := Nat.le_of_eq hRs.symm
  have ekc : 0 + K = K := by omega
  have ezc : 0 + Z = Z := by omega
  obtain ⟨H, hH⟩ : ∃ H, H = s.heap := ⟨_, rfl⟩
  obtain ⟨locs, hlc⟩ : ∃ x : List Loc, x = [] := ⟨_, rfl⟩
  rw [← hH] at hP
  have hS : va_S A s.heap H locs := by rw [hH, hlc]; exact hS
  suffices hgo : W p l e R s m [.ref a0, .int p1].toArray below meth c H locs 0 0 Q (F0 m 0 ls []) by rw [hH, hlc] at hgo; exact hgo
  refine lv_aload_n hx hb d_TP_letter_0 rfl (lv_at hl 0 rfl) ?_
  refine va_get (D := G.1) (ci := 0) (v := .ref a1) (C := R_TP) (T := F_TP) (N := 9) hx hb hts i_TP hown hK hP 0 rfl rfl 1 (by decide) (hts _ q14) (fun _ h9 => h9) rfl d_TP_letter_1 ?_
  refine lv_iload_n hx hb d_TP_letter_4 rfl (lv_at hl 1 rfl) ?_
  obtain ⟨r1, hc1, h⟩ := Bd_e h
  refine xV_i0 (wr := [(a0, .inr (0, [.ref o0_0, .ref a1, .ref o0_2, .ref o0_3, .ref o0_4, .ref o0_5, .int x0_6, .int x0_7, .int x0_8])), (a2, .inl (G.2.1 0, n2, .inl f2))]) (rest := []) C0 hK hT hA hP hD hS hl.1 (c_Row_has l G a1 a2 _ x1_1 p1 N r1 hc1) (goodV q154 q155 q156 q5 q157) 1 rfl hd_Row_has (Nat.le_trans (by decide) hRf) (Nat.le_trans (by decide) hRl) [1] [0, 2] rfl rfl (by decide) (by decide) (by decide) 1 1 rfl rfl rfl (Nat.le_of_ble_eq_true rfl) d_TP_letter_5 (by omega) (by omega) (fun w1 H locs hE hP hD hS => ?_)
  subst hE
  have hP : va_P G.1 classes [(a0, .inr (0, [.ref o0_0, .ref a1, .ref o0_2, .ref o0_3, .ref o0_4, .ref o0_5, .int x0_6, .int x0_7, .int x0_8])), (a2, .inl (G.2.1 0, n2, .inl f2)), (a1, .inr (1, [.ref a2, .int x1_1]))] H := hP
  have hD : va_D A [(a0, .inr (0, [.ref o0_0, .ref a1, .ref o0_2, .ref o0_3, .ref o0_4, .ref o0_5, .int x0_6, .int x0_7, .int x0_8])), (a2, .inl (G.2.1 0, n2, .inl f2)), (a1, .inr (1, [.ref a2, .int x1_1]))] := hD
  refine lv_if_ne (tgt := 21) hx hb d_TP_letter_8 (by decide) (fun cq2 => ?_) (fun cq2 => ?_)
  · replace h := (if_neg cq2).symm.trans h
    refine lv_aload_n hx hb d_TP_letter_21 rfl (lv_at hl 0 rfl) ?_
    refine va_get (D := G.1) (ci := 0) (v := .ref a1) (C := R_TP) (T := F_TP) (N := 9) hx hb hts i_TP hown hK hP 0 rfl rfl 1 (by decide) (hts _ q14) (fun _ h9 => h9) rfl d_TP_letter_22 ?_
    refine lv_iload_n hx hb d_TP_letter_25 rfl (lv_at hl 1 rfl) ?_
    obtain ⟨r3, hc3, h⟩ := Bd_e h
    refine xV_i0 (wr := [(a0, .inr (0, [.ref o0_0, .ref a1, .ref o0_2, .ref o0_3, .ref o0_4, .ref o0_5, .int x0_6, .int x0_7, .int x0_8]))]) (rest := []) C0 hK hT hA hP hD hS hl.1 (c_Row_at l G a1 a2 _ x1_1 n2 f2 p1 N r3 hc3) (goodV q159 q160 q161 q5 q162) 1 rfl hd_Row_at (Nat.le_trans (by decide) hRf) (Nat.le_trans (by decide) hRl) [2, 1] [0] rfl rfl (by decide) (by decide) (by decide) 1 2 rfl rfl rfl (Nat.le_of_ble_eq_true rfl) d_TP_letter_26 (by omega) (by omega) (fun w1 H locs hE hP hD hS => ?_)
    subst hE
    have hP : va_P G.1 classes [(a0, .inr (0, [.ref o0_0, .ref a1, .ref o0_2, .ref o0_3, .ref o0_4, .ref o0_5, .int x0_6, .int x0_7, .int x0_8])), (a1, .inr (1, [.ref a2, .int x1_1])), (a2, .inl (G.2.1 0, n2, .inl f2))] H := hP
    have hD : va_D A [(a0, .inr (0, [.ref o0_0, .ref a1, .ref o0_2, .ref o0_3, .ref o0_4, .ref o0_5, .int x0_6, .int x0_7, .int x0_8])), (a1, .inr (1, [.ref a2, .int x1_1])), (a2, .inl (G.2.1 0, n2, .inl f2))] := hD
    obtain ⟨eV, ek, ez⟩ := so3 h
    subst eV
    exact x_iretT C0 hQ hP hD hS rfl (by omega) (by omega) d_TP_letter_29
  · replace h := (if_pos cq2).symm.trans h
    obtain ⟨k4, z4, h, ek4, ez4⟩ := Ak_e h
    have ekc : 0 + 1 + k4 = K := by omega
    have ezc : 0 + 6 + z4 = Z := by omega
    obtain ⟨eV, ek, ez⟩ := so3 h
    subst eV
    exact z_throw (names := ["java/lang/RuntimeException", "java/lang/Exception"]) C0 hex htr hQ hT (hP.sub (ws' := [(a0, .inr (0, [.ref o0_0, .ref a1, .ref o0_2, .ref o0_3, .ref o0_4, .ref o0_5, .int x0_6, .int x0_7, .int x0_8])), (a1, .inr (1, [.ref a2, .int x1_1])), (a2, .inl (G.2.1 0, n2, .inl f2))]) [0, 2, 1] rfl) (hD.sub (ws' := [(a0, .inr (0, [.ref o0_0, .ref a1, .ref o0_2, .ref o0_3, .ref o0_4, .ref o0_5, .int x0_6, .int x0_7, .int x0_8])), (a1, .inr (1, [.ref a2, .int x1_1])), (a2, .inl (G.2.1 0, n2, .inl f2))]) [0, 2, 1] (by decide) rfl) hS rfl hl.1 (by decide +kernel) (by decide +kernel) own_TP_letter q409 q410 q411 q412 d_TP_letter_11 d_TP_letter_14 d_TP_letter_15 d_TP_letter_17 d_TP_letter_20 (Nat.le_trans (by decide) hRf) (Nat.le_trans (by decide) hRl) (by omega) (by omega) hKT hZT
