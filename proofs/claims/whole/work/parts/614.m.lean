set_option maxHeartbeats 4000000 in
set_option maxRecDepth 100000 in
theorem w_Mo_signs_2 {p : Program} {l : Launch} {e : Env} {R : Room} {s : State} {m : MethodId} {args : Array Value} {below : List Frame} {meth : Method} {c : Code} {Q : State → Prop} {G : GX} {A : Nat → Prop} (C0 : Cx p s m args meth c b_Mo_signs 2 y_Mo_signs none) (hRf : 3 ≤ R.frames) (hRl : 70 ≤ R.locals) (hA : ∀ q, s.heap.size ≤ q → A q) (hK : KX G s) (hT : TX G A s) (N : Nat) (y0_3 : Int32) (y0_4 : Int32) (y0_5 : Int32) (y0_6 : Int32) (y0_7 : Int32) (y0_8 : Int32) (y0_9 : Int32) (y0_10 : Int32) (y0_11 : Int32) (y0_14 : Int32) (y0_15 : Int32) (m1 : Nat) (g_1 : (Nat → Int32)) (m2 : Nat) (m3 : Nat) (g_3 : (Nat → Int32)) (m4 : Nat) (g_4 : (Nat → Int32)) (c0 c1 c2 c3 c4 u0_1 u0_19 u0_20 u0_21 u0_22 u0_23 : Nat) (out : Int32 × Int32 × Int32 × (Nat → Int32)) {kc ks : Nat} (hkc : kc ≤ R.cells) (hks : ks ≤ R.slots)
    (kx39 : ∀ (H : Heap) (locs : List Loc) (ls : Array Slot), va_P G.1 classes [(c0, .inr (9, [.ref c1, .ref u0_1, .ref c2, .int y0_3, .int y0_4, .int y0_5, .int y0_6, .int y0_7, .int y0_8, .int y0_9, .int y0_10, .int y0_11, .int out.1, .int out.2.1, .int y0_14, .int y0_15, .int out.2.2.1, .ref c3, .ref c4, .ref u0_19, .ref u0_20, .ref u0_21, .ref u0_22, .ref u0_23])), (c1, .inl (G.2.1 0, m1, .inl g_1)), (c2, .inl (G.2.1 0, m2, .inl out.2.2.2)), (c3, .inl (G.2.1 1, m3, .inl g_3)), (c4, .inl (G.2.1 1, m4, .inl g_4))] H → va_D A [(c0, .inr (9, [.ref c1, .ref u0_1, .ref c2, .int y0_3, .int y0_4, .int y0_5, .int y0_6, .int y0_7, .int y0_8, .int y0_9, .int y0_10, .int y0_11, .int out.1, .int out.2.1, .int y0_14, .int y0_15, .int out.2.2.1, .ref c3, .ref c4, .ref u0_19, .ref u0_20, .ref u0_21, .ref u0_22, .ref u0_23])), (c1, .inl (G.2.1 0, m1, .inl g_1)), (c2, .inl (G.2.1 0, m2, .inl out.2.2.2)), (c3, .inl (G.2.1 1, m3, .inl g_3)), (c4, .inl (G.2.1 1, m4, .inl g_4))] → va_S A s.heap H locs → lv_has ls 2 [] → W p l e R s m args below meth c H locs kc ks Q (F0 m 39 ls []))
    (kx63 : ∀ (H : Heap) (locs : List Loc) (ls : Array Slot), va_P G.1 classes [(c0, .inr (9, [.ref c1, .ref u0_1, .ref c2, .int y0_3, .int y0_4, .int y0_5, .int y0_6, .int y0_7, .int y0_8, .int y0_9, .int y0_10, .int y0_11, .int out.1, .int out.2.1, .int y0_14, .int y0_15, .int out.2.2.1, .ref c3, .ref c4, .ref u0_19, .ref u0_20, .ref u0_21, .ref u0_22, .ref u0_23])), (c1, .inl (G.2.1 0, m1, .inl g_1)), (c2, .inl (G.2.1 0, m2, .inl out.2.2.2)), (c3, .inl (G.2.1 1, m3, .inl g_3)), (c4, .inl (G.2.1 1, m4, .inl g_4))] H → va_D A [(c0, .inr (9, [.ref c1, .ref u0_1, .ref c2, .int y0_3, .int y0_4, .int y0_5, .int y0_6, .int y0_7, .int y0_8, .int y0_9, .int y0_10, .int y0_11, .int out.1, .int out.2.1, .int y0_14, .int y0_15, .int out.2.2.1, .ref c3, .ref c4, .ref u0_19, .ref u0_20, .ref u0_21, .ref u0_22, .ref u0_23])), (c1, .inl (G.2.1 0, m1, .inl g_1)), (c2, .inl (G.2.1 0, m2, .inl out.2.2.2)), (c3, .inl (G.2.1 1, m3, .inl g_3)), (c4, .inl (G.2.1 1, m4, .inl g_4))] → va_S A s.heap H locs → lv_has ls 2 [] → W p l e R s m args below meth c H locs kc ks Q (F0 m 63 ls [])) :
    ∀ (n : Nat) (i1 : Int32) (y0_12 : Int32) (y0_13 : Int32) (y0_16 : Int32) (g_2 : (Nat → Int32)) (H : Heap) (locs : List Loc) (ls : Array Slot), lp_Mo_signs_2 N y0_3 m1 g_1 m2 m3 g_3 m4 g_4 n i1 y0_12 y0_13 y0_16 g_2 = some out → va_P G.1 classes [(c0, .inr (9, [.ref c1, .ref u0_1, .ref c2, .int y0_3, .int y0_4, .int y0_5, .int y0_6, .int y0_7, .int y0_8, .int y0_9, .int y0_10, .int y0_11, .int y0_12, .int y0_13, .int y0_14, .int y0_15, .int y0_16, .ref c3, .ref c4, .ref u0_19, .ref u0_20, .ref u0_21, .ref u0_22, .ref u0_23])), (c1, .inl (G.2.1 0, m1, .inl g_1)), (c2, .inl (G.2.1 0, m2, .inl g_2)), (c3, .inl (G.2.1 1, m3, .inl g_3)), (c4, .inl (G.2.1 1, m4, .inl g_4))] H → va_D A [(c0, .inr (9, [.ref c1, .ref u0_1, .ref c2, .int y0_3, .int y0_4, .int y0_5, .int y0_6, .int y0_7, .int y0_8, .int y0_9, .int y0_10, .int y0_11, .int y0_12, .int y0_13, .int y0_14, .int y0_15, .int y0_16, .ref c3, .ref c4, .ref u0_19, .ref u0_20, .ref u0_21, .ref u0_22, .ref u0_23])), (c1, .inl (G.2.1 0, m1, .inl g_1)), (c2, .inl (G.2.1 0, m2, .inl g_2)), (c3, .inl (G.2.1 1, m3, .inl g_3)), (c4, .inl (G.2.1 1, m4, .inl g_4))] → va_S A s.heap H locs → lv_has ls 2 [(0, .ref c0), (1, .int i1)] → W p l e R s m args below meth c H locs kc ks Q (F0 m 2 ls []) := by
  obtain ⟨hx, hb, hml, hown, hts, hr, hlocks, hin⟩ := id C0
  have hown : s.vm.findClass R_Mo = some m.cls := hown
  intro n
  induction n with
  | zero => intro i1 y0_12 y0_13 y0_16 g_2 H locs ls h; cases h
  | succ n ih =>
    intro i1 y0_12 y0_13 y0_16 g_2 H locs ls h hP hD hS hl
    replace h : lb_Mo_signs_2 N y0_3 m1 g_1 m2 m3 g_3 m4 g_4 (lp_Mo_signs_2 N y0_3 m1 g_1 m2 m3 g_3 m4 g_4 n) i1 y0_12 y0_13 y0_16 g_2 = some out := h
    unfold lb_Mo_signs_2 at h
    refine lv_aload_n hx hb d_Mo_signs_2 rfl (lv_at hl 0 rfl) ?_
    refine va_get (D := G.1) (ci := 9) (v := .int y0_16) (C := R_Mo) (T := F_Mo) (N := 24) hx hb hts i_Mo hown hK hP 0 rfl rfl 16 (by decide) (hts _ q488) (fun _ h9 => h9) rfl d_Mo_signs_3 ?_
    refine lv_if_ne (tgt := 63) hx hb d_Mo_signs_6 (by decide) (fun cq9 => ?_) (fun cq9 => ?_)
    · replace h := (if_neg cq9).symm.trans h
      have eV := so1 h
      subst eV
      exact kx63 _ _ _ hP hD hS (lv_sub hl [] rfl)
    · replace h := (if_pos cq9).symm.trans h
      refine lv_iload_n hx hb d_Mo_signs_9 rfl (lv_at hl 1 rfl) ?_
      refine lv_sipush (v := 256) hx hb d_Mo_signs_10 (by decide) ?_
      refine lv_icmp_eq (tgt := 63) hx hb d_Mo_signs_13 (by decide) (fun cq10 => ?_) (fun cq10 => ?_)
      · replace h := (if_pos cq10).symm.trans h
        have eV := so1 h
        subst eV
        exact kx63 _ _ _ hP hD hS (lv_sub hl [] rfl)
      · replace h := (if_neg cq10).symm.trans h
        refine lv_aload_n hx hb d_Mo_signs_16 rfl (lv_at hl 0 rfl) ?_
        refine lv_iconst (v := 0) hx hb d_Mo_signs_17 (by decide) ?_
        refine lv_sipush (v := 288) hx hb d_Mo_signs_18 (by decide) ?_
        obtain ⟨r11, hc11, h⟩ := Bd_e h
        refine xV_i0 (wr := [(c2, .inl (G.2.1 0, m2, .inl g_2))]) (rest := []) C0 hK hT hA hP hD hS hl.1 (c_Mo_sign l G c0 c1 c3 c4 u0_1 c2 u0_19 u0_20 u0_21 u0_22 u0_23 _ y0_3 y0_4 y0_5 y0_6 y0_7 y0_8 y0_9 y0_10 y0_11 y0_12 y0_13 y0_14 y0_15 y0_16 m1 g_1 m3 g_3 m4 g_4 0 288 N r11 hc11) (goodV q498 q499 q500 q439 q501) 2 rfl hd_Mo_sign (Nat.le_trans (by decide) hRf) (Nat.le_trans (by decide) hRl) [0, 1, 3, 4] [2] rfl rfl (by decide) (by decide) (by decide) 9 0 rfl rfl rfl (Nat.le_of_ble_eq_true rfl) d_Mo_signs_21 hkc hks (fun w1 H locs hE hP hD hS => ?_)
        subst hE
        have hP : va_P G.1 classes [(c2, .inl (G.2.1 0, m2, .inl g_2)), (c0, .inr (9, [.ref c1, .ref u0_1, .ref c2, .int y0_3, .int y0_4, .int y0_5, .int y0_6, .int y0_7, .int y0_8, .int y0_9, .int y0_10, .int y0_11, .int r11.2.1, .int y0_13, .int y0_14, .int y0_15, .int r11.2.2, .ref c3, .ref c4, .ref u0_19, .ref u0_20, .ref u0_21, .ref u0_22, .ref u0_23])), (c1, .inl (G.2.1 0, m1, .inl g_1)), (c3, .inl (G.2.1 1, m3, .inl g_3)), (c4, .inl (G.2.1 1, m4, .inl g_4))] H := hP
        have hD : va_D A [(c2, .inl (G.2.1 0, m2, .inl g_2)), (c0, .inr (9, [.ref c1, .ref u0_1, .ref c2, .int y0_3, .int y0_4, .int y0_5, .int y0_6, .int y0_7, .int y0_8, .int y0_9, .int y0_10, .int y0_11, .int r11.2.1, .int y0_13, .int y0_14, .int y0_15, .int r11.2.2, .ref c3, .ref c4, .ref u0_19, .ref u0_20, .ref u0_21, .ref u0_22, .ref u0_23])), (c1, .inl (G.2.1 0, m1, .inl g_1)), (c3, .inl (G.2.1 1, m3, .inl g_3)), (c4, .inl (G.2.1 1, m4, .inl g_4))] := hD
        refine lv_istore_n (lv' := [(1, .int r11.1), (0, .ref c0)]) hx hb d_Mo_signs_24 rfl hl (by decide) rfl (fun ls hl => ?_)
        refine lv_aload_n hx hb d_Mo_signs_25 rfl (lv_at hl 1 rfl) ?_
        refine va_get (D := G.1) (ci := 9) (v := .int r11.2.2) (C := R_Mo) (T := F_Mo) (N := 24) hx hb hts i_Mo hown hK hP 1 rfl rfl 16 (by decide) (hts _ q488) (fun _ h9 => h9) rfl d_Mo_signs_26 ?_
        refine lv_if_ne (tgt := 39) hx hb d_Mo_signs_29 (by decide) (fun cq12 => ?_) (fun cq12 => ?_)
        · replace h := (if_neg cq12).symm.trans h
          have eV := so1 h
          subst eV
          exact kx39 _ _ _ (hP.sub (ws' := [(c0, .inr (9, [.ref c1, .ref u0_1, .ref c2, .int y0_3, .int y0_4, .int y0_5, .int y0_6, .int y0_7, .int y0_8, .int y0_9, .int y0_10, .int y0_11, .int r11.2.1, .int y0_13, .int y0_14, .int y0_15, .int r11.2.2, .ref c3, .ref c4, .ref u0_19, .ref u0_20, .ref u0_21, .ref u0_22, .ref u0_23])), (c1, .inl (G.2.1 0, m1, .inl g_1)), (c2, .inl (G.2.1 0, m2, .inl g_2)), (c3, .inl (G.2.1 1, m3, .inl g_3)), (c4, .inl (G.2.1 1, m4, .inl g_4))]) [1, 2, 0, 3, 4] rfl) (hD.sub (ws' := [(c0, .inr (9, [.ref c1, .ref u0_1, .ref c2, .int y0_3, .int y0_4, .int y0_5, .int y0_6, .int y0_7, .int y0_8, .int y0_9, .int y0_10, .int y0_11, .int r11.2.1, .int y0_13, .int y0_14, .int y0_15, .int r11.2.2, .ref c3, .ref c4, .ref u0_19, .ref u0_20, .ref u0_21, .ref u0_22, .ref u0_23])), (c1, .inl (G.2.1 0, m1, .inl g_1)), (c2, .inl (G.2.1 0, m2, .inl g_2)), (c3, .inl (G.2.1 1, m3, .inl g_3)), (c4, .inl (G.2.1 1, m4, .inl g_4))]) [1, 2, 0, 3, 4] (by decide) rfl) hS (lv_sub hl [] rfl)
        · replace h := (if_pos cq12).symm.trans h
          refine lv_iload_n hx hb d_Mo_signs_32 rfl (lv_at hl 0 rfl) ?_
          refine lv_sipush (v := 256) hx hb d_Mo_signs_33 (by decide) ?_
          refine lv_icmp_ne (tgt := 40) hx hb d_Mo_signs_36 (by decide) (fun cq13 => ?_) (fun cq13 => ?_)
          · replace h := (if_neg cq13).symm.trans h
            refine lv_iload_n hx hb d_Mo_signs_40 rfl (lv_at hl 0 rfl) ?_
            refine lv_sipush (v := 256) hx hb d_Mo_signs_41 (by decide) ?_
            refine lv_icmp_ge (tgt := 55) hx hb d_Mo_signs_44 (by decide) (fun cq14 => ?_) (fun cq14 => ?_)
            · replace h := (if_pos cq14).symm.trans h
              refine lv_aload_n hx hb d_Mo_signs_55 rfl (lv_at hl 1 rfl) ?_
              refine lv_iload_n hx hb d_Mo_signs_56 rfl (lv_at hl 0 rfl) ?_
              obtain ⟨r15, hc15, h⟩ := Bd_e h
              refine xV_v0 (wr := []) (rest := []) C0 hK hT hA hP hD hS hl.1 (c_Mo_pair l G c0 c1 c3 c4 c2 u0_1 u0_19 u0_20 u0_21 u0_22 u0_23 _ y0_3 y0_4 y0_5 y0_6 y0_7 y0_8 y0_9 y0_10 y0_11 r11.2.1 y0_13 y0_14 y0_15 r11.2.2 m1 g_1 m3 g_3 m4 g_4 m2 g_2 r11.1 N r15 hc15) (goodV q506 q507 q508 q439 q509) 1 rfl hd_Mo_pair (Nat.le_trans (by decide) hRf) (Nat.le_trans (by decide) hRl) [1, 2, 3, 4, 0] [] rfl rfl (by decide) (by decide) (by decide) 9 1 rfl rfl rfl (Nat.le_of_ble_eq_true rfl) d_Mo_signs_57 hkc hks (fun w1 H locs hE hP hD hS => ?_)
              subst hE
              have hP : va_P G.1 classes [(c0, .inr (9, [.ref c1, .ref u0_1, .ref c2, .int y0_3, .int y0_4, .int y0_5, .int y0_6, .int y0_7, .int y0_8, .int y0_9, .int y0_10, .int y0_11, .int r15.1, .int r15.2.1, .int y0_14, .int y0_15, .int r15.2.2.1, .ref c3, .ref c4, .ref u0_19, .ref u0_20, .ref u0_21, .ref u0_22, .ref u0_23])), (c1, .inl (G.2.1 0, m1, .inl g_1)), (c3, .inl (G.2.1 1, m3, .inl g_3)), (c4, .inl (G.2.1 1, m4, .inl g_4)), (c2, .inl (G.2.1 0, m2, .inl r15.2.2.2))] H := hP
              have hD : va_D A [(c0, .inr (9, [.ref c1, .ref u0_1, .ref c2, .int y0_3, .int y0_4, .int y0_5, .int y0_6, .int y0_7, .int y0_8, .int y0_9, .int y0_10, .int y0_11, .int r15.1, .int r15.2.1, .int y0_14, .int y0_15, .int r15.2.2.1, .ref c3, .ref c4, .ref u0_19, .ref u0_20, .ref u0_21, .ref u0_22, .ref u0_23])), (c1, .inl (G.2.1 0, m1, .inl g_1)), (c3, .inl (G.2.1 1, m3, .inl g_3)), (c4, .inl (G.2.1 1, m4, .inl g_4)), (c2, .inl (G.2.1 0, m2, .inl r15.2.2.2))] := hD
              refine lv_goto (tgt := 2) hx hb d_Mo_signs_60 (by decide) ?_
              exact ih r11.1 r15.1 r15.2.1 r15.2.2.1 r15.2.2.2  _ _ _ h (hP.sub (ws' := [(c0, .inr (9, [.ref c1, .ref u0_1, .ref c2, .int y0_3, .int y0_4, .int y0_5, .int y0_6, .int y0_7, .int y0_8, .int y0_9, .int y0_10, .int y0_11, .int r15.1, .int r15.2.1, .int y0_14, .int y0_15, .int r15.2.2.1, .ref c3, .ref c4, .ref u0_19, .ref u0_20, .ref u0_21, .ref u0_22, .ref u0_23])), (c1, .inl (G.2.1 0, m1, .inl g_1)), (c2, .inl (G.2.1 0, m2, .inl r15.2.2.2)), (c3, .inl (G.2.1 1, m3, .inl g_3)), (c4, .inl (G.2.1 1, m4, .inl g_4))]) [0, 1, 4, 2, 3] rfl) (hD.sub (ws' := [(c0, .inr (9, [.ref c1, .ref u0_1, .ref c2, .int y0_3, .int y0_4, .int y0_5, .int y0_6, .int y0_7, .int y0_8, .int y0_9, .int y0_10, .int y0_11, .int r15.1, .int r15.2.1, .int y0_14, .int y0_15, .int r15.2.2.1, .ref c3, .ref c4, .ref u0_19, .ref u0_20, .ref u0_21, .ref u0_22, .ref u0_23])), (c1, .inl (G.2.1 0, m1, .inl g_1)), (c2, .inl (G.2.1 0, m2, .inl r15.2.2.2)), (c3, .inl (G.2.1 1, m3, .inl g_3)), (c4, .inl (G.2.1 1, m4, .inl g_4))]) [0, 1, 4, 2, 3] (by decide) rfl) hS (lv_sub hl [1, 0] rfl)
            · replace h := (if_neg cq14).symm.trans h
              refine lv_aload_n hx hb d_Mo_signs_47 rfl (lv_at hl 1 rfl) ?_
              refine lv_iload_n hx hb d_Mo_signs_48 rfl (lv_at hl 0 rfl) ?_
              obtain ⟨r16, hc16, h⟩ := Bd_e h
              refine xV_v0 (wr := [(c1, .inl (G.2.1 0, m1, .inl g_1)), (c3, .inl (G.2.1 1, m3, .inl g_3)), (c4, .inl (G.2.1 1, m4, .inl g_4))]) (rest := []) C0 hK hT hA hP hD hS hl.1 (c_Mo_give l G c0 c2 c1 u0_1 c3 c4 u0_19 u0_20 u0_21 u0_22 u0_23 _ y0_3 y0_4 y0_5 y0_6 y0_7 y0_8 y0_9 y0_10 y0_11 r11.2.1 y0_13 y0_14 y0_15 r11.2.2 m2 g_2 r11.1 N r16 hc16) (goodV q502 q503 q504 q439 q505) 1 rfl hd_Mo_give (Nat.le_trans (by decide) hRf) (Nat.le_trans (by decide) hRl) [1, 0] [2, 3, 4] rfl rfl (by decide) (by decide) (by decide) 9 1 rfl rfl rfl (Nat.le_of_ble_eq_true rfl) d_Mo_signs_49 hkc hks (fun w1 H locs hE hP hD hS => ?_)
              subst hE
              have hP : va_P G.1 classes [(c1, .inl (G.2.1 0, m1, .inl g_1)), (c3, .inl (G.2.1 1, m3, .inl g_3)), (c4, .inl (G.2.1 1, m4, .inl g_4)), (c0, .inr (9, [.ref c1, .ref u0_1, .ref c2, .int y0_3, .int y0_4, .int y0_5, .int y0_6, .int y0_7, .int y0_8, .int y0_9, .int y0_10, .int y0_11, .int r11.2.1, .int r16.1, .int y0_14, .int y0_15, .int r16.2.1, .ref c3, .ref c4, .ref u0_19, .ref u0_20, .ref u0_21, .ref u0_22, .ref u0_23])), (c2, .inl (G.2.1 0, m2, .inl r16.2.2))] H := hP
              have hD : va_D A [(c1, .inl (G.2.1 0, m1, .inl g_1)), (c3, .inl (G.2.1 1, m3, .inl g_3)), (c4, .inl (G.2.1 1, m4, .inl g_4)), (c0, .inr (9, [.ref c1, .ref u0_1, .ref c2, .int y0_3, .int y0_4, .int y0_5, .int y0_6, .int y0_7, .int y0_8, .int y0_9, .int y0_10, .int y0_11, .int r11.2.1, .int r16.1, .int y0_14, .int y0_15, .int r16.2.1, .ref c3, .ref c4, .ref u0_19, .ref u0_20, .ref u0_21, .ref u0_22, .ref u0_23])), (c2, .inl (G.2.1 0, m2, .inl r16.2.2))] := hD
              refine lv_goto (tgt := 2) hx hb d_Mo_signs_52 (by decide) ?_
              exact ih r11.1 r11.2.1 r16.1 r16.2.1 r16.2.2  _ _ _ h (hP.sub (ws' := [(c0, .inr (9, [.ref c1, .ref u0_1, .ref c2, .int y0_3, .int y0_4, .int y0_5, .int y0_6, .int y0_7, .int y0_8, .int y0_9, .int y0_10, .int y0_11, .int r11.2.1, .int r16.1, .int y0_14, .int y0_15, .int r16.2.1, .ref c3, .ref c4, .ref u0_19, .ref u0_20, .ref u0_21, .ref u0_22, .ref u0_23])), (c1, .inl (G.2.1 0, m1, .inl g_1)), (c2, .inl (G.2.1 0, m2, .inl r16.2.2)), (c3, .inl (G.2.1 1, m3, .inl g_3)), (c4, .inl (G.2.1 1, m4, .inl g_4))]) [3, 0, 4, 1, 2] rfl) (hD.sub (ws' := [(c0, .inr (9, [.ref c1, .ref u0_1, .ref c2, .int y0_3, .int y0_4, .int y0_5, .int y0_6, .int y0_7, .int y0_8, .int y0_9, .int y0_10, .int y0_11, .int r11.2.1, .int r16.1, .int y0_14, .int y0_15, .int r16.2.1, .ref c3, .ref c4, .ref u0_19, .ref u0_20, .ref u0_21, .ref u0_22, .ref u0_23])), (c1, .inl (G.2.1 0, m1, .inl g_1)), (c2, .inl (G.2.1 0, m2, .inl r16.2.2)), (c3, .inl (G.2.1 1, m3, .inl g_3)), (c4, .inl (G.2.1 1, m4, .inl g_4))]) [3, 0, 4, 1, 2] (by decide) rfl) hS (lv_sub hl [1, 0] rfl)
          · replace h := (if_pos cq13).symm.trans h
            have eV := so1 h
            subst eV
            exact kx39 _ _ _ (hP.sub (ws' := [(c0, .inr (9, [.ref c1, .ref u0_1, .ref c2, .int y0_3, .int y0_4, .int y0_5, .int y0_6, .int y0_7, .int y0_8, .int y0_9, .int y0_10, .int y0_11, .int r11.2.1, .int y0_13, .int y0_14, .int y0_15, .int r11.2.2, .ref c3, .ref c4, .ref u0_19, .ref u0_20, .ref u0_21, .ref u0_22, .ref u0_23])), (c1, .inl (G.2.1 0, m1, .inl g_1)), (c2, .inl (G.2.1 0, m2, .inl g_2)), (c3, .inl (G.2.1 1, m3, .inl g_3)), (c4, .inl (G.2.1 1, m4, .inl g_4))]) [1, 2, 0, 3, 4] rfl) (hD.sub (ws' := [(c0, .inr (9, [.ref c1, .ref u0_1, .ref c2, .int y0_3, .int y0_4, .int y0_5, .int y0_6, .int y0_7, .int y0_8, .int y0_9, .int y0_10, .int y0_11, .int r11.2.1, .int y0_13, .int y0_14, .int y0_15, .int r11.2.2, .ref c3, .ref c4, .ref u0_19, .ref u0_20, .ref u0_21, .ref u0_22, .ref u0_23])), (c1, .inl (G.2.1 0, m1, .inl g_1)), (c2, .inl (G.2.1 0, m2, .inl g_2)), (c3, .inl (G.2.1 1, m3, .inl g_3)), (c4, .inl (G.2.1 1, m4, .inl g_4))]) [1, 2, 0, 3, 4] (by decide) rfl) hS (lv_sub hl [] rfl)
set_option maxHeartbeats 4000000 in
set_option maxRecDepth 100000 in
theorem c_Mo_signs (l : Launch) (G : GX) (a0 a1 a2 a3 a4 o0_1 o0_19 o0_20 o0_21 o0_22 o0_23 : Nat) (sz : Nat) (x0_3 : Int32) (x0_4 : Int32) (x0_5 : Int32) (x0_6 : Int32) (x0_7 : Int32) (x0_8 : Int32) (x0_9 : Int32) (x0_10 : Int32) (x0_11 : Int32) (x0_12 : Int32) (x0_13 : Int32) (x0_14 : Int32) (x0_15 : Int32) (x0_16 : Int32) (n1 : Nat) (f1 : (Nat → Int32)) (n2 : Nat) (f2 : (Nat → Int32)) (n3 : Nat) (f3 : (Nat → Int32)) (n4 : Nat) (f4 : (Nat → Int32))  (N : Nat) (V : Int32 × Int32 × Int32 × (Nat → Int32)) (h : f_Mo_signs N x0_3 x0_12 x0_13 x0_16 n1 f1 n2 f2 n3 f3 n4 f4 = some V) :
    Met l y_Mo_signs (wd y_Mo_signs b_Mo_signs 2 none) { frames := 3, cells := 0, slots := 0, locals := 70 } (PX G [.ref a0] sz [(a0, .inr (9, [.ref a1, .ref o0_1, .ref a4, .int x0_3, .int x0_4, .int x0_5, .int x0_6, .int x0_7, .int x0_8, .int x0_9, .int x0_10, .int x0_11, .int x0_12, .int x0_13, .int x0_14, .int x0_15, .int x0_16, .ref a2, .ref a3, .ref o0_19, .ref o0_20, .ref o0_21, .ref o0_22, .ref o0_23])), (a1, .inl (G.2.1 0, n1, .inl f1)), (a2, .inl (G.2.1 1, n2, .inl f2)), (a3, .inl (G.2.1 1, n3, .inl f3)), (a4, .inl (G.2.1 0, n4, .inl f4))])
      (QXv G (fun w => w = [(a0, .inr (9, [.ref a1, .ref o0_1, .ref a4, .int x0_3, .int x0_4, .int x0_5, .int x0_6, .int x0_7, .int x0_8, .int x0_9, .int x0_10, .int x0_11, .int V.1, .int V.2.1, .int x0_14, .int x0_15, .int V.2.2.1, .ref a2, .ref a3, .ref o0_19, .ref o0_20, .ref o0_21, .ref o0_22, .ref o0_23])), (a1, .inl (G.2.1 0, n1, .inl f1)), (a2, .inl (G.2.1 1, n2, .inl f2)), (a3, .inl (G.2.1 1, n3, .inl f3)), (a4, .inl (G.2.1 0, n4, .inl V.2.2.2))]) (va_A [(a0, .inr (9, [.ref a1, .ref o0_1, .ref a4, .int x0_3, .int x0_4, .int x0_5, .int x0_6, .int x0_7, .int x0_8, .int x0_9, .int x0_10, .int x0_11, .int x0_12, .int x0_13, .int x0_14, .int x0_15, .int x0_16, .ref a2, .ref a3, .ref o0_19, .ref o0_20, .ref o0_21, .ref o0_22, .ref o0_23])), (a1, .inl (G.2.1 0, n1, .inl f1)), (a2, .inl (G.2.1 1, n2, .inl f2)), (a3, .inl (G.2.1 1, n3, .inl f3)), (a4, .inl (G.2.1 0, n4, .inl f4))] sz)) 0 0 (va_A [(a0, .inr (9, [.ref a1, .ref o0_1, .ref a4, .int x0_3, .int x0_4, .int x0_5, .int x0_6, .int x0_7, .int x0_8, .int x0_9, .int x0_10, .int x0_11, .int x0_12, .int x0_13, .int x0_14, .int x0_15, .int x0_16, .ref a2, .ref a3, .ref o0_19, .ref o0_20, .ref o0_21, .ref o0_22, .ref o0_23])), (a1, .inl (G.2.1 0, n1, .inl f1)), (a2, .inl (G.2.1 1, n2, .inl f2)), (a3, .inl (G.2.1 1, n3, .inl f3)), (a4, .inl (G.2.1 0, n4, .inl f4))] sz) := by
  refine Met_in (QQ := fun A => QXv G (fun w => w = [(a0, .inr (9, [.ref a1, .ref o0_1, .ref a4, .int x0_3, .int x0_4, .int x0_5, .int x0_6, .int x0_7, .int x0_8, .int x0_9, .int x0_10, .int x0_11, .int V.1, .int V.2.1, .int x0_14, .int x0_15, .int V.2.2.1, .ref a2, .ref a3, .ref o0_19, .ref o0_20, .ref o0_21, .ref o0_22, .ref o0_23])), (a1, .inl (G.2.1 0, n1, .inl f1)), (a2, .inl (G.2.1 1, n2, .inl f2)), (a3, .inl (G.2.1 1, n3, .inl f3)), (a4, .inl (G.2.1 0, n4, .inl V.2.2.2))]) A) (by decide) (Nat.le_of_ble_eq_true rfl) (fun p e s m below meth c R Q A ls C0 hRf hRl hRc hRs hP hK hD hT hA hS hl hQ => ?_)
  obtain ⟨hx, hb, hml, hown, hts, hr, hlocks, hin⟩ := id C0
  have hown : s.vm.findClass R_Mo = some m.cls := hown
  have hl : lv_has ls 2 [(0, .ref a0)] := hl
  unfold f_Mo_signs at h
  have hkc : 0 ≤ R.cells := Nat.zero_le _
  have hks : 0 ≤ R.slots := Nat.zero_le _
  obtain ⟨H, hH⟩ : ∃ H, H = s.heap := ⟨_, rfl⟩
  obtain ⟨locs, hlc⟩ : ∃ x : List Loc, x = [] := ⟨_, rfl⟩
  rw [← hH] at hP
  have hS : va_S A s.heap H locs := by rw [hH, hlc]; exact hS
  suffices hgo : W p l e R s m [.ref a0].toArray below meth c H locs 0 0 Q (F0 m 0 ls []) by rw [hH, hlc] at hgo; exact hgo
  refine lv_iconst (v := 0) hx hb d_Mo_signs_0 (by decide) ?_
  refine lv_istore_n (lv' := [(1, .int 0), (0, .ref a0)]) hx hb d_Mo_signs_1 rfl hl (by decide) rfl (fun ls hl => ?_)
  obtain ⟨r17, hc17, h⟩ := Bd_e h
  refine w_Mo_signs_2 C0 hRf hRl hA hK hT N x0_3 x0_4 x0_5 x0_6 x0_7 x0_8 x0_9 x0_10 x0_11 x0_14 x0_15 n1 f1 n4 n2 f2 n3 f3 a0 a1 a4 a2 a3 o0_1 o0_19 o0_20 o0_21 o0_22 o0_23 r17 (kc := 0) (ks := 0) hkc hks ?_ ?_ N 0 x0_12 x0_13 x0_16 f4  _ _ _ hc17 (hP.sub (ws' := [(a0, .inr (9, [.ref a1, .ref o0_1, .ref a4, .int x0_3, .int x0_4, .int x0_5, .int x0_6, .int x0_7, .int x0_8, .int x0_9, .int x0_10, .int x0_11, .int x0_12, .int x0_13, .int x0_14, .int x0_15, .int x0_16, .ref a2, .ref a3, .ref o0_19, .ref o0_20, .ref o0_21, .ref o0_22, .ref o0_23])), (a1, .inl (G.2.1 0, n1, .inl f1)), (a4, .inl (G.2.1 0, n4, .inl f4)), (a2, .inl (G.2.1 1, n2, .inl f2)), (a3, .inl (G.2.1 1, n3, .inl f3))]) [0, 1, 4, 2, 3] rfl) (hD.sub (ws' := [(a0, .inr (9, [.ref a1, .ref o0_1, .ref a4, .int x0_3, .int x0_4, .int x0_5, .int x0_6, .int x0_7, .int x0_8, .int x0_9, .int x0_10, .int x0_11, .int x0_12, .int x0_13, .int x0_14, .int x0_15, .int x0_16, .ref a2, .ref a3, .ref o0_19, .ref o0_20, .ref o0_21, .ref o0_22, .ref o0_23])), (a1, .inl (G.2.1 0, n1, .inl f1)), (a4, .inl (G.2.1 0, n4, .inl f4)), (a2, .inl (G.2.1 1, n2, .inl f2)), (a3, .inl (G.2.1 1, n3, .inl f3))]) [0, 1, 4, 2, 3] (by decide) rfl) hS (lv_sub hl [1, 0] rfl)
  · intro H locs ls hP hD hS hl
    have eV := so1 h
    subst eV
    exact x_vret C0 hQ (hP.sub (ws' := [(a0, .inr (9, [.ref a1, .ref o0_1, .ref a4, .int x0_3, .int x0_4, .int x0_5, .int x0_6, .int x0_7, .int x0_8, .int x0_9, .int x0_10, .int x0_11, .int r17.1, .int r17.2.1, .int x0_14, .int x0_15, .int r17.2.2.1, .ref a2, .ref a3, .ref o0_19, .ref o0_20, .ref o0_21, .ref o0_22, .ref o0_23])), (a1, .inl (G.2.1 0, n1, .inl f1)), (a2, .inl (G.2.1 1, n2, .inl f2)), (a3, .inl (G.2.1 1, n3, .inl f3)), (a4, .inl (G.2.1 0, n4, .inl r17.2.2.2))]) [0, 1, 3, 4, 2] rfl) (hD.sub (ws' := [(a0, .inr (9, [.ref a1, .ref o0_1, .ref a4, .int x0_3, .int x0_4, .int x0_5, .int x0_6, .int x0_7, .int x0_8, .int x0_9, .int x0_10, .int x0_11, .int r17.1, .int r17.2.1, .int x0_14, .int x0_15, .int r17.2.2.1, .ref a2, .ref a3, .ref o0_19, .ref o0_20, .ref o0_21, .ref o0_22, .ref o0_23])), (a1, .inl (G.2.1 0, n1, .inl f1)), (a2, .inl (G.2.1 1, n2, .inl f2)), (a3, .inl (G.2.1 1, n3, .inl f3)), (a4, .inl (G.2.1 0, n4, .inl r17.2.2.2))]) [0, 1, 3, 4, 2] (by decide) rfl) hS rfl (Nat.zero_le _) (Nat.zero_le _) d_Mo_signs_39
  · intro H locs ls hP hD hS hl
    have eV := so1 h
    subst eV
    exact x_vret C0 hQ (hP.sub (ws' := [(a0, .inr (9, [.ref a1, .ref o0_1, .ref a4, .int x0_3, .int x0_4, .int x0_5, .int x0_6, .int x0_7, .int x0_8, .int x0_9, .int x0_10, .int x0_11, .int r17.1, .int r17.2.1, .int x0_14, .int x0_15, .int r17.2.2.1, .ref a2, .ref a3, .ref o0_19, .ref o0_20, .ref o0_21, .ref o0_22, .ref o0_23])), (a1, .inl (G.2.1 0, n1, .inl f1)), (a2, .inl (G.2.1 1, n2, .inl f2)), (a3, .inl (G.2.1 1, n3, .inl f3)), (a4, .inl (G.2.1 0, n4, .inl r17.2.2.2))]) [0, 1, 3, 4, 2] rfl) (hD.sub (ws' := [(a0, .inr (9, [.ref a1, .ref o0_1, .ref a4, .int x0_3, .int x0_4, .int x0_5, .int x0_6, .int x0_7, .int x0_8, .int x0_9, .int x0_10, .int x0_11, .int r17.1, .int r17.2.1, .int x0_14, .int x0_15, .int r17.2.2.1, .ref a2, .ref a3, .ref o0_19, .ref o0_20, .ref o0_21, .ref o0_22, .ref o0_23])), (a1, .inl (G.2.1 0, n1, .inl f1)), (a2, .inl (G.2.1 1, n2, .inl f2)), (a3, .inl (G.2.1 1, n3, .inl f3)), (a4, .inl (G.2.1 0, n4, .inl r17.2.2.2))]) [0, 1, 3, 4, 2] (by decide) rfl) hS rfl (Nat.zero_le _) (Nat.zero_le _) d_Mo_signs_63
set_option maxHeartbeats 4000000 in
set_option maxRecDepth 100000 in
theorem w_Mo_fixed_2 {p : Program} {l : Launch} {e : Env} {R : Room} {s : State} {m : MethodId} {args : Array Value} {below : List Frame} {meth : Method} {c : Code} {Q : State → Prop} {G : GX} {A : Nat → Prop} (C0 : Cx p s m args meth c b_Mo_fixed 2 y_Mo_fixed none) (hRf : 0 ≤ R.frames) (hRl : 0 ≤ R.locals) (hA : ∀ q, s.heap.size ≤ q → A q) (hK : KX G s) (hT : TX G A s) (N : Nat) (y0_3 : Int32) (y0_4 : Int32) (y0_5 : Int32) (y0_6 : Int32) (y0_7 : Int32) (y0_8 : Int32) (y0_9 : Int32) (y0_10 : Int32) (y0_11 : Int32) (y0_12 : Int32) (y0_13 : Int32) (y0_14 : Int32) (y0_15 : Int32) (y0_16 : Int32) (m1 : Nat) (c0 c1 u0_0 u0_1 u0_2 u0_18 u0_19 u0_20 u0_21 u0_22 u0_23 : Nat) (out : (Nat → Int32)) {kc ks : Nat} (hkc : kc ≤ R.cells) (hks : ks ≤ R.slots)
    (kx59 : ∀ (H : Heap) (locs : List Loc) (ls : Array Slot), va_P G.1 classes [(c0, .inr (9, [.ref u0_0, .ref u0_1, .ref u0_2, .int y0_3, .int y0_4, .int y0_5, .int y0_6, .int y0_7, .int y0_8, .int y0_9, .int y0_10, .int y0_11, .int y0_12, .int y0_13, .int y0_14, .int y0_15, .int y0_16, .ref c1, .ref u0_18, .ref u0_19, .ref u0_20, .ref u0_21, .ref u0_22, .ref u0_23])), (c1, .inl (G.2.1 1, m1, .inl out))] H → va_D A [(c0, .inr (9, [.ref u0_0, .ref u0_1, .ref u0_2, .int y0_3, .int y0_4, .int y0_5, .int y0_6, .int y0_7, .int y0_8, .int y0_9, .int y0_10, .int y0_11, .int y0_12, .int y0_13, .int y0_14, .int y0_15, .int y0_16, .ref c1, .ref u0_18, .ref u0_19, .ref u0_20, .ref u0_21, .ref u0_22, .ref u0_23])), (c1, .inl (G.2.1 1, m1, .inl out))] → va_S A s.heap H locs → lv_has ls 2 [(0, .ref c0)] → W p l e R s m args below meth c H locs kc ks Q (F0 m 59 ls [])) :
    ∀ (n : Nat) (i1 : Int32) (g_1 : (Nat → Int32)) (H : Heap) (locs : List Loc) (ls : Array Slot), lp_Mo_fixed_2 N m1 n i1 g_1 = some out → va_P G.1 classes [(c0, .inr (9, [.ref u0_0, .ref u0_1, .ref u0_2, .int y0_3, .int y0_4, .int y0_5, .int y0_6, .int y0_7, .int y0_8, .int y0_9, .int y0_10, .int y0_11, .int y0_12, .int y0_13, .int y0_14, .int y0_15, .int y0_16, .ref c1, .ref u0_18, .ref u0_19, .ref u0_20, .ref u0_21, .ref u0_22, .ref u0_23])), (c1, .inl (G.2.1 1, m1, .inl g_1))] H → va_D A [(c0, .inr (9, [.ref u0_0, .ref u0_1, .ref u0_2, .int y0_3, .int y0_4, .int y0_5, .int y0_6, .int y0_7, .int y0_8, .int y0_9, .int y0_10, .int y0_11, .int y0_12, .int y0_13, .int y0_14, .int y0_15, .int y0_16, .ref c1, .ref u0_18, .ref u0_19, .ref u0_20, .ref u0_21, .ref u0_22, .ref u0_23])), (c1, .inl (G.2.1 1, m1, .inl g_1))] → va_S A s.heap H locs → lv_has ls 2 [(0, .ref c0), (1, .int i1)] → W p l e R s m args below meth c H locs kc ks Q (F0 m 2 ls []) := by
  obtain ⟨hx, hb, hml, hown, hts, hr, hlocks, hin⟩ := id C0
  have hown : s.vm.findClass R_Mo = some m.cls := hown
  intro n
  induction n with
  | zero => intro i1 g_1 H locs ls h; cases h
  | succ n ih =>
    intro i1 g_1 H locs ls h hP hD hS hl
    replace h : lb_Mo_fixed_2 N m1 (lp_Mo_fixed_2 N m1 n) i1 g_1 = some out := h
    unfold lb_Mo_fixed_2 at h
    refine lv_iload_n hx hb d_Mo_fixed_2 rfl (lv_at hl 1 rfl) ?_
    refine lv_sipush (v := 288) hx hb d_Mo_fixed_3 (by decide) ?_
    refine lv_icmp_ge (tgt := 59) hx hb d_Mo_fixed_6 (by decide) (fun cq9 => ?_) (fun cq9 => ?_)
    · replace h := (if_pos cq9).symm.trans h
      have eV := so1 h
      subst eV
      exact kx59 _ _ _ hP hD hS (lv_sub hl [0] rfl)
    · replace h := (if_neg cq9).symm.trans h
      refine lv_aload_n hx hb d_Mo_fixed_9 rfl (lv_at hl 0 rfl) ?_
      refine va_get (D := G.1) (ci := 9) (v := .ref c1) (C := R_Mo) (T := F_Mo) (N := 24) hx hb hts i_Mo hown hK hP 0 rfl rfl 17 (by decide) (hts _ q427) (fun _ h9 => h9) rfl d_Mo_fixed_10 ?_
      refine lv_iload_n hx hb d_Mo_fixed_13 rfl (lv_at hl 1 rfl) ?_
      refine lv_iload_n hx hb d_Mo_fixed_14 rfl (lv_at hl 1 rfl) ?_
      refine lv_sipush (v := 144) hx hb d_Mo_fixed_15 (by decide) ?_
      obtain ⟨j13, ej13, h⟩ := Jn_e h
      have hj13 : ∀ (t13 : Int32) (H : Heap) (locs : List Loc) (ls : Array Slot), j13 t13 = some out → va_P G.1 classes [(c0, .inr (9, [.ref u0_0, .ref u0_1, .ref u0_2, .int y0_3, .int y0_4, .int y0_5, .int y0_6, .int y0_7, .int y0_8, .int y0_9, .int y0_10, .int y0_11, .int y0_12, .int y0_13, .int y0_14, .int y0_15, .int y0_16, .ref c1, .ref u0_18, .ref u0_19, .ref u0_20, .ref u0_21, .ref u0_22, .ref u0_23])), (c1, .inl (G.2.1 1, m1, .inl g_1))] H → va_D A [(c0, .inr (9, [.ref u0_0, .ref u0_1, .ref u0_2, .int y0_3, .int y0_4, .int y0_5, .int y0_6, .int y0_7, .int y0_8, .int y0_9, .int y0_10, .int y0_11, .int y0_12, .int y0_13, .int y0_14, .int y0_15, .int y0_16, .ref c1, .ref u0_18, .ref u0_19, .ref u0_20, .ref u0_21, .ref u0_22, .ref u0_23])), (c1, .inl (G.2.1 1, m1, .inl g_1))] → va_S A s.heap H locs → lv_has ls 2 [(0, .ref c0), (1, .int i1)] → W p l e R s m args below meth c H locs kc ks Q (F0 m 52 ls [.int t13, .int i1, .ref c1]) := by
        intro t13 H locs ls h hP hD hS hl
        replace h := ej13 _ _ h
        obtain ⟨hi14, h⟩ := Ix_e h
        refine y_iast hx hb hK hP hD hS 1 1 rfl rfl hi14 d_Mo_fixed_52 (fun g15 H locs eg15 hP hD hS => ?_)
        replace h := Lt_e h eg15
        have hP : va_P G.1 classes [(c0, .inr (9, [.ref u0_0, .ref u0_1, .ref u0_2, .int y0_3, .int y0_4, .int y0_5, .int y0_6, .int y0_7, .int y0_8, .int y0_9, .int y0_10, .int y0_11, .int y0_12, .int y0_13, .int y0_14, .int y0_15, .int y0_16, .ref c1, .ref u0_18, .ref u0_19, .ref u0_20, .ref u0_21, .ref u0_22, .ref u0_23])), (c1, .inl (G.2.1 1, m1, .inl g15))] H := hP
        have hD : va_D A [(c0, .inr (9, [.ref u0_0, .ref u0_1, .ref u0_2, .int y0_3, .int y0_4, .int y0_5, .int y0_6, .int y0_7, .int y0_8, .int y0_9, .int y0_10, .int y0_11, .int y0_12, .int y0_13, .int y0_14, .int y0_15, .int y0_16, .ref c1, .ref u0_18, .ref u0_19, .ref u0_20, .ref u0_21, .ref u0_22, .ref u0_23])), (c1, .inl (G.2.1 1, m1, .inl g15))] := hD
        obtain ⟨v16, ev16⟩ : ∃ y : Int32, y = i1 + 1 := ⟨_, rfl⟩
        replace h := Lt_e h ev16
        refine lv_iinc (v := v16) (lv' := [(1, .int v16), (0, .ref c0)]) hx hb d_Mo_fixed_53 hl (k := 1) rfl (by rw [ev16]; rfl) (by decide) rfl (fun ls hl => ?_)
        refine lv_goto (tgt := 2) hx hb d_Mo_fixed_56 (by decide) ?_
        exact ih v16 g15  _ _ _ h hP hD hS (lv_sub hl [1, 0] rfl)
      refine lv_icmp_ge (tgt := 26) hx hb d_Mo_fixed_18 (by decide) (fun cq17 => ?_) (fun cq17 => ?_)
      · replace h := (if_pos cq17).symm.trans h
        refine lv_iload_n hx hb d_Mo_fixed_26 rfl (lv_at hl 1 rfl) ?_
        refine lv_sipush (v := 256) hx hb d_Mo_fixed_27 (by decide) ?_
        refine lv_icmp_ge (tgt := 38) hx hb d_Mo_fixed_30 (by decide) (fun cq18 => ?_) (fun cq18 => ?_)
        · replace h := (if_pos cq18).symm.trans h
          refine lv_iload_n hx hb d_Mo_fixed_38 rfl (lv_at hl 1 rfl) ?_
          refine lv_sipush (v := 280) hx hb d_Mo_fixed_39 (by decide) ?_
          refine lv_icmp_ge (tgt := 50) hx hb d_Mo_fixed_42 (by decide) (fun cq19 => ?_) (fun cq19 => ?_)
          · replace h := (if_pos cq19).symm.trans h
            refine lv_bipush (v := 8) hx hb d_Mo_fixed_50 (by decide) ?_
            exact hj13 8 _ _ _ h hP hD hS hl
          · replace h := (if_neg cq19).symm.trans h
            refine lv_bipush (v := 7) hx hb d_Mo_fixed_45 (by decide) ?_
            refine lv_goto (tgt := 52) hx hb d_Mo_fixed_47 (by decide) ?_
            exact hj13 7 _ _ _ h hP hD hS hl
        · replace h := (if_neg cq18).symm.trans h
          refine lv_bipush (v := 9) hx hb d_Mo_fixed_33 (by decide) ?_
          refine lv_goto (tgt := 52) hx hb d_Mo_fixed_35 (by decide) ?_
          exact hj13 9 _ _ _ h hP hD hS hl
      · replace h := (if_neg cq17).symm.trans h
        refine lv_bipush (v := 8) hx hb d_Mo_fixed_21 (by decide) ?_
        refine lv_goto (tgt := 52) hx hb d_Mo_fixed_23 (by decide) ?_
        exact hj13 8 _ _ _ h hP hD hS hl
set_option maxHeartbeats 4000000 in
set_option maxRecDepth 100000 in
theorem w_Mo_fixed_61 {p : Program} {l : Launch} {e : Env} {R : Room} {s : State} {m : MethodId} {args : Array Value} {below : List Frame} {meth : Method} {c : Code} {Q : State → Prop} {G : GX} {A : Nat → Prop} (C0 : Cx p s m args meth c b_Mo_fixed 2 y_Mo_fixed none) (hRf : 0 ≤ R.frames) (hRl : 0 ≤ R.locals) (hA : ∀ q, s.heap.size ≤ q → A q) (hK : KX G s) (hT : TX G A s) (N : Nat) (y0_3 : Int32) (y0_4 : Int32) (y0_5 : Int32) (y0_6 : Int32) (y0_7 : Int32) (y0_8 : Int32) (y0_9 : Int32) (y0_10 : Int32) (y0_11 : Int32) (y0_12 : Int32) (y0_13 : Int32) (y0_14 : Int32) (y0_15 : Int32) (y0_16 : Int32) (m1 : Nat) (c0 c1 u0_0 u0_1 u0_2 u0_18 u0_19 u0_20 u0_21 u0_22 u0_23 : Nat) (out : (Nat → Int32)) {kc ks : Nat} (hkc : kc ≤ R.cells) (hks : ks ≤ R.slots)
    (kx84 : ∀ (H : Heap) (locs : List Loc) (ls : Array Slot), va_P G.1 classes [(c0, .inr (9, [.ref u0_0, .ref u0_1, .ref u0_2, .int y0_3, .int y0_4, .int y0_5, .int y0_6, .int y0_7, .int y0_8, .int y0_9, .int y0_10, .int y0_11, .int y0_12, .int y0_13, .int y0_14, .int y0_15, .int y0_16, .ref c1, .ref u0_18, .ref u0_19, .ref u0_20, .ref u0_21, .ref u0_22, .ref u0_23])), (c1, .inl (G.2.1 1, m1, .inl out))] H → va_D A [(c0, .inr (9, [.ref u0_0, .ref u0_1, .ref u0_2, .int y0_3, .int y0_4, .int y0_5, .int y0_6, .int y0_7, .int y0_8, .int y0_9, .int y0_10, .int y0_11, .int y0_12, .int y0_13, .int y0_14, .int y0_15, .int y0_16, .ref c1, .ref u0_18, .ref u0_19, .ref u0_20, .ref u0_21, .ref u0_22, .ref u0_23])), (c1, .inl (G.2.1 1, m1, .inl out))] → va_S A s.heap H locs → lv_has ls 2 [] → W p l e R s m args below meth c H locs kc ks Q (F0 m 84 ls [])) :
    ∀ (n : Nat) (i1 : Int32) (g_1 : (Nat → Int32)) (H : Heap) (locs : List Loc) (ls : Array Slot), lp_Mo_fixed_61 N m1 n i1 g_1 = some out → va_P G.1 classes [(c0, .inr (9, [.ref u0_0, .ref u0_1, .ref u0_2, .int y0_3, .int y0_4, .int y0_5, .int y0_6, .int y0_7, .int y0_8, .int y0_9, .int y0_10, .int y0_11, .int y0_12, .int y0_13, .int y0_14, .int y0_15, .int y0_16, .ref c1, .ref u0_18, .ref u0_19, .ref u0_20, .ref u0_21, .ref u0_22, .ref u0_23])), (c1, .inl (G.2.1 1, m1, .inl g_1))] H → va_D A [(c0, .inr (9, [.ref u0_0, .ref u0_1, .ref u0_2, .int y0_3, .int y0_4, .int y0_5, .int y0_6, .int y0_7, .int y0_8, .int y0_9, .int y0_10, .int y0_11, .int y0_12, .int y0_13, .int y0_14, .int y0_15, .int y0_16, .ref c1, .ref u0_18, .ref u0_19, .ref u0_20, .ref u0_21, .ref u0_22, .ref u0_23])), (c1, .inl (G.2.1 1, m1, .inl g_1))] → va_S A s.heap H locs → lv_has ls 2 [(0, .ref c0), (1, .int i1)] → W p l e R s m args below meth c H locs kc ks Q (F0 m 61 ls []) := by
  obtain ⟨hx, hb, hml, hown, hts, hr, hlocks, hin⟩ := id C0
  have hown : s.vm.findClass R_Mo = some m.cls := hown
  intro n
  induction n with
  | zero => intro i1 g_1 H locs ls h; cases h
  | succ n ih =>
    intro i1 g_1 H locs ls h hP hD hS hl
    replace h : lb_Mo_fixed_61 N m1 (lp_Mo_fixed_61 N m1 n) i1 g_1 = some out := h
    unfold lb_Mo_fixed_61 at h
    refine lv_iload_n hx hb d_Mo_fixed_61 rfl (lv_at hl 1 rfl) ?_
    refine lv_bipush (v := 32) hx hb d_Mo_fixed_62 (by decide) ?_
    refine lv_icmp_ge (tgt := 84) hx hb d_Mo_fixed_64 (by decide) (fun cq25 => ?_) (fun cq25 => ?_)
    · replace h := (if_pos cq25).symm.trans h
      have eV := so1 h
      subst eV
      exact kx84 _ _ _ hP hD hS (lv_sub hl [] rfl)
    · replace h := (if_neg cq25).symm.trans h
      refine lv_aload_n hx hb d_Mo_fixed_67 rfl (lv_at hl 0 rfl) ?_
      refine va_get (D := G.1) (ci := 9) (v := .ref c1) (C := R_Mo) (T := F_Mo) (N := 24) hx hb hts i_Mo hown hK hP 0 rfl rfl 17 (by decide) (hts _ q427) (fun _ h9 => h9) rfl d_Mo_fixed_68 ?_
      refine lv_sipush (v := 288) hx hb d_Mo_fixed_71 (by decide) ?_
      refine lv_iload_n hx hb d_Mo_fixed_74 rfl (lv_at hl 1 rfl) ?_
      refine lv_iadd hx hb d_Mo_fixed_75 ?_
      refine lv_iconst (v := 5) hx hb d_Mo_fixed_76 (by decide) ?_
      obtain ⟨hi26, h⟩ := Ix_e h
      refine y_iast hx hb hK hP hD hS 1 1 rfl rfl hi26 d_Mo_fixed_77 (fun g27 H locs eg27 hP hD hS => ?_)
      replace h := Lt_e h eg27
      have hP : va_P G.1 classes [(c0, .inr (9, [.ref u0_0, .ref u0_1, .ref u0_2, .int y0_3, .int y0_4, .int y0_5, .int y0_6, .int y0_7, .int y0_8, .int y0_9, .int y0_10, .int y0_11, .int y0_12, .int y0_13, .int y0_14, .int y0_15, .int y0_16, .ref c1, .ref u0_18, .ref u0_19, .ref u0_20, .ref u0_21, .ref u0_22, .ref u0_23])), (c1, .inl (G.2.1 1, m1, .inl g27))] H := hP
      have hD : va_D A [(c0, .inr (9, [.ref u0_0, .ref u0_1, .ref u0_2, .int y0_3, .int y0_4, .int y0_5, .int y0_6, .int y0_7, .int y0_8, .int y0_9, .int y0_10, .int y0_11, .int y0_12, .int y0_13, .int y0_14, .int y0_15, .int y0_16, .ref c1, .ref u0_18, .ref u0_19, .ref u0_20, .ref u0_21, .ref u0_22, .ref u0_23])), (c1, .inl (G.2.1 1, m1, .inl g27))] := hD
      obtain ⟨v28, ev28⟩ : ∃ y : Int32, y = i1 + 1 := ⟨_, rfl⟩
      replace h := Lt_e h ev28
      refine lv_iinc (v := v28) (lv' := [(1, .int v28), (0, .ref c0)]) hx hb d_Mo_fixed_78 hl (k := 1) rfl (by rw [ev28]; rfl) (by decide) rfl (fun ls hl => ?_)
      refine lv_goto (tgt := 61) hx hb d_Mo_fixed_81 (by decide) ?_
      exact ih v28 g27  _ _ _ h hP hD hS (lv_sub hl [1, 0] rfl)
set_option maxHeartbeats 4000000 in
set_option maxRecDepth 100000 in
theorem c_Mo_fixed (l : Launch) (G : GX) (a0 a1 o0_0 o0_1 o0_2 o0_18 o0_19 o0_20 o0_21 o0_22 o0_23 : Nat) (sz : Nat) (x0_3 : Int32) (x0_4 : Int32) (x0_5 : Int32) (x0_6 : Int32) (x0_7 : Int32) (x0_8 : Int32) (x0_9 : Int32) (x0_10 : Int32) (x0_11 : Int32) (x0_12 : Int32) (x0_13 : Int32) (x0_14 : Int32) (x0_15 : Int32) (x0_16 : Int32) (n1 : Nat) (f1 : (Nat → Int32))  (N : Nat) (V : (Nat → Int32)) (h : f_Mo_fixed N n1 f1 = some V) :
    Met l y_Mo_fixed (wd y_Mo_fixed b_Mo_fixed 2 none) { frames := 0, cells := 0, slots := 0, locals := 0 } (PX G [.ref a0] sz [(a0, .inr (9, [.ref o0_0, .ref o0_1, .ref o0_2, .int x0_3, .int x0_4, .int x0_5, .int x0_6, .int x0_7, .int x0_8, .int x0_9, .int x0_10, .int x0_11, .int x0_12, .int x0_13, .int x0_14, .int x0_15, .int x0_16, .ref a1, .ref o0_18, .ref o0_19, .ref o0_20, .ref o0_21, .ref o0_22, .ref o0_23])), (a1, .inl (G.2.1 1, n1, .inl f1))])
      (QXv G (fun w => w = [(a0, .inr (9, [.ref o0_0, .ref o0_1, .ref o0_2, .int x0_3, .int x0_4, .int x0_5, .int x0_6, .int x0_7, .int x0_8, .int x0_9, .int x0_10, .int x0_11, .int x0_12, .int x0_13, .int x0_14, .int x0_15, .int x0_16, .ref a1, .ref o0_18, .ref o0_19, .ref o0_20, .ref o0_21, .ref o0_22, .ref o0_23])), (a1, .inl (G.2.1 1, n1, .inl V))]) (va_A [(a0, .inr (9, [.ref o0_0, .ref o0_1, .ref o0_2, .int x0_3, .int x0_4, .int x0_5, .int x0_6, .int x0_7, .int x0_8, .int x0_9, .int x0_10, .int x0_11, .int x0_12, .int x0_13, .int x0_14, .int x0_15, .int x0_16, .ref a1, .ref o0_18, .ref o0_19, .ref o0_20, .ref o0_21, .ref o0_22, .ref o0_23])), (a1, .inl (G.2.1 1, n1, .inl f1))] sz)) 0 0 (va_A [(a0, .inr (9, [.ref o0_0, .ref o0_1, .ref o0_2, .int x0_3, .int x0_4, .int x0_5, .int x0_6, .int x0_7, .int x0_8, .int x0_9, .int x0_10, .int x0_11, .int x0_12, .int x0_13, .int x0_14, .int x0_15, .int x0_16, .ref a1, .ref o0_18, .ref o0_19, .ref o0_20, .ref o0_21, .ref o0_22, .ref o0_23])), (a1, .inl (G.2.1 1, n1, .inl f1))] sz) := by
  refine Met_in (QQ := fun A => QXv G (fun w => w = [(a0, .inr (9, [.ref o0_0, .ref o0_1, .ref o0_2, .int x0_3, .int x0_4, .int x0_5, .int x0_6, .int x0_7, .int x0_8, .int x0_9, .int x0_10, .int x0_11, .int x0_12, .int x0_13, .int x0_14, .int x0_15, .int x0_16, .ref a1, .ref o0_18, .ref o0_19, .ref o0_20, .ref o0_21, .ref o0_22, .ref o0_23])), (a1, .inl (G.2.1 1, n1, .inl V))]) A) (by decide) (Nat.le_of_ble_eq_true rfl) (fun p e s m below meth c R Q A ls C0 hRf hRl hRc hRs hP hK hD hT hA hS hl hQ => ?_)
  obtain ⟨hx, hb, hml, hown, hts, hr, hlocks, hin⟩ := id C0
  have hown : s.vm.findClass R_Mo = some m.cls := hown
  have hl : lv_has ls 2 [(0, .ref a0)] := hl
  unfold f_Mo_fixed at h
  have hkc : 0 ≤ R.cells := Nat.zero_le _
  have hks : 0 ≤ R.slots := Nat.zero_le _
  obtain ⟨H, hH⟩ : ∃ H, H = s.heap := ⟨_, rfl⟩
  obtain ⟨locs, hlc⟩ : ∃ x : List Loc, x = [] := ⟨_, rfl⟩
  rw [← hH] at hP
  have hS : va_S A s.heap H locs := by rw [hH, hlc]; exact hS
  suffices hgo : W p l e R s m [.ref a0].toArray below meth c H locs 0 0 Q (F0 m 0 ls []) by rw [hH, hlc] at hgo; exact hgo
  refine lv_iconst (v := 0) hx hb d_Mo_fixed_0 (by decide) ?_
  refine lv_istore_n (lv' := [(1, .int 0), (0, .ref a0)]) hx hb d_Mo_fixed_1 rfl hl (by decide) rfl (fun ls hl => ?_)
  obtain ⟨r20, hc20, h⟩ := Bd_e h
  refine w_Mo_fixed_2 C0 hRf hRl hA hK hT N x0_3 x0_4 x0_5 x0_6 x0_7 x0_8 x0_9 x0_10 x0_11 x0_12 x0_13 x0_14 x0_15 x0_16 n1 a0 a1 o0_0 o0_1 o0_2 o0_18 o0_19 o0_20 o0_21 o0_22 o0_23 r20 (kc := 0) (ks := 0) hkc hks ?_ N 0 f1  _ _ _ hc20 hP hD hS (lv_sub hl [1, 0] rfl)
  · intro H locs ls hP hD hS hl
    refine lv_iconst (v := 0) hx hb d_Mo_fixed_59 (by decide) ?_
    refine lv_istore_n (lv' := [(1, .int 0), (0, .ref a0)]) hx hb d_Mo_fixed_60 rfl hl (by decide) rfl (fun ls hl => ?_)
    obtain ⟨r29, hc29, h⟩ := Bd_e h
    refine w_Mo_fixed_61 C0 hRf hRl hA hK hT N x0_3 x0_4 x0_5 x0_6 x0_7 x0_8 x0_9 x0_10 x0_11 x0_12 x0_13 x0_14 x0_15 x0_16 n1 a0 a1 o0_0 o0_1 o0_2 o0_18 o0_19 o0_20 o0_21 o0_22 o0_23 r29 (kc := 0) (ks := 0) hkc hks ?_ N 0 r20  _ _ _ hc29 hP hD hS (lv_sub hl [1, 0] rfl)
    · intro H locs ls hP hD hS hl
      have eV := so1 h
      subst eV
      exact x_vret C0 hQ hP hD hS rfl (Nat.zero_le _) (Nat.zero_le _) d_Mo_fixed_84
set_option maxHeartbeats 4000000 in
set_option maxRecDepth 100000 in
theorem w_Mo_stored_46 {p : Program} {l : Launch} {e : Env} {R : Room} {s : State} {m : MethodId} {args : Array Value} {below : List Frame} {meth : Method} {c : Code} {Q : State → Prop} {G : GX} {A : Nat → Prop} (C0 : Cx p s m args meth c b_Mo_stored 5 y_Mo_stored none) (hRf : 2 ≤ R.frames) (hRl : 43 ≤ R.locals) (hA : ∀ q, s.heap.size ≤ q → A q) (hK : KX G s) (hT : TX G A s) (N : Nat) (i1 : Int32) (y0_3 : Int32) (y0_4 : Int32) (y0_5 : Int32) (y0_6 : Int32) (y0_7 : Int32) (y0_8 : Int32) (y0_9 : Int32) (y0_10 : Int32) (y0_11 : Int32) (y0_14 : Int32) (y0_15 : Int32) (m1 : Nat) (g_1 : (Nat → Int32)) (m2 : Nat) (c0 c1 c2 u0_1 u0_17 u0_18 u0_19 u0_20 u0_21 u0_22 u0_23 : Nat) (out : Int32 × Int32 × Int32 × (Nat → Int32)) {kc ks : Nat} (hkc : kc ≤ R.cells) (hks : ks ≤ R.slots)
    (kx85 : ∀ (H : Heap) (locs : List Loc) (ls : Array Slot), va_P G.1 classes [(c0, .inr (9, [.ref c1, .ref u0_1, .ref c2, .int y0_3, .int y0_4, .int y0_5, .int y0_6, .int y0_7, .int y0_8, .int y0_9, .int y0_10, .int y0_11, .int out.1, .int out.2.1, .int y0_14, .int y0_15, .int out.2.2.1, .ref u0_17, .ref u0_18, .ref u0_19, .ref u0_20, .ref u0_21, .ref u0_22, .ref u0_23])), (c1, .inl (G.2.1 0, m1, .inl g_1)), (c2, .inl (G.2.1 0, m2, .inl out.2.2.2))] H → va_D A [(c0, .inr (9, [.ref c1, .ref u0_1, .ref c2, .int y0_3, .int y0_4, .int y0_5, .int y0_6, .int y0_7, .int y0_8, .int y0_9, .int y0_10, .int y0_11, .int out.1, .int out.2.1, .int y0_14, .int y0_15, .int out.2.2.1, .ref u0_17, .ref u0_18, .ref u0_19, .ref u0_20, .ref u0_21, .ref u0_22, .ref u0_23])), (c1, .inl (G.2.1 0, m1, .inl g_1)), (c2, .inl (G.2.1 0, m2, .inl out.2.2.2))] → va_S A s.heap H locs → lv_has ls 5 [] → W p l e R s m args below meth c H locs kc ks Q (F0 m 85 ls [])) :
    ∀ (n : Nat) (i3 : Int32) (y0_12 : Int32) (y0_13 : Int32) (y0_16 : Int32) (g_2 : (Nat → Int32)) (H : Heap) (locs : List Loc) (ls : Array Slot), lp_Mo_stored_46 N i1 y0_3 m1 g_1 m2 n i3 y0_12 y0_13 y0_16 g_2 = some out → va_P G.1 classes [(c0, .inr (9, [.ref c1, .ref u0_1, .ref c2, .int y0_3, .int y0_4, .int y0_5, .int y0_6, .int y0_7, .int y0_8, .int y0_9, .int y0_10, .int y0_11, .int y0_12, .int y0_13, .int y0_14, .int y0_15, .int y0_16, .ref u0_17, .ref u0_18, .ref u0_19, .ref u0_20, .ref u0_21, .ref u0_22, .ref u0_23])), (c1, .inl (G.2.1 0, m1, .inl g_1)), (c2, .inl (G.2.1 0, m2, .inl g_2))] H → va_D A [(c0, .inr (9, [.ref c1, .ref u0_1, .ref c2, .int y0_3, .int y0_4, .int y0_5, .int y0_6, .int y0_7, .int y0_8, .int y0_9, .int y0_10, .int y0_11, .int y0_12, .int y0_13, .int y0_14, .int y0_15, .int y0_16, .ref u0_17, .ref u0_18, .ref u0_19, .ref u0_20, .ref u0_21, .ref u0_22, .ref u0_23])), (c1, .inl (G.2.1 0, m1, .inl g_1)), (c2, .inl (G.2.1 0, m2, .inl g_2))] → va_S A s.heap H locs → lv_has ls 5 [(0, .ref c0), (1, .int i1), (3, .int i3)] → W p l e R s m args below meth c H locs kc ks Q (F0 m 46 ls []) := by
  obtain ⟨hx, hb, hml, hown, hts, hr, hlocks, hin⟩ := id C0
  have hown : s.vm.findClass R_Mo = some m.cls := hown
  intro n
  induction n with
  | zero => intro i3 y0_12 y0_13 y0_16 g_2 H locs ls h; cases h
  | succ n ih =>
    intro i3 y0_12 y0_13 y0_16 g_2 H locs ls h hP hD hS hl
    replace h : lb_Mo_stored_46 N i1 y0_3 m1 g_1 m2 (lp_Mo_stored_46 N i1 y0_3 m1 g_1 m2 n) i3 y0_12 y0_13 y0_16 g_2 = some out := h
    unfold lb_Mo_stored_46 at h
    refine lv_iload_n hx hb d_Mo_stored_46 rfl (lv_at hl 2 rfl) ?_
    refine lv_iload_n hx hb d_Mo_stored_47 rfl (lv_at hl 1 rfl) ?_
    refine lv_icmp_ge (tgt := 85) hx hb d_Mo_stored_48 (by decide) (fun cq13 => ?_) (fun cq13 => ?_)
    · replace h := (if_pos cq13).symm.trans h
      have eV := so1 h
      subst eV
      exact kx85 _ _ _ hP hD hS (lv_sub hl [] rfl)
    · replace h := (if_neg cq13).symm.trans h
      refine lv_aload_n hx hb d_Mo_stored_51 rfl (lv_at hl 0 rfl) ?_
      refine va_get (D := G.1) (ci := 9) (v := .int y0_16) (C := R_Mo) (T := F_Mo) (N := 24) hx hb hts i_Mo hown hK hP 0 rfl rfl 16 (by decide) (hts _ q488) (fun _ h9 => h9) rfl d_Mo_stored_52 ?_
      refine lv_if_ne (tgt := 85) hx hb d_Mo_stored_55 (by decide) (fun cq14 => ?_) (fun cq14 => ?_)
      · replace h := (if_neg cq14).symm.trans h
        have eV := so1 h
        subst eV
        exact kx85 _ _ _ hP hD hS (lv_sub hl [] rfl)
      · replace h := (if_pos cq14).symm.trans h
        refine lv_aload_n hx hb d_Mo_stored_58 rfl (lv_at hl 0 rfl) ?_
        refine lv_bipush (v := 8) hx hb d_Mo_stored_59 (by decide) ?_
        obtain ⟨r15, hc15, h⟩ := Bd_e h
        refine xV_i0 (wr := [(c2, .inl (G.2.1 0, m2, .inl g_2))]) (rest := []) C0 hK hT hA hP hD hS hl.1 (c_Mo_number l G c0 c1 u0_1 c2 u0_17 u0_18 u0_19 u0_20 u0_21 u0_22 u0_23 _ y0_3 y0_4 y0_5 y0_6 y0_7 y0_8 y0_9 y0_10 y0_11 y0_12 y0_13 y0_14 y0_15 y0_16 m1 g_1 8 N r15 hc15) (goodV q494 q495 q496 q439 q497) 1 rfl hd_Mo_number (Nat.le_trans (by decide) hRf) (Nat.le_trans (by decide) hRl) [0, 1] [2] rfl rfl (by decide) (by decide) (by decide) 9 0 rfl rfl rfl (Nat.le_of_ble_eq_true rfl) d_Mo_stored_61 hkc hks (fun w1 H locs hE hP hD hS => ?_)
        subst hE
        have hP : va_P G.1 classes [(c2, .inl (G.2.1 0, m2, .inl g_2)), (c0, .inr (9, [.ref c1, .ref u0_1, .ref c2, .int y0_3, .int y0_4, .int y0_5, .int y0_6, .int y0_7, .int y0_8, .int y0_9, .int y0_10, .int y0_11, .int r15.2.1, .int y0_13, .int y0_14, .int y0_15, .int r15.2.2, .ref u0_17, .ref u0_18, .ref u0_19, .ref u0_20, .ref u0_21, .ref u0_22, .ref u0_23])), (c1, .inl (G.2.1 0, m1, .inl g_1))] H := hP
        have hD : va_D A [(c2, .inl (G.2.1 0, m2, .inl g_2)), (c0, .inr (9, [.ref c1, .ref u0_1, .ref c2, .int y0_3, .int y0_4, .int y0_5, .int y0_6, .int y0_7, .int y0_8, .int y0_9, .int y0_10, .int y0_11, .int r15.2.1, .int y0_13, .int y0_14, .int y0_15, .int r15.2.2, .ref u0_17, .ref u0_18, .ref u0_19, .ref u0_20, .ref u0_21, .ref u0_22, .ref u0_23])), (c1, .inl (G.2.1 0, m1, .inl g_1))] := hD
        refine lv_istore (lv' := [(4, .int r15.1), (0, .ref c0), (1, .int i1), (3, .int i3)]) hx hb d_Mo_stored_64 hl (by decide) rfl (fun ls hl => ?_)
        refine lv_aload_n hx hb d_Mo_stored_66 rfl (lv_at hl 1 rfl) ?_
        refine va_get (D := G.1) (ci := 9) (v := .int r15.2.2) (C := R_Mo) (T := F_Mo) (N := 24) hx hb hts i_Mo hown hK hP 1 rfl rfl 16 (by decide) (hts _ q488) (fun _ h9 => h9) rfl d_Mo_stored_67 ?_
        refine lv_if_ne (tgt := 79) hx hb d_Mo_stored_70 (by decide) (fun cq16 => ?_) (fun cq16 => ?_)
        · replace h := (if_neg cq16).symm.trans h
          obtain ⟨v17, ev17⟩ : ∃ y : Int32, y = i3 + 1 := ⟨_, rfl⟩
          replace h := Lt_e h ev17
          refine lv_iinc (v := v17) (lv' := [(3, .int v17), (4, .int r15.1), (0, .ref c0), (1, .int i1)]) hx hb d_Mo_stored_79 hl (k := 3) rfl (by rw [ev17]; rfl) (by decide) rfl (fun ls hl => ?_)
          refine lv_goto (tgt := 46) hx hb d_Mo_stored_82 (by decide) ?_
          exact ih v17 r15.2.1 y0_13 r15.2.2 g_2  _ _ _ h (hP.sub (ws' := [(c0, .inr (9, [.ref c1, .ref u0_1, .ref c2, .int y0_3, .int y0_4, .int y0_5, .int y0_6, .int y0_7, .int y0_8, .int y0_9, .int y0_10, .int y0_11, .int r15.2.1, .int y0_13, .int y0_14, .int y0_15, .int r15.2.2, .ref u0_17, .ref u0_18, .ref u0_19, .ref u0_20, .ref u0_21, .ref u0_22, .ref u0_23])), (c1, .inl (G.2.1 0, m1, .inl g_1)), (c2, .inl (G.2.1 0, m2, .inl g_2))]) [1, 2, 0] rfl) (hD.sub (ws' := [(c0, .inr (9, [.ref c1, .ref u0_1, .ref c2, .int y0_3, .int y0_4, .int y0_5, .int y0_6, .int y0_7, .int y0_8, .int y0_9, .int y0_10, .int y0_11, .int r15.2.1, .int y0_13, .int y0_14, .int y0_15, .int r15.2.2, .ref u0_17, .ref u0_18, .ref u0_19, .ref u0_20, .ref u0_21, .ref u0_22, .ref u0_23])), (c1, .inl (G.2.1 0, m1, .inl g_1)), (c2, .inl (G.2.1 0, m2, .inl g_2))]) [1, 2, 0] (by decide) rfl) hS (lv_sub hl [2, 3, 0] rfl)
        · replace h := (if_pos cq16).symm.trans h
          refine lv_aload_n hx hb d_Mo_stored_73 rfl (lv_at hl 1 rfl) ?_
          refine lv_iload hx hb d_Mo_stored_74 (lv_at hl 0 rfl) ?_
          obtain ⟨r18, hc18, h⟩ := Bd_e h
          refine xV_v0 (wr := [(c1, .inl (G.2.1 0, m1, .inl g_1))]) (rest := []) C0 hK hT hA hP hD hS hl.1 (c_Mo_give l G c0 c2 c1 u0_1 u0_17 u0_18 u0_19 u0_20 u0_21 u0_22 u0_23 _ y0_3 y0_4 y0_5 y0_6 y0_7 y0_8 y0_9 y0_10 y0_11 r15.2.1 y0_13 y0_14 y0_15 r15.2.2 m2 g_2 r15.1 N r18 hc18) (goodV q502 q503 q504 q439 q505) 1 rfl hd_Mo_give (Nat.le_trans (by decide) hRf) (Nat.le_trans (by decide) hRl) [1, 0] [2] rfl rfl (by decide) (by decide) (by decide) 9 1 rfl rfl rfl (Nat.le_of_ble_eq_true rfl) d_Mo_stored_76 hkc hks (fun w1 H locs hE hP hD hS => ?_)
          subst hE
          have hP : va_P G.1 classes [(c1, .inl (G.2.1 0, m1, .inl g_1)), (c0, .inr (9, [.ref c1, .ref u0_1, .ref c2, .int y0_3, .int y0_4, .int y0_5, .int y0_6, .int y0_7, .int y0_8, .int y0_9, .int y0_10, .int y0_11, .int r15.2.1, .int r18.1, .int y0_14, .int y0_15, .int r18.2.1, .ref u0_17, .ref u0_18, .ref u0_19, .ref u0_20, .ref u0_21, .ref u0_22, .ref u0_23])), (c2, .inl (G.2.1 0, m2, .inl r18.2.2))] H := hP
          have hD : va_D A [(c1, .inl (G.2.1 0, m1, .inl g_1)), (c0, .inr (9, [.ref c1, .ref u0_1, .ref c2, .int y0_3, .int y0_4, .int y0_5, .int y0_6, .int y0_7, .int y0_8, .int y0_9, .int y0_10, .int y0_11, .int r15.2.1, .int r18.1, .int y0_14, .int y0_15, .int r18.2.1, .ref u0_17, .ref u0_18, .ref u0_19, .ref u0_20, .ref u0_21, .ref u0_22, .ref u0_23])), (c2, .inl (G.2.1 0, m2, .inl r18.2.2))] := hD
          obtain ⟨v19, ev19⟩ : ∃ y : Int32, y = i3 + 1 := ⟨_, rfl⟩
          replace h := Lt_e h ev19
          refine lv_iinc (v := v19) (lv' := [(3, .int v19), (4, .int r15.1), (0, .ref c0), (1, .int i1)]) hx hb d_Mo_stored_79 hl (k := 3) rfl (by rw [ev19]; rfl) (by decide) rfl (fun ls hl => ?_)
          refine lv_goto (tgt := 46) hx hb d_Mo_stored_82 (by decide) ?_
          exact ih v19 r15.2.1 r18.1 r18.2.1 r18.2.2  _ _ _ h (hP.sub (ws' := [(c0, .inr (9, [.ref c1, .ref u0_1, .ref c2, .int y0_3, .int y0_4, .int y0_5, .int y0_6, .int y0_7, .int y0_8, .int y0_9, .int y0_10, .int y0_11, .int r15.2.1, .int r18.1, .int y0_14, .int y0_15, .int r18.2.1, .ref u0_17, .ref u0_18, .ref u0_19, .ref u0_20, .ref u0_21, .ref u0_22, .ref u0_23])), (c1, .inl (G.2.1 0, m1, .inl g_1)), (c2, .inl (G.2.1 0, m2, .inl r18.2.2))]) [1, 0, 2] rfl) (hD.sub (ws' := [(c0, .inr (9, [.ref c1, .ref u0_1, .ref c2, .int y0_3, .int y0_4, .int y0_5, .int y0_6, .int y0_7, .int y0_8, .int y0_9, .int y0_10, .int y0_11, .int r15.2.1, .int r18.1, .int y0_14, .int y0_15, .int r18.2.1, .ref u0_17, .ref u0_18, .ref u0_19, .ref u0_20, .ref u0_21, .ref u0_22, .ref u0_23])), (c1, .inl (G.2.1 0, m1, .inl g_1)), (c2, .inl (G.2.1 0, m2, .inl r18.2.2))]) [1, 0, 2] (by decide) rfl) hS (lv_sub hl [2, 3, 0] rfl)
set_option maxHeartbeats 4000000 in
set_option maxRecDepth 100000 in
theorem c_Mo_stored (l : Launch) (G : GX) (a0 a1 a2 o0_1 o0_17 o0_18 o0_19 o0_20 o0_21 o0_22 o0_23 : Nat) (sz : Nat) (x0_3 : Int32) (x0_4 : Int32) (x0_5 : Int32) (x0_6 : Int32) (x0_7 : Int32) (x0_8 : Int32) (x0_9 : Int32) (x0_10 : Int32) (x0_11 : Int32) (x0_12 : Int32) (x0_13 : Int32) (x0_14 : Int32) (x0_15 : Int32) (x0_16 : Int32) (n1 : Nat) (f1 : (Nat → Int32)) (n2 : Nat) (f2 : (Nat → Int32))  (N : Nat) (V : Int32 × Int32 × Int32 × (Nat → Int32)) (h : f_Mo_stored N x0_3 x0_12 x0_13 x0_16 n1 f1 n2 f2 = some V) :
    Met l y_Mo_stored (wd y_Mo_stored b_Mo_stored 5 none) { frames := 2, cells := 0, slots := 0, locals := 43 } (PX G [.ref a0] sz [(a0, .inr (9, [.ref a1, .ref o0_1, .ref a2, .int x0_3, .int x0_4, .int x0_5, .int x0_6, .int x0_7, .int x0_8, .int x0_9, .int x0_10, .int x0_11, .int x0_12, .int x0_13, .int x0_14, .int x0_15, .int x0_16, .ref o0_17, .ref o0_18, .ref o0_19, .ref o0_20, .ref o0_21, .ref o0_22, .ref o0_23])), (a1, .inl (G.2.1 0, n1, .inl f1)), (a2, .inl (G.2.1 0, n2, .inl f2))])
      (QXv G (fun w => w = [(a0, .inr (9, [.ref a1, .ref o0_1, .ref a2, .int x0_3, .int x0_4, .int x0_5, .int x0_6, .int x0_7, .int x0_8, .int x0_9, .int x0_10, .int x0_11, .int V.1, .int V.2.1, .int x0_14, .int x0_15, .int V.2.2.1, .ref o0_17, .ref o0_18, .ref o0_19, .ref o0_20, .ref o0_21, .ref o0_22, .ref o0_23])), (a1, .inl (G.2.1 0, n1, .inl f1)), (a2, .inl (G.2.1 0, n2, .inl V.2.2.2))]) (va_A [(a0, .inr (9, [.ref a1, .ref o0_1, .ref a2, .int x0_3, .int x0_4, .int x0_5, .int x0_6, .int x0_7, .int x0_8, .int x0_9, .int x0_10, .int x0_11, .int x0_12, .int x0_13, .int x0_14, .int x0_15, .int x0_16, .ref o0_17, .ref o0_18, .ref o0_19, .ref o0_20, .ref o0_21, .ref o0_22, .ref o0_23])), (a1, .inl (G.2.1 0, n1, .inl f1)), (a2, .inl (G.2.1 0, n2, .inl f2))] sz)) 0 0 (va_A [(a0, .inr (9, [.ref a1, .ref o0_1, .ref a2, .int x0_3, .int x0_4, .int x0_5, .int x0_6, .int x0_7, .int x0_8, .int x0_9, .int x0_10, .int x0_11, .int x0_12, .int x0_13, .int x0_14, .int x0_15, .int x0_16, .ref o0_17, .ref o0_18, .ref o0_19, .ref o0_20, .ref o0_21, .ref o0_22, .ref o0_23])), (a1, .inl (G.2.1 0, n1, .inl f1)), (a2, .inl (G.2.1 0, n2, .inl f2))] sz) := by
  refine Met_in (QQ := fun A => QXv G (fun w => w = [(a0, .inr (9, [.ref a1, .ref o0_1, .ref a2, .int x0_3, .int x0_4, .int x0_5, .int x0_6, .int x0_7, .int x0_8, .int x0_9, .int x0_10, .int x0_11, .int V.1, .int V.2.1, .int x0_14, .int x0_15, .int V.2.2.1, .ref o0_17, .ref o0_18, .ref o0_19, .ref o0_20, .ref o0_21, .ref o0_22, .ref o0_23])), (a1, .inl (G.2.1 0, n1, .inl f1)), (a2, .inl (G.2.1 0, n2, .inl V.2.2.2))]) A) (by decide) (Nat.le_of_ble_eq_true rfl) (fun p e s m below meth c R Q A ls C0 hRf hRl hRc hRs hP hK hD hT hA hS hl hQ => ?_)
  obtain ⟨hx, hb, hml, hown, hts, hr, hlocks, hin⟩ := id C0
  have hown : s.vm.findClass R_Mo = some m.cls := hown
  have hl : lv_has ls 5 [(0, .ref a0)] := hl
  unfold f_Mo_stored at h
  have hkc : 0 ≤ R.cells := Nat.zero_le _
  have hks : 0 ≤ R.slots := Nat.zero_le _
  obtain ⟨H, hH⟩ : ∃ H, H = s.heap := ⟨_, rfl⟩
  obtain ⟨locs, hlc⟩ : ∃ x : List Loc, x = [] := ⟨_, rfl⟩
  rw [← hH] at hP
  have hS : va_S A s.heap H locs := by rw [hH, hlc]; exact hS
  suffices hgo : W p l e R s m [.ref a0].toArray below meth c H locs 0 0 Q (F0 m 0 ls []) by rw [hH, hlc] at hgo; exact hgo
  refine lv_aload_n hx hb d_Mo_stored_0 rfl (lv_at hl 0 rfl) ?_
  refine lv_aload_n hx hb d_Mo_stored_1 rfl (lv_at hl 0 rfl) ?_
  refine va_get (D := G.1) (ci := 9) (v := .int x0_12) (C := R_Mo) (T := F_Mo) (N := 24) hx hb hts i_Mo hown hK hP 0 rfl rfl 12 (by decide) (hts _ q487) (fun _ h9 => h9) rfl d_Mo_stored_2 ?_
  refine lv_bipush (v := 7) hx hb d_Mo_stored_5 (by decide) ?_
  refine lv_iadd hx hb d_Mo_stored_7 ?_
  refine lv_bipush (v := 8) hx hb d_Mo_stored_8 (by decide) ?_
  refine lv_idiv hx hb d_Mo_stored_10 (by decide) ?_
  refine lv_bipush (v := 8) hx hb d_Mo_stored_11 (by decide) ?_
  refine lv_imul hx hb d_Mo_stored_13 ?_
  refine lv_topi (fun v1 ev1 => ?_)
  replace h := Lt_e h ev1
  refine va_put (D := G.1) (ci := 9) (v := .int v1) (ty := .int) (C := R_Mo) (T := F_Mo) (N := 24) hx hb hts i_Mo t_Mo t_Mo_ok n_Mo hown hK hP hD hS 0 rfl rfl 12 (by decide) (hts _ q487) (fun _ h9 => h9) rfl (by decide +kernel) rfl rfl (Nat.le_of_ble_eq_true rfl) d_Mo_stored_14 (fun H locs hP hD hS => ?_)
  have hP : va_P G.1 classes [(a0, .inr (9, [.ref a1, .ref o0_1, .ref a2, .int x0_3, .int x0_4, .int x0_5, .int x0_6, .int x0_7, .int x0_8, .int x0_9, .int x0_10, .int x0_11, .int v1, .int x0_13, .int x0_14, .int x0_15, .int x0_16, .ref o0_17, .ref o0_18, .ref o0_19, .ref o0_20, .ref o0_21, .ref o0_22, .ref o0_23])), (a1, .inl (G.2.1 0, n1, .inl f1)), (a2, .inl (G.2.1 0, n2, .inl f2))] H := hP
  have hD : va_D A [(a0, .inr (9, [.ref a1, .ref o0_1, .ref a2, .int x0_3, .int x0_4, .int x0_5, .int x0_6, .int x0_7, .int x0_8, .int x0_9, .int x0_10, .int x0_11, .int v1, .int x0_13, .int x0_14, .int x0_15, .int x0_16, .ref o0_17, .ref o0_18, .ref o0_19, .ref o0_20, .ref o0_21, .ref o0_22, .ref o0_23])), (a1, .inl (G.2.1 0, n1, .inl f1)), (a2, .inl (G.2.1 0, n2, .inl f2))] := hD
  refine lv_aload_n hx hb d_Mo_stored_17 rfl (lv_at hl 0 rfl) ?_
  refine lv_bipush (v := 16) hx hb d_Mo_stored_18 (by decide) ?_
  obtain ⟨r2, hc2, h⟩ := Bd_e h
  refine xV_i0 (wr := [(a2, .inl (G.2.1 0, n2, .inl f2))]) (rest := []) C0 hK hT hA hP hD hS hl.1 (c_Mo_number l G a0 a1 o0_1 a2 o0_17 o0_18 o0_19 o0_20 o0_21 o0_22 o0_23 _ x0_3 x0_4 x0_5 x0_6 x0_7 x0_8 x0_9 x0_10 x0_11 v1 x0_13 x0_14 x0_15 x0_16 n1 f1 16 N r2 hc2) (goodV q494 q495 q496 q439 q497) 1 rfl hd_Mo_number (Nat.le_trans (by decide) hRf) (Nat.le_trans (by decide) hRl) [0, 1] [2] rfl rfl (by decide) (by decide) (by decide) 9 0 rfl rfl rfl (Nat.le_of_ble_eq_true rfl) d_Mo_stored_20 hkc hks (fun w1 H locs hE hP hD hS => ?_)
  subst hE
  have hP : va_P G.1 classes [(a2, .inl (G.2.1 0, n2, .inl f2)), (a0, .inr (9, [.ref a1, .ref o0_1, .ref a2, .int x0_3, .int x0_4, .int x0_5, .int x0_6, .int x0_7, .int x0_8, .int x0_9, .int x0_10, .int x0_11, .int r2.2.1, .int x0_13, .int x0_14, .int x0_15, .int r2.2.2, .ref o0_17, .ref o0_18, .ref o0_19, .ref o0_20, .ref o0_21, .ref o0_22, .ref o0_23])), (a1, .inl (G.2.1 0, n1, .inl f1))] H := hP
  have hD : va_D A [(a2, .inl (G.2.1 0, n2, .inl f2)), (a0, .inr (9, [.ref a1, .ref o0_1, .ref a2, .int x0_3, .int x0_4, .int x0_5, .int x0_6, .int x0_7, .int x0_8, .int x0_9, .int x0_10, .int x0_11, .int r2.2.1, .int x0_13, .int x0_14, .int x0_15, .int r2.2.2, .ref o0_17, .ref o0_18, .ref o0_19, .ref o0_20, .ref o0_21, .ref o0_22, .ref o0_23])), (a1, .inl (G.2.1 0, n1, .inl f1))] := hD
  refine lv_istore_n (lv' := [(1, .int r2.1), (0, .ref a0)]) hx hb d_Mo_stored_23 rfl hl (by decide) rfl (fun ls hl => ?_)
  refine lv_aload_n hx hb d_Mo_stored_24 rfl (lv_at hl 1 rfl) ?_
  refine lv_bipush (v := 16) hx hb d_Mo_stored_25 (by decide) ?_
  obtain ⟨r3, hc3, h⟩ := Bd_e h
  refine xV_i0 (wr := [(a2, .inl (G.2.1 0, n2, .inl f2))]) (rest := []) C0 hK hT hA hP hD hS hl.1 (c_Mo_number l G a0 a1 o0_1 a2 o0_17 o0_18 o0_19 o0_20 o0_21 o0_22 o0_23 _ x0_3 x0_4 x0_5 x0_6 x0_7 x0_8 x0_9 x0_10 x0_11 r2.2.1 x0_13 x0_14 x0_15 r2.2.2 n1 f1 16 N r3 hc3) (goodV q494 q495 q496 q439 q497) 1 rfl hd_Mo_number (Nat.le_trans (by decide) hRf) (Nat.le_trans (by decide) hRl) [1, 2] [0] rfl rfl (by decide) (by decide) (by decide) 9 1 rfl rfl rfl (Nat.le_of_ble_eq_true rfl) d_Mo_stored_27 hkc hks (fun w1 H locs hE hP hD hS => ?_)
  subst hE
  have hP : va_P G.1 classes [(a2, .inl (G.2.1 0, n2, .inl f2)), (a0, .inr (9, [.ref a1, .ref o0_1, .ref a2, .int x0_3, .int x0_4, .int x0_5, .int x0_6, .int x0_7, .int x0_8, .int x0_9, .int x0_10, .int x0_11, .int r3.2.1, .int x0_13, .int x0_14, .int x0_15, .int r3.2.2, .ref o0_17, .ref o0_18, .ref o0_19, .ref o0_20, .ref o0_21, .ref o0_22, .ref o0_23])), (a1, .inl (G.2.1 0, n1, .inl f1))] H := hP
  have hD : va_D A [(a2, .inl (G.2.1 0, n2, .inl f2)), (a0, .inr (9, [.ref a1, .ref o0_1, .ref a2, .int x0_3, .int x0_4, .int x0_5, .int x0_6, .int x0_7, .int x0_8, .int x0_9, .int x0_10, .int x0_11, .int r3.2.1, .int x0_13, .int x0_14, .int x0_15, .int r3.2.2, .ref o0_17, .ref o0_18, .ref o0_19, .ref o0_20, .ref o0_21, .ref o0_22, .ref o0_23])), (a1, .inl (G.2.1 0, n1, .inl f1))] := hD
  refine lv_istore_n (lv' := [(2, .int r3.1), (1, .int r2.1), (0, .ref a0)]) hx hb d_Mo_stored_30 rfl hl (by decide) rfl (fun ls hl => ?_)
  refine lv_iload_n hx hb d_Mo_stored_31 rfl (lv_at hl 1 rfl) ?_
  refine lv_iload_n hx hb d_Mo_stored_32 rfl (lv_at hl 0 rfl) ?_
  refine lv_iadd hx hb d_Mo_stored_33 ?_
  refine lv_ldc (v := 65535) hx hb hown (hts _ q510) d_Mo_stored_34 ?_
  obtain ⟨j5, ej5, h⟩ := Jn_e h
  have hj5 : ∀ (t5 : Int32) (H : Heap) (locs : List Loc) (ls : Array Slot), j5 t5 = some V → va_P G.1 classes [(a0, .inr (9, [.ref a1, .ref o0_1, .ref a2, .int x0_3, .int x0_4, .int x0_5, .int x0_6, .int x0_7, .int x0_8, .int x0_9, .int x0_10, .int x0_11, .int r3.2.1, .int x0_13, .int x0_14, .int x0_15, .int t5, .ref o0_17, .ref o0_18, .ref o0_19, .ref o0_20, .ref o0_21, .ref o0_22, .ref o0_23])), (a1, .inl (G.2.1 0, n1, .inl f1)), (a2, .inl (G.2.1 0, n2, .inl f2))] H → va_D A [(a0, .inr (9, [.ref a1, .ref o0_1, .ref a2, .int x0_3, .int x0_4, .int x0_5, .int x0_6, .int x0_7, .int x0_8, .int x0_9, .int x0_10, .int x0_11, .int r3.2.1, .int x0_13, .int x0_14, .int x0_15, .int t5, .ref o0_17, .ref o0_18, .ref o0_19, .ref o0_20, .ref o0_21, .ref o0_22, .ref o0_23])), (a1, .inl (G.2.1 0, n1, .inl f1)), (a2, .inl (G.2.1 0, n2, .inl f2))] → va_S A s.heap H locs → lv_has ls 5 [(0, .ref a0), (1, .int r2.1)] → W p l e R s m [.ref a0].toArray below meth c H locs 0 0 Q (F0 m 44 ls []) := by
    intro t5 H locs ls h hP hD hS hl
    replace h := ej5 _ _ h
    refine lv_iconst (v := 0) hx hb d_Mo_stored_44 (by decide) ?_
    refine lv_istore_n (lv' := [(3, .int 0), (0, .ref a0), (1, .int r2.1)]) hx hb d_Mo_stored_45 rfl hl (by decide) rfl (fun ls hl => ?_)
    obtain ⟨r20, hc20, h⟩ := Bd_e h
    refine w_Mo_stored_46 C0 hRf hRl hA hK hT N r2.1 x0_3 x0_4 x0_5 x0_6 x0_7 x0_8 x0_9 x0_10 x0_11 x0_14 x0_15 n1 f1 n2 a0 a1 a2 o0_1 o0_17 o0_18 o0_19 o0_20 o0_21 o0_22 o0_23 r20 (kc := 0) (ks := 0) hkc hks ?_ N 0 r3.2.1 x0_13 t5 f2  _ _ _ hc20 hP hD hS (lv_sub hl [1, 2, 0] rfl)
    · intro H locs ls hP hD hS hl
      have eV := so1 h
      subst eV
      exact x_vret C0 hQ hP hD hS rfl (Nat.zero_le _) (Nat.zero_le _) d_Mo_stored_85
  refine lv_icmp_eq (tgt := 44) hx hb d_Mo_stored_36 (by decide) (fun cq21 => ?_) (fun cq21 => ?_)
  · replace h := (if_pos cq21).symm.trans h
    exact hj5 r3.2.2 _ _ _ h (hP.sub (ws' := [(a0, .inr (9, [.ref a1, .ref o0_1, .ref a2, .int x0_3, .int x0_4, .int x0_5, .int x0_6, .int x0_7, .int x0_8, .int x0_9, .int x0_10, .int x0_11, .int r3.2.1, .int x0_13, .int x0_14, .int x0_15, .int r3.2.2, .ref o0_17, .ref o0_18, .ref o0_19, .ref o0_20, .ref o0_21, .ref o0_22, .ref o0_23])), (a1, .inl (G.2.1 0, n1, .inl f1)), (a2, .inl (G.2.1 0, n2, .inl f2))]) [1, 2, 0] rfl) (hD.sub (ws' := [(a0, .inr (9, [.ref a1, .ref o0_1, .ref a2, .int x0_3, .int x0_4, .int x0_5, .int x0_6, .int x0_7, .int x0_8, .int x0_9, .int x0_10, .int x0_11, .int r3.2.1, .int x0_13, .int x0_14, .int x0_15, .int r3.2.2, .ref o0_17, .ref o0_18, .ref o0_19, .ref o0_20, .ref o0_21, .ref o0_22, .ref o0_23])), (a1, .inl (G.2.1 0, n1, .inl f1)), (a2, .inl (G.2.1 0, n2, .inl f2))]) [1, 2, 0] (by decide) rfl) hS (lv_sub hl [2, 1] rfl)
  · replace h := (if_neg cq21).symm.trans h
    refine lv_aload_n hx hb d_Mo_stored_39 rfl (lv_at hl 2 rfl) ?_
    refine lv_iconst (v := 1) hx hb d_Mo_stored_40 (by decide) ?_
    refine va_put (D := G.1) (ci := 9) (v := .int 1) (ty := .boolean) (C := R_Mo) (T := F_Mo) (N := 24) hx hb hts i_Mo t_Mo t_Mo_ok n_Mo hown hK hP hD hS 1 rfl rfl 16 (by decide) (hts _ q488) (fun _ h9 => h9) rfl (by decide +kernel) rfl rfl (Nat.le_of_ble_eq_true rfl) d_Mo_stored_41 (fun H locs hP hD hS => ?_)
    have hP : va_P G.1 classes [(a2, .inl (G.2.1 0, n2, .inl f2)), (a0, .inr (9, [.ref a1, .ref o0_1, .ref a2, .int x0_3, .int x0_4, .int x0_5, .int x0_6, .int x0_7, .int x0_8, .int x0_9, .int x0_10, .int x0_11, .int r3.2.1, .int x0_13, .int x0_14, .int x0_15, .int 1, .ref o0_17, .ref o0_18, .ref o0_19, .ref o0_20, .ref o0_21, .ref o0_22, .ref o0_23])), (a1, .inl (G.2.1 0, n1, .inl f1))] H := hP
    have hD : va_D A [(a2, .inl (G.2.1 0, n2, .inl f2)), (a0, .inr (9, [.ref a1, .ref o0_1, .ref a2, .int x0_3, .int x0_4, .int x0_5, .int x0_6, .int x0_7, .int x0_8, .int x0_9, .int x0_10, .int x0_11, .int r3.2.1, .int x0_13, .int x0_14, .int x0_15, .int 1, .ref o0_17, .ref o0_18, .ref o0_19, .ref o0_20, .ref o0_21, .ref o0_22, .ref o0_23])), (a1, .inl (G.2.1 0, n1, .inl f1))] := hD
    exact hj5 1 _ _ _ h (hP.sub (ws' := [(a0, .inr (9, [.ref a1, .ref o0_1, .ref a2, .int x0_3, .int x0_4, .int x0_5, .int x0_6, .int x0_7, .int x0_8, .int x0_9, .int x0_10, .int x0_11, .int r3.2.1, .int x0_13, .int x0_14, .int x0_15, .int 1, .ref o0_17, .ref o0_18, .ref o0_19, .ref o0_20, .ref o0_21, .ref o0_22, .ref o0_23])), (a1, .inl (G.2.1 0, n1, .inl f1)), (a2, .inl (G.2.1 0, n2, .inl f2))]) [1, 2, 0] rfl) (hD.sub (ws' := [(a0, .inr (9, [.ref a1, .ref o0_1, .ref a2, .int x0_3, .int x0_4, .int x0_5, .int x0_6, .int x0_7, .int x0_8, .int x0_9, .int x0_10, .int x0_11, .int r3.2.1, .int x0_13, .int x0_14, .int x0_15, .int 1, .ref o0_17, .ref o0_18, .ref o0_19, .ref o0_20, .ref o0_21, .ref o0_22, .ref o0_23])), (a1, .inl (G.2.1 0, n1, .inl f1)), (a2, .inl (G.2.1 0, n2, .inl f2))]) [1, 2, 0] (by decide) rfl) hS (lv_sub hl [2, 1] rfl)
set_option maxHeartbeats 4000000 in
set_option maxRecDepth 100000 in
theorem c_Mo_placeOf (l : Launch) (G : GX) (sz : Nat)  (p0 : Int32) (N : Nat) (V : Int32) (h : f_Mo_placeOf N p0 = some V) :
    Met l y_Mo_placeOf (wd y_Mo_placeOf b_Mo_placeOf 1 (some .int)) { frames := 0, cells := 0, slots := 0, locals := 0 } (PX G [.int p0] sz [])
      (QXi G V (fun w => w = []) (va_A [] sz)) 0 0 (va_A [] sz) := by
  refine Met_in (QQ := fun A => QXi G V (fun w => w = []) A) (by decide) (Nat.le_of_ble_eq_true rfl) (fun p e s m below meth c R Q A ls C0 hRf hRl hRc hRs hP hK hD hT hA hS hl hQ => ?_)
  obtain ⟨hx, hb, hml, hown, hts, hr, hlocks, hin⟩ := id C0
  have hown : s.vm.findClass R_Mo = some m.cls := hown
  have hl : lv_has ls 1 [(0, .int p0)] := hl
  unfold f_Mo_placeOf at h
  have hkc : 0 ≤ R.cells := Nat.zero_le _
  have hks : 0 ≤ R.slots := Nat.zero_le _
  obtain ⟨H, hH⟩ : ∃ H, H = s.heap := ⟨_, rfl⟩
  obtain ⟨locs, hlc⟩ : ∃ x : List Loc, x = [] := ⟨_, rfl⟩
  rw [← hH] at hP
  have hS : va_S A s.heap H locs := by rw [hH, hlc]; exact hS
  suffices hgo : W p l e R s m [.int p0].toArray below meth c H locs 0 0 Q (F0 m 0 ls []) by rw [hH, hlc] at hgo; exact hgo
  refine lv_iload_n hx hb d_Mo_placeOf_0 rfl (lv_at hl 0 rfl) ?_
  refine lv_iconst (v := 3) hx hb d_Mo_placeOf_1 (by decide) ?_
  refine lv_icmp_ge (tgt := 10) hx hb d_Mo_placeOf_2 (by decide) (fun cq1 => ?_) (fun cq1 => ?_)
  · replace h := (if_pos cq1).symm.trans h
    refine lv_iload_n hx hb d_Mo_placeOf_10 rfl (lv_at hl 0 rfl) ?_
    refine lv_iconst (v := 3) hx hb d_Mo_placeOf_11 (by decide) ?_
    refine lv_icmp_ne (tgt := 17) hx hb d_Mo_placeOf_12 (by decide) (fun cq2 => ?_) (fun cq2 => ?_)
    · replace h := (if_neg cq2).symm.trans h
      refine lv_iload_n hx hb d_Mo_placeOf_17 rfl (lv_at hl 0 rfl) ?_
      refine lv_iconst (v := 2) hx hb d_Mo_placeOf_18 (by decide) ?_
      refine lv_irem hx hb d_Mo_placeOf_19 (by decide) ?_
      refine lv_if_ne (tgt := 34) hx hb d_Mo_placeOf_20 (by decide) (fun cq3 => ?_) (fun cq3 => ?_)
      · replace h := (if_neg cq3).symm.trans h
        refine lv_bipush (v := 7) hx hb d_Mo_placeOf_34 (by decide) ?_
        refine lv_iload_n hx hb d_Mo_placeOf_36 rfl (lv_at hl 0 rfl) ?_
        refine lv_iconst (v := 5) hx hb d_Mo_placeOf_37 (by decide) ?_
        refine lv_isub hx hb d_Mo_placeOf_38 ?_
        refine lv_iconst (v := 2) hx hb d_Mo_placeOf_39 (by decide) ?_
        refine lv_idiv hx hb d_Mo_placeOf_40 (by decide) ?_
        refine lv_isub hx hb d_Mo_placeOf_41 ?_
        have eV := so1 h
        subst eV
        exact x_iret C0 hQ hP hD hS rfl (Nat.zero_le _) (Nat.zero_le _) d_Mo_placeOf_42
      · replace h := (if_pos cq3).symm.trans h
        refine lv_bipush (v := 8) hx hb d_Mo_placeOf_23 (by decide) ?_
        refine lv_iload_n hx hb d_Mo_placeOf_25 rfl (lv_at hl 0 rfl) ?_
        refine lv_iconst (v := 4) hx hb d_Mo_placeOf_26 (by decide) ?_
        refine lv_isub hx hb d_Mo_placeOf_27 ?_
        refine lv_iconst (v := 2) hx hb d_Mo_placeOf_28 (by decide) ?_
        refine lv_idiv hx hb d_Mo_placeOf_29 (by decide) ?_
        refine lv_iadd hx hb d_Mo_placeOf_30 ?_
        refine lv_goto (tgt := 42) hx hb d_Mo_placeOf_31 (by decide) ?_
        have eV := so1 h
        subst eV
        exact x_iret C0 hQ hP hD hS rfl (Nat.zero_le _) (Nat.zero_le _) d_Mo_placeOf_42
    · replace h := (if_pos cq2).symm.trans h
      refine lv_iconst (v := 0) hx hb d_Mo_placeOf_15 (by decide) ?_
      have eV := so1 h
      subst eV
      exact x_iret C0 hQ hP hD hS rfl (Nat.zero_le _) (Nat.zero_le _) d_Mo_placeOf_16
  · replace h := (if_neg cq1).symm.trans h
    refine lv_bipush (v := 16) hx hb d_Mo_placeOf_5 (by decide) ?_
    refine lv_iload_n hx hb d_Mo_placeOf_7 rfl (lv_at hl 0 rfl) ?_
    refine lv_iadd hx hb d_Mo_placeOf_8 ?_
    have eV := so1 h
    subst eV
    exact x_iret C0 hQ hP hD hS rfl (Nat.zero_le _) (Nat.zero_le _) d_Mo_placeOf_9
set_option maxHeartbeats 4000000 in
set_option maxRecDepth 100000 in
theorem w_Mo_table_47 {p : Program} {l : Launch} {e : Env} {R : Room} {s : State} {m : MethodId} {args : Array Value} {below : List Frame} {meth : Method} {c : Code} {Q : State → Prop} {G : GX} {A : Nat → Prop} (C0 : Cx p s m args meth c b_Mo_table 8 y_Mo_table none) (hRf : 2 ≤ R.frames) (hRl : 45 ≤ R.locals) (hA : ∀ q, s.heap.size ≤ q → A q) (hK : KX G s) (hT : TX G A s) (N : Nat) (i1 : Int32) (i2 : Int32) (i3 : Int32) (y0_3 : Int32) (y0_4 : Int32) (y0_5 : Int32) (y0_6 : Int32) (y0_7 : Int32) (y0_8 : Int32) (y0_9 : Int32) (y0_10 : Int32) (y0_11 : Int32) (y0_13 : Int32) (y0_14 : Int32) (y0_15 : Int32) (m1 : Nat) (g_1 : (Nat → Int32)) (m2 : Nat) (m3 : Nat) (g_3 : (Nat → Int32)) (m4 : Nat) (g_4 : (Nat → Int32)) (m5 : Nat) (g_5 : (Nat → Int32)) (m6 : Nat) (g_6 : (Nat → Int32)) (c0 c1 c2 c3 c4 c5 c6 u0_1 u0_2 u0_22 u0_23 : Nat) (out : Int32 × Int32 × (Nat → Int32)) {kc ks : Nat} (hkc : kc ≤ R.cells) (hks : ks ≤ R.slots)
    (kx89 : ∀ (H : Heap) (locs : List Loc) (ls : Array Slot), va_P G.1 classes [(c0, .inr (9, [.ref c1, .ref u0_1, .ref u0_2, .int y0_3, .int y0_4, .int y0_5, .int y0_6, .int y0_7, .int y0_8, .int y0_9, .int y0_10, .int y0_11, .int out.1, .int y0_13, .int y0_14, .int y0_15, .int out.2.1, .ref c2, .ref c3, .ref c4, .ref c5, .ref c6, .ref u0_22, .ref u0_23])), (c1, .inl (G.2.1 0, m1, .inl g_1)), (c2, .inl (G.2.1 1, m2, .inl out.2.2)), (c3, .inl (G.2.1 1, m3, .inl g_3)), (c4, .inl (G.2.1 1, m4, .inl g_4)), (c5, .inl (G.2.1 1, m5, .inl g_5)), (c6, .inl (G.2.1 1, m6, .inl g_6))] H → va_D A [(c0, .inr (9, [.ref c1, .ref u0_1, .ref u0_2, .int y0_3, .int y0_4, .int y0_5, .int y0_6, .int y0_7, .int y0_8, .int y0_9, .int y0_10, .int y0_11, .int out.1, .int y0_13, .int y0_14, .int y0_15, .int out.2.1, .ref c2, .ref c3, .ref c4, .ref c5, .ref c6, .ref u0_22, .ref u0_23])), (c1, .inl (G.2.1 0, m1, .inl g_1)), (c2, .inl (G.2.1 1, m2, .inl out.2.2)), (c3, .inl (G.2.1 1, m3, .inl g_3)), (c4, .inl (G.2.1 1, m4, .inl g_4)), (c5, .inl (G.2.1 1, m5, .inl g_5)), (c6, .inl (G.2.1 1, m6, .inl g_6))] → va_S A s.heap H locs → lv_has ls 8 [(0, .ref c0), (1, .int i1), (2, .int i2)] → W p l e R s m args below meth c H locs kc ks Q (F0 m 89 ls [])) :
    ∀ (n : Nat) (i4 : Int32) (y0_12 : Int32) (y0_16 : Int32) (g_2 : (Nat → Int32)) (H : Heap) (locs : List Loc) (ls : Array Slot), lp_Mo_table_47 N i3 y0_3 m1 g_1 m2 n i4 y0_12 y0_16 g_2 = some out → va_P G.1 classes [(c0, .inr (9, [.ref c1, .ref u0_1, .ref u0_2, .int y0_3, .int y0_4, .int y0_5, .int y0_6, .int y0_7, .int y0_8, .int y0_9, .int y0_10, .int y0_11, .int y0_12, .int y0_13, .int y0_14, .int y0_15, .int y0_16, .ref c2, .ref c3, .ref c4, .ref c5, .ref c6, .ref u0_22, .ref u0_23])), (c1, .inl (G.2.1 0, m1, .inl g_1)), (c2, .inl (G.2.1 1, m2, .inl g_2)), (c3, .inl (G.2.1 1, m3, .inl g_3)), (c4, .inl (G.2.1 1, m4, .inl g_4)), (c5, .inl (G.2.1 1, m5, .inl g_5)), (c6, .inl (G.2.1 1, m6, .inl g_6))] H → va_D A [(c0, .inr (9, [.ref c1, .ref u0_1, .ref u0_2, .int y0_3, .int y0_4, .int y0_5, .int y0_6, .int y0_7, .int y0_8, .int y0_9, .int y0_10, .int y0_11, .int y0_12, .int y0_13, .int y0_14, .int y0_15, .int y0_16, .ref c2, .ref c3, .ref c4, .ref c5, .ref c6, .ref u0_22, .ref u0_23])), (c1, .inl (G.2.1 0, m1, .inl g_1)), (c2, .inl (G.2.1 1, m2, .inl g_2)), (c3, .inl (G.2.1 1, m3, .inl g_3)), (c4, .inl (G.2.1 1, m4, .inl g_4)), (c5, .inl (G.2.1 1, m5, .inl g_5)), (c6, .inl (G.2.1 1, m6, .inl g_6))] → va_S A s.heap H locs → lv_has ls 8 [(0, .ref c0), (1, .int i1), (2, .int i2), (3, .int i3), (4, .int i4)] → W p l e R s m args below meth c H locs kc ks Q (F0 m 47 ls []) := by
  obtain ⟨hx, hb, hml, hown, hts, hr, hlocks, hin⟩ := id C0
  have hown : s.vm.findClass R_Mo = some m.cls := hown
  intro n
  induction n with
  | zero => intro i4 y0_12 y0_16 g_2 H locs ls h; cases h
  | succ n ih =>
    intro i4 y0_12 y0_16 g_2 H locs ls h hP hD hS hl
    replace h : lb_Mo_table_47 N i3 y0_3 m1 g_1 m2 (lp_Mo_table_47 N i3 y0_3 m1 g_1 m2 n) i4 y0_12 y0_16 g_2 = some out := h
    unfold lb_Mo_table_47 at h
    refine lv_iload hx hb d_Mo_table_47 (lv_at hl 4 rfl) ?_
    refine lv_bipush (v := 19) hx hb d_Mo_table_49 (by decide) ?_
    refine lv_icmp_ge (tgt := 89) hx hb d_Mo_table_51 (by decide) (fun cq19 => ?_) (fun cq19 => ?_)
    · replace h := (if_pos cq19).symm.trans h
      have eV := so1 h
      subst eV
      exact kx89 _ _ _ hP hD hS (lv_sub hl [0, 1, 2] rfl)
    · replace h := (if_neg cq19).symm.trans h
      refine lv_aload_n hx hb d_Mo_table_54 rfl (lv_at hl 0 rfl) ?_
      refine va_get (D := G.1) (ci := 9) (v := .ref c2) (C := R_Mo) (T := F_Mo) (N := 24) hx hb hts i_Mo hown hK hP 0 rfl rfl 17 (by decide) (hts _ q427) (fun _ h9 => h9) rfl d_Mo_table_55 ?_
      refine lv_sipush (v := 320) hx hb d_Mo_table_58 (by decide) ?_
      refine lv_iload hx hb d_Mo_table_61 (lv_at hl 4 rfl) ?_
      obtain ⟨r20, hc20, h⟩ := Bd_e h
      refine xS_i0 (wr := [(c0, .inr (9, [.ref c1, .ref u0_1, .ref u0_2, .int y0_3, .int y0_4, .int y0_5, .int y0_6, .int y0_7, .int y0_8, .int y0_9, .int y0_10, .int y0_11, .int y0_12, .int y0_13, .int y0_14, .int y0_15, .int y0_16, .ref c2, .ref c3, .ref c4, .ref c5, .ref c6, .ref u0_22, .ref u0_23])), (c1, .inl (G.2.1 0, m1, .inl g_1)), (c2, .inl (G.2.1 1, m2, .inl g_2)), (c3, .inl (G.2.1 1, m3, .inl g_3)), (c4, .inl (G.2.1 1, m4, .inl g_4)), (c5, .inl (G.2.1 1, m5, .inl g_5)), (c6, .inl (G.2.1 1, m6, .inl g_6))]) (rest := [.int 320, .ref c2]) C0 hK hT hA hP hD hS hl.1 (c_Mo_placeOf l G  _  i4 N r20 hc20) (goodS q511 q512 q439 q513) 1 rfl hd_Mo_placeOf (Nat.le_trans (by decide) hRf) (Nat.le_trans (by decide) hRl) [] [0, 1, 2, 3, 4, 5, 6] rfl rfl (by decide) (by decide) (by decide) rfl (Nat.le_of_ble_eq_true rfl) d_Mo_table_63 hkc hks (fun w1 H locs hE hP hD hS => ?_)
      subst hE
      have hP : va_P G.1 classes [(c0, .inr (9, [.ref c1, .ref u0_1, .ref u0_2, .int y0_3, .int y0_4, .int y0_5, .int y0_6, .int y0_7, .int y0_8, .int y0_9, .int y0_10, .int y0_11, .int y0_12, .int y0_13, .int y0_14, .int y0_15, .int y0_16, .ref c2, .ref c3, .ref c4, .ref c5, .ref c6, .ref u0_22, .ref u0_23])), (c1, .inl (G.2.1 0, m1, .inl g_1)), (c2, .inl (G.2.1 1, m2, .inl g_2)), (c3, .inl (G.2.1 1, m3, .inl g_3)), (c4, .inl (G.2.1 1, m4, .inl g_4)), (c5, .inl (G.2.1 1, m5, .inl g_5)), (c6, .inl (G.2.1 1, m6, .inl g_6))] H := hP
      have hD : va_D A [(c0, .inr (9, [.ref c1, .ref u0_1, .ref u0_2, .int y0_3, .int y0_4, .int y0_5, .int y0_6, .int y0_7, .int y0_8, .int y0_9, .int y0_10, .int y0_11, .int y0_12, .int y0_13, .int y0_14, .int y0_15, .int y0_16, .ref c2, .ref c3, .ref c4, .ref c5, .ref c6, .ref u0_22, .ref u0_23])), (c1, .inl (G.2.1 0, m1, .inl g_1)), (c2, .inl (G.2.1 1, m2, .inl g_2)), (c3, .inl (G.2.1 1, m3, .inl g_3)), (c4, .inl (G.2.1 1, m4, .inl g_4)), (c5, .inl (G.2.1 1, m5, .inl g_5)), (c6, .inl (G.2.1 1, m6, .inl g_6))] := hD
      refine lv_iadd hx hb d_Mo_table_66 ?_
      refine lv_iload hx hb d_Mo_table_67 (lv_at hl 4 rfl) ?_
      refine lv_iload_n hx hb d_Mo_table_69 rfl (lv_at hl 3 rfl) ?_
      obtain ⟨j23, ej23, h⟩ := Jn_e h
      have hj23 : ∀ (t23 : Int32 × Int32 × Int32) (H : Heap) (locs : List Loc) (ls : Array Slot), j23 t23 = some out → va_P G.1 classes [(c0, .inr (9, [.ref c1, .ref u0_1, .ref u0_2, .int y0_3, .int y0_4, .int y0_5, .int y0_6, .int y0_7, .int y0_8, .int y0_9, .int y0_10, .int y0_11, .int t23.2.1, .int y0_13, .int y0_14, .int y0_15, .int t23.2.2, .ref c2, .ref c3, .ref c4, .ref c5, .ref c6, .ref u0_22, .ref u0_23])), (c1, .inl (G.2.1 0, m1, .inl g_1)), (c2, .inl (G.2.1 1, m2, .inl g_2)), (c3, .inl (G.2.1 1, m3, .inl g_3)), (c4, .inl (G.2.1 1, m4, .inl g_4)), (c5, .inl (G.2.1 1, m5, .inl g_5)), (c6, .inl (G.2.1 1, m6, .inl g_6))] H → va_D A [(c0, .inr (9, [.ref c1, .ref u0_1, .ref u0_2, .int y0_3, .int y0_4, .int y0_5, .int y0_6, .int y0_7, .int y0_8, .int y0_9, .int y0_10, .int y0_11, .int t23.2.1, .int y0_13, .int y0_14, .int y0_15, .int t23.2.2, .ref c2, .ref c3, .ref c4, .ref c5, .ref c6, .ref u0_22, .ref u0_23])), (c1, .inl (G.2.1 0, m1, .inl g_1)), (c2, .inl (G.2.1 1, m2, .inl g_2)), (c3, .inl (G.2.1 1, m3, .inl g_3)), (c4, .inl (G.2.1 1, m4, .inl g_4)), (c5, .inl (G.2.1 1, m5, .inl g_5)), (c6, .inl (G.2.1 1, m6, .inl g_6))] → va_S A s.heap H locs → lv_has ls 8 [(0, .ref c0), (1, .int i1), (2, .int i2), (3, .int i3), (4, .int i4)] → W p l e R s m args below meth c H locs kc ks Q (F0 m 82 ls [.int t23.1, .int (320 + r20), .ref c2]) := by
        intro t23 H locs ls h hP hD hS hl
        replace h := ej23 _ _ h
        obtain ⟨hi24, h⟩ := Ix_e h
        refine y_iast hx hb hK hP hD hS 2 1 rfl rfl hi24 d_Mo_table_82 (fun g25 H locs eg25 hP hD hS => ?_)
        replace h := Lt_e h eg25
        have hP : va_P G.1 classes [(c0, .inr (9, [.ref c1, .ref u0_1, .ref u0_2, .int y0_3, .int y0_4, .int y0_5, .int y0_6, .int y0_7, .int y0_8, .int y0_9, .int y0_10, .int y0_11, .int t23.2.1, .int y0_13, .int y0_14, .int y0_15, .int t23.2.2, .ref c2, .ref c3, .ref c4, .ref c5, .ref c6, .ref u0_22, .ref u0_23])), (c1, .inl (G.2.1 0, m1, .inl g_1)), (c2, .inl (G.2.1 1, m2, .inl g25)), (c3, .inl (G.2.1 1, m3, .inl g_3)), (c4, .inl (G.2.1 1, m4, .inl g_4)), (c5, .inl (G.2.1 1, m5, .inl g_5)), (c6, .inl (G.2.1 1, m6, .inl g_6))] H := hP
        have hD : va_D A [(c0, .inr (9, [.ref c1, .ref u0_1, .ref u0_2, .int y0_3, .int y0_4, .int y0_5, .int y0_6, .int y0_7, .int y0_8, .int y0_9, .int y0_10, .int y0_11, .int t23.2.1, .int y0_13, .int y0_14, .int y0_15, .int t23.2.2, .ref c2, .ref c3, .ref c4, .ref c5, .ref c6, .ref u0_22, .ref u0_23])), (c1, .inl (G.2.1 0, m1, .inl g_1)), (c2, .inl (G.2.1 1, m2, .inl g25)), (c3, .inl (G.2.1 1, m3, .inl g_3)), (c4, .inl (G.2.1 1, m4, .inl g_4)), (c5, .inl (G.2.1 1, m5, .inl g_5)), (c6, .inl (G.2.1 1, m6, .inl g_6))] := hD
        obtain ⟨v26, ev26⟩ : ∃ y : Int32, y = i4 + 1 := ⟨_, rfl⟩
        replace h := Lt_e h ev26
        refine lv_iinc (v := v26) (lv' := [(4, .int v26), (0, .ref c0), (1, .int i1), (2, .int i2), (3, .int i3)]) hx hb d_Mo_table_83 hl (k := 4) rfl (by rw [ev26]; rfl) (by decide) rfl (fun ls hl => ?_)
        refine lv_goto (tgt := 47) hx hb d_Mo_table_86 (by decide) ?_
        exact ih v26 t23.2.1 t23.2.2 g25  _ _ _ h hP hD hS (lv_sub hl [1, 2, 3, 4, 0] rfl)
      refine lv_icmp_ge (tgt := 81) hx hb d_Mo_table_70 (by decide) (fun cq27 => ?_) (fun cq27 => ?_)
      · replace h := (if_pos cq27).symm.trans h
        refine lv_iconst (v := 0) hx hb d_Mo_table_81 (by decide) ?_
        exact hj23 (0, y0_12, y0_16) _ _ _ h hP hD hS hl
      · replace h := (if_neg cq27).symm.trans h
        refine lv_aload_n hx hb d_Mo_table_73 rfl (lv_at hl 0 rfl) ?_
        refine lv_iconst (v := 3) hx hb d_Mo_table_74 (by decide) ?_
        obtain ⟨r28, hc28, h⟩ := Bd_e h
        refine xV_i0 (wr := [(c2, .inl (G.2.1 1, m2, .inl g_2)), (c3, .inl (G.2.1 1, m3, .inl g_3)), (c4, .inl (G.2.1 1, m4, .inl g_4)), (c5, .inl (G.2.1 1, m5, .inl g_5)), (c6, .inl (G.2.1 1, m6, .inl g_6))]) (rest := [.int (320 + r20), .ref c2]) C0 hK hT hA hP hD hS hl.1 (c_Mo_number l G c0 c1 u0_1 u0_2 c2 c3 c4 c5 c6 u0_22 u0_23 _ y0_3 y0_4 y0_5 y0_6 y0_7 y0_8 y0_9 y0_10 y0_11 y0_12 y0_13 y0_14 y0_15 y0_16 m1 g_1 3 N r28 hc28) (goodV q494 q495 q496 q439 q497) 1 rfl hd_Mo_number (Nat.le_trans (by decide) hRf) (Nat.le_trans (by decide) hRl) [0, 1] [2, 3, 4, 5, 6] rfl rfl (by decide) (by decide) (by decide) 9 0 rfl rfl rfl (Nat.le_of_ble_eq_true rfl) d_Mo_table_75 hkc hks (fun w1 H locs hE hP hD hS => ?_)
        subst hE
        have hP : va_P G.1 classes [(c2, .inl (G.2.1 1, m2, .inl g_2)), (c3, .inl (G.2.1 1, m3, .inl g_3)), (c4, .inl (G.2.1 1, m4, .inl g_4)), (c5, .inl (G.2.1 1, m5, .inl g_5)), (c6, .inl (G.2.1 1, m6, .inl g_6)), (c0, .inr (9, [.ref c1, .ref u0_1, .ref u0_2, .int y0_3, .int y0_4, .int y0_5, .int y0_6, .int y0_7, .int y0_8, .int y0_9, .int y0_10, .int y0_11, .int r28.2.1, .int y0_13, .int y0_14, .int y0_15, .int r28.2.2, .ref c2, .ref c3, .ref c4, .ref c5, .ref c6, .ref u0_22, .ref u0_23])), (c1, .inl (G.2.1 0, m1, .inl g_1))] H := hP
        have hD : va_D A [(c2, .inl (G.2.1 1, m2, .inl g_2)), (c3, .inl (G.2.1 1, m3, .inl g_3)), (c4, .inl (G.2.1 1, m4, .inl g_4)), (c5, .inl (G.2.1 1, m5, .inl g_5)), (c6, .inl (G.2.1 1, m6, .inl g_6)), (c0, .inr (9, [.ref c1, .ref u0_1, .ref u0_2, .int y0_3, .int y0_4, .int y0_5, .int y0_6, .int y0_7, .int y0_8, .int y0_9, .int y0_10, .int y0_11, .int r28.2.1, .int y0_13, .int y0_14, .int y0_15, .int r28.2.2, .ref c2, .ref c3, .ref c4, .ref c5, .ref c6, .ref u0_22, .ref u0_23])), (c1, .inl (G.2.1 0, m1, .inl g_1))] := hD
        refine lv_goto (tgt := 82) hx hb d_Mo_table_78 (by decide) ?_
        exact hj23 (r28.1, r28.2.1, r28.2.2) _ _ _ h (hP.sub (ws' := [(c0, .inr (9, [.ref c1, .ref u0_1, .ref u0_2, .int y0_3, .int y0_4, .int y0_5, .int y0_6, .int y0_7, .int y0_8, .int y0_9, .int y0_10, .int y0_11, .int r28.2.1, .int y0_13, .int y0_14, .int y0_15, .int r28.2.2, .ref c2, .ref c3, .ref c4, .ref c5, .ref c6, .ref u0_22, .ref u0_23])), (c1, .inl (G.2.1 0, m1, .inl g_1)), (c2, .inl (G.2.1 1, m2, .inl g_2)), (c3, .inl (G.2.1 1, m3, .inl g_3)), (c4, .inl (G.2.1 1, m4, .inl g_4)), (c5, .inl (G.2.1 1, m5, .inl g_5)), (c6, .inl (G.2.1 1, m6, .inl g_6))]) [5, 6, 0, 1, 2, 3, 4] rfl) (hD.sub (ws' := [(c0, .inr (9, [.ref c1, .ref u0_1, .ref u0_2, .int y0_3, .int y0_4, .int y0_5, .int y0_6, .int y0_7, .int y0_8, .int y0_9, .int y0_10, .int y0_11, .int r28.2.1, .int y0_13, .int y0_14, .int y0_15, .int r28.2.2, .ref c2, .ref c3, .ref c4, .ref c5, .ref c6, .ref u0_22, .ref u0_23])), (c1, .inl (G.2.1 0, m1, .inl g_1)), (c2, .inl (G.2.1 1, m2, .inl g_2)), (c3, .inl (G.2.1 1, m3, .inl g_3)), (c4, .inl (G.2.1 1, m4, .inl g_4)), (c5, .inl (G.2.1 1, m5, .inl g_5)), (c6, .inl (G.2.1 1, m6, .inl g_6))]) [5, 6, 0, 1, 2, 3, 4] (by decide) rfl) hS hl
set_option maxHeartbeats 4000000 in
set_option maxRecDepth 100000 in
theorem w_Mo_table_252 {p : Program} {l : Launch} {e : Env} {R : Room} {s : State} {m : MethodId} {args : Array Value} {below : List Frame} {meth : Method} {c : Code} {Q : State → Prop} {G : GX} {A : Nat → Prop} (C0 : Cx p s m args meth c b_Mo_table 8 y_Mo_table none) (hRf : 2 ≤ R.frames) (hRl : 45 ≤ R.locals) (hA : ∀ q, s.heap.size ≤ q → A q) (hK : KX G s) (hT : TX G A s) (N : Nat) (i1 : Int32) (i2 : Int32) (i5 : Int32) (i6 : Int32) (y0_3 : Int32) (y0_4 : Int32) (y0_5 : Int32) (y0_6 : Int32) (y0_7 : Int32) (y0_8 : Int32) (y0_9 : Int32) (y0_10 : Int32) (y0_11 : Int32) (y0_12 : Int32) (y0_13 : Int32) (y0_14 : Int32) (y0_15 : Int32) (y0_16 : Int32) (m1 : Nat) (g_1 : (Nat → Int32)) (m2 : Nat) (g_2 : (Nat → Int32)) (m3 : Nat) (g_3 : (Nat → Int32)) (m4 : Nat) (m5 : Nat) (g_5 : (Nat → Int32)) (m6 : Nat) (g_6 : (Nat → Int32)) (c0 c1 c2 c3 c4 c5 c6 u0_1 u0_2 u0_22 u0_23 : Nat) (out : Int32 × (Nat → Int32)) {kc ks : Nat} (hkc : kc ≤ R.cells) (hks : ks ≤ R.slots)
    (kx302 : ∀ (H : Heap) (locs : List Loc) (ls : Array Slot), va_P G.1 classes [(c0, .inr (9, [.ref c1, .ref u0_1, .ref u0_2, .int y0_3, .int y0_4, .int y0_5, .int y0_6, .int y0_7, .int y0_8, .int y0_9, .int y0_10, .int y0_11, .int y0_12, .int y0_13, .int y0_14, .int y0_15, .int y0_16, .ref c2, .ref c3, .ref c4, .ref c5, .ref c6, .ref u0_22, .ref u0_23])), (c1, .inl (G.2.1 0, m1, .inl g_1)), (c2, .inl (G.2.1 1, m2, .inl g_2)), (c3, .inl (G.2.1 1, m3, .inl g_3)), (c4, .inl (G.2.1 1, m4, .inl out.2)), (c5, .inl (G.2.1 1, m5, .inl g_5)), (c6, .inl (G.2.1 1, m6, .inl g_6))] H → va_D A [(c0, .inr (9, [.ref c1, .ref u0_1, .ref u0_2, .int y0_3, .int y0_4, .int y0_5, .int y0_6, .int y0_7, .int y0_8, .int y0_9, .int y0_10, .int y0_11, .int y0_12, .int y0_13, .int y0_14, .int y0_15, .int y0_16, .ref c2, .ref c3, .ref c4, .ref c5, .ref c6, .ref u0_22, .ref u0_23])), (c1, .inl (G.2.1 0, m1, .inl g_1)), (c2, .inl (G.2.1 1, m2, .inl g_2)), (c3, .inl (G.2.1 1, m3, .inl g_3)), (c4, .inl (G.2.1 1, m4, .inl out.2)), (c5, .inl (G.2.1 1, m5, .inl g_5)), (c6, .inl (G.2.1 1, m6, .inl g_6))] → va_S A s.heap H locs → lv_has ls 8 [(0, .ref c0), (1, .int i1), (2, .int i2), (4, .int out.1)] → W p l e R s m args below meth c H locs kc ks Q (F0 m 302 ls [])) :
    ∀ (n : Nat) (i4 : Int32) (i7 : Int32) (g_4 : (Nat → Int32)) (H : Heap) (locs : List Loc) (ls : Array Slot), lp_Mo_table_252 N i5 i6 y0_16 m4 n i4 i7 g_4 = some out → va_P G.1 classes [(c0, .inr (9, [.ref c1, .ref u0_1, .ref u0_2, .int y0_3, .int y0_4, .int y0_5, .int y0_6, .int y0_7, .int y0_8, .int y0_9, .int y0_10, .int y0_11, .int y0_12, .int y0_13, .int y0_14, .int y0_15, .int y0_16, .ref c2, .ref c3, .ref c4, .ref c5, .ref c6, .ref u0_22, .ref u0_23])), (c1, .inl (G.2.1 0, m1, .inl g_1)), (c2, .inl (G.2.1 1, m2, .inl g_2)), (c3, .inl (G.2.1 1, m3, .inl g_3)), (c4, .inl (G.2.1 1, m4, .inl g_4)), (c5, .inl (G.2.1 1, m5, .inl g_5)), (c6, .inl (G.2.1 1, m6, .inl g_6))] H → va_D A [(c0, .inr (9, [.ref c1, .ref u0_1, .ref u0_2, .int y0_3, .int y0_4, .int y0_5, .int y0_6, .int y0_7, .int y0_8, .int y0_9, .int y0_10, .int y0_11, .int y0_12, .int y0_13, .int y0_14, .int y0_15, .int y0_16, .ref c2, .ref c3, .ref c4, .ref c5, .ref c6, .ref u0_22, .ref u0_23])), (c1, .inl (G.2.1 0, m1, .inl g_1)), (c2, .inl (G.2.1 1, m2, .inl g_2)), (c3, .inl (G.2.1 1, m3, .inl g_3)), (c4, .inl (G.2.1 1, m4, .inl g_4)), (c5, .inl (G.2.1 1, m5, .inl g_5)), (c6, .inl (G.2.1 1, m6, .inl g_6))] → va_S A s.heap H locs → lv_has ls 8 [(0, .ref c0), (1, .int i1), (2, .int i2), (4, .int i4), (5, .int i5), (6, .int i6), (7, .int i7)] → W p l e R s m args below meth c H locs kc ks Q (F0 m 252 ls []) := by
  obtain ⟨hx, hb, hml, hown, hts, hr, hlocks, hin⟩ := id C0
  have hown : s.vm.findClass R_Mo = some m.cls := hown
  intro n
  induction n with
  | zero => intro i4 i7 g_4 H locs ls h; cases h
  | succ n ih =>
    intro i4 i7 g_4 H locs ls h hP hD hS hl
    replace h : lb_Mo_table_252 N i5 i6 y0_16 m4 (lp_Mo_table_252 N i5 i6 y0_16 m4 n) i4 i7 g_4 = some out := h
    unfold lb_Mo_table_252 at h
    refine lv_iload hx hb d_Mo_table_252 (lv_at hl 6 rfl) ?_
    refine lv_iload hx hb d_Mo_table_254 (lv_at hl 5 rfl) ?_
    refine lv_icmp_ge (tgt := 302) hx hb d_Mo_table_256 (by decide) (fun cq90 => ?_) (fun cq90 => ?_)
    · replace h := (if_pos cq90).symm.trans h
      have eV := so1 h
      subst eV
      exact kx302 _ _ _ hP hD hS (lv_sub hl [0, 1, 2, 3] rfl)
    · replace h := (if_neg cq90).symm.trans h
      refine lv_aload_n hx hb d_Mo_table_259 rfl (lv_at hl 0 rfl) ?_
      refine va_get (D := G.1) (ci := 9) (v := .int y0_16) (C := R_Mo) (T := F_Mo) (N := 24) hx hb hts i_Mo hown hK hP 0 rfl rfl 16 (by decide) (hts _ q488) (fun _ h9 => h9) rfl d_Mo_table_260 ?_
      refine lv_if_ne (tgt := 302) hx hb d_Mo_table_263 (by decide) (fun cq91 => ?_) (fun cq91 => ?_)
      · replace h := (if_neg cq91).symm.trans h
        have eV := so1 h
        subst eV
        exact kx302 _ _ _ hP hD hS (lv_sub hl [0, 1, 2, 3] rfl)
      · replace h := (if_pos cq91).symm.trans h
        refine lv_aload_n hx hb d_Mo_table_266 rfl (lv_at hl 0 rfl) ?_
        refine va_get (D := G.1) (ci := 9) (v := .ref c4) (C := R_Mo) (T := F_Mo) (N := 24) hx hb hts i_Mo hown hK hP 0 rfl rfl 19 (by decide) (hts _ q429) (fun _ h9 => h9) rfl d_Mo_table_267 ?_
        refine lv_iload hx hb d_Mo_table_270 (lv_at hl 3 rfl) ?_
        refine lv_iload hx hb d_Mo_table_272 (lv_at hl 4 rfl) ?_
        refine lv_bipush (v := 16) hx hb d_Mo_table_274 (by decide) ?_
        obtain ⟨j94, ej94, h⟩ := Jn_e h
        have hj94 : ∀ (t94 : Int32) (H : Heap) (locs : List Loc) (ls : Array Slot), j94 t94 = some out → va_P G.1 classes [(c0, .inr (9, [.ref c1, .ref u0_1, .ref u0_2, .int y0_3, .int y0_4, .int y0_5, .int y0_6, .int y0_7, .int y0_8, .int y0_9, .int y0_10, .int y0_11, .int y0_12, .int y0_13, .int y0_14, .int y0_15, .int y0_16, .ref c2, .ref c3, .ref c4, .ref c5, .ref c6, .ref u0_22, .ref u0_23])), (c1, .inl (G.2.1 0, m1, .inl g_1)), (c2, .inl (G.2.1 1, m2, .inl g_2)), (c3, .inl (G.2.1 1, m3, .inl g_3)), (c4, .inl (G.2.1 1, m4, .inl g_4)), (c5, .inl (G.2.1 1, m5, .inl g_5)), (c6, .inl (G.2.1 1, m6, .inl g_6))] H → va_D A [(c0, .inr (9, [.ref c1, .ref u0_1, .ref u0_2, .int y0_3, .int y0_4, .int y0_5, .int y0_6, .int y0_7, .int y0_8, .int y0_9, .int y0_10, .int y0_11, .int y0_12, .int y0_13, .int y0_14, .int y0_15, .int y0_16, .ref c2, .ref c3, .ref c4, .ref c5, .ref c6, .ref u0_22, .ref u0_23])), (c1, .inl (G.2.1 0, m1, .inl g_1)), (c2, .inl (G.2.1 1, m2, .inl g_2)), (c3, .inl (G.2.1 1, m3, .inl g_3)), (c4, .inl (G.2.1 1, m4, .inl g_4)), (c5, .inl (G.2.1 1, m5, .inl g_5)), (c6, .inl (G.2.1 1, m6, .inl g_6))] → va_S A s.heap H locs → lv_has ls 8 [(0, .ref c0), (1, .int i1), (2, .int i2), (4, .int i4), (5, .int i5), (6, .int i6), (7, .int i7)] → W p l e R s m args below meth c H locs kc ks Q (F0 m 292 ls [.int t94, .int i4, .ref c4]) := by
          intro t94 H locs ls h hP hD hS hl
          replace h := ej94 _ _ h
          obtain ⟨hi95, h⟩ := Ix_e h
          refine y_iast hx hb hK hP hD hS 4 1 rfl rfl hi95 d_Mo_table_292 (fun g96 H locs eg96 hP hD hS => ?_)
          replace h := Lt_e h eg96
          have hP : va_P G.1 classes [(c0, .inr (9, [.ref c1, .ref u0_1, .ref u0_2, .int y0_3, .int y0_4, .int y0_5, .int y0_6, .int y0_7, .int y0_8, .int y0_9, .int y0_10, .int y0_11, .int y0_12, .int y0_13, .int y0_14, .int y0_15, .int y0_16, .ref c2, .ref c3, .ref c4, .ref c5, .ref c6, .ref u0_22, .ref u0_23])), (c1, .inl (G.2.1 0, m1, .inl g_1)), (c2, .inl (G.2.1 1, m2, .inl g_2)), (c3, .inl (G.2.1 1, m3, .inl g_3)), (c4, .inl (G.2.1 1, m4, .inl g96)), (c5, .inl (G.2.1 1, m5, .inl g_5)), (c6, .inl (G.2.1 1, m6, .inl g_6))] H := hP
          have hD : va_D A [(c0, .inr (9, [.ref c1, .ref u0_1, .ref u0_2, .int y0_3, .int y0_4, .int y0_5, .int y0_6, .int y0_7, .int y0_8, .int y0_9, .int y0_10, .int y0_11, .int y0_12, .int y0_13, .int y0_14, .int y0_15, .int y0_16, .ref c2, .ref c3, .ref c4, .ref c5, .ref c6, .ref u0_22, .ref u0_23])), (c1, .inl (G.2.1 0, m1, .inl g_1)), (c2, .inl (G.2.1 1, m2, .inl g_2)), (c3, .inl (G.2.1 1, m3, .inl g_3)), (c4, .inl (G.2.1 1, m4, .inl g96)), (c5, .inl (G.2.1 1, m5, .inl g_5)), (c6, .inl (G.2.1 1, m6, .inl g_6))] := hD
          obtain ⟨v97, ev97⟩ : ∃ y : Int32, y = i4 + 1 := ⟨_, rfl⟩
          replace h := Lt_e h ev97
          refine lv_iinc (v := v97) (lv' := [(4, .int v97), (0, .ref c0), (1, .int i1), (2, .int i2), (5, .int i5), (6, .int i6), (7, .int i7)]) hx hb d_Mo_table_293 hl (k := 3) rfl (by rw [ev97]; rfl) (by decide) rfl (fun ls hl => ?_)
          obtain ⟨v98, ev98⟩ : ∃ y : Int32, y = i7 + 1 := ⟨_, rfl⟩
          replace h := Lt_e h ev98
          refine lv_iinc (v := v98) (lv' := [(7, .int v98), (4, .int v97), (0, .ref c0), (1, .int i1), (2, .int i2), (5, .int i5), (6, .int i6)]) hx hb d_Mo_table_296 hl (k := 6) rfl (by rw [ev98]; rfl) (by decide) rfl (fun ls hl => ?_)
          refine lv_goto (tgt := 252) hx hb d_Mo_table_299 (by decide) ?_
          exact ih v97 v98 g96  _ _ _ h hP hD hS (lv_sub hl [2, 3, 4, 1, 5, 6, 0] rfl)
        refine lv_icmp_ne (tgt := 291) hx hb d_Mo_table_276 (by decide) (fun cq99 => ?_) (fun cq99 => ?_)
        · replace h := (if_neg cq99).symm.trans h
          refine lv_iconst (v := 0) hx hb d_Mo_table_291 (by decide) ?_
          exact hj94 0 _ _ _ h hP hD hS hl
        · replace h := (if_pos cq99).symm.trans h
          refine lv_aload_n hx hb d_Mo_table_279 rfl (lv_at hl 0 rfl) ?_
          refine va_get (D := G.1) (ci := 9) (v := .ref c4) (C := R_Mo) (T := F_Mo) (N := 24) hx hb hts i_Mo hown hK hP 0 rfl rfl 19 (by decide) (hts _ q429) (fun _ h9 => h9) rfl d_Mo_table_280 ?_
          refine lv_iload hx hb d_Mo_table_283 (lv_at hl 3 rfl) ?_
          refine lv_iconst (v := 1) hx hb d_Mo_table_285 (by decide) ?_
          refine lv_isub hx hb d_Mo_table_286 ?_
          obtain ⟨hi100, h⟩ := Ix_e h
          refine va_iald hx hb hK hP 4 1 rfl rfl hi100 d_Mo_table_287 ?_
          refine lv_goto (tgt := 292) hx hb d_Mo_table_288 (by decide) ?_
          exact hj94 (g_4 (i4 - 1).toNatClampNeg) _ _ _ h hP hD hS hl
set_option maxHeartbeats 4000000 in
set_option maxRecDepth 100000 in
theorem w_Mo_table_120 {p : Program} {l : Launch} {e : Env} {R : Room} {s : State} {m : MethodId} {args : Array Value} {below : List Frame} {meth : Method} {c : Code} {Q : State → Prop} {G : GX} {A : Nat → Prop} (C0 : Cx p s m args meth c b_Mo_table 8 y_Mo_table none) (hRf : 2 ≤ R.frames) (hRl : 45 ≤ R.locals) (hA : ∀ q, s.heap.size ≤ q → A q) (hK : KX G s) (hT : TX G A s) (N : Nat) (i1 : Int32) (i2 : Int32) (y0_3 : Int32) (y0_4 : Int32) (y0_5 : Int32) (y0_6 : Int32) (y0_7 : Int32) (y0_8 : Int32) (y0_9 : Int32) (y0_10 : Int32) (y0_11 : Int32) (y0_13 : Int32) (y0_14 : Int32) (y0_15 : Int32) (m1 : Nat) (g_1 : (Nat → Int32)) (m2 : Nat) (g_2 : (Nat → Int32)) (m3 : Nat) (g_3 : (Nat → Int32)) (m4 : Nat) (m5 : Nat) (g_5 : (Nat → Int32)) (m6 : Nat) (g_6 : (Nat → Int32)) (c0 c1 c2 c3 c4 c5 c6 u0_1 u0_2 u0_22 u0_23 : Nat) (out : Nat × Int32 × Int32 × (Nat → Int32)) {kc ks : Nat} (hkc : kc ≤ R.cells) (hks : ks ≤ R.slots)
    (kx153 : ∀ (H : Heap) (locs : List Loc) (ls : Array Slot), out.1 = 0 → va_P G.1 classes [(c0, .inr (9, [.ref c1, .ref u0_1, .ref u0_2, .int y0_3, .int y0_4, .int y0_5, .int y0_6, .int y0_7, .int y0_8, .int y0_9, .int y0_10, .int y0_11, .int out.2.1, .int y0_13, .int y0_14, .int y0_15, .int out.2.2.1, .ref c2, .ref c3, .ref c4, .ref c5, .ref c6, .ref u0_22, .ref u0_23])), (c1, .inl (G.2.1 0, m1, .inl g_1)), (c2, .inl (G.2.1 1, m2, .inl g_2)), (c3, .inl (G.2.1 1, m3, .inl g_3)), (c4, .inl (G.2.1 1, m4, .inl out.2.2.2)), (c5, .inl (G.2.1 1, m5, .inl g_5)), (c6, .inl (G.2.1 1, m6, .inl g_6))] H → va_D A [(c0, .inr (9, [.ref c1, .ref u0_1, .ref u0_2, .int y0_3, .int y0_4, .int y0_5, .int y0_6, .int y0_7, .int y0_8, .int y0_9, .int y0_10, .int y0_11, .int out.2.1, .int y0_13, .int y0_14, .int y0_15, .int out.2.2.1, .ref c2, .ref c3, .ref c4, .ref c5, .ref c6, .ref u0_22, .ref u0_23])), (c1, .inl (G.2.1 0, m1, .inl g_1)), (c2, .inl (G.2.1 1, m2, .inl g_2)), (c3, .inl (G.2.1 1, m3, .inl g_3)), (c4, .inl (G.2.1 1, m4, .inl out.2.2.2)), (c5, .inl (G.2.1 1, m5, .inl g_5)), (c6, .inl (G.2.1 1, m6, .inl g_6))] → va_S A s.heap H locs → lv_has ls 8 [] → W p l e R s m args below meth c H locs kc ks Q (F0 m 153 ls []))
    (kx305 : ∀ (H : Heap) (locs : List Loc) (ls : Array Slot), out.1 = 1 → va_P G.1 classes [(c0, .inr (9, [.ref c1, .ref u0_1, .ref u0_2, .int y0_3, .int y0_4, .int y0_5, .int y0_6, .int y0_7, .int y0_8, .int y0_9, .int y0_10, .int y0_11, .int out.2.1, .int y0_13, .int y0_14, .int y0_15, .int out.2.2.1, .ref c2, .ref c3, .ref c4, .ref c5, .ref c6, .ref u0_22, .ref u0_23])), (c1, .inl (G.2.1 0, m1, .inl g_1)), (c2, .inl (G.2.1 1, m2, .inl g_2)), (c3, .inl (G.2.1 1, m3, .inl g_3)), (c4, .inl (G.2.1 1, m4, .inl out.2.2.2)), (c5, .inl (G.2.1 1, m5, .inl g_5)), (c6, .inl (G.2.1 1, m6, .inl g_6))] H → va_D A [(c0, .inr (9, [.ref c1, .ref u0_1, .ref u0_2, .int y0_3, .int y0_4, .int y0_5, .int y0_6, .int y0_7, .int y0_8, .int y0_9, .int y0_10, .int y0_11, .int out.2.1, .int y0_13, .int y0_14, .int y0_15, .int out.2.2.1, .ref c2, .ref c3, .ref c4, .ref c5, .ref c6, .ref u0_22, .ref u0_23])), (c1, .inl (G.2.1 0, m1, .inl g_1)), (c2, .inl (G.2.1 1, m2, .inl g_2)), (c3, .inl (G.2.1 1, m3, .inl g_3)), (c4, .inl (G.2.1 1, m4, .inl out.2.2.2)), (c5, .inl (G.2.1 1, m5, .inl g_5)), (c6, .inl (G.2.1 1, m6, .inl g_6))] → va_S A s.heap H locs → lv_has ls 8 [(0, .ref c0), (1, .int i1), (2, .int i2)] → W p l e R s m args below meth c H locs kc ks Q (F0 m 305 ls [])) :
    ∀ (n : Nat) (i4 : Int32) (y0_12 : Int32) (y0_16 : Int32) (g_4 : (Nat → Int32)) (H : Heap) (locs : List Loc) (ls : Array Slot), lp_Mo_table_120 N i1 i2 y0_3 m1 g_1 m2 g_2 m3 g_3 m4 n i4 y0_12 y0_16 g_4 = some out → va_P G.1 classes [(c0, .inr (9, [.ref c1, .ref u0_1, .ref u0_2, .int y0_3, .int y0_4, .int y0_5, .int y0_6, .int y0_7, .int y0_8, .int y0_9, .int y0_10, .int y0_11, .int y0_12, .int y0_13, .int y0_14, .int y0_15, .int y0_16, .ref c2, .ref c3, .ref c4, .ref c5, .ref c6, .ref u0_22, .ref u0_23])), (c1, .inl (G.2.1 0, m1, .inl g_1)), (c2, .inl (G.2.1 1, m2, .inl g_2)), (c3, .inl (G.2.1 1, m3, .inl g_3)), (c4, .inl (G.2.1 1, m4, .inl g_4)), (c5, .inl (G.2.1 1, m5, .inl g_5)), (c6, .inl (G.2.1 1, m6, .inl g_6))] H → va_D A [(c0, .inr (9, [.ref c1, .ref u0_1, .ref u0_2, .int y0_3, .int y0_4, .int y0_5, .int y0_6, .int y0_7, .int y0_8, .int y0_9, .int y0_10, .int y0_11, .int y0_12, .int y0_13, .int y0_14, .int y0_15, .int y0_16, .ref c2, .ref c3, .ref c4, .ref c5, .ref c6, .ref u0_22, .ref u0_23])), (c1, .inl (G.2.1 0, m1, .inl g_1)), (c2, .inl (G.2.1 1, m2, .inl g_2)), (c3, .inl (G.2.1 1, m3, .inl g_3)), (c4, .inl (G.2.1 1, m4, .inl g_4)), (c5, .inl (G.2.1 1, m5, .inl g_5)), (c6, .inl (G.2.1 1, m6, .inl g_6))] → va_S A s.heap H locs → lv_has ls 8 [(0, .ref c0), (1, .int i1), (2, .int i2), (4, .int i4)] → W p l e R s m args below meth c H locs kc ks Q (F0 m 120 ls []) := by
  obtain ⟨hx, hb, hml, hown, hts, hr, hlocks, hin⟩ := id C0
  have hown : s.vm.findClass R_Mo = some m.cls := hown
  intro n
  induction n with
  | zero => intro i4 y0_12 y0_16 g_4 H locs ls h; cases h
  | succ n ih =>
    intro i4 y0_12 y0_16 g_4 H locs ls h hP hD hS hl
    replace h : lb_Mo_table_120 N i1 i2 y0_3 m1 g_1 m2 g_2 m3 g_3 m4 (lp_Mo_table_120 N i1 i2 y0_3 m1 g_1 m2 g_2 m3 g_3 m4 n) i4 y0_12 y0_16 g_4 = some out := h
    unfold lb_Mo_table_120 at h
    refine lv_iload hx hb d_Mo_table_120 (lv_at hl 3 rfl) ?_
    refine lv_iload_n hx hb d_Mo_table_122 rfl (lv_at hl 1 rfl) ?_
    refine lv_iload_n hx hb d_Mo_table_123 rfl (lv_at hl 2 rfl) ?_
    refine lv_iadd hx hb d_Mo_table_124 ?_
    refine lv_icmp_ge (tgt := 305) hx hb d_Mo_table_125 (by decide) (fun cq64 => ?_) (fun cq64 => ?_)
    · replace h := (if_pos cq64).symm.trans h
      have eV := so1 h
      subst eV
      exact kx305 _ _ _ rfl hP hD hS (lv_sub hl [0, 1, 2] rfl)
    · replace h := (if_neg cq64).symm.trans h
      refine lv_aload_n hx hb d_Mo_table_128 rfl (lv_at hl 0 rfl) ?_
      refine va_get (D := G.1) (ci := 9) (v := .int y0_16) (C := R_Mo) (T := F_Mo) (N := 24) hx hb hts i_Mo hown hK hP 0 rfl rfl 16 (by decide) (hts _ q488) (fun _ h9 => h9) rfl d_Mo_table_129 ?_
      refine lv_if_ne (tgt := 305) hx hb d_Mo_table_132 (by decide) (fun cq65 => ?_) (fun cq65 => ?_)
      · replace h := (if_neg cq65).symm.trans h
        have eV := so1 h
        subst eV
        exact kx305 _ _ _ rfl hP hD hS (lv_sub hl [0, 1, 2] rfl)
      · replace h := (if_pos cq65).symm.trans h
        refine lv_aload_n hx hb d_Mo_table_135 rfl (lv_at hl 0 rfl) ?_
        refine lv_sipush (v := 320) hx hb d_Mo_table_136 (by decide) ?_
        refine lv_bipush (v := 19) hx hb d_Mo_table_139 (by decide) ?_
        obtain ⟨r66, hc66, h⟩ := Bd_e h
        refine xV_i0 (wr := [(c4, .inl (G.2.1 1, m4, .inl g_4)), (c5, .inl (G.2.1 1, m5, .inl g_5)), (c6, .inl (G.2.1 1, m6, .inl g_6))]) (rest := []) C0 hK hT hA hP hD hS hl.1 (c_Mo_sign l G c0 c1 c2 c3 u0_1 u0_2 c4 c5 c6 u0_22 u0_23 _ y0_3 y0_4 y0_5 y0_6 y0_7 y0_8 y0_9 y0_10 y0_11 y0_12 y0_13 y0_14 y0_15 y0_16 m1 g_1 m2 g_2 m3 g_3 320 19 N r66 hc66) (goodV q498 q499 q500 q439 q501) 2 rfl hd_Mo_sign (Nat.le_trans (by decide) hRf) (Nat.le_trans (by decide) hRl) [0, 1, 2, 3] [4, 5, 6] rfl rfl (by decide) (by decide) (by decide) 9 0 rfl rfl rfl (Nat.le_of_ble_eq_true rfl) d_Mo_table_141 hkc hks (fun w1 H locs hE hP hD hS => ?_)
        subst hE
        have hP : va_P G.1 classes [(c4, .inl (G.2.1 1, m4, .inl g_4)), (c5, .inl (G.2.1 1, m5, .inl g_5)), (c6, .inl (G.2.1 1, m6, .inl g_6)), (c0, .inr (9, [.ref c1, .ref u0_1, .ref u0_2, .int y0_3, .int y0_4, .int y0_5, .int y0_6, .int y0_7, .int y0_8, .int y0_9, .int y0_10, .int y0_11, .int r66.2.1, .int y0_13, .int y0_14, .int y0_15, .int r66.2.2, .ref c2, .ref c3, .ref c4, .ref c5, .ref c6, .ref u0_22, .ref u0_23])), (c1, .inl (G.2.1 0, m1, .inl g_1)), (c2, .inl (G.2.1 1, m2, .inl g_2)), (c3, .inl (G.2.1 1, m3, .inl g_3))] H := hP
        have hD : va_D A [(c4, .inl (G.2.1 1, m4, .inl g_4)), (c5, .inl (G.2.1 1, m5, .inl g_5)), (c6, .inl (G.2.1 1, m6, .inl g_6)), (c0, .inr (9, [.ref c1, .ref u0_1, .ref u0_2, .int y0_3, .int y0_4, .int y0_5, .int y0_6, .int y0_7, .int y0_8, .int y0_9, .int y0_10, .int y0_11, .int r66.2.1, .int y0_13, .int y0_14, .int y0_15, .int r66.2.2, .ref c2, .ref c3, .ref c4, .ref c5, .ref c6, .ref u0_22, .ref u0_23])), (c1, .inl (G.2.1 0, m1, .inl g_1)), (c2, .inl (G.2.1 1, m2, .inl g_2)), (c3, .inl (G.2.1 1, m3, .inl g_3))] := hD
        refine lv_istore (lv' := [(5, .int r66.1), (0, .ref c0), (1, .int i1), (2, .int i2), (4, .int i4)]) hx hb d_Mo_table_144 hl (by decide) rfl (fun ls hl => ?_)
        refine lv_aload_n hx hb d_Mo_table_146 rfl (lv_at hl 1 rfl) ?_
        refine va_get (D := G.1) (ci := 9) (v := .int r66.2.2) (C := R_Mo) (T := F_Mo) (N := 24) hx hb hts i_Mo hown hK hP 3 rfl rfl 16 (by decide) (hts _ q488) (fun _ h9 => h9) rfl d_Mo_table_147 ?_
        refine lv_if_eq (tgt := 154) hx hb d_Mo_table_150 (by decide) (fun cq67 => ?_) (fun cq67 => ?_)
        · replace h := (if_pos cq67).symm.trans h
          refine lv_iload hx hb d_Mo_table_154 (lv_at hl 0 rfl) ?_
          refine lv_bipush (v := 16) hx hb d_Mo_table_156 (by decide) ?_
          refine lv_icmp_ge (tgt := 176) hx hb d_Mo_table_158 (by decide) (fun cq68 => ?_) (fun cq68 => ?_)
          · replace h := (if_pos cq68).symm.trans h
            refine lv_iload hx hb d_Mo_table_176 (lv_at hl 0 rfl) ?_
            refine lv_bipush (v := 16) hx hb d_Mo_table_178 (by decide) ?_
            obtain ⟨j74, ej74, h⟩ := Jn_e h
            have hj74 : ∀ (t74 : Int32 × Int32 × Int32) (H : Heap) (locs : List Loc) (ls : Array Slot), j74 t74 = some out → va_P G.1 classes [(c0, .inr (9, [.ref c1, .ref u0_1, .ref u0_2, .int y0_3, .int y0_4, .int y0_5, .int y0_6, .int y0_7, .int y0_8, .int y0_9, .int y0_10, .int y0_11, .int t74.2.1, .int y0_13, .int y0_14, .int y0_15, .int t74.2.2, .ref c2, .ref c3, .ref c4, .ref c5, .ref c6, .ref u0_22, .ref u0_23])), (c1, .inl (G.2.1 0, m1, .inl g_1)), (c2, .inl (G.2.1 1, m2, .inl g_2)), (c3, .inl (G.2.1 1, m3, .inl g_3)), (c4, .inl (G.2.1 1, m4, .inl g_4)), (c5, .inl (G.2.1 1, m5, .inl g_5)), (c6, .inl (G.2.1 1, m6, .inl g_6))] H → va_D A [(c0, .inr (9, [.ref c1, .ref u0_1, .ref u0_2, .int y0_3, .int y0_4, .int y0_5, .int y0_6, .int y0_7, .int y0_8, .int y0_9, .int y0_10, .int y0_11, .int t74.2.1, .int y0_13, .int y0_14, .int y0_15, .int t74.2.2, .ref c2, .ref c3, .ref c4, .ref c5, .ref c6, .ref u0_22, .ref u0_23])), (c1, .inl (G.2.1 0, m1, .inl g_1)), (c2, .inl (G.2.1 1, m2, .inl g_2)), (c3, .inl (G.2.1 1, m3, .inl g_3)), (c4, .inl (G.2.1 1, m4, .inl g_4)), (c5, .inl (G.2.1 1, m5, .inl g_5)), (c6, .inl (G.2.1 1, m6, .inl g_6))] → va_S A s.heap H locs → lv_has ls 8 [(0, .ref c0), (1, .int i1), (2, .int i2), (4, .int i4), (5, .int r66.1)] → W p l e R s m args below meth c H locs kc ks Q (F0 m 219 ls [.int t74.1]) := by
              intro t74 H locs ls h hP hD hS hl
              replace h := ej74 _ _ h
              refine lv_istore (lv' := [(6, .int t74.1), (0, .ref c0), (1, .int i1), (2, .int i2), (4, .int i4), (5, .int r66.1)]) hx hb d_Mo_table_219 hl (by decide) rfl (fun ls hl => ?_)
              refine lv_iload hx hb d_Mo_table_221 (lv_at hl 5 rfl) ?_
              refine lv_bipush (v := 16) hx hb d_Mo_table_223 (by decide) ?_
              obtain ⟨j80, ej80, h⟩ := Jn_e h
              have hj80 : ∀ (t80 : Int32) (H : Heap) (locs : List Loc) (ls : Array Slot), j80 t80 = some out → va_P G.1 classes [(c0, .inr (9, [.ref c1, .ref u0_1, .ref u0_2, .int y0_3, .int y0_4, .int y0_5, .int y0_6, .int y0_7, .int y0_8, .int y0_9, .int y0_10, .int y0_11, .int t74.2.1, .int y0_13, .int y0_14, .int y0_15, .int t80, .ref c2, .ref c3, .ref c4, .ref c5, .ref c6, .ref u0_22, .ref u0_23])), (c1, .inl (G.2.1 0, m1, .inl g_1)), (c2, .inl (G.2.1 1, m2, .inl g_2)), (c3, .inl (G.2.1 1, m3, .inl g_3)), (c4, .inl (G.2.1 1, m4, .inl g_4)), (c5, .inl (G.2.1 1, m5, .inl g_5)), (c6, .inl (G.2.1 1, m6, .inl g_6))] H → va_D A [(c0, .inr (9, [.ref c1, .ref u0_1, .ref u0_2, .int y0_3, .int y0_4, .int y0_5, .int y0_6, .int y0_7, .int y0_8, .int y0_9, .int y0_10, .int y0_11, .int t74.2.1, .int y0_13, .int y0_14, .int y0_15, .int t80, .ref c2, .ref c3, .ref c4, .ref c5, .ref c6, .ref u0_22, .ref u0_23])), (c1, .inl (G.2.1 0, m1, .inl g_1)), (c2, .inl (G.2.1 1, m2, .inl g_2)), (c3, .inl (G.2.1 1, m3, .inl g_3)), (c4, .inl (G.2.1 1, m4, .inl g_4)), (c5, .inl (G.2.1 1, m5, .inl g_5)), (c6, .inl (G.2.1 1, m6, .inl g_6))] → va_S A s.heap H locs → lv_has ls 8 [(0, .ref c0), (1, .int i1), (2, .int i2), (4, .int i4), (5, .int r66.1), (6, .int t74.1)] → W p l e R s m args below meth c H locs kc ks Q (F0 m 249 ls []) := by
                intro t80 H locs ls h hP hD hS hl
                replace h := ej80 _ _ h
                refine lv_iconst (v := 0) hx hb d_Mo_table_249 (by decide) ?_
                refine lv_istore (lv' := [(7, .int 0), (0, .ref c0), (1, .int i1), (2, .int i2), (4, .int i4), (5, .int r66.1), (6, .int t74.1)]) hx hb d_Mo_table_250 hl (by decide) rfl (fun ls hl => ?_)
                obtain ⟨r101, hc101, h⟩ := Bd_e h
                refine w_Mo_table_252 C0 hRf hRl hA hK hT N i1 i2 r66.1 t74.1 y0_3 y0_4 y0_5 y0_6 y0_7 y0_8 y0_9 y0_10 y0_11 t74.2.1 y0_13 y0_14 y0_15 t80 m1 g_1 m2 g_2 m3 g_3 m4 m5 g_5 m6 g_6 c0 c1 c2 c3 c4 c5 c6 u0_1 u0_2 u0_22 u0_23 r101 (kc := kc) (ks := ks) hkc hks ?_ N i4 0 g_4  _ _ _ hc101 hP hD hS (lv_sub hl [1, 2, 3, 4, 5, 6, 0] rfl)
                · intro H locs ls hP hD hS hl
                  refine lv_goto (tgt := 120) hx hb d_Mo_table_302 (by decide) ?_
                  exact ih r101.1 t74.2.1 t80 r101.2  _ _ _ h hP hD hS hl
              obtain ⟨j106, ej106, h⟩ := Jn_e h
              have hj106 : ∀ (t106 : Unit) (H : Heap) (locs : List Loc) (ls : Array Slot), j106 t106 = some out → va_P G.1 classes [(c0, .inr (9, [.ref c1, .ref u0_1, .ref u0_2, .int y0_3, .int y0_4, .int y0_5, .int y0_6, .int y0_7, .int y0_8, .int y0_9, .int y0_10, .int y0_11, .int t74.2.1, .int y0_13, .int y0_14, .int y0_15, .int t74.2.2, .ref c2, .ref c3, .ref c4, .ref c5, .ref c6, .ref u0_22, .ref u0_23])), (c1, .inl (G.2.1 0, m1, .inl g_1)), (c2, .inl (G.2.1 1, m2, .inl g_2)), (c3, .inl (G.2.1 1, m3, .inl g_3)), (c4, .inl (G.2.1 1, m4, .inl g_4)), (c5, .inl (G.2.1 1, m5, .inl g_5)), (c6, .inl (G.2.1 1, m6, .inl g_6))] H → va_D A [(c0, .inr (9, [.ref c1, .ref u0_1, .ref u0_2, .int y0_3, .int y0_4, .int y0_5, .int y0_6, .int y0_7, .int y0_8, .int y0_9, .int y0_10, .int y0_11, .int t74.2.1, .int y0_13, .int y0_14, .int y0_15, .int t74.2.2, .ref c2, .ref c3, .ref c4, .ref c5, .ref c6, .ref u0_22, .ref u0_23])), (c1, .inl (G.2.1 0, m1, .inl g_1)), (c2, .inl (G.2.1 1, m2, .inl g_2)), (c3, .inl (G.2.1 1, m3, .inl g_3)), (c4, .inl (G.2.1 1, m4, .inl g_4)), (c5, .inl (G.2.1 1, m5, .inl g_5)), (c6, .inl (G.2.1 1, m6, .inl g_6))] → va_S A s.heap H locs → lv_has ls 8 [(0, .ref c0), (1, .int i1), (2, .int i2), (4, .int i4), (5, .int r66.1), (6, .int t74.1)] → W p l e R s m args below meth c H locs kc ks Q (F0 m 244 ls []) := by
                intro t106 H locs ls h hP hD hS hl
                replace h := ej106 _ _ h
                refine lv_aload_n hx hb d_Mo_table_244 rfl (lv_at hl 0 rfl) ?_
                refine lv_iconst (v := 1) hx hb d_Mo_table_245 (by decide) ?_
                refine va_put (D := G.1) (ci := 9) (v := .int 1) (ty := .boolean) (C := R_Mo) (T := F_Mo) (N := 24) hx hb hts i_Mo t_Mo t_Mo_ok n_Mo hown hK hP hD hS 0 rfl rfl 16 (by decide) (hts _ q488) (fun _ h9 => h9) rfl (by decide +kernel) rfl rfl (Nat.le_of_ble_eq_true rfl) d_Mo_table_246 (fun H locs hP hD hS => ?_)
                have hP : va_P G.1 classes [(c0, .inr (9, [.ref c1, .ref u0_1, .ref u0_2, .int y0_3, .int y0_4, .int y0_5, .int y0_6, .int y0_7, .int y0_8, .int y0_9, .int y0_10, .int y0_11, .int t74.2.1, .int y0_13, .int y0_14, .int y0_15, .int 1, .ref c2, .ref c3, .ref c4, .ref c5, .ref c6, .ref u0_22, .ref u0_23])), (c1, .inl (G.2.1 0, m1, .inl g_1)), (c2, .inl (G.2.1 1, m2, .inl g_2)), (c3, .inl (G.2.1 1, m3, .inl g_3)), (c4, .inl (G.2.1 1, m4, .inl g_4)), (c5, .inl (G.2.1 1, m5, .inl g_5)), (c6, .inl (G.2.1 1, m6, .inl g_6))] H := hP
                have hD : va_D A [(c0, .inr (9, [.ref c1, .ref u0_1, .ref u0_2, .int y0_3, .int y0_4, .int y0_5, .int y0_6, .int y0_7, .int y0_8, .int y0_9, .int y0_10, .int y0_11, .int t74.2.1, .int y0_13, .int y0_14, .int y0_15, .int 1, .ref c2, .ref c3, .ref c4, .ref c5, .ref c6, .ref u0_22, .ref u0_23])), (c1, .inl (G.2.1 0, m1, .inl g_1)), (c2, .inl (G.2.1 1, m2, .inl g_2)), (c3, .inl (G.2.1 1, m3, .inl g_3)), (c4, .inl (G.2.1 1, m4, .inl g_4)), (c5, .inl (G.2.1 1, m5, .inl g_5)), (c6, .inl (G.2.1 1, m6, .inl g_6))] := hD
                exact hj80 1 _ _ _ h hP hD hS hl
              obtain ⟨j109, ej109, h⟩ := Jn_e h
              have hj109 : ∀ (t109 : Unit) (H : Heap) (locs : List Loc) (ls : Array Slot), j109 t109 = some out → va_P G.1 classes [(c0, .inr (9, [.ref c1, .ref u0_1, .ref u0_2, .int y0_3, .int y0_4, .int y0_5, .int y0_6, .int y0_7, .int y0_8, .int y0_9, .int y0_10, .int y0_11, .int t74.2.1, .int y0_13, .int y0_14, .int y0_15, .int t74.2.2, .ref c2, .ref c3, .ref c4, .ref c5, .ref c6, .ref u0_22, .ref u0_23])), (c1, .inl (G.2.1 0, m1, .inl g_1)), (c2, .inl (G.2.1 1, m2, .inl g_2)), (c3, .inl (G.2.1 1, m3, .inl g_3)), (c4, .inl (G.2.1 1, m4, .inl g_4)), (c5, .inl (G.2.1 1, m5, .inl g_5)), (c6, .inl (G.2.1 1, m6, .inl g_6))] H → va_D A [(c0, .inr (9, [.ref c1, .ref u0_1, .ref u0_2, .int y0_3, .int y0_4, .int y0_5, .int y0_6, .int y0_7, .int y0_8, .int y0_9, .int y0_10, .int y0_11, .int t74.2.1, .int y0_13, .int y0_14, .int y0_15, .int t74.2.2, .ref c2, .ref c3, .ref c4, .ref c5, .ref c6, .ref u0_22, .ref u0_23])), (c1, .inl (G.2.1 0, m1, .inl g_1)), (c2, .inl (G.2.1 1, m2, .inl g_2)), (c3, .inl (G.2.1 1, m3, .inl g_3)), (c4, .inl (G.2.1 1, m4, .inl g_4)), (c5, .inl (G.2.1 1, m5, .inl g_5)), (c6, .inl (G.2.1 1, m6, .inl g_6))] → va_S A s.heap H locs → lv_has ls 8 [(0, .ref c0), (1, .int i1), (2, .int i2), (4, .int i4), (5, .int r66.1), (6, .int t74.1)] → W p l e R s m args below meth c H locs kc ks Q (F0 m 233 ls []) := by
                intro t109 H locs ls h hP hD hS hl
                replace h := ej109 _ _ h
                refine lv_iload hx hb d_Mo_table_233 (lv_at hl 3 rfl) ?_
                refine lv_iload hx hb d_Mo_table_235 (lv_at hl 5 rfl) ?_
                refine lv_iadd hx hb d_Mo_table_237 ?_
                refine lv_iload_n hx hb d_Mo_table_238 rfl (lv_at hl 1 rfl) ?_
                refine lv_iload_n hx hb d_Mo_table_239 rfl (lv_at hl 2 rfl) ?_
                refine lv_iadd hx hb d_Mo_table_240 ?_
                refine lv_icmp_le (tgt := 249) hx hb d_Mo_table_241 (by decide) (fun cq110 => ?_) (fun cq110 => ?_)
                · replace h := (if_pos cq110).symm.trans h
                  exact hj80 t74.2.2 _ _ _ h hP hD hS hl
                · replace h := (if_neg cq110).symm.trans h
                  exact hj106 () _ _ _ h hP hD hS hl
              refine lv_icmp_ne (tgt := 233) hx hb d_Mo_table_225 (by decide) (fun cq111 => ?_) (fun cq111 => ?_)
              · replace h := (if_neg cq111).symm.trans h
                exact hj109 () _ _ _ h hP hD hS (lv_sub hl [1, 2, 3, 4, 5, 0] rfl)
              · replace h := (if_pos cq111).symm.trans h
                refine lv_iload hx hb d_Mo_table_228 (lv_at hl 4 rfl) ?_
                refine lv_if_eq (tgt := 244) hx hb d_Mo_table_230 (by decide) (fun cq112 => ?_) (fun cq112 => ?_)
                · replace h := (if_pos cq112).symm.trans h
                  exact hj106 () _ _ _ h hP hD hS (lv_sub hl [1, 2, 3, 4, 5, 0] rfl)
                · replace h := (if_neg cq112).symm.trans h
                  exact hj109 () _ _ _ h hP hD hS (lv_sub hl [1, 2, 3, 4, 5, 0] rfl)
            refine lv_icmp_ne (tgt := 193) hx hb d_Mo_table_180 (by decide) (fun cq113 => ?_) (fun cq113 => ?_)
            · replace h := (if_neg cq113).symm.trans h
              refine lv_iload hx hb d_Mo_table_193 (lv_at hl 0 rfl) ?_
              refine lv_bipush (v := 17) hx hb d_Mo_table_195 (by decide) ?_
              refine lv_icmp_ne (tgt := 210) hx hb d_Mo_table_197 (by decide) (fun cq114 => ?_) (fun cq114 => ?_)
              · replace h := (if_neg cq114).symm.trans h
                refine lv_bipush (v := 11) hx hb d_Mo_table_210 (by decide) ?_
                refine lv_aload_n hx hb d_Mo_table_212 rfl (lv_at hl 1 rfl) ?_
                refine lv_bipush (v := 7) hx hb d_Mo_table_213 (by decide) ?_
                obtain ⟨r115, hc115, h⟩ := Bd_e h
                refine xV_i0 (wr := [(c4, .inl (G.2.1 1, m4, .inl g_4)), (c5, .inl (G.2.1 1, m5, .inl g_5)), (c6, .inl (G.2.1 1, m6, .inl g_6)), (c2, .inl (G.2.1 1, m2, .inl g_2)), (c3, .inl (G.2.1 1, m3, .inl g_3))]) (rest := [.int 11]) C0 hK hT hA hP hD hS hl.1 (c_Mo_number l G c0 c1 u0_1 u0_2 c2 c3 c4 c5 c6 u0_22 u0_23 _ y0_3 y0_4 y0_5 y0_6 y0_7 y0_8 y0_9 y0_10 y0_11 r66.2.1 y0_13 y0_14 y0_15 r66.2.2 m1 g_1 7 N r115 hc115) (goodV q494 q495 q496 q439 q497) 1 rfl hd_Mo_number (Nat.le_trans (by decide) hRf) (Nat.le_trans (by decide) hRl) [3, 4] [0, 1, 2, 5, 6] rfl rfl (by decide) (by decide) (by decide) 9 3 rfl rfl rfl (Nat.le_of_ble_eq_true rfl) d_Mo_table_215 hkc hks (fun w1 H locs hE hP hD hS => ?_)
                subst hE
                have hP : va_P G.1 classes [(c4, .inl (G.2.1 1, m4, .inl g_4)), (c5, .inl (G.2.1 1, m5, .inl g_5)), (c6, .inl (G.2.1 1, m6, .inl g_6)), (c2, .inl (G.2.1 1, m2, .inl g_2)), (c3, .inl (G.2.1 1, m3, .inl g_3)), (c0, .inr (9, [.ref c1, .ref u0_1, .ref u0_2, .int y0_3, .int y0_4, .int y0_5, .int y0_6, .int y0_7, .int y0_8, .int y0_9, .int y0_10, .int y0_11, .int r115.2.1, .int y0_13, .int y0_14, .int y0_15, .int r115.2.2, .ref c2, .ref c3, .ref c4, .ref c5, .ref c6, .ref u0_22, .ref u0_23])), (c1, .inl (G.2.1 0, m1, .inl g_1))] H := hP
                have hD : va_D A [(c4, .inl (G.2.1 1, m4, .inl g_4)), (c5, .inl (G.2.1 1, m5, .inl g_5)), (c6, .inl (G.2.1 1, m6, .inl g_6)), (c2, .inl (G.2.1 1, m2, .inl g_2)), (c3, .inl (G.2.1 1, m3, .inl g_3)), (c0, .inr (9, [.ref c1, .ref u0_1, .ref u0_2, .int y0_3, .int y0_4, .int y0_5, .int y0_6, .int y0_7, .int y0_8, .int y0_9, .int y0_10, .int y0_11, .int r115.2.1, .int y0_13, .int y0_14, .int y0_15, .int r115.2.2, .ref c2, .ref c3, .ref c4, .ref c5, .ref c6, .ref u0_22, .ref u0_23])), (c1, .inl (G.2.1 0, m1, .inl g_1))] := hD
                refine lv_iadd hx hb d_Mo_table_218 ?_
                exact hj74 (11 + r115.1, r115.2.1, r115.2.2) _ _ _ h (hP.sub (ws' := [(c0, .inr (9, [.ref c1, .ref u0_1, .ref u0_2, .int y0_3, .int y0_4, .int y0_5, .int y0_6, .int y0_7, .int y0_8, .int y0_9, .int y0_10, .int y0_11, .int r115.2.1, .int y0_13, .int y0_14, .int y0_15, .int r115.2.2, .ref c2, .ref c3, .ref c4, .ref c5, .ref c6, .ref u0_22, .ref u0_23])), (c1, .inl (G.2.1 0, m1, .inl g_1)), (c2, .inl (G.2.1 1, m2, .inl g_2)), (c3, .inl (G.2.1 1, m3, .inl g_3)), (c4, .inl (G.2.1 1, m4, .inl g_4)), (c5, .inl (G.2.1 1, m5, .inl g_5)), (c6, .inl (G.2.1 1, m6, .inl g_6))]) [5, 6, 3, 4, 0, 1, 2] rfl) (hD.sub (ws' := [(c0, .inr (9, [.ref c1, .ref u0_1, .ref u0_2, .int y0_3, .int y0_4, .int y0_5, .int y0_6, .int y0_7, .int y0_8, .int y0_9, .int y0_10, .int y0_11, .int r115.2.1, .int y0_13, .int y0_14, .int y0_15, .int r115.2.2, .ref c2, .ref c3, .ref c4, .ref c5, .ref c6, .ref u0_22, .ref u0_23])), (c1, .inl (G.2.1 0, m1, .inl g_1)), (c2, .inl (G.2.1 1, m2, .inl g_2)), (c3, .inl (G.2.1 1, m3, .inl g_3)), (c4, .inl (G.2.1 1, m4, .inl g_4)), (c5, .inl (G.2.1 1, m5, .inl g_5)), (c6, .inl (G.2.1 1, m6, .inl g_6))]) [5, 6, 3, 4, 0, 1, 2] (by decide) rfl) hS (lv_sub hl [1, 2, 3, 4, 0] rfl)
              · replace h := (if_pos cq114).symm.trans h
                refine lv_iconst (v := 3) hx hb d_Mo_table_200 (by decide) ?_
                refine lv_aload_n hx hb d_Mo_table_201 rfl (lv_at hl 1 rfl) ?_
                refine lv_iconst (v := 3) hx hb d_Mo_table_202 (by decide) ?_
                obtain ⟨r116, hc116, h⟩ := Bd_e h
                refine xV_i0 (wr := [(c4, .inl (G.2.1 1, m4, .inl g_4)), (c5, .inl (G.2.1 1, m5, .inl g_5)), (c6, .inl (G.2.1 1, m6, .inl g_6)), (c2, .inl (G.2.1 1, m2, .inl g_2)), (c3, .inl (G.2.1 1, m3, .inl g_3))]) (rest := [.int 3]) C0 hK hT hA hP hD hS hl.1 (c_Mo_number l G c0 c1 u0_1 u0_2 c2 c3 c4 c5 c6 u0_22 u0_23 _ y0_3 y0_4 y0_5 y0_6 y0_7 y0_8 y0_9 y0_10 y0_11 r66.2.1 y0_13 y0_14 y0_15 r66.2.2 m1 g_1 3 N r116 hc116) (goodV q494 q495 q496 q439 q497) 1 rfl hd_Mo_number (Nat.le_trans (by decide) hRf) (Nat.le_trans (by decide) hRl) [3, 4] [0, 1, 2, 5, 6] rfl rfl (by decide) (by decide) (by decide) 9 3 rfl rfl rfl (Nat.le_of_ble_eq_true rfl) d_Mo_table_203 hkc hks (fun w1 H locs hE hP hD hS => ?_)
                subst hE
                have hP : va_P G.1 classes [(c4, .inl (G.2.1 1, m4, .inl g_4)), (c5, .inl (G.2.1 1, m5, .inl g_5)), (c6, .inl (G.2.1 1, m6, .inl g_6)), (c2, .inl (G.2.1 1, m2, .inl g_2)), (c3, .inl (G.2.1 1, m3, .inl g_3)), (c0, .inr (9, [.ref c1, .ref u0_1, .ref u0_2, .int y0_3, .int y0_4, .int y0_5, .int y0_6, .int y0_7, .int y0_8, .int y0_9, .int y0_10, .int y0_11, .int r116.2.1, .int y0_13, .int y0_14, .int y0_15, .int r116.2.2, .ref c2, .ref c3, .ref c4, .ref c5, .ref c6, .ref u0_22, .ref u0_23])), (c1, .inl (G.2.1 0, m1, .inl g_1))] H := hP
                have hD : va_D A [(c4, .inl (G.2.1 1, m4, .inl g_4)), (c5, .inl (G.2.1 1, m5, .inl g_5)), (c6, .inl (G.2.1 1, m6, .inl g_6)), (c2, .inl (G.2.1 1, m2, .inl g_2)), (c3, .inl (G.2.1 1, m3, .inl g_3)), (c0, .inr (9, [.ref c1, .ref u0_1, .ref u0_2, .int y0_3, .int y0_4, .int y0_5, .int y0_6, .int y0_7, .int y0_8, .int y0_9, .int y0_10, .int y0_11, .int r116.2.1, .int y0_13, .int y0_14, .int y0_15, .int r116.2.2, .ref c2, .ref c3, .ref c4, .ref c5, .ref c6, .ref u0_22, .ref u0_23])), (c1, .inl (G.2.1 0, m1, .inl g_1))] := hD
                refine lv_iadd hx hb d_Mo_table_206 ?_
                refine lv_goto (tgt := 219) hx hb d_Mo_table_207 (by decide) ?_
                exact hj74 (3 + r116.1, r116.2.1, r116.2.2) _ _ _ h (hP.sub (ws' := [(c0, .inr (9, [.ref c1, .ref u0_1, .ref u0_2, .int y0_3, .int y0_4, .int y0_5, .int y0_6, .int y0_7, .int y0_8, .int y0_9, .int y0_10, .int y0_11, .int r116.2.1, .int y0_13, .int y0_14, .int y0_15, .int r116.2.2, .ref c2, .ref c3, .ref c4, .ref c5, .ref c6, .ref u0_22, .ref u0_23])), (c1, .inl (G.2.1 0, m1, .inl g_1)), (c2, .inl (G.2.1 1, m2, .inl g_2)), (c3, .inl (G.2.1 1, m3, .inl g_3)), (c4, .inl (G.2.1 1, m4, .inl g_4)), (c5, .inl (G.2.1 1, m5, .inl g_5)), (c6, .inl (G.2.1 1, m6, .inl g_6))]) [5, 6, 3, 4, 0, 1, 2] rfl) (hD.sub (ws' := [(c0, .inr (9, [.ref c1, .ref u0_1, .ref u0_2, .int y0_3, .int y0_4, .int y0_5, .int y0_6, .int y0_7, .int y0_8, .int y0_9, .int y0_10, .int y0_11, .int r116.2.1, .int y0_13, .int y0_14, .int y0_15, .int r116.2.2, .ref c2, .ref c3, .ref c4, .ref c5, .ref c6, .ref u0_22, .ref u0_23])), (c1, .inl (G.2.1 0, m1, .inl g_1)), (c2, .inl (G.2.1 1, m2, .inl g_2)), (c3, .inl (G.2.1 1, m3, .inl g_3)), (c4, .inl (G.2.1 1, m4, .inl g_4)), (c5, .inl (G.2.1 1, m5, .inl g_5)), (c6, .inl (G.2.1 1, m6, .inl g_6))]) [5, 6, 3, 4, 0, 1, 2] (by decide) rfl) hS (lv_sub hl [1, 2, 3, 4, 0] rfl)
            · replace h := (if_pos cq113).symm.trans h
              refine lv_iconst (v := 3) hx hb d_Mo_table_183 (by decide) ?_
              refine lv_aload_n hx hb d_Mo_table_184 rfl (lv_at hl 1 rfl) ?_
              refine lv_iconst (v := 2) hx hb d_Mo_table_185 (by decide) ?_
              obtain ⟨r117, hc117, h⟩ := Bd_e h
              refine xV_i0 (wr := [(c4, .inl (G.2.1 1, m4, .inl g_4)), (c5, .inl (G.2.1 1, m5, .inl g_5)), (c6, .inl (G.2.1 1, m6, .inl g_6)), (c2, .inl (G.2.1 1, m2, .inl g_2)), (c3, .inl (G.2.1 1, m3, .inl g_3))]) (rest := [.int 3]) C0 hK hT hA hP hD hS hl.1 (c_Mo_number l G c0 c1 u0_1 u0_2 c2 c3 c4 c5 c6 u0_22 u0_23 _ y0_3 y0_4 y0_5 y0_6 y0_7 y0_8 y0_9 y0_10 y0_11 r66.2.1 y0_13 y0_14 y0_15 r66.2.2 m1 g_1 2 N r117 hc117) (goodV q494 q495 q496 q439 q497) 1 rfl hd_Mo_number (Nat.le_trans (by decide) hRf) (Nat.le_trans (by decide) hRl) [3, 4] [0, 1, 2, 5, 6] rfl rfl (by decide) (by decide) (by decide) 9 3 rfl rfl rfl (Nat.le_of_ble_eq_true rfl) d_Mo_table_186 hkc hks (fun w1 H locs hE hP hD hS => ?_)
              subst hE
              have hP : va_P G.1 classes [(c4, .inl (G.2.1 1, m4, .inl g_4)), (c5, .inl (G.2.1 1, m5, .inl g_5)), (c6, .inl (G.2.1 1, m6, .inl g_6)), (c2, .inl (G.2.1 1, m2, .inl g_2)), (c3, .inl (G.2.1 1, m3, .inl g_3)), (c0, .inr (9, [.ref c1, .ref u0_1, .ref u0_2, .int y0_3, .int y0_4, .int y0_5, .int y0_6, .int y0_7, .int y0_8, .int y0_9, .int y0_10, .int y0_11, .int r117.2.1, .int y0_13, .int y0_14, .int y0_15, .int r117.2.2, .ref c2, .ref c3, .ref c4, .ref c5, .ref c6, .ref u0_22, .ref u0_23])), (c1, .inl (G.2.1 0, m1, .inl g_1))] H := hP
              have hD : va_D A [(c4, .inl (G.2.1 1, m4, .inl g_4)), (c5, .inl (G.2.1 1, m5, .inl g_5)), (c6, .inl (G.2.1 1, m6, .inl g_6)), (c2, .inl (G.2.1 1, m2, .inl g_2)), (c3, .inl (G.2.1 1, m3, .inl g_3)), (c0, .inr (9, [.ref c1, .ref u0_1, .ref u0_2, .int y0_3, .int y0_4, .int y0_5, .int y0_6, .int y0_7, .int y0_8, .int y0_9, .int y0_10, .int y0_11, .int r117.2.1, .int y0_13, .int y0_14, .int y0_15, .int r117.2.2, .ref c2, .ref c3, .ref c4, .ref c5, .ref c6, .ref u0_22, .ref u0_23])), (c1, .inl (G.2.1 0, m1, .inl g_1))] := hD
              refine lv_iadd hx hb d_Mo_table_189 ?_
              refine lv_goto (tgt := 219) hx hb d_Mo_table_190 (by decide) ?_
              exact hj74 (3 + r117.1, r117.2.1, r117.2.2) _ _ _ h (hP.sub (ws' := [(c0, .inr (9, [.ref c1, .ref u0_1, .ref u0_2, .int y0_3, .int y0_4, .int y0_5, .int y0_6, .int y0_7, .int y0_8, .int y0_9, .int y0_10, .int y0_11, .int r117.2.1, .int y0_13, .int y0_14, .int y0_15, .int r117.2.2, .ref c2, .ref c3, .ref c4, .ref c5, .ref c6, .ref u0_22, .ref u0_23])), (c1, .inl (G.2.1 0, m1, .inl g_1)), (c2, .inl (G.2.1 1, m2, .inl g_2)), (c3, .inl (G.2.1 1, m3, .inl g_3)), (c4, .inl (G.2.1 1, m4, .inl g_4)), (c5, .inl (G.2.1 1, m5, .inl g_5)), (c6, .inl (G.2.1 1, m6, .inl g_6))]) [5, 6, 3, 4, 0, 1, 2] rfl) (hD.sub (ws' := [(c0, .inr (9, [.ref c1, .ref u0_1, .ref u0_2, .int y0_3, .int y0_4, .int y0_5, .int y0_6, .int y0_7, .int y0_8, .int y0_9, .int y0_10, .int y0_11, .int r117.2.1, .int y0_13, .int y0_14, .int y0_15, .int r117.2.2, .ref c2, .ref c3, .ref c4, .ref c5, .ref c6, .ref u0_22, .ref u0_23])), (c1, .inl (G.2.1 0, m1, .inl g_1)), (c2, .inl (G.2.1 1, m2, .inl g_2)), (c3, .inl (G.2.1 1, m3, .inl g_3)), (c4, .inl (G.2.1 1, m4, .inl g_4)), (c5, .inl (G.2.1 1, m5, .inl g_5)), (c6, .inl (G.2.1 1, m6, .inl g_6))]) [5, 6, 3, 4, 0, 1, 2] (by decide) rfl) hS (lv_sub hl [1, 2, 3, 4, 0] rfl)
          · replace h := (if_neg cq68).symm.trans h
            refine lv_aload_n hx hb d_Mo_table_161 rfl (lv_at hl 1 rfl) ?_
            refine va_get (D := G.1) (ci := 9) (v := .ref c4) (C := R_Mo) (T := F_Mo) (N := 24) hx hb hts i_Mo hown hK hP 3 rfl rfl 19 (by decide) (hts _ q429) (fun _ h9 => h9) rfl d_Mo_table_162 ?_
            refine lv_iload hx hb d_Mo_table_165 (lv_at hl 4 rfl) ?_
            refine lv_iload hx hb d_Mo_table_167 (lv_at hl 0 rfl) ?_
            obtain ⟨hi118, h⟩ := Ix_e h
            refine y_iast hx hb hK hP hD hS 0 1 rfl rfl hi118 d_Mo_table_169 (fun g119 H locs eg119 hP hD hS => ?_)
            replace h := Lt_e h eg119
            have hP : va_P G.1 classes [(c4, .inl (G.2.1 1, m4, .inl g119)), (c5, .inl (G.2.1 1, m5, .inl g_5)), (c6, .inl (G.2.1 1, m6, .inl g_6)), (c0, .inr (9, [.ref c1, .ref u0_1, .ref u0_2, .int y0_3, .int y0_4, .int y0_5, .int y0_6, .int y0_7, .int y0_8, .int y0_9, .int y0_10, .int y0_11, .int r66.2.1, .int y0_13, .int y0_14, .int y0_15, .int r66.2.2, .ref c2, .ref c3, .ref c4, .ref c5, .ref c6, .ref u0_22, .ref u0_23])), (c1, .inl (G.2.1 0, m1, .inl g_1)), (c2, .inl (G.2.1 1, m2, .inl g_2)), (c3, .inl (G.2.1 1, m3, .inl g_3))] H := hP
            have hD : va_D A [(c4, .inl (G.2.1 1, m4, .inl g119)), (c5, .inl (G.2.1 1, m5, .inl g_5)), (c6, .inl (G.2.1 1, m6, .inl g_6)), (c0, .inr (9, [.ref c1, .ref u0_1, .ref u0_2, .int y0_3, .int y0_4, .int y0_5, .int y0_6, .int y0_7, .int y0_8, .int y0_9, .int y0_10, .int y0_11, .int r66.2.1, .int y0_13, .int y0_14, .int y0_15, .int r66.2.2, .ref c2, .ref c3, .ref c4, .ref c5, .ref c6, .ref u0_22, .ref u0_23])), (c1, .inl (G.2.1 0, m1, .inl g_1)), (c2, .inl (G.2.1 1, m2, .inl g_2)), (c3, .inl (G.2.1 1, m3, .inl g_3))] := hD
            obtain ⟨v120, ev120⟩ : ∃ y : Int32, y = i4 + 1 := ⟨_, rfl⟩
            replace h := Lt_e h ev120
            refine lv_iinc (v := v120) (lv' := [(4, .int v120), (5, .int r66.1), (0, .ref c0), (1, .int i1), (2, .int i2)]) hx hb d_Mo_table_170 hl (k := 4) rfl (by rw [ev120]; rfl) (by decide) rfl (fun ls hl => ?_)
            refine lv_goto (tgt := 120) hx hb d_Mo_table_173 (by decide) ?_
            exact ih v120 r66.2.1 r66.2.2 g119  _ _ _ h (hP.sub (ws' := [(c0, .inr (9, [.ref c1, .ref u0_1, .ref u0_2, .int y0_3, .int y0_4, .int y0_5, .int y0_6, .int y0_7, .int y0_8, .int y0_9, .int y0_10, .int y0_11, .int r66.2.1, .int y0_13, .int y0_14, .int y0_15, .int r66.2.2, .ref c2, .ref c3, .ref c4, .ref c5, .ref c6, .ref u0_22, .ref u0_23])), (c1, .inl (G.2.1 0, m1, .inl g_1)), (c2, .inl (G.2.1 1, m2, .inl g_2)), (c3, .inl (G.2.1 1, m3, .inl g_3)), (c4, .inl (G.2.1 1, m4, .inl g119)), (c5, .inl (G.2.1 1, m5, .inl g_5)), (c6, .inl (G.2.1 1, m6, .inl g_6))]) [3, 4, 5, 6, 0, 1, 2] rfl) (hD.sub (ws' := [(c0, .inr (9, [.ref c1, .ref u0_1, .ref u0_2, .int y0_3, .int y0_4, .int y0_5, .int y0_6, .int y0_7, .int y0_8, .int y0_9, .int y0_10, .int y0_11, .int r66.2.1, .int y0_13, .int y0_14, .int y0_15, .int r66.2.2, .ref c2, .ref c3, .ref c4, .ref c5, .ref c6, .ref u0_22, .ref u0_23])), (c1, .inl (G.2.1 0, m1, .inl g_1)), (c2, .inl (G.2.1 1, m2, .inl g_2)), (c3, .inl (G.2.1 1, m3, .inl g_3)), (c4, .inl (G.2.1 1, m4, .inl g119)), (c5, .inl (G.2.1 1, m5, .inl g_5)), (c6, .inl (G.2.1 1, m6, .inl g_6))]) [3, 4, 5, 6, 0, 1, 2] (by decide) rfl) hS (lv_sub hl [2, 3, 4, 0] rfl)
        · replace h := (if_neg cq67).symm.trans h
          have eV := so1 h
          subst eV
          exact kx153 _ _ _ rfl (hP.sub (ws' := [(c0, .inr (9, [.ref c1, .ref u0_1, .ref u0_2, .int y0_3, .int y0_4, .int y0_5, .int y0_6, .int y0_7, .int y0_8, .int y0_9, .int y0_10, .int y0_11, .int r66.2.1, .int y0_13, .int y0_14, .int y0_15, .int r66.2.2, .ref c2, .ref c3, .ref c4, .ref c5, .ref c6, .ref u0_22, .ref u0_23])), (c1, .inl (G.2.1 0, m1, .inl g_1)), (c2, .inl (G.2.1 1, m2, .inl g_2)), (c3, .inl (G.2.1 1, m3, .inl g_3)), (c4, .inl (G.2.1 1, m4, .inl g_4)), (c5, .inl (G.2.1 1, m5, .inl g_5)), (c6, .inl (G.2.1 1, m6, .inl g_6))]) [3, 4, 5, 6, 0, 1, 2] rfl) (hD.sub (ws' := [(c0, .inr (9, [.ref c1, .ref u0_1, .ref u0_2, .int y0_3, .int y0_4, .int y0_5, .int y0_6, .int y0_7, .int y0_8, .int y0_9, .int y0_10, .int y0_11, .int r66.2.1, .int y0_13, .int y0_14, .int y0_15, .int r66.2.2, .ref c2, .ref c3, .ref c4, .ref c5, .ref c6, .ref u0_22, .ref u0_23])), (c1, .inl (G.2.1 0, m1, .inl g_1)), (c2, .inl (G.2.1 1, m2, .inl g_2)), (c3, .inl (G.2.1 1, m3, .inl g_3)), (c4, .inl (G.2.1 1, m4, .inl g_4)), (c5, .inl (G.2.1 1, m5, .inl g_5)), (c6, .inl (G.2.1 1, m6, .inl g_6))]) [3, 4, 5, 6, 0, 1, 2] (by decide) rfl) hS (lv_sub hl [] rfl)
set_option maxHeartbeats 4000000 in
set_option maxRecDepth 100000 in
theorem w_Mo_table_308 {p : Program} {l : Launch} {e : Env} {R : Room} {s : State} {m : MethodId} {args : Array Value} {below : List Frame} {meth : Method} {c : Code} {Q : State → Prop} {G : GX} {A : Nat → Prop} (C0 : Cx p s m args meth c b_Mo_table 8 y_Mo_table none) (hRf : 2 ≤ R.frames) (hRl : 45 ≤ R.locals) (hA : ∀ q, s.heap.size ≤ q → A q) (hK : KX G s) (hT : TX G A s) (N : Nat) (i1 : Int32) (i2 : Int32) (y0_3 : Int32) (y0_4 : Int32) (y0_5 : Int32) (y0_6 : Int32) (y0_7 : Int32) (y0_8 : Int32) (y0_9 : Int32) (y0_10 : Int32) (y0_11 : Int32) (y0_12 : Int32) (y0_13 : Int32) (y0_14 : Int32) (y0_15 : Int32) (y0_16 : Int32) (m1 : Nat) (g_1 : (Nat → Int32)) (m2 : Nat) (m3 : Nat) (g_3 : (Nat → Int32)) (m4 : Nat) (g_4 : (Nat → Int32)) (m5 : Nat) (g_5 : (Nat → Int32)) (m6 : Nat) (g_6 : (Nat → Int32)) (c0 c1 c2 c3 c4 c5 c6 u0_1 u0_2 u0_22 u0_23 : Nat) (out : (Nat → Int32)) {kc ks : Nat} (hkc : kc ≤ R.cells) (hks : ks ≤ R.slots)
    (kx346 : ∀ (H : Heap) (locs : List Loc) (ls : Array Slot), va_P G.1 classes [(c0, .inr (9, [.ref c1, .ref u0_1, .ref u0_2, .int y0_3, .int y0_4, .int y0_5, .int y0_6, .int y0_7, .int y0_8, .int y0_9, .int y0_10, .int y0_11, .int y0_12, .int y0_13, .int y0_14, .int y0_15, .int y0_16, .ref c2, .ref c3, .ref c4, .ref c5, .ref c6, .ref u0_22, .ref u0_23])), (c1, .inl (G.2.1 0, m1, .inl g_1)), (c2, .inl (G.2.1 1, m2, .inl out)), (c3, .inl (G.2.1 1, m3, .inl g_3)), (c4, .inl (G.2.1 1, m4, .inl g_4)), (c5, .inl (G.2.1 1, m5, .inl g_5)), (c6, .inl (G.2.1 1, m6, .inl g_6))] H → va_D A [(c0, .inr (9, [.ref c1, .ref u0_1, .ref u0_2, .int y0_3, .int y0_4, .int y0_5, .int y0_6, .int y0_7, .int y0_8, .int y0_9, .int y0_10, .int y0_11, .int y0_12, .int y0_13, .int y0_14, .int y0_15, .int y0_16, .ref c2, .ref c3, .ref c4, .ref c5, .ref c6, .ref u0_22, .ref u0_23])), (c1, .inl (G.2.1 0, m1, .inl g_1)), (c2, .inl (G.2.1 1, m2, .inl out)), (c3, .inl (G.2.1 1, m3, .inl g_3)), (c4, .inl (G.2.1 1, m4, .inl g_4)), (c5, .inl (G.2.1 1, m5, .inl g_5)), (c6, .inl (G.2.1 1, m6, .inl g_6))] → va_S A s.heap H locs → lv_has ls 8 [(0, .ref c0), (1, .int i1), (2, .int i2)] → W p l e R s m args below meth c H locs kc ks Q (F0 m 346 ls [])) :
    ∀ (n : Nat) (i5 : Int32) (g_2 : (Nat → Int32)) (H : Heap) (locs : List Loc) (ls : Array Slot), lp_Mo_table_308 N i1 m2 m4 g_4 n i5 g_2 = some out → va_P G.1 classes [(c0, .inr (9, [.ref c1, .ref u0_1, .ref u0_2, .int y0_3, .int y0_4, .int y0_5, .int y0_6, .int y0_7, .int y0_8, .int y0_9, .int y0_10, .int y0_11, .int y0_12, .int y0_13, .int y0_14, .int y0_15, .int y0_16, .ref c2, .ref c3, .ref c4, .ref c5, .ref c6, .ref u0_22, .ref u0_23])), (c1, .inl (G.2.1 0, m1, .inl g_1)), (c2, .inl (G.2.1 1, m2, .inl g_2)), (c3, .inl (G.2.1 1, m3, .inl g_3)), (c4, .inl (G.2.1 1, m4, .inl g_4)), (c5, .inl (G.2.1 1, m5, .inl g_5)), (c6, .inl (G.2.1 1, m6, .inl g_6))] H → va_D A [(c0, .inr (9, [.ref c1, .ref u0_1, .ref u0_2, .int y0_3, .int y0_4, .int y0_5, .int y0_6, .int y0_7, .int y0_8, .int y0_9, .int y0_10, .int y0_11, .int y0_12, .int y0_13, .int y0_14, .int y0_15, .int y0_16, .ref c2, .ref c3, .ref c4, .ref c5, .ref c6, .ref u0_22, .ref u0_23])), (c1, .inl (G.2.1 0, m1, .inl g_1)), (c2, .inl (G.2.1 1, m2, .inl g_2)), (c3, .inl (G.2.1 1, m3, .inl g_3)), (c4, .inl (G.2.1 1, m4, .inl g_4)), (c5, .inl (G.2.1 1, m5, .inl g_5)), (c6, .inl (G.2.1 1, m6, .inl g_6))] → va_S A s.heap H locs → lv_has ls 8 [(0, .ref c0), (1, .int i1), (2, .int i2), (5, .int i5)] → W p l e R s m args below meth c H locs kc ks Q (F0 m 308 ls []) := by
  obtain ⟨hx, hb, hml, hown, hts, hr, hlocks, hin⟩ := id C0
  have hown : s.vm.findClass R_Mo = some m.cls := hown
  intro n
  induction n with
  | zero => intro i5 g_2 H locs ls h; cases h
  | succ n ih =>
    intro i5 g_2 H locs ls h hP hD hS hl
    replace h : lb_Mo_table_308 N i1 m2 m4 g_4 (lp_Mo_table_308 N i1 m2 m4 g_4 n) i5 g_2 = some out := h
    unfold lb_Mo_table_308 at h
    refine lv_iload hx hb d_Mo_table_308 (lv_at hl 3 rfl) ?_
    refine lv_sipush (v := 288) hx hb d_Mo_table_310 (by decide) ?_
    refine lv_icmp_ge (tgt := 346) hx hb d_Mo_table_313 (by decide) (fun cq129 => ?_) (fun cq129 => ?_)
    · replace h := (if_pos cq129).symm.trans h
      have eV := so1 h
      subst eV
      exact kx346 _ _ _ hP hD hS (lv_sub hl [0, 1, 2] rfl)
    · replace h := (if_neg cq129).symm.trans h
      refine lv_aload_n hx hb d_Mo_table_316 rfl (lv_at hl 0 rfl) ?_
      refine va_get (D := G.1) (ci := 9) (v := .ref c2) (C := R_Mo) (T := F_Mo) (N := 24) hx hb hts i_Mo hown hK hP 0 rfl rfl 17 (by decide) (hts _ q427) (fun _ h9 => h9) rfl d_Mo_table_317 ?_
      refine lv_iload hx hb d_Mo_table_320 (lv_at hl 3 rfl) ?_
      refine lv_iload hx hb d_Mo_table_322 (lv_at hl 3 rfl) ?_
      refine lv_iload_n hx hb d_Mo_table_324 rfl (lv_at hl 1 rfl) ?_
      obtain ⟨j132, ej132, h⟩ := Jn_e h
      have hj132 : ∀ (t132 : Int32) (H : Heap) (locs : List Loc) (ls : Array Slot), j132 t132 = some out → va_P G.1 classes [(c0, .inr (9, [.ref c1, .ref u0_1, .ref u0_2, .int y0_3, .int y0_4, .int y0_5, .int y0_6, .int y0_7, .int y0_8, .int y0_9, .int y0_10, .int y0_11, .int y0_12, .int y0_13, .int y0_14, .int y0_15, .int y0_16, .ref c2, .ref c3, .ref c4, .ref c5, .ref c6, .ref u0_22, .ref u0_23])), (c1, .inl (G.2.1 0, m1, .inl g_1)), (c2, .inl (G.2.1 1, m2, .inl g_2)), (c3, .inl (G.2.1 1, m3, .inl g_3)), (c4, .inl (G.2.1 1, m4, .inl g_4)), (c5, .inl (G.2.1 1, m5, .inl g_5)), (c6, .inl (G.2.1 1, m6, .inl g_6))] H → va_D A [(c0, .inr (9, [.ref c1, .ref u0_1, .ref u0_2, .int y0_3, .int y0_4, .int y0_5, .int y0_6, .int y0_7, .int y0_8, .int y0_9, .int y0_10, .int y0_11, .int y0_12, .int y0_13, .int y0_14, .int y0_15, .int y0_16, .ref c2, .ref c3, .ref c4, .ref c5, .ref c6, .ref u0_22, .ref u0_23])), (c1, .inl (G.2.1 0, m1, .inl g_1)), (c2, .inl (G.2.1 1, m2, .inl g_2)), (c3, .inl (G.2.1 1, m3, .inl g_3)), (c4, .inl (G.2.1 1, m4, .inl g_4)), (c5, .inl (G.2.1 1, m5, .inl g_5)), (c6, .inl (G.2.1 1, m6, .inl g_6))] → va_S A s.heap H locs → lv_has ls 8 [(0, .ref c0), (1, .int i1), (2, .int i2), (5, .int i5)] → W p l e R s m args below meth c H locs kc ks Q (F0 m 339 ls [.int t132, .int i5, .ref c2]) := by
        intro t132 H locs ls h hP hD hS hl
        replace h := ej132 _ _ h
        obtain ⟨hi133, h⟩ := Ix_e h
        refine y_iast hx hb hK hP hD hS 2 1 rfl rfl hi133 d_Mo_table_339 (fun g134 H locs eg134 hP hD hS => ?_)
        replace h := Lt_e h eg134
        have hP : va_P G.1 classes [(c0, .inr (9, [.ref c1, .ref u0_1, .ref u0_2, .int y0_3, .int y0_4, .int y0_5, .int y0_6, .int y0_7, .int y0_8, .int y0_9, .int y0_10, .int y0_11, .int y0_12, .int y0_13, .int y0_14, .int y0_15, .int y0_16, .ref c2, .ref c3, .ref c4, .ref c5, .ref c6, .ref u0_22, .ref u0_23])), (c1, .inl (G.2.1 0, m1, .inl g_1)), (c2, .inl (G.2.1 1, m2, .inl g134)), (c3, .inl (G.2.1 1, m3, .inl g_3)), (c4, .inl (G.2.1 1, m4, .inl g_4)), (c5, .inl (G.2.1 1, m5, .inl g_5)), (c6, .inl (G.2.1 1, m6, .inl g_6))] H := hP
        have hD : va_D A [(c0, .inr (9, [.ref c1, .ref u0_1, .ref u0_2, .int y0_3, .int y0_4, .int y0_5, .int y0_6, .int y0_7, .int y0_8, .int y0_9, .int y0_10, .int y0_11, .int y0_12, .int y0_13, .int y0_14, .int y0_15, .int y0_16, .ref c2, .ref c3, .ref c4, .ref c5, .ref c6, .ref u0_22, .ref u0_23])), (c1, .inl (G.2.1 0, m1, .inl g_1)), (c2, .inl (G.2.1 1, m2, .inl g134)), (c3, .inl (G.2.1 1, m3, .inl g_3)), (c4, .inl (G.2.1 1, m4, .inl g_4)), (c5, .inl (G.2.1 1, m5, .inl g_5)), (c6, .inl (G.2.1 1, m6, .inl g_6))] := hD
        obtain ⟨v135, ev135⟩ : ∃ y : Int32, y = i5 + 1 := ⟨_, rfl⟩
        replace h := Lt_e h ev135
        refine lv_iinc (v := v135) (lv' := [(5, .int v135), (0, .ref c0), (1, .int i1), (2, .int i2)]) hx hb d_Mo_table_340 hl (k := 3) rfl (by rw [ev135]; rfl) (by decide) rfl (fun ls hl => ?_)
        refine lv_goto (tgt := 308) hx hb d_Mo_table_343 (by decide) ?_
        exact ih v135 g134  _ _ _ h hP hD hS (lv_sub hl [1, 2, 3, 0] rfl)
      refine lv_icmp_ge (tgt := 338) hx hb d_Mo_table_325 (by decide) (fun cq136 => ?_) (fun cq136 => ?_)
      · replace h := (if_pos cq136).symm.trans h
        refine lv_iconst (v := 0) hx hb d_Mo_table_338 (by decide) ?_
        exact hj132 0 _ _ _ h hP hD hS hl
      · replace h := (if_neg cq136).symm.trans h
        refine lv_aload_n hx hb d_Mo_table_328 rfl (lv_at hl 0 rfl) ?_
        refine va_get (D := G.1) (ci := 9) (v := .ref c4) (C := R_Mo) (T := F_Mo) (N := 24) hx hb hts i_Mo hown hK hP 0 rfl rfl 19 (by decide) (hts _ q429) (fun _ h9 => h9) rfl d_Mo_table_329 ?_
        refine lv_iload hx hb d_Mo_table_332 (lv_at hl 3 rfl) ?_
        obtain ⟨hi137, h⟩ := Ix_e h
        refine va_iald hx hb hK hP 4 1 rfl rfl hi137 d_Mo_table_334 ?_
        refine lv_goto (tgt := 339) hx hb d_Mo_table_335 (by decide) ?_
        exact hj132 (g_4 (i5).toNatClampNeg) _ _ _ h hP hD hS hl
set_option maxHeartbeats 4000000 in
set_option maxRecDepth 100000 in
theorem w_Mo_table_349 {p : Program} {l : Launch} {e : Env} {R : Room} {s : State} {m : MethodId} {args : Array Value} {below : List Frame} {meth : Method} {c : Code} {Q : State → Prop} {G : GX} {A : Nat → Prop} (C0 : Cx p s m args meth c b_Mo_table 8 y_Mo_table none) (hRf : 2 ≤ R.frames) (hRl : 45 ≤ R.locals) (hA : ∀ q, s.heap.size ≤ q → A q) (hK : KX G s) (hT : TX G A s) (N : Nat) (i1 : Int32) (i2 : Int32) (y0_3 : Int32) (y0_4 : Int32) (y0_5 : Int32) (y0_6 : Int32) (y0_7 : Int32) (y0_8 : Int32) (y0_9 : Int32) (y0_10 : Int32) (y0_11 : Int32) (y0_12 : Int32) (y0_13 : Int32) (y0_14 : Int32) (y0_15 : Int32) (y0_16 : Int32) (m1 : Nat) (g_1 : (Nat → Int32)) (m2 : Nat) (m3 : Nat) (g_3 : (Nat → Int32)) (m4 : Nat) (g_4 : (Nat → Int32)) (m5 : Nat) (g_5 : (Nat → Int32)) (m6 : Nat) (g_6 : (Nat → Int32)) (c0 c1 c2 c3 c4 c5 c6 u0_1 u0_2 u0_22 u0_23 : Nat) (out : (Nat → Int32)) {kc ks : Nat} (hkc : kc ≤ R.cells) (hks : ks ≤ R.slots)
    (kx392 : ∀ (H : Heap) (locs : List Loc) (ls : Array Slot), va_P G.1 classes [(c0, .inr (9, [.ref c1, .ref u0_1, .ref u0_2, .int y0_3, .int y0_4, .int y0_5, .int y0_6, .int y0_7, .int y0_8, .int y0_9, .int y0_10, .int y0_11, .int y0_12, .int y0_13, .int y0_14, .int y0_15, .int y0_16, .ref c2, .ref c3, .ref c4, .ref c5, .ref c6, .ref u0_22, .ref u0_23])), (c1, .inl (G.2.1 0, m1, .inl g_1)), (c2, .inl (G.2.1 1, m2, .inl out)), (c3, .inl (G.2.1 1, m3, .inl g_3)), (c4, .inl (G.2.1 1, m4, .inl g_4)), (c5, .inl (G.2.1 1, m5, .inl g_5)), (c6, .inl (G.2.1 1, m6, .inl g_6))] H → va_D A [(c0, .inr (9, [.ref c1, .ref u0_1, .ref u0_2, .int y0_3, .int y0_4, .int y0_5, .int y0_6, .int y0_7, .int y0_8, .int y0_9, .int y0_10, .int y0_11, .int y0_12, .int y0_13, .int y0_14, .int y0_15, .int y0_16, .ref c2, .ref c3, .ref c4, .ref c5, .ref c6, .ref u0_22, .ref u0_23])), (c1, .inl (G.2.1 0, m1, .inl g_1)), (c2, .inl (G.2.1 1, m2, .inl out)), (c3, .inl (G.2.1 1, m3, .inl g_3)), (c4, .inl (G.2.1 1, m4, .inl g_4)), (c5, .inl (G.2.1 1, m5, .inl g_5)), (c6, .inl (G.2.1 1, m6, .inl g_6))] → va_S A s.heap H locs → lv_has ls 8 [(0, .ref c0)] → W p l e R s m args below meth c H locs kc ks Q (F0 m 392 ls [])) :
    ∀ (n : Nat) (i5 : Int32) (g_2 : (Nat → Int32)) (H : Heap) (locs : List Loc) (ls : Array Slot), lp_Mo_table_349 N i1 i2 m2 m4 g_4 n i5 g_2 = some out → va_P G.1 classes [(c0, .inr (9, [.ref c1, .ref u0_1, .ref u0_2, .int y0_3, .int y0_4, .int y0_5, .int y0_6, .int y0_7, .int y0_8, .int y0_9, .int y0_10, .int y0_11, .int y0_12, .int y0_13, .int y0_14, .int y0_15, .int y0_16, .ref c2, .ref c3, .ref c4, .ref c5, .ref c6, .ref u0_22, .ref u0_23])), (c1, .inl (G.2.1 0, m1, .inl g_1)), (c2, .inl (G.2.1 1, m2, .inl g_2)), (c3, .inl (G.2.1 1, m3, .inl g_3)), (c4, .inl (G.2.1 1, m4, .inl g_4)), (c5, .inl (G.2.1 1, m5, .inl g_5)), (c6, .inl (G.2.1 1, m6, .inl g_6))] H → va_D A [(c0, .inr (9, [.ref c1, .ref u0_1, .ref u0_2, .int y0_3, .int y0_4, .int y0_5, .int y0_6, .int y0_7, .int y0_8, .int y0_9, .int y0_10, .int y0_11, .int y0_12, .int y0_13, .int y0_14, .int y0_15, .int y0_16, .ref c2, .ref c3, .ref c4, .ref c5, .ref c6, .ref u0_22, .ref u0_23])), (c1, .inl (G.2.1 0, m1, .inl g_1)), (c2, .inl (G.2.1 1, m2, .inl g_2)), (c3, .inl (G.2.1 1, m3, .inl g_3)), (c4, .inl (G.2.1 1, m4, .inl g_4)), (c5, .inl (G.2.1 1, m5, .inl g_5)), (c6, .inl (G.2.1 1, m6, .inl g_6))] → va_S A s.heap H locs → lv_has ls 8 [(0, .ref c0), (1, .int i1), (2, .int i2), (5, .int i5)] → W p l e R s m args below meth c H locs kc ks Q (F0 m 349 ls []) := by
  obtain ⟨hx, hb, hml, hown, hts, hr, hlocks, hin⟩ := id C0
  have hown : s.vm.findClass R_Mo = some m.cls := hown
  intro n
  induction n with
  | zero => intro i5 g_2 H locs ls h; cases h
  | succ n ih =>
    intro i5 g_2 H locs ls h hP hD hS hl
    replace h : lb_Mo_table_349 N i1 i2 m2 m4 g_4 (lp_Mo_table_349 N i1 i2 m2 m4 g_4 n) i5 g_2 = some out := h
    unfold lb_Mo_table_349 at h
    refine lv_iload hx hb d_Mo_table_349 (lv_at hl 3 rfl) ?_
    refine lv_bipush (v := 32) hx hb d_Mo_table_351 (by decide) ?_
    refine lv_icmp_ge (tgt := 392) hx hb d_Mo_table_353 (by decide) (fun cq146 => ?_) (fun cq146 => ?_)
    · replace h := (if_pos cq146).symm.trans h
      have eV := so1 h
      subst eV
      exact kx392 _ _ _ hP hD hS (lv_sub hl [0] rfl)
    · replace h := (if_neg cq146).symm.trans h
      refine lv_aload_n hx hb d_Mo_table_356 rfl (lv_at hl 0 rfl) ?_
      refine va_get (D := G.1) (ci := 9) (v := .ref c2) (C := R_Mo) (T := F_Mo) (N := 24) hx hb hts i_Mo hown hK hP 0 rfl rfl 17 (by decide) (hts _ q427) (fun _ h9 => h9) rfl d_Mo_table_357 ?_
      refine lv_sipush (v := 288) hx hb d_Mo_table_360 (by decide) ?_
      refine lv_iload hx hb d_Mo_table_363 (lv_at hl 3 rfl) ?_
      refine lv_iadd hx hb d_Mo_table_365 ?_
      refine lv_iload hx hb d_Mo_table_366 (lv_at hl 3 rfl) ?_
      refine lv_iload_n hx hb d_Mo_table_368 rfl (lv_at hl 2 rfl) ?_
      obtain ⟨j149, ej149, h⟩ := Jn_e h
      have hj149 : ∀ (t149 : Int32) (H : Heap) (locs : List Loc) (ls : Array Slot), j149 t149 = some out → va_P G.1 classes [(c0, .inr (9, [.ref c1, .ref u0_1, .ref u0_2, .int y0_3, .int y0_4, .int y0_5, .int y0_6, .int y0_7, .int y0_8, .int y0_9, .int y0_10, .int y0_11, .int y0_12, .int y0_13, .int y0_14, .int y0_15, .int y0_16, .ref c2, .ref c3, .ref c4, .ref c5, .ref c6, .ref u0_22, .ref u0_23])), (c1, .inl (G.2.1 0, m1, .inl g_1)), (c2, .inl (G.2.1 1, m2, .inl g_2)), (c3, .inl (G.2.1 1, m3, .inl g_3)), (c4, .inl (G.2.1 1, m4, .inl g_4)), (c5, .inl (G.2.1 1, m5, .inl g_5)), (c6, .inl (G.2.1 1, m6, .inl g_6))] H → va_D A [(c0, .inr (9, [.ref c1, .ref u0_1, .ref u0_2, .int y0_3, .int y0_4, .int y0_5, .int y0_6, .int y0_7, .int y0_8, .int y0_9, .int y0_10, .int y0_11, .int y0_12, .int y0_13, .int y0_14, .int y0_15, .int y0_16, .ref c2, .ref c3, .ref c4, .ref c5, .ref c6, .ref u0_22, .ref u0_23])), (c1, .inl (G.2.1 0, m1, .inl g_1)), (c2, .inl (G.2.1 1, m2, .inl g_2)), (c3, .inl (G.2.1 1, m3, .inl g_3)), (c4, .inl (G.2.1 1, m4, .inl g_4)), (c5, .inl (G.2.1 1, m5, .inl g_5)), (c6, .inl (G.2.1 1, m6, .inl g_6))] → va_S A s.heap H locs → lv_has ls 8 [(0, .ref c0), (1, .int i1), (2, .int i2), (5, .int i5)] → W p l e R s m args below meth c H locs kc ks Q (F0 m 385 ls [.int t149, .int (288 + i5), .ref c2]) := by
        intro t149 H locs ls h hP hD hS hl
        replace h := ej149 _ _ h
        obtain ⟨hi150, h⟩ := Ix_e h
        refine y_iast hx hb hK hP hD hS 2 1 rfl rfl hi150 d_Mo_table_385 (fun g151 H locs eg151 hP hD hS => ?_)
        replace h := Lt_e h eg151
        have hP : va_P G.1 classes [(c0, .inr (9, [.ref c1, .ref u0_1, .ref u0_2, .int y0_3, .int y0_4, .int y0_5, .int y0_6, .int y0_7, .int y0_8, .int y0_9, .int y0_10, .int y0_11, .int y0_12, .int y0_13, .int y0_14, .int y0_15, .int y0_16, .ref c2, .ref c3, .ref c4, .ref c5, .ref c6, .ref u0_22, .ref u0_23])), (c1, .inl (G.2.1 0, m1, .inl g_1)), (c2, .inl (G.2.1 1, m2, .inl g151)), (c3, .inl (G.2.1 1, m3, .inl g_3)), (c4, .inl (G.2.1 1, m4, .inl g_4)), (c5, .inl (G.2.1 1, m5, .inl g_5)), (c6, .inl (G.2.1 1, m6, .inl g_6))] H := hP
        have hD : va_D A [(c0, .inr (9, [.ref c1, .ref u0_1, .ref u0_2, .int y0_3, .int y0_4, .int y0_5, .int y0_6, .int y0_7, .int y0_8, .int y0_9, .int y0_10, .int y0_11, .int y0_12, .int y0_13, .int y0_14, .int y0_15, .int y0_16, .ref c2, .ref c3, .ref c4, .ref c5, .ref c6, .ref u0_22, .ref u0_23])), (c1, .inl (G.2.1 0, m1, .inl g_1)), (c2, .inl (G.2.1 1, m2, .inl g151)), (c3, .inl (G.2.1 1, m3, .inl g_3)), (c4, .inl (G.2.1 1, m4, .inl g_4)), (c5, .inl (G.2.1 1, m5, .inl g_5)), (c6, .inl (G.2.1 1, m6, .inl g_6))] := hD
        obtain ⟨v152, ev152⟩ : ∃ y : Int32, y = i5 + 1 := ⟨_, rfl⟩
        replace h := Lt_e h ev152
        refine lv_iinc (v := v152) (lv' := [(5, .int v152), (0, .ref c0), (1, .int i1), (2, .int i2)]) hx hb d_Mo_table_386 hl (k := 3) rfl (by rw [ev152]; rfl) (by decide) rfl (fun ls hl => ?_)
        refine lv_goto (tgt := 349) hx hb d_Mo_table_389 (by decide) ?_
        exact ih v152 g151  _ _ _ h hP hD hS (lv_sub hl [1, 2, 3, 0] rfl)
      refine lv_icmp_ge (tgt := 384) hx hb d_Mo_table_369 (by decide) (fun cq153 => ?_) (fun cq153 => ?_)
      · replace h := (if_pos cq153).symm.trans h
        refine lv_iconst (v := 0) hx hb d_Mo_table_384 (by decide) ?_
        exact hj149 0 _ _ _ h hP hD hS hl
      · replace h := (if_neg cq153).symm.trans h
        refine lv_aload_n hx hb d_Mo_table_372 rfl (lv_at hl 0 rfl) ?_
        refine va_get (D := G.1) (ci := 9) (v := .ref c4) (C := R_Mo) (T := F_Mo) (N := 24) hx hb hts i_Mo hown hK hP 0 rfl rfl 19 (by decide) (hts _ q429) (fun _ h9 => h9) rfl d_Mo_table_373 ?_
        refine lv_iload_n hx hb d_Mo_table_376 rfl (lv_at hl 1 rfl) ?_
        refine lv_iload hx hb d_Mo_table_377 (lv_at hl 3 rfl) ?_
        refine lv_iadd hx hb d_Mo_table_379 ?_
        obtain ⟨hi154, h⟩ := Ix_e h
        refine va_iald hx hb hK hP 4 1 rfl rfl hi154 d_Mo_table_380 ?_
        refine lv_goto (tgt := 385) hx hb d_Mo_table_381 (by decide) ?_
        exact hj149 (g_4 (i1 + i5).toNatClampNeg) _ _ _ h hP hD hS hl
set_option maxHeartbeats 4000000 in
set_option maxRecDepth 100000 in
theorem w_Mo_table_438 {p : Program} {l : Launch} {e : Env} {R : Room} {s : State} {m : MethodId} {args : Array Value} {below : List Frame} {meth : Method} {c : Code} {Q : State → Prop} {G : GX} {A : Nat → Prop} (C0 : Cx p s m args meth c b_Mo_table 8 y_Mo_table none) (hRf : 2 ≤ R.frames) (hRl : 45 ≤ R.locals) (hA : ∀ q, s.heap.size ≤ q → A q) (hK : KX G s) (hT : TX G A s) (N : Nat) (i5 : Int32) (y0_3 : Int32) (y0_4 : Int32) (y0_5 : Int32) (y0_6 : Int32) (y0_7 : Int32) (y0_8 : Int32) (y0_9 : Int32) (y0_10 : Int32) (y0_11 : Int32) (y0_12 : Int32) (y0_13 : Int32) (y0_14 : Int32) (y0_15 : Int32) (y0_16 : Int32) (m1 : Nat) (g_1 : (Nat → Int32)) (m2 : Nat) (g_2 : (Nat → Int32)) (m3 : Nat) (g_3 : (Nat → Int32)) (m4 : Nat) (g_4 : (Nat → Int32)) (m5 : Nat) (g_5 : (Nat → Int32)) (m6 : Nat) (g_6 : (Nat → Int32)) (c0 c1 c2 c3 c4 c5 c6 u0_1 u0_2 u0_22 u0_23 : Nat) (out : Int32) {kc ks : Nat} (hkc : kc ≤ R.cells) (hks : ks ≤ R.slots)
    (kx468 : ∀ (H : Heap) (locs : List Loc) (ls : Array Slot), va_P G.1 classes [(c0, .inr (9, [.ref c1, .ref u0_1, .ref u0_2, .int y0_3, .int y0_4, .int y0_5, .int y0_6, .int y0_7, .int y0_8, .int y0_9, .int y0_10, .int y0_11, .int y0_12, .int y0_13, .int y0_14, .int y0_15, .int y0_16, .ref c2, .ref c3, .ref c4, .ref c5, .ref c6, .ref u0_22, .ref u0_23])), (c1, .inl (G.2.1 0, m1, .inl g_1)), (c2, .inl (G.2.1 1, m2, .inl g_2)), (c3, .inl (G.2.1 1, m3, .inl g_3)), (c4, .inl (G.2.1 1, m4, .inl g_4)), (c5, .inl (G.2.1 1, m5, .inl g_5)), (c6, .inl (G.2.1 1, m6, .inl g_6))] H → va_D A [(c0, .inr (9, [.ref c1, .ref u0_1, .ref u0_2, .int y0_3, .int y0_4, .int y0_5, .int y0_6, .int y0_7, .int y0_8, .int y0_9, .int y0_10, .int y0_11, .int y0_12, .int y0_13, .int y0_14, .int y0_15, .int y0_16, .ref c2, .ref c3, .ref c4, .ref c5, .ref c6, .ref u0_22, .ref u0_23])), (c1, .inl (G.2.1 0, m1, .inl g_1)), (c2, .inl (G.2.1 1, m2, .inl g_2)), (c3, .inl (G.2.1 1, m3, .inl g_3)), (c4, .inl (G.2.1 1, m4, .inl g_4)), (c5, .inl (G.2.1 1, m5, .inl g_5)), (c6, .inl (G.2.1 1, m6, .inl g_6))] → va_S A s.heap H locs → lv_has ls 8 [(0, .ref c0), (5, .int i5), (6, .int out)] → W p l e R s m args below meth c H locs kc ks Q (F0 m 468 ls [])) :
    ∀ (n : Nat) (i6 : Int32) (i7 : Int32) (H : Heap) (locs : List Loc) (ls : Array Slot), lp_Mo_table_438 N m2 g_2 n i6 i7 = some out → va_P G.1 classes [(c0, .inr (9, [.ref c1, .ref u0_1, .ref u0_2, .int y0_3, .int y0_4, .int y0_5, .int y0_6, .int y0_7, .int y0_8, .int y0_9, .int y0_10, .int y0_11, .int y0_12, .int y0_13, .int y0_14, .int y0_15, .int y0_16, .ref c2, .ref c3, .ref c4, .ref c5, .ref c6, .ref u0_22, .ref u0_23])), (c1, .inl (G.2.1 0, m1, .inl g_1)), (c2, .inl (G.2.1 1, m2, .inl g_2)), (c3, .inl (G.2.1 1, m3, .inl g_3)), (c4, .inl (G.2.1 1, m4, .inl g_4)), (c5, .inl (G.2.1 1, m5, .inl g_5)), (c6, .inl (G.2.1 1, m6, .inl g_6))] H → va_D A [(c0, .inr (9, [.ref c1, .ref u0_1, .ref u0_2, .int y0_3, .int y0_4, .int y0_5, .int y0_6, .int y0_7, .int y0_8, .int y0_9, .int y0_10, .int y0_11, .int y0_12, .int y0_13, .int y0_14, .int y0_15, .int y0_16, .ref c2, .ref c3, .ref c4, .ref c5, .ref c6, .ref u0_22, .ref u0_23])), (c1, .inl (G.2.1 0, m1, .inl g_1)), (c2, .inl (G.2.1 1, m2, .inl g_2)), (c3, .inl (G.2.1 1, m3, .inl g_3)), (c4, .inl (G.2.1 1, m4, .inl g_4)), (c5, .inl (G.2.1 1, m5, .inl g_5)), (c6, .inl (G.2.1 1, m6, .inl g_6))] → va_S A s.heap H locs → lv_has ls 8 [(0, .ref c0), (5, .int i5), (6, .int i6), (7, .int i7)] → W p l e R s m args below meth c H locs kc ks Q (F0 m 438 ls []) := by
  obtain ⟨hx, hb, hml, hown, hts, hr, hlocks, hin⟩ := id C0
  have hown : s.vm.findClass R_Mo = some m.cls := hown
  intro n
  induction n with
  | zero => intro i6 i7 H locs ls h; cases h
  | succ n ih =>
    intro i6 i7 H locs ls h hP hD hS hl
    replace h : lb_Mo_table_438 N m2 g_2 (lp_Mo_table_438 N m2 g_2 n) i6 i7 = some out := h
    unfold lb_Mo_table_438 at h
    refine lv_iload hx hb d_Mo_table_438 (lv_at hl 3 rfl) ?_
    refine lv_bipush (v := 32) hx hb d_Mo_table_440 (by decide) ?_
    refine lv_icmp_ge (tgt := 468) hx hb d_Mo_table_442 (by decide) (fun cq169 => ?_) (fun cq169 => ?_)
    · replace h := (if_pos cq169).symm.trans h
      have eV := so1 h
      subst eV
      exact kx468 _ _ _ hP hD hS (lv_sub hl [0, 1, 2] rfl)
    · replace h := (if_neg cq169).symm.trans h
      refine lv_aload_n hx hb d_Mo_table_445 rfl (lv_at hl 0 rfl) ?_
      refine va_get (D := G.1) (ci := 9) (v := .ref c2) (C := R_Mo) (T := F_Mo) (N := 24) hx hb hts i_Mo hown hK hP 0 rfl rfl 17 (by decide) (hts _ q427) (fun _ h9 => h9) rfl d_Mo_table_446 ?_
      refine lv_sipush (v := 288) hx hb d_Mo_table_449 (by decide) ?_
      refine lv_iload hx hb d_Mo_table_452 (lv_at hl 3 rfl) ?_
      refine lv_iadd hx hb d_Mo_table_454 ?_
      obtain ⟨hi170, h⟩ := Ix_e h
      refine va_iald hx hb hK hP 2 1 rfl rfl hi170 d_Mo_table_455 ?_
      refine lv_if_le (tgt := 462) hx hb d_Mo_table_456 (by decide) (fun cq171 => ?_) (fun cq171 => ?_)
      · replace h := (if_pos cq171).symm.trans h
        obtain ⟨v172, ev172⟩ : ∃ y : Int32, y = i7 + 1 := ⟨_, rfl⟩
        replace h := Lt_e h ev172
        refine lv_iinc (v := v172) (lv' := [(7, .int v172), (0, .ref c0), (5, .int i5), (6, .int i6)]) hx hb d_Mo_table_462 hl (k := 3) rfl (by rw [ev172]; rfl) (by decide) rfl (fun ls hl => ?_)
        refine lv_goto (tgt := 438) hx hb d_Mo_table_465 (by decide) ?_
        exact ih i6 v172  _ _ _ h hP hD hS (lv_sub hl [1, 2, 3, 0] rfl)
      · replace h := (if_neg cq171).symm.trans h
        obtain ⟨v173, ev173⟩ : ∃ y : Int32, y = i6 + 1 := ⟨_, rfl⟩
        replace h := Lt_e h ev173
        refine lv_iinc (v := v173) (lv' := [(6, .int v173), (0, .ref c0), (5, .int i5), (7, .int i7)]) hx hb d_Mo_table_459 hl (k := 2) rfl (by rw [ev173]; rfl) (by decide) rfl (fun ls hl => ?_)
        obtain ⟨v174, ev174⟩ : ∃ y : Int32, y = i7 + 1 := ⟨_, rfl⟩
        replace h := Lt_e h ev174
        refine lv_iinc (v := v174) (lv' := [(7, .int v174), (6, .int v173), (0, .ref c0), (5, .int i5)]) hx hb d_Mo_table_462 hl (k := 3) rfl (by rw [ev174]; rfl) (by decide) rfl (fun ls hl => ?_)
        refine lv_goto (tgt := 438) hx hb d_Mo_table_465 (by decide) ?_
        exact ih v173 v174  _ _ _ h hP hD hS (lv_sub hl [2, 3, 1, 0] rfl)
set_option maxHeartbeats 4000000 in
set_option maxRecDepth 100000 in
theorem c_Mo_table (l : Launch) (G : GX) (a0 a1 a2 a3 a4 a5 a6 o0_1 o0_2 o0_22 o0_23 : Nat) (sz : Nat) (x0_3 : Int32) (x0_4 : Int32) (x0_5 : Int32) (x0_6 : Int32) (x0_7 : Int32) (x0_8 : Int32) (x0_9 : Int32) (x0_10 : Int32) (x0_11 : Int32) (x0_12 : Int32) (x0_13 : Int32) (x0_14 : Int32) (x0_15 : Int32) (x0_16 : Int32) (n1 : Nat) (f1 : (Nat → Int32)) (n2 : Nat) (f2 : (Nat → Int32)) (n3 : Nat) (f3 : (Nat → Int32)) (n4 : Nat) (f4 : (Nat → Int32)) (n5 : Nat) (f5 : (Nat → Int32)) (n6 : Nat) (f6 : (Nat → Int32))  (N : Nat) (V : Int32 × Int32 × (Nat → Int32) × (Nat → Int32) × (Nat → Int32) × (Nat → Int32) × (Nat → Int32)) (h : f_Mo_table N x0_3 x0_12 x0_16 n1 f1 n2 f2 n3 f3 n4 f4 n5 f5 n6 f6 = some V) :
    Met l y_Mo_table (wd y_Mo_table b_Mo_table 8 none) { frames := 2, cells := 0, slots := 0, locals := 45 } (PX G [.ref a0] sz [(a0, .inr (9, [.ref a1, .ref o0_1, .ref o0_2, .int x0_3, .int x0_4, .int x0_5, .int x0_6, .int x0_7, .int x0_8, .int x0_9, .int x0_10, .int x0_11, .int x0_12, .int x0_13, .int x0_14, .int x0_15, .int x0_16, .ref a2, .ref a5, .ref a6, .ref a3, .ref a4, .ref o0_22, .ref o0_23])), (a1, .inl (G.2.1 0, n1, .inl f1)), (a2, .inl (G.2.1 1, n2, .inl f2)), (a3, .inl (G.2.1 1, n3, .inl f3)), (a4, .inl (G.2.1 1, n4, .inl f4)), (a5, .inl (G.2.1 1, n5, .inl f5)), (a6, .inl (G.2.1 1, n6, .inl f6))])
      (QXv G (fun w => w = [(a0, .inr (9, [.ref a1, .ref o0_1, .ref o0_2, .int x0_3, .int x0_4, .int x0_5, .int x0_6, .int x0_7, .int x0_8, .int x0_9, .int x0_10, .int x0_11, .int V.1, .int x0_13, .int x0_14, .int x0_15, .int V.2.1, .ref a2, .ref a5, .ref a6, .ref a3, .ref a4, .ref o0_22, .ref o0_23])), (a1, .inl (G.2.1 0, n1, .inl f1)), (a2, .inl (G.2.1 1, n2, .inl V.2.2.1)), (a3, .inl (G.2.1 1, n3, .inl V.2.2.2.1)), (a4, .inl (G.2.1 1, n4, .inl V.2.2.2.2.1)), (a5, .inl (G.2.1 1, n5, .inl V.2.2.2.2.2.1)), (a6, .inl (G.2.1 1, n6, .inl V.2.2.2.2.2.2))]) (va_A [(a0, .inr (9, [.ref a1, .ref o0_1, .ref o0_2, .int x0_3, .int x0_4, .int x0_5, .int x0_6, .int x0_7, .int x0_8, .int x0_9, .int x0_10, .int x0_11, .int x0_12, .int x0_13, .int x0_14, .int x0_15, .int x0_16, .ref a2, .ref a5, .ref a6, .ref a3, .ref a4, .ref o0_22, .ref o0_23])), (a1, .inl (G.2.1 0, n1, .inl f1)), (a2, .inl (G.2.1 1, n2, .inl f2)), (a3, .inl (G.2.1 1, n3, .inl f3)), (a4, .inl (G.2.1 1, n4, .inl f4)), (a5, .inl (G.2.1 1, n5, .inl f5)), (a6, .inl (G.2.1 1, n6, .inl f6))] sz)) 0 0 (va_A [(a0, .inr (9, [.ref a1, .ref o0_1, .ref o0_2, .int x0_3, .int x0_4, .int x0_5, .int x0_6, .int x0_7, .int x0_8, .int x0_9, .int x0_10, .int x0_11, .int x0_12, .int x0_13, .int x0_14, .int x0_15, .int x0_16, .ref a2, .ref a5, .ref a6, .ref a3, .ref a4, .ref o0_22, .ref o0_23])), (a1, .inl (G.2.1 0, n1, .inl f1)), (a2, .inl (G.2.1 1, n2, .inl f2)), (a3, .inl (G.2.1 1, n3, .inl f3)), (a4, .inl (G.2.1 1, n4, .inl f4)), (a5, .inl (G.2.1 1, n5, .inl f5)), (a6, .inl (G.2.1 1, n6, .inl f6))] sz) := by
  refine Met_in (QQ := fun A => QXv G (fun w => w = [(a0, .inr (9, [.ref a1, .ref o0_1, .ref o0_2, .int x0_3, .int x0_4, .int x0_5, .int x0_6, .int x0_7, .int x0_8, .int x0_9, .int x0_10, .int x0_11, .int V.1, .int x0_13, .int x0_14, .int x0_15, .int V.2.1, .ref a2, .ref a5, .ref a6, .ref a3, .ref a4, .ref o0_22, .ref o0_23])), (a1, .inl (G.2.1 0, n1, .inl f1)), (a2, .inl (G.2.1 1, n2, .inl V.2.2.1)), (a3, .inl (G.2.1 1, n3, .inl V.2.2.2.1)), (a4, .inl (G.2.1 1, n4, .inl V.2.2.2.2.1)), (a5, .inl (G.2.1 1, n5, .inl V.2.2.2.2.2.1)), (a6, .inl (G.2.1 1, n6, .inl V.2.2.2.2.2.2))]) A) (by decide) (Nat.le_of_ble_eq_true rfl) (fun p e s m below meth c R Q A ls C0 hRf hRl hRc hRs hP hK hD hT hA hS hl hQ => ?_)
  obtain ⟨hx, hb, hml, hown, hts, hr, hlocks, hin⟩ := id C0
  have hown : s.vm.findClass R_Mo = some m.cls := hown
  have hl : lv_has ls 8 [(0, .ref a0)] := hl
  unfold f_Mo_table at h
  have hkc : 0 ≤ R.cells := Nat.zero_le _
  have hks : 0 ≤ R.slots := Nat.zero_le _
  obtain ⟨H, hH⟩ : ∃ H, H = s.heap := ⟨_, rfl⟩
  obtain ⟨locs, hlc⟩ : ∃ x : List Loc, x = [] := ⟨_, rfl⟩
  rw [← hH] at hP
  have hS : va_S A s.heap H locs := by rw [hH, hlc]; exact hS
  suffices hgo : W p l e R s m [.ref a0].toArray below meth c H locs 0 0 Q (F0 m 0 ls []) by rw [hH, hlc] at hgo; exact hgo
  refine lv_sipush (v := 257) hx hb d_Mo_table_0 (by decide) ?_
  refine lv_aload_n hx hb d_Mo_table_3 rfl (lv_at hl 0 rfl) ?_
  refine lv_iconst (v := 5) hx hb d_Mo_table_4 (by decide) ?_
  obtain ⟨r1, hc1, h⟩ := Bd_e h
  refine xV_i0 (wr := [(a2, .inl (G.2.1 1, n2, .inl f2)), (a3, .inl (G.2.1 1, n3, .inl f3)), (a4, .inl (G.2.1 1, n4, .inl f4)), (a5, .inl (G.2.1 1, n5, .inl f5)), (a6, .inl (G.2.1 1, n6, .inl f6))]) (rest := [.int 257]) C0 hK hT hA hP hD hS hl.1 (c_Mo_number l G a0 a1 o0_1 o0_2 a2 a5 a6 a3 a4 o0_22 o0_23 _ x0_3 x0_4 x0_5 x0_6 x0_7 x0_8 x0_9 x0_10 x0_11 x0_12 x0_13 x0_14 x0_15 x0_16 n1 f1 5 N r1 hc1) (goodV q494 q495 q496 q439 q497) 1 rfl hd_Mo_number (Nat.le_trans (by decide) hRf) (Nat.le_trans (by decide) hRl) [0, 1] [2, 3, 4, 5, 6] rfl rfl (by decide) (by decide) (by decide) 9 0 rfl rfl rfl (Nat.le_of_ble_eq_true rfl) d_Mo_table_5 hkc hks (fun w1 H locs hE hP hD hS => ?_)
  subst hE
  have hP : va_P G.1 classes [(a2, .inl (G.2.1 1, n2, .inl f2)), (a3, .inl (G.2.1 1, n3, .inl f3)), (a4, .inl (G.2.1 1, n4, .inl f4)), (a5, .inl (G.2.1 1, n5, .inl f5)), (a6, .inl (G.2.1 1, n6, .inl f6)), (a0, .inr (9, [.ref a1, .ref o0_1, .ref o0_2, .int x0_3, .int x0_4, .int x0_5, .int x0_6, .int x0_7, .int x0_8, .int x0_9, .int x0_10, .int x0_11, .int r1.2.1, .int x0_13, .int x0_14, .int x0_15, .int r1.2.2, .ref a2, .ref a5, .ref a6, .ref a3, .ref a4, .ref o0_22, .ref o0_23])), (a1, .inl (G.2.1 0, n1, .inl f1))] H := hP
  have hD : va_D A [(a2, .inl (G.2.1 1, n2, .inl f2)), (a3, .inl (G.2.1 1, n3, .inl f3)), (a4, .inl (G.2.1 1, n4, .inl f4)), (a5, .inl (G.2.1 1, n5, .inl f5)), (a6, .inl (G.2.1 1, n6, .inl f6)), (a0, .inr (9, [.ref a1, .ref o0_1, .ref o0_2, .int x0_3, .int x0_4, .int x0_5, .int x0_6, .int x0_7, .int x0_8, .int x0_9, .int x0_10, .int x0_11, .int r1.2.1, .int x0_13, .int x0_14, .int x0_15, .int r1.2.2, .ref a2, .ref a5, .ref a6, .ref a3, .ref a4, .ref o0_22, .ref o0_23])), (a1, .inl (G.2.1 0, n1, .inl f1))] := hD
  refine lv_iadd hx hb d_Mo_table_8 ?_
  refine lv_topi (fun v2 ev2 => ?_)
  replace h := Lt_e h ev2
  refine lv_istore_n (lv' := [(1, .int v2), (0, .ref a0)]) hx hb d_Mo_table_9 rfl hl (by decide) rfl (fun ls hl => ?_)
  refine lv_iconst (v := 1) hx hb d_Mo_table_10 (by decide) ?_
  refine lv_aload_n hx hb d_Mo_table_11 rfl (lv_at hl 1 rfl) ?_
  refine lv_iconst (v := 5) hx hb d_Mo_table_12 (by decide) ?_
  obtain ⟨r3, hc3, h⟩ := Bd_e h
  refine xV_i0 (wr := [(a2, .inl (G.2.1 1, n2, .inl f2)), (a3, .inl (G.2.1 1, n3, .inl f3)), (a4, .inl (G.2.1 1, n4, .inl f4)), (a5, .inl (G.2.1 1, n5, .inl f5)), (a6, .inl (G.2.1 1, n6, .inl f6))]) (rest := [.int 1]) C0 hK hT hA hP hD hS hl.1 (c_Mo_number l G a0 a1 o0_1 o0_2 a2 a5 a6 a3 a4 o0_22 o0_23 _ x0_3 x0_4 x0_5 x0_6 x0_7 x0_8 x0_9 x0_10 x0_11 r1.2.1 x0_13 x0_14 x0_15 r1.2.2 n1 f1 5 N r3 hc3) (goodV q494 q495 q496 q439 q497) 1 rfl hd_Mo_number (Nat.le_trans (by decide) hRf) (Nat.le_trans (by decide) hRl) [5, 6] [0, 1, 2, 3, 4] rfl rfl (by decide) (by decide) (by decide) 9 5 rfl rfl rfl (Nat.le_of_ble_eq_true rfl) d_Mo_table_13 hkc hks (fun w1 H locs hE hP hD hS => ?_)
  subst hE
  have hP : va_P G.1 classes [(a2, .inl (G.2.1 1, n2, .inl f2)), (a3, .inl (G.2.1 1, n3, .inl f3)), (a4, .inl (G.2.1 1, n4, .inl f4)), (a5, .inl (G.2.1 1, n5, .inl f5)), (a6, .inl (G.2.1 1, n6, .inl f6)), (a0, .inr (9, [.ref a1, .ref o0_1, .ref o0_2, .int x0_3, .int x0_4, .int x0_5, .int x0_6, .int x0_7, .int x0_8, .int x0_9, .int x0_10, .int x0_11, .int r3.2.1, .int x0_13, .int x0_14, .int x0_15, .int r3.2.2, .ref a2, .ref a5, .ref a6, .ref a3, .ref a4, .ref o0_22, .ref o0_23])), (a1, .inl (G.2.1 0, n1, .inl f1))] H := hP
  have hD : va_D A [(a2, .inl (G.2.1 1, n2, .inl f2)), (a3, .inl (G.2.1 1, n3, .inl f3)), (a4, .inl (G.2.1 1, n4, .inl f4)), (a5, .inl (G.2.1 1, n5, .inl f5)), (a6, .inl (G.2.1 1, n6, .inl f6)), (a0, .inr (9, [.ref a1, .ref o0_1, .ref o0_2, .int x0_3, .int x0_4, .int x0_5, .int x0_6, .int x0_7, .int x0_8, .int x0_9, .int x0_10, .int x0_11, .int r3.2.1, .int x0_13, .int x0_14, .int x0_15, .int r3.2.2, .ref a2, .ref a5, .ref a6, .ref a3, .ref a4, .ref o0_22, .ref o0_23])), (a1, .inl (G.2.1 0, n1, .inl f1))] := hD
  refine lv_iadd hx hb d_Mo_table_16 ?_
  refine lv_topi (fun v4 ev4 => ?_)
  replace h := Lt_e h ev4
  refine lv_istore_n (lv' := [(2, .int v4), (1, .int v2), (0, .ref a0)]) hx hb d_Mo_table_17 rfl hl (by decide) rfl (fun ls hl => ?_)
  refine lv_iconst (v := 4) hx hb d_Mo_table_18 (by decide) ?_
  refine lv_aload_n hx hb d_Mo_table_19 rfl (lv_at hl 2 rfl) ?_
  refine lv_iconst (v := 4) hx hb d_Mo_table_20 (by decide) ?_
  obtain ⟨r5, hc5, h⟩ := Bd_e h
  refine xV_i0 (wr := [(a2, .inl (G.2.1 1, n2, .inl f2)), (a3, .inl (G.2.1 1, n3, .inl f3)), (a4, .inl (G.2.1 1, n4, .inl f4)), (a5, .inl (G.2.1 1, n5, .inl f5)), (a6, .inl (G.2.1 1, n6, .inl f6))]) (rest := [.int 4]) C0 hK hT hA hP hD hS hl.1 (c_Mo_number l G a0 a1 o0_1 o0_2 a2 a5 a6 a3 a4 o0_22 o0_23 _ x0_3 x0_4 x0_5 x0_6 x0_7 x0_8 x0_9 x0_10 x0_11 r3.2.1 x0_13 x0_14 x0_15 r3.2.2 n1 f1 4 N r5 hc5) (goodV q494 q495 q496 q439 q497) 1 rfl hd_Mo_number (Nat.le_trans (by decide) hRf) (Nat.le_trans (by decide) hRl) [5, 6] [0, 1, 2, 3, 4] rfl rfl (by decide) (by decide) (by decide) 9 5 rfl rfl rfl (Nat.le_of_ble_eq_true rfl) d_Mo_table_21 hkc hks (fun w1 H locs hE hP hD hS => ?_)
  subst hE
  have hP : va_P G.1 classes [(a2, .inl (G.2.1 1, n2, .inl f2)), (a3, .inl (G.2.1 1, n3, .inl f3)), (a4, .inl (G.2.1 1, n4, .inl f4)), (a5, .inl (G.2.1 1, n5, .inl f5)), (a6, .inl (G.2.1 1, n6, .inl f6)), (a0, .inr (9, [.ref a1, .ref o0_1, .ref o0_2, .int x0_3, .int x0_4, .int x0_5, .int x0_6, .int x0_7, .int x0_8, .int x0_9, .int x0_10, .int x0_11, .int r5.2.1, .int x0_13, .int x0_14, .int x0_15, .int r5.2.2, .ref a2, .ref a5, .ref a6, .ref a3, .ref a4, .ref o0_22, .ref o0_23])), (a1, .inl (G.2.1 0, n1, .inl f1))] H := hP
  have hD : va_D A [(a2, .inl (G.2.1 1, n2, .inl f2)), (a3, .inl (G.2.1 1, n3, .inl f3)), (a4, .inl (G.2.1 1, n4, .inl f4)), (a5, .inl (G.2.1 1, n5, .inl f5)), (a6, .inl (G.2.1 1, n6, .inl f6)), (a0, .inr (9, [.ref a1, .ref o0_1, .ref o0_2, .int x0_3, .int x0_4, .int x0_5, .int x0_6, .int x0_7, .int x0_8, .int x0_9, .int x0_10, .int x0_11, .int r5.2.1, .int x0_13, .int x0_14, .int x0_15, .int r5.2.2, .ref a2, .ref a5, .ref a6, .ref a3, .ref a4, .ref o0_22, .ref o0_23])), (a1, .inl (G.2.1 0, n1, .inl f1))] := hD
  refine lv_iadd hx hb d_Mo_table_24 ?_
  refine lv_topi (fun v6 ev6 => ?_)
  replace h := Lt_e h ev6
  refine lv_istore_n (lv' := [(3, .int v6), (2, .int v4), (1, .int v2), (0, .ref a0)]) hx hb d_Mo_table_25 rfl hl (by decide) rfl (fun ls hl => ?_)
  refine lv_iload_n hx hb d_Mo_table_26 rfl (lv_at hl 2 rfl) ?_
  refine lv_sipush (v := 286) hx hb d_Mo_table_27 (by decide) ?_
  obtain ⟨j10, ej10, h⟩ := Jn_e h
  have hj10 : ∀ (t10 : Int32) (H : Heap) (locs : List Loc) (ls : Array Slot), j10 t10 = some V → va_P G.1 classes [(a0, .inr (9, [.ref a1, .ref o0_1, .ref o0_2, .int x0_3, .int x0_4, .int x0_5, .int x0_6, .int x0_7, .int x0_8, .int x0_9, .int x0_10, .int x0_11, .int r5.2.1, .int x0_13, .int x0_14, .int x0_15, .int t10, .ref a2, .ref a5, .ref a6, .ref a3, .ref a4, .ref o0_22, .ref o0_23])), (a1, .inl (G.2.1 0, n1, .inl f1)), (a2, .inl (G.2.1 1, n2, .inl f2)), (a5, .inl (G.2.1 1, n5, .inl f5)), (a6, .inl (G.2.1 1, n6, .inl f6)), (a3, .inl (G.2.1 1, n3, .inl f3)), (a4, .inl (G.2.1 1, n4, .inl f4))] H → va_D A [(a0, .inr (9, [.ref a1, .ref o0_1, .ref o0_2, .int x0_3, .int x0_4, .int x0_5, .int x0_6, .int x0_7, .int x0_8, .int x0_9, .int x0_10, .int x0_11, .int r5.2.1, .int x0_13, .int x0_14, .int x0_15, .int t10, .ref a2, .ref a5, .ref a6, .ref a3, .ref a4, .ref o0_22, .ref o0_23])), (a1, .inl (G.2.1 0, n1, .inl f1)), (a2, .inl (G.2.1 1, n2, .inl f2)), (a5, .inl (G.2.1 1, n5, .inl f5)), (a6, .inl (G.2.1 1, n6, .inl f6)), (a3, .inl (G.2.1 1, n3, .inl f3)), (a4, .inl (G.2.1 1, n4, .inl f4))] → va_S A s.heap H locs → lv_has ls 8 [(0, .ref a0), (1, .int v2), (2, .int v4), (3, .int v6)] → W p l e R s m [.ref a0].toArray below meth c H locs 0 0 Q (F0 m 44 ls []) := by
    intro t10 H locs ls h hP hD hS hl
    replace h := ej10 _ _ h
    refine lv_iconst (v := 0) hx hb d_Mo_table_44 (by decide) ?_
    refine lv_istore (lv' := [(4, .int 0), (0, .ref a0), (1, .int v2), (2, .int v4), (3, .int v6)]) hx hb d_Mo_table_45 hl (by decide) rfl (fun ls hl => ?_)
    obtain ⟨r29, hc29, h⟩ := Bd_e h
    refine w_Mo_table_47 C0 hRf hRl hA hK hT N v2 v4 v6 x0_3 x0_4 x0_5 x0_6 x0_7 x0_8 x0_9 x0_10 x0_11 x0_13 x0_14 x0_15 n1 f1 n2 n5 f5 n6 f6 n3 f3 n4 f4 a0 a1 a2 a5 a6 a3 a4 o0_1 o0_2 o0_22 o0_23 r29 (kc := 0) (ks := 0) hkc hks ?_ N 0 r5.2.1 t10 f2  _ _ _ hc29 hP hD hS (lv_sub hl [1, 2, 3, 4, 0] rfl)
    · intro H locs ls hP hD hS hl
      refine lv_aload_n hx hb d_Mo_table_89 rfl (lv_at hl 0 rfl) ?_
      refine lv_sipush (v := 320) hx hb d_Mo_table_90 (by decide) ?_
      refine lv_bipush (v := 19) hx hb d_Mo_table_93 (by decide) ?_
      obtain ⟨r30, hc30, h⟩ := Bd_e h
      refine xV_i0 (wr := [(a1, .inl (G.2.1 0, n1, .inl f1)), (a5, .inl (G.2.1 1, n5, .inl f5)), (a6, .inl (G.2.1 1, n6, .inl f6)), (a3, .inl (G.2.1 1, n3, .inl f3)), (a4, .inl (G.2.1 1, n4, .inl f4))]) (rest := []) C0 hK hT hA hP hD hS hl.1 (c_Mo_fill l G a0 a2 a1 o0_1 o0_2 a5 a6 a3 a4 o0_22 o0_23 _ x0_3 x0_4 x0_5 x0_6 x0_7 x0_8 x0_9 x0_10 x0_11 r29.1 x0_13 x0_14 x0_15 r29.2.1 n2 r29.2.2 320 19 N r30 hc30) (goodV q514 q515 q516 q439 q517) 2 rfl hd_Mo_fill (Nat.le_trans (by decide) hRf) (Nat.le_trans (by decide) hRl) [0, 2] [1, 3, 4, 5, 6] rfl rfl (by decide) (by decide) (by decide) 9 0 rfl rfl rfl (Nat.le_of_ble_eq_true rfl) d_Mo_table_95 hkc hks (fun w1 H locs hE hP hD hS => ?_)
      subst hE
      have hP : va_P G.1 classes [(a1, .inl (G.2.1 0, n1, .inl f1)), (a5, .inl (G.2.1 1, n5, .inl f5)), (a6, .inl (G.2.1 1, n6, .inl f6)), (a3, .inl (G.2.1 1, n3, .inl f3)), (a4, .inl (G.2.1 1, n4, .inl f4)), (a0, .inr (9, [.ref a1, .ref o0_1, .ref o0_2, .int x0_3, .int x0_4, .int x0_5, .int x0_6, .int x0_7, .int x0_8, .int x0_9, .int x0_10, .int x0_11, .int r29.1, .int x0_13, .int x0_14, .int x0_15, .int r29.2.1, .ref a2, .ref a5, .ref a6, .ref a3, .ref a4, .ref o0_22, .ref o0_23])), (a2, .inl (G.2.1 1, n2, .inl r29.2.2))] H := hP
      have hD : va_D A [(a1, .inl (G.2.1 0, n1, .inl f1)), (a5, .inl (G.2.1 1, n5, .inl f5)), (a6, .inl (G.2.1 1, n6, .inl f6)), (a3, .inl (G.2.1 1, n3, .inl f3)), (a4, .inl (G.2.1 1, n4, .inl f4)), (a0, .inr (9, [.ref a1, .ref o0_1, .ref o0_2, .int x0_3, .int x0_4, .int x0_5, .int x0_6, .int x0_7, .int x0_8, .int x0_9, .int x0_10, .int x0_11, .int r29.1, .int x0_13, .int x0_14, .int x0_15, .int r29.2.1, .ref a2, .ref a5, .ref a6, .ref a3, .ref a4, .ref o0_22, .ref o0_23])), (a2, .inl (G.2.1 1, n2, .inl r29.2.2))] := hD
      refine lv_ldc (v := 32768) hx hb hown (hts _ q473) d_Mo_table_98 ?_
      obtain ⟨j32, ej32, h⟩ := Jn_e h
      have hj32 : ∀ (t32 : Int32) (H : Heap) (locs : List Loc) (ls : Array Slot), j32 t32 = some V → va_P G.1 classes [(a0, .inr (9, [.ref a1, .ref o0_1, .ref o0_2, .int x0_3, .int x0_4, .int x0_5, .int x0_6, .int x0_7, .int x0_8, .int x0_9, .int x0_10, .int x0_11, .int r29.1, .int x0_13, .int x0_14, .int x0_15, .int t32, .ref a2, .ref a5, .ref a6, .ref a3, .ref a4, .ref o0_22, .ref o0_23])), (a1, .inl (G.2.1 0, n1, .inl f1)), (a2, .inl (G.2.1 1, n2, .inl r29.2.2)), (a5, .inl (G.2.1 1, n5, .inl f5)), (a6, .inl (G.2.1 1, n6, .inl f6)), (a3, .inl (G.2.1 1, n3, .inl f3)), (a4, .inl (G.2.1 1, n4, .inl f4))] H → va_D A [(a0, .inr (9, [.ref a1, .ref o0_1, .ref o0_2, .int x0_3, .int x0_4, .int x0_5, .int x0_6, .int x0_7, .int x0_8, .int x0_9, .int x0_10, .int x0_11, .int r29.1, .int x0_13, .int x0_14, .int x0_15, .int t32, .ref a2, .ref a5, .ref a6, .ref a3, .ref a4, .ref o0_22, .ref o0_23])), (a1, .inl (G.2.1 0, n1, .inl f1)), (a2, .inl (G.2.1 1, n2, .inl r29.2.2)), (a5, .inl (G.2.1 1, n5, .inl f5)), (a6, .inl (G.2.1 1, n6, .inl f6)), (a3, .inl (G.2.1 1, n3, .inl f3)), (a4, .inl (G.2.1 1, n4, .inl f4))] → va_S A s.heap H locs → lv_has ls 8 [(0, .ref a0), (1, .int v2), (2, .int v4)] → W p l e R s m [.ref a0].toArray below meth c H locs 0 0 Q (F0 m 108 ls []) := by
        intro t32 H locs ls h hP hD hS hl
        replace h := ej32 _ _ h
        refine lv_aload_n hx hb d_Mo_table_108 rfl (lv_at hl 0 rfl) ?_
        refine lv_sipush (v := 320) hx hb d_Mo_table_109 (by decide) ?_
        refine lv_bipush (v := 19) hx hb d_Mo_table_112 (by decide) ?_
        obtain ⟨r33, hc33, h⟩ := Bd_e h
        refine xV_v0 (wr := [(a1, .inl (G.2.1 0, n1, .inl f1)), (a6, .inl (G.2.1 1, n6, .inl f6))]) (rest := []) C0 hK hT hA hP hD hS hl.1 (c_Mo_assign l G a0 a3 a2 a4 a5 a1 o0_1 o0_2 a6 o0_22 o0_23 _ x0_3 x0_4 x0_5 x0_6 x0_7 x0_8 x0_9 x0_10 x0_11 r29.1 x0_13 x0_14 x0_15 t32 n3 f3 n2 r29.2.2 n4 f4 n5 f5 320 19 N r33 hc33) (goodV q518 q519 q520 q439 q521) 2 rfl hd_Mo_assign (Nat.le_trans (by decide) hRf) (Nat.le_trans (by decide) hRl) [0, 5, 2, 6, 3] [1, 4] rfl rfl (by decide) (by decide) (by decide) 9 0 rfl rfl rfl (Nat.le_of_ble_eq_true rfl) d_Mo_table_114 hkc hks (fun w1 H locs hE hP hD hS => ?_)
        subst hE
        have hP : va_P G.1 classes [(a1, .inl (G.2.1 0, n1, .inl f1)), (a6, .inl (G.2.1 1, n6, .inl f6)), (a0, .inr (9, [.ref a1, .ref o0_1, .ref o0_2, .int x0_3, .int x0_4, .int x0_5, .int x0_6, .int x0_7, .int x0_8, .int x0_9, .int x0_10, .int x0_11, .int r29.1, .int x0_13, .int x0_14, .int x0_15, .int t32, .ref a2, .ref a5, .ref a6, .ref a3, .ref a4, .ref o0_22, .ref o0_23])), (a3, .inl (G.2.1 1, n3, .inl r33.1)), (a2, .inl (G.2.1 1, n2, .inl r29.2.2)), (a4, .inl (G.2.1 1, n4, .inl r33.2.1)), (a5, .inl (G.2.1 1, n5, .inl r33.2.2))] H := hP
        have hD : va_D A [(a1, .inl (G.2.1 0, n1, .inl f1)), (a6, .inl (G.2.1 1, n6, .inl f6)), (a0, .inr (9, [.ref a1, .ref o0_1, .ref o0_2, .int x0_3, .int x0_4, .int x0_5, .int x0_6, .int x0_7, .int x0_8, .int x0_9, .int x0_10, .int x0_11, .int r29.1, .int x0_13, .int x0_14, .int x0_15, .int t32, .ref a2, .ref a5, .ref a6, .ref a3, .ref a4, .ref o0_22, .ref o0_23])), (a3, .inl (G.2.1 1, n3, .inl r33.1)), (a2, .inl (G.2.1 1, n2, .inl r29.2.2)), (a4, .inl (G.2.1 1, n4, .inl r33.2.1)), (a5, .inl (G.2.1 1, n5, .inl r33.2.2))] := hD
        refine lv_iconst (v := 0) hx hb d_Mo_table_117 (by decide) ?_
        refine lv_istore (lv' := [(4, .int 0), (0, .ref a0), (1, .int v2), (2, .int v4)]) hx hb d_Mo_table_118 hl (by decide) rfl (fun ls hl => ?_)
        obtain ⟨r121, hc121, h⟩ := Bd_e h
        refine w_Mo_table_120 C0 hRf hRl hA hK hT N v2 v4 x0_3 x0_4 x0_5 x0_6 x0_7 x0_8 x0_9 x0_10 x0_11 x0_13 x0_14 x0_15 n1 f1 n2 r29.2.2 n5 r33.2.2 n6 n3 r33.1 n4 r33.2.1 a0 a1 a2 a5 a6 a3 a4 o0_1 o0_2 o0_22 o0_23 r121 (kc := 0) (ks := 0) hkc hks ?_ ?_ N 0 r29.1 t32 f6  _ _ _ hc121 (hP.sub (ws' := [(a0, .inr (9, [.ref a1, .ref o0_1, .ref o0_2, .int x0_3, .int x0_4, .int x0_5, .int x0_6, .int x0_7, .int x0_8, .int x0_9, .int x0_10, .int x0_11, .int r29.1, .int x0_13, .int x0_14, .int x0_15, .int t32, .ref a2, .ref a5, .ref a6, .ref a3, .ref a4, .ref o0_22, .ref o0_23])), (a1, .inl (G.2.1 0, n1, .inl f1)), (a2, .inl (G.2.1 1, n2, .inl r29.2.2)), (a5, .inl (G.2.1 1, n5, .inl r33.2.2)), (a6, .inl (G.2.1 1, n6, .inl f6)), (a3, .inl (G.2.1 1, n3, .inl r33.1)), (a4, .inl (G.2.1 1, n4, .inl r33.2.1))]) [2, 0, 4, 6, 1, 3, 5] rfl) (hD.sub (ws' := [(a0, .inr (9, [.ref a1, .ref o0_1, .ref o0_2, .int x0_3, .int x0_4, .int x0_5, .int x0_6, .int x0_7, .int x0_8, .int x0_9, .int x0_10, .int x0_11, .int r29.1, .int x0_13, .int x0_14, .int x0_15, .int t32, .ref a2, .ref a5, .ref a6, .ref a3, .ref a4, .ref o0_22, .ref o0_23])), (a1, .inl (G.2.1 0, n1, .inl f1)), (a2, .inl (G.2.1 1, n2, .inl r29.2.2)), (a5, .inl (G.2.1 1, n5, .inl r33.2.2)), (a6, .inl (G.2.1 1, n6, .inl f6)), (a3, .inl (G.2.1 1, n3, .inl r33.1)), (a4, .inl (G.2.1 1, n4, .inl r33.2.1))]) [2, 0, 4, 6, 1, 3, 5] (by decide) rfl) hS (lv_sub hl [1, 2, 3, 0] rfl)
        · intro H locs ls et hP hD hS hl
          replace h := (if_pos et).symm.trans h
          have eV := so1 h
          subst eV
          exact x_vret C0 hQ (hP.sub (ws' := [(a0, .inr (9, [.ref a1, .ref o0_1, .ref o0_2, .int x0_3, .int x0_4, .int x0_5, .int x0_6, .int x0_7, .int x0_8, .int x0_9, .int x0_10, .int x0_11, .int r121.2.1, .int x0_13, .int x0_14, .int x0_15, .int r121.2.2.1, .ref a2, .ref a5, .ref a6, .ref a3, .ref a4, .ref o0_22, .ref o0_23])), (a1, .inl (G.2.1 0, n1, .inl f1)), (a2, .inl (G.2.1 1, n2, .inl r29.2.2)), (a3, .inl (G.2.1 1, n3, .inl r33.1)), (a4, .inl (G.2.1 1, n4, .inl r33.2.1)), (a5, .inl (G.2.1 1, n5, .inl r33.2.2)), (a6, .inl (G.2.1 1, n6, .inl r121.2.2.2))]) [0, 1, 2, 5, 6, 3, 4] rfl) (hD.sub (ws' := [(a0, .inr (9, [.ref a1, .ref o0_1, .ref o0_2, .int x0_3, .int x0_4, .int x0_5, .int x0_6, .int x0_7, .int x0_8, .int x0_9, .int x0_10, .int x0_11, .int r121.2.1, .int x0_13, .int x0_14, .int x0_15, .int r121.2.2.1, .ref a2, .ref a5, .ref a6, .ref a3, .ref a4, .ref o0_22, .ref o0_23])), (a1, .inl (G.2.1 0, n1, .inl f1)), (a2, .inl (G.2.1 1, n2, .inl r29.2.2)), (a3, .inl (G.2.1 1, n3, .inl r33.1)), (a4, .inl (G.2.1 1, n4, .inl r33.2.1)), (a5, .inl (G.2.1 1, n5, .inl r33.2.2)), (a6, .inl (G.2.1 1, n6, .inl r121.2.2.2))]) [0, 1, 2, 5, 6, 3, 4] (by decide) rfl) hS rfl (Nat.zero_le _) (Nat.zero_le _) d_Mo_table_153
        · intro H locs ls et hP hD hS hl
          replace h := (if_neg (show ¬ r121.1 = 0 by rw [et]; decide)).symm.trans h
          refine lv_iconst (v := 0) hx hb d_Mo_table_305 (by decide) ?_
          refine lv_istore (lv' := [(5, .int 0), (0, .ref a0), (1, .int v2), (2, .int v4)]) hx hb d_Mo_table_306 hl (by decide) rfl (fun ls hl => ?_)
          obtain ⟨r138, hc138, h⟩ := Bd_e h
          refine w_Mo_table_308 C0 hRf hRl hA hK hT N v2 v4 x0_3 x0_4 x0_5 x0_6 x0_7 x0_8 x0_9 x0_10 x0_11 r121.2.1 x0_13 x0_14 x0_15 r121.2.2.1 n1 f1 n2 n5 r33.2.2 n6 r121.2.2.2 n3 r33.1 n4 r33.2.1 a0 a1 a2 a5 a6 a3 a4 o0_1 o0_2 o0_22 o0_23 r138 (kc := 0) (ks := 0) hkc hks ?_ N 0 r29.2.2  _ _ _ hc138 hP hD hS (lv_sub hl [1, 2, 3, 0] rfl)
          · intro H locs ls hP hD hS hl
            refine lv_iconst (v := 0) hx hb d_Mo_table_346 (by decide) ?_
            refine lv_istore (lv' := [(5, .int 0), (0, .ref a0), (1, .int v2), (2, .int v4)]) hx hb d_Mo_table_347 hl (by decide) rfl (fun ls hl => ?_)
            obtain ⟨r155, hc155, h⟩ := Bd_e h
            refine w_Mo_table_349 C0 hRf hRl hA hK hT N v2 v4 x0_3 x0_4 x0_5 x0_6 x0_7 x0_8 x0_9 x0_10 x0_11 r121.2.1 x0_13 x0_14 x0_15 r121.2.2.1 n1 f1 n2 n5 r33.2.2 n6 r121.2.2.2 n3 r33.1 n4 r33.2.1 a0 a1 a2 a5 a6 a3 a4 o0_1 o0_2 o0_22 o0_23 r155 (kc := 0) (ks := 0) hkc hks ?_ N 0 r138  _ _ _ hc155 hP hD hS (lv_sub hl [1, 2, 3, 0] rfl)
            · intro H locs ls hP hD hS hl
              refine lv_aload_n hx hb d_Mo_table_392 rfl (lv_at hl 0 rfl) ?_
              refine lv_iconst (v := 0) hx hb d_Mo_table_393 (by decide) ?_
              refine lv_sipush (v := 288) hx hb d_Mo_table_394 (by decide) ?_
              obtain ⟨r156, hc156, h⟩ := Bd_e h
              refine xV_i0 (wr := [(a1, .inl (G.2.1 0, n1, .inl f1)), (a5, .inl (G.2.1 1, n5, .inl r33.2.2)), (a6, .inl (G.2.1 1, n6, .inl r121.2.2.2)), (a3, .inl (G.2.1 1, n3, .inl r33.1)), (a4, .inl (G.2.1 1, n4, .inl r33.2.1))]) (rest := []) C0 hK hT hA hP hD hS hl.1 (c_Mo_fill l G a0 a2 a1 o0_1 o0_2 a5 a6 a3 a4 o0_22 o0_23 _ x0_3 x0_4 x0_5 x0_6 x0_7 x0_8 x0_9 x0_10 x0_11 r121.2.1 x0_13 x0_14 x0_15 r121.2.2.1 n2 r155 0 288 N r156 hc156) (goodV q514 q515 q516 q439 q517) 2 rfl hd_Mo_fill (Nat.le_trans (by decide) hRf) (Nat.le_trans (by decide) hRl) [0, 2] [1, 3, 4, 5, 6] rfl rfl (by decide) (by decide) (by decide) 9 0 rfl rfl rfl (Nat.le_of_ble_eq_true rfl) d_Mo_table_397 hkc hks (fun w1 H locs hE hP hD hS => ?_)
              subst hE
              have hP : va_P G.1 classes [(a1, .inl (G.2.1 0, n1, .inl f1)), (a5, .inl (G.2.1 1, n5, .inl r33.2.2)), (a6, .inl (G.2.1 1, n6, .inl r121.2.2.2)), (a3, .inl (G.2.1 1, n3, .inl r33.1)), (a4, .inl (G.2.1 1, n4, .inl r33.2.1)), (a0, .inr (9, [.ref a1, .ref o0_1, .ref o0_2, .int x0_3, .int x0_4, .int x0_5, .int x0_6, .int x0_7, .int x0_8, .int x0_9, .int x0_10, .int x0_11, .int r121.2.1, .int x0_13, .int x0_14, .int x0_15, .int r121.2.2.1, .ref a2, .ref a5, .ref a6, .ref a3, .ref a4, .ref o0_22, .ref o0_23])), (a2, .inl (G.2.1 1, n2, .inl r155))] H := hP
              have hD : va_D A [(a1, .inl (G.2.1 0, n1, .inl f1)), (a5, .inl (G.2.1 1, n5, .inl r33.2.2)), (a6, .inl (G.2.1 1, n6, .inl r121.2.2.2)), (a3, .inl (G.2.1 1, n3, .inl r33.1)), (a4, .inl (G.2.1 1, n4, .inl r33.2.1)), (a0, .inr (9, [.ref a1, .ref o0_1, .ref o0_2, .int x0_3, .int x0_4, .int x0_5, .int x0_6, .int x0_7, .int x0_8, .int x0_9, .int x0_10, .int x0_11, .int r121.2.1, .int x0_13, .int x0_14, .int x0_15, .int r121.2.2.1, .ref a2, .ref a5, .ref a6, .ref a3, .ref a4, .ref o0_22, .ref o0_23])), (a2, .inl (G.2.1 1, n2, .inl r155))] := hD
              refine lv_ldc (v := 32768) hx hb hown (hts _ q473) d_Mo_table_400 ?_
              obtain ⟨j161, ej161, h⟩ := Jn_e h
              have hj161 : ∀ (t161 : Int32) (H : Heap) (locs : List Loc) (ls : Array Slot), j161 t161 = some V → va_P G.1 classes [(a0, .inr (9, [.ref a1, .ref o0_1, .ref o0_2, .int x0_3, .int x0_4, .int x0_5, .int x0_6, .int x0_7, .int x0_8, .int x0_9, .int x0_10, .int x0_11, .int r121.2.1, .int x0_13, .int x0_14, .int x0_15, .int t161, .ref a2, .ref a5, .ref a6, .ref a3, .ref a4, .ref o0_22, .ref o0_23])), (a1, .inl (G.2.1 0, n1, .inl f1)), (a2, .inl (G.2.1 1, n2, .inl r155)), (a5, .inl (G.2.1 1, n5, .inl r33.2.2)), (a6, .inl (G.2.1 1, n6, .inl r121.2.2.2)), (a3, .inl (G.2.1 1, n3, .inl r33.1)), (a4, .inl (G.2.1 1, n4, .inl r33.2.1))] H → va_D A [(a0, .inr (9, [.ref a1, .ref o0_1, .ref o0_2, .int x0_3, .int x0_4, .int x0_5, .int x0_6, .int x0_7, .int x0_8, .int x0_9, .int x0_10, .int x0_11, .int r121.2.1, .int x0_13, .int x0_14, .int x0_15, .int t161, .ref a2, .ref a5, .ref a6, .ref a3, .ref a4, .ref o0_22, .ref o0_23])), (a1, .inl (G.2.1 0, n1, .inl f1)), (a2, .inl (G.2.1 1, n2, .inl r155)), (a5, .inl (G.2.1 1, n5, .inl r33.2.2)), (a6, .inl (G.2.1 1, n6, .inl r121.2.2.2)), (a3, .inl (G.2.1 1, n3, .inl r33.1)), (a4, .inl (G.2.1 1, n4, .inl r33.2.1))] → va_S A s.heap H locs → lv_has ls 8 [(0, .ref a0)] → W p l e R s m [.ref a0].toArray below meth c H locs 0 0 Q (F0 m 421 ls []) := by
                intro t161 H locs ls h hP hD hS hl
                replace h := ej161 _ _ h
                refine lv_aload_n hx hb d_Mo_table_421 rfl (lv_at hl 0 rfl) ?_
                refine lv_sipush (v := 288) hx hb d_Mo_table_422 (by decide) ?_
                refine lv_bipush (v := 32) hx hb d_Mo_table_425 (by decide) ?_
                obtain ⟨r162, hc162, h⟩ := Bd_e h
                refine xV_i0 (wr := [(a1, .inl (G.2.1 0, n1, .inl f1)), (a5, .inl (G.2.1 1, n5, .inl r33.2.2)), (a6, .inl (G.2.1 1, n6, .inl r121.2.2.2)), (a3, .inl (G.2.1 1, n3, .inl r33.1)), (a4, .inl (G.2.1 1, n4, .inl r33.2.1))]) (rest := []) C0 hK hT hA hP hD hS hl.1 (c_Mo_fill l G a0 a2 a1 o0_1 o0_2 a5 a6 a3 a4 o0_22 o0_23 _ x0_3 x0_4 x0_5 x0_6 x0_7 x0_8 x0_9 x0_10 x0_11 r121.2.1 x0_13 x0_14 x0_15 t161 n2 r155 288 32 N r162 hc162) (goodV q514 q515 q516 q439 q517) 2 rfl hd_Mo_fill (Nat.le_trans (by decide) hRf) (Nat.le_trans (by decide) hRl) [0, 2] [1, 3, 4, 5, 6] rfl rfl (by decide) (by decide) (by decide) 9 0 rfl rfl rfl (Nat.le_of_ble_eq_true rfl) d_Mo_table_427 hkc hks (fun w1 H locs hE hP hD hS => ?_)
                subst hE
                have hP : va_P G.1 classes [(a1, .inl (G.2.1 0, n1, .inl f1)), (a5, .inl (G.2.1 1, n5, .inl r33.2.2)), (a6, .inl (G.2.1 1, n6, .inl r121.2.2.2)), (a3, .inl (G.2.1 1, n3, .inl r33.1)), (a4, .inl (G.2.1 1, n4, .inl r33.2.1)), (a0, .inr (9, [.ref a1, .ref o0_1, .ref o0_2, .int x0_3, .int x0_4, .int x0_5, .int x0_6, .int x0_7, .int x0_8, .int x0_9, .int x0_10, .int x0_11, .int r121.2.1, .int x0_13, .int x0_14, .int x0_15, .int t161, .ref a2, .ref a5, .ref a6, .ref a3, .ref a4, .ref o0_22, .ref o0_23])), (a2, .inl (G.2.1 1, n2, .inl r155))] H := hP
                have hD : va_D A [(a1, .inl (G.2.1 0, n1, .inl f1)), (a5, .inl (G.2.1 1, n5, .inl r33.2.2)), (a6, .inl (G.2.1 1, n6, .inl r121.2.2.2)), (a3, .inl (G.2.1 1, n3, .inl r33.1)), (a4, .inl (G.2.1 1, n4, .inl r33.2.1)), (a0, .inr (9, [.ref a1, .ref o0_1, .ref o0_2, .int x0_3, .int x0_4, .int x0_5, .int x0_6, .int x0_7, .int x0_8, .int x0_9, .int x0_10, .int x0_11, .int r121.2.1, .int x0_13, .int x0_14, .int x0_15, .int t161, .ref a2, .ref a5, .ref a6, .ref a3, .ref a4, .ref o0_22, .ref o0_23])), (a2, .inl (G.2.1 1, n2, .inl r155))] := hD
                refine lv_istore (lv' := [(5, .int r162), (0, .ref a0)]) hx hb d_Mo_table_430 hl (by decide) rfl (fun ls hl => ?_)
                refine lv_iconst (v := 0) hx hb d_Mo_table_432 (by decide) ?_
                refine lv_istore (lv' := [(6, .int 0), (5, .int r162), (0, .ref a0)]) hx hb d_Mo_table_433 hl (by decide) rfl (fun ls hl => ?_)
                refine lv_iconst (v := 0) hx hb d_Mo_table_435 (by decide) ?_
                refine lv_istore (lv' := [(7, .int 0), (6, .int 0), (5, .int r162), (0, .ref a0)]) hx hb d_Mo_table_436 hl (by decide) rfl (fun ls hl => ?_)
                obtain ⟨r175, hc175, h⟩ := Bd_e h
                refine w_Mo_table_438 C0 hRf hRl hA hK hT N r162 x0_3 x0_4 x0_5 x0_6 x0_7 x0_8 x0_9 x0_10 x0_11 r121.2.1 x0_13 x0_14 x0_15 t161 n1 f1 n2 r155 n5 r33.2.2 n6 r121.2.2.2 n3 r33.1 n4 r33.2.1 a0 a1 a2 a5 a6 a3 a4 o0_1 o0_2 o0_22 o0_23 r175 (kc := 0) (ks := 0) hkc hks ?_ N 0 0  _ _ _ hc175 (hP.sub (ws' := [(a0, .inr (9, [.ref a1, .ref o0_1, .ref o0_2, .int x0_3, .int x0_4, .int x0_5, .int x0_6, .int x0_7, .int x0_8, .int x0_9, .int x0_10, .int x0_11, .int r121.2.1, .int x0_13, .int x0_14, .int x0_15, .int t161, .ref a2, .ref a5, .ref a6, .ref a3, .ref a4, .ref o0_22, .ref o0_23])), (a1, .inl (G.2.1 0, n1, .inl f1)), (a2, .inl (G.2.1 1, n2, .inl r155)), (a5, .inl (G.2.1 1, n5, .inl r33.2.2)), (a6, .inl (G.2.1 1, n6, .inl r121.2.2.2)), (a3, .inl (G.2.1 1, n3, .inl r33.1)), (a4, .inl (G.2.1 1, n4, .inl r33.2.1))]) [5, 0, 6, 1, 2, 3, 4] rfl) (hD.sub (ws' := [(a0, .inr (9, [.ref a1, .ref o0_1, .ref o0_2, .int x0_3, .int x0_4, .int x0_5, .int x0_6, .int x0_7, .int x0_8, .int x0_9, .int x0_10, .int x0_11, .int r121.2.1, .int x0_13, .int x0_14, .int x0_15, .int t161, .ref a2, .ref a5, .ref a6, .ref a3, .ref a4, .ref o0_22, .ref o0_23])), (a1, .inl (G.2.1 0, n1, .inl f1)), (a2, .inl (G.2.1 1, n2, .inl r155)), (a5, .inl (G.2.1 1, n5, .inl r33.2.2)), (a6, .inl (G.2.1 1, n6, .inl r121.2.2.2)), (a3, .inl (G.2.1 1, n3, .inl r33.1)), (a4, .inl (G.2.1 1, n4, .inl r33.2.1))]) [5, 0, 6, 1, 2, 3, 4] (by decide) rfl) hS (lv_sub hl [3, 2, 1, 0] rfl)
                · intro H locs ls hP hD hS hl
                  refine lv_iload hx hb d_Mo_table_468 (lv_at hl 1 rfl) ?_
                  refine lv_ldc (v := 32768) hx hb hown (hts _ q473) d_Mo_table_470 ?_
                  refine lv_icmp_eq (tgt := 499) hx hb d_Mo_table_472 (by decide) (fun cq176 => ?_) (fun cq176 => ?_)
                  · replace h := (if_pos cq176).symm.trans h
                    have eV := so1 h
                    subst eV
                    exact x_vret C0 hQ (hP.sub (ws' := [(a0, .inr (9, [.ref a1, .ref o0_1, .ref o0_2, .int x0_3, .int x0_4, .int x0_5, .int x0_6, .int x0_7, .int x0_8, .int x0_9, .int x0_10, .int x0_11, .int r121.2.1, .int x0_13, .int x0_14, .int x0_15, .int t161, .ref a2, .ref a5, .ref a6, .ref a3, .ref a4, .ref o0_22, .ref o0_23])), (a1, .inl (G.2.1 0, n1, .inl f1)), (a2, .inl (G.2.1 1, n2, .inl r155)), (a3, .inl (G.2.1 1, n3, .inl r33.1)), (a4, .inl (G.2.1 1, n4, .inl r33.2.1)), (a5, .inl (G.2.1 1, n5, .inl r33.2.2)), (a6, .inl (G.2.1 1, n6, .inl r121.2.2.2))]) [0, 1, 2, 5, 6, 3, 4] rfl) (hD.sub (ws' := [(a0, .inr (9, [.ref a1, .ref o0_1, .ref o0_2, .int x0_3, .int x0_4, .int x0_5, .int x0_6, .int x0_7, .int x0_8, .int x0_9, .int x0_10, .int x0_11, .int r121.2.1, .int x0_13, .int x0_14, .int x0_15, .int t161, .ref a2, .ref a5, .ref a6, .ref a3, .ref a4, .ref o0_22, .ref o0_23])), (a1, .inl (G.2.1 0, n1, .inl f1)), (a2, .inl (G.2.1 1, n2, .inl r155)), (a3, .inl (G.2.1 1, n3, .inl r33.1)), (a4, .inl (G.2.1 1, n4, .inl r33.2.1)), (a5, .inl (G.2.1 1, n5, .inl r33.2.2)), (a6, .inl (G.2.1 1, n6, .inl r121.2.2.2))]) [0, 1, 2, 5, 6, 3, 4] (by decide) rfl) hS rfl (Nat.zero_le _) (Nat.zero_le _) d_Mo_table_499
                  · replace h := (if_neg cq176).symm.trans h
                    refine lv_iload hx hb d_Mo_table_475 (lv_at hl 2 rfl) ?_
                    refine lv_if_le (tgt := 499) hx hb d_Mo_table_477 (by decide) (fun cq177 => ?_) (fun cq177 => ?_)
                    · replace h := (if_pos cq177).symm.trans h
                      have eV := so1 h
                      subst eV
                      exact x_vret C0 hQ (hP.sub (ws' := [(a0, .inr (9, [.ref a1, .ref o0_1, .ref o0_2, .int x0_3, .int x0_4, .int x0_5, .int x0_6, .int x0_7, .int x0_8, .int x0_9, .int x0_10, .int x0_11, .int r121.2.1, .int x0_13, .int x0_14, .int x0_15, .int t161, .ref a2, .ref a5, .ref a6, .ref a3, .ref a4, .ref o0_22, .ref o0_23])), (a1, .inl (G.2.1 0, n1, .inl f1)), (a2, .inl (G.2.1 1, n2, .inl r155)), (a3, .inl (G.2.1 1, n3, .inl r33.1)), (a4, .inl (G.2.1 1, n4, .inl r33.2.1)), (a5, .inl (G.2.1 1, n5, .inl r33.2.2)), (a6, .inl (G.2.1 1, n6, .inl r121.2.2.2))]) [0, 1, 2, 5, 6, 3, 4] rfl) (hD.sub (ws' := [(a0, .inr (9, [.ref a1, .ref o0_1, .ref o0_2, .int x0_3, .int x0_4, .int x0_5, .int x0_6, .int x0_7, .int x0_8, .int x0_9, .int x0_10, .int x0_11, .int r121.2.1, .int x0_13, .int x0_14, .int x0_15, .int t161, .ref a2, .ref a5, .ref a6, .ref a3, .ref a4, .ref o0_22, .ref o0_23])), (a1, .inl (G.2.1 0, n1, .inl f1)), (a2, .inl (G.2.1 1, n2, .inl r155)), (a3, .inl (G.2.1 1, n3, .inl r33.1)), (a4, .inl (G.2.1 1, n4, .inl r33.2.1)), (a5, .inl (G.2.1 1, n5, .inl r33.2.2)), (a6, .inl (G.2.1 1, n6, .inl r121.2.2.2))]) [0, 1, 2, 5, 6, 3, 4] (by decide) rfl) hS rfl (Nat.zero_le _) (Nat.zero_le _) d_Mo_table_499
                    · replace h := (if_neg cq177).symm.trans h
                      refine lv_iload hx hb d_Mo_table_480 (lv_at hl 2 rfl) ?_
                      refine lv_iconst (v := 1) hx hb d_Mo_table_482 (by decide) ?_
                      obtain ⟨j180, ej180, h⟩ := Jn_e h
                      have hj180 : ∀ (t180 : Unit) (H : Heap) (locs : List Loc) (ls : Array Slot), j180 t180 = some V → va_P G.1 classes [(a0, .inr (9, [.ref a1, .ref o0_1, .ref o0_2, .int x0_3, .int x0_4, .int x0_5, .int x0_6, .int x0_7, .int x0_8, .int x0_9, .int x0_10, .int x0_11, .int r121.2.1, .int x0_13, .int x0_14, .int x0_15, .int t161, .ref a2, .ref a5, .ref a6, .ref a3, .ref a4, .ref o0_22, .ref o0_23])), (a1, .inl (G.2.1 0, n1, .inl f1)), (a2, .inl (G.2.1 1, n2, .inl r155)), (a5, .inl (G.2.1 1, n5, .inl r33.2.2)), (a6, .inl (G.2.1 1, n6, .inl r121.2.2.2)), (a3, .inl (G.2.1 1, n3, .inl r33.1)), (a4, .inl (G.2.1 1, n4, .inl r33.2.1))] H → va_D A [(a0, .inr (9, [.ref a1, .ref o0_1, .ref o0_2, .int x0_3, .int x0_4, .int x0_5, .int x0_6, .int x0_7, .int x0_8, .int x0_9, .int x0_10, .int x0_11, .int r121.2.1, .int x0_13, .int x0_14, .int x0_15, .int t161, .ref a2, .ref a5, .ref a6, .ref a3, .ref a4, .ref o0_22, .ref o0_23])), (a1, .inl (G.2.1 0, n1, .inl f1)), (a2, .inl (G.2.1 1, n2, .inl r155)), (a5, .inl (G.2.1 1, n5, .inl r33.2.2)), (a6, .inl (G.2.1 1, n6, .inl r121.2.2.2)), (a3, .inl (G.2.1 1, n3, .inl r33.1)), (a4, .inl (G.2.1 1, n4, .inl r33.2.1))] → va_S A s.heap H locs → lv_has ls 8 [(0, .ref a0)] → W p l e R s m [.ref a0].toArray below meth c H locs 0 0 Q (F0 m 494 ls []) := by
                        intro t180 H locs ls h hP hD hS hl
                        replace h := ej180 _ _ h
                        refine lv_aload_n hx hb d_Mo_table_494 rfl (lv_at hl 0 rfl) ?_
                        refine lv_iconst (v := 1) hx hb d_Mo_table_495 (by decide) ?_
                        refine va_put (D := G.1) (ci := 9) (v := .int 1) (ty := .boolean) (C := R_Mo) (T := F_Mo) (N := 24) hx hb hts i_Mo t_Mo t_Mo_ok n_Mo hown hK hP hD hS 0 rfl rfl 16 (by decide) (hts _ q488) (fun _ h9 => h9) rfl (by decide +kernel) rfl rfl (Nat.le_of_ble_eq_true rfl) d_Mo_table_496 (fun H locs hP hD hS => ?_)
                        have hP : va_P G.1 classes [(a0, .inr (9, [.ref a1, .ref o0_1, .ref o0_2, .int x0_3, .int x0_4, .int x0_5, .int x0_6, .int x0_7, .int x0_8, .int x0_9, .int x0_10, .int x0_11, .int r121.2.1, .int x0_13, .int x0_14, .int x0_15, .int 1, .ref a2, .ref a5, .ref a6, .ref a3, .ref a4, .ref o0_22, .ref o0_23])), (a1, .inl (G.2.1 0, n1, .inl f1)), (a2, .inl (G.2.1 1, n2, .inl r155)), (a5, .inl (G.2.1 1, n5, .inl r33.2.2)), (a6, .inl (G.2.1 1, n6, .inl r121.2.2.2)), (a3, .inl (G.2.1 1, n3, .inl r33.1)), (a4, .inl (G.2.1 1, n4, .inl r33.2.1))] H := hP
                        have hD : va_D A [(a0, .inr (9, [.ref a1, .ref o0_1, .ref o0_2, .int x0_3, .int x0_4, .int x0_5, .int x0_6, .int x0_7, .int x0_8, .int x0_9, .int x0_10, .int x0_11, .int r121.2.1, .int x0_13, .int x0_14, .int x0_15, .int 1, .ref a2, .ref a5, .ref a6, .ref a3, .ref a4, .ref o0_22, .ref o0_23])), (a1, .inl (G.2.1 0, n1, .inl f1)), (a2, .inl (G.2.1 1, n2, .inl r155)), (a5, .inl (G.2.1 1, n5, .inl r33.2.2)), (a6, .inl (G.2.1 1, n6, .inl r121.2.2.2)), (a3, .inl (G.2.1 1, n3, .inl r33.1)), (a4, .inl (G.2.1 1, n4, .inl r33.2.1))] := hD
                        have eV := so1 h
                        subst eV
                        exact x_vret C0 hQ (hP.sub (ws' := [(a0, .inr (9, [.ref a1, .ref o0_1, .ref o0_2, .int x0_3, .int x0_4, .int x0_5, .int x0_6, .int x0_7, .int x0_8, .int x0_9, .int x0_10, .int x0_11, .int r121.2.1, .int x0_13, .int x0_14, .int x0_15, .int 1, .ref a2, .ref a5, .ref a6, .ref a3, .ref a4, .ref o0_22, .ref o0_23])), (a1, .inl (G.2.1 0, n1, .inl f1)), (a2, .inl (G.2.1 1, n2, .inl r155)), (a3, .inl (G.2.1 1, n3, .inl r33.1)), (a4, .inl (G.2.1 1, n4, .inl r33.2.1)), (a5, .inl (G.2.1 1, n5, .inl r33.2.2)), (a6, .inl (G.2.1 1, n6, .inl r121.2.2.2))]) [0, 1, 2, 5, 6, 3, 4] rfl) (hD.sub (ws' := [(a0, .inr (9, [.ref a1, .ref o0_1, .ref o0_2, .int x0_3, .int x0_4, .int x0_5, .int x0_6, .int x0_7, .int x0_8, .int x0_9, .int x0_10, .int x0_11, .int r121.2.1, .int x0_13, .int x0_14, .int x0_15, .int 1, .ref a2, .ref a5, .ref a6, .ref a3, .ref a4, .ref o0_22, .ref o0_23])), (a1, .inl (G.2.1 0, n1, .inl f1)), (a2, .inl (G.2.1 1, n2, .inl r155)), (a3, .inl (G.2.1 1, n3, .inl r33.1)), (a4, .inl (G.2.1 1, n4, .inl r33.2.1)), (a5, .inl (G.2.1 1, n5, .inl r33.2.2)), (a6, .inl (G.2.1 1, n6, .inl r121.2.2.2))]) [0, 1, 2, 5, 6, 3, 4] (by decide) rfl) hS rfl (Nat.zero_le _) (Nat.zero_le _) d_Mo_table_499
                      refine lv_icmp_ne (tgt := 494) hx hb d_Mo_table_483 (by decide) (fun cq181 => ?_) (fun cq181 => ?_)
                      · replace h := (if_neg cq181).symm.trans h
                        exact hj180 () _ _ _ h hP hD hS (lv_sub hl [0] rfl)
                      · replace h := (if_pos cq181).symm.trans h
                        refine lv_iload hx hb d_Mo_table_486 (lv_at hl 1 rfl) ?_
                        refine lv_sipush (v := 16384) hx hb d_Mo_table_488 (by decide) ?_
                        refine lv_icmp_eq (tgt := 499) hx hb d_Mo_table_491 (by decide) (fun cq182 => ?_) (fun cq182 => ?_)
                        · replace h := (if_pos cq182).symm.trans h
                          have eV := so1 h
                          subst eV
                          exact x_vret C0 hQ (hP.sub (ws' := [(a0, .inr (9, [.ref a1, .ref o0_1, .ref o0_2, .int x0_3, .int x0_4, .int x0_5, .int x0_6, .int x0_7, .int x0_8, .int x0_9, .int x0_10, .int x0_11, .int r121.2.1, .int x0_13, .int x0_14, .int x0_15, .int t161, .ref a2, .ref a5, .ref a6, .ref a3, .ref a4, .ref o0_22, .ref o0_23])), (a1, .inl (G.2.1 0, n1, .inl f1)), (a2, .inl (G.2.1 1, n2, .inl r155)), (a3, .inl (G.2.1 1, n3, .inl r33.1)), (a4, .inl (G.2.1 1, n4, .inl r33.2.1)), (a5, .inl (G.2.1 1, n5, .inl r33.2.2)), (a6, .inl (G.2.1 1, n6, .inl r121.2.2.2))]) [0, 1, 2, 5, 6, 3, 4] rfl) (hD.sub (ws' := [(a0, .inr (9, [.ref a1, .ref o0_1, .ref o0_2, .int x0_3, .int x0_4, .int x0_5, .int x0_6, .int x0_7, .int x0_8, .int x0_9, .int x0_10, .int x0_11, .int r121.2.1, .int x0_13, .int x0_14, .int x0_15, .int t161, .ref a2, .ref a5, .ref a6, .ref a3, .ref a4, .ref o0_22, .ref o0_23])), (a1, .inl (G.2.1 0, n1, .inl f1)), (a2, .inl (G.2.1 1, n2, .inl r155)), (a3, .inl (G.2.1 1, n3, .inl r33.1)), (a4, .inl (G.2.1 1, n4, .inl r33.2.1)), (a5, .inl (G.2.1 1, n5, .inl r33.2.2)), (a6, .inl (G.2.1 1, n6, .inl r121.2.2.2))]) [0, 1, 2, 5, 6, 3, 4] (by decide) rfl) hS rfl (Nat.zero_le _) (Nat.zero_le _) d_Mo_table_499
                        · replace h := (if_neg cq182).symm.trans h
                          exact hj180 () _ _ _ h hP hD hS (lv_sub hl [0] rfl)
              obtain ⟨j186, ej186, h⟩ := Jn_e h
              have hj186 : ∀ (t186 : Unit) (H : Heap) (locs : List Loc) (ls : Array Slot), j186 t186 = some V → va_P G.1 classes [(a0, .inr (9, [.ref a1, .ref o0_1, .ref o0_2, .int x0_3, .int x0_4, .int x0_5, .int x0_6, .int x0_7, .int x0_8, .int x0_9, .int x0_10, .int x0_11, .int r121.2.1, .int x0_13, .int x0_14, .int x0_15, .int r121.2.2.1, .ref a2, .ref a5, .ref a6, .ref a3, .ref a4, .ref o0_22, .ref o0_23])), (a1, .inl (G.2.1 0, n1, .inl f1)), (a2, .inl (G.2.1 1, n2, .inl r155)), (a5, .inl (G.2.1 1, n5, .inl r33.2.2)), (a6, .inl (G.2.1 1, n6, .inl r121.2.2.2)), (a3, .inl (G.2.1 1, n3, .inl r33.1)), (a4, .inl (G.2.1 1, n4, .inl r33.2.1))] H → va_D A [(a0, .inr (9, [.ref a1, .ref o0_1, .ref o0_2, .int x0_3, .int x0_4, .int x0_5, .int x0_6, .int x0_7, .int x0_8, .int x0_9, .int x0_10, .int x0_11, .int r121.2.1, .int x0_13, .int x0_14, .int x0_15, .int r121.2.2.1, .ref a2, .ref a5, .ref a6, .ref a3, .ref a4, .ref o0_22, .ref o0_23])), (a1, .inl (G.2.1 0, n1, .inl f1)), (a2, .inl (G.2.1 1, n2, .inl r155)), (a5, .inl (G.2.1 1, n5, .inl r33.2.2)), (a6, .inl (G.2.1 1, n6, .inl r121.2.2.2)), (a3, .inl (G.2.1 1, n3, .inl r33.1)), (a4, .inl (G.2.1 1, n4, .inl r33.2.1))] → va_S A s.heap H locs → lv_has ls 8 [(0, .ref a0)] → W p l e R s m [.ref a0].toArray below meth c H locs 0 0 Q (F0 m 416 ls []) := by
                intro t186 H locs ls h hP hD hS hl
                replace h := ej186 _ _ h
                refine lv_aload_n hx hb d_Mo_table_416 rfl (lv_at hl 0 rfl) ?_
                refine lv_iconst (v := 1) hx hb d_Mo_table_417 (by decide) ?_
                refine va_put (D := G.1) (ci := 9) (v := .int 1) (ty := .boolean) (C := R_Mo) (T := F_Mo) (N := 24) hx hb hts i_Mo t_Mo t_Mo_ok n_Mo hown hK hP hD hS 0 rfl rfl 16 (by decide) (hts _ q488) (fun _ h9 => h9) rfl (by decide +kernel) rfl rfl (Nat.le_of_ble_eq_true rfl) d_Mo_table_418 (fun H locs hP hD hS => ?_)
                have hP : va_P G.1 classes [(a0, .inr (9, [.ref a1, .ref o0_1, .ref o0_2, .int x0_3, .int x0_4, .int x0_5, .int x0_6, .int x0_7, .int x0_8, .int x0_9, .int x0_10, .int x0_11, .int r121.2.1, .int x0_13, .int x0_14, .int x0_15, .int 1, .ref a2, .ref a5, .ref a6, .ref a3, .ref a4, .ref o0_22, .ref o0_23])), (a1, .inl (G.2.1 0, n1, .inl f1)), (a2, .inl (G.2.1 1, n2, .inl r155)), (a5, .inl (G.2.1 1, n5, .inl r33.2.2)), (a6, .inl (G.2.1 1, n6, .inl r121.2.2.2)), (a3, .inl (G.2.1 1, n3, .inl r33.1)), (a4, .inl (G.2.1 1, n4, .inl r33.2.1))] H := hP
                have hD : va_D A [(a0, .inr (9, [.ref a1, .ref o0_1, .ref o0_2, .int x0_3, .int x0_4, .int x0_5, .int x0_6, .int x0_7, .int x0_8, .int x0_9, .int x0_10, .int x0_11, .int r121.2.1, .int x0_13, .int x0_14, .int x0_15, .int 1, .ref a2, .ref a5, .ref a6, .ref a3, .ref a4, .ref o0_22, .ref o0_23])), (a1, .inl (G.2.1 0, n1, .inl f1)), (a2, .inl (G.2.1 1, n2, .inl r155)), (a5, .inl (G.2.1 1, n5, .inl r33.2.2)), (a6, .inl (G.2.1 1, n6, .inl r121.2.2.2)), (a3, .inl (G.2.1 1, n3, .inl r33.1)), (a4, .inl (G.2.1 1, n4, .inl r33.2.1))] := hD
                exact hj161 1 _ _ _ h hP hD hS hl
              refine lv_icmp_ne (tgt := 416) hx hb d_Mo_table_402 (by decide) (fun cq187 => ?_) (fun cq187 => ?_)
              · replace h := (if_neg cq187).symm.trans h
                exact hj186 () _ _ _ h (hP.sub (ws' := [(a0, .inr (9, [.ref a1, .ref o0_1, .ref o0_2, .int x0_3, .int x0_4, .int x0_5, .int x0_6, .int x0_7, .int x0_8, .int x0_9, .int x0_10, .int x0_11, .int r121.2.1, .int x0_13, .int x0_14, .int x0_15, .int r121.2.2.1, .ref a2, .ref a5, .ref a6, .ref a3, .ref a4, .ref o0_22, .ref o0_23])), (a1, .inl (G.2.1 0, n1, .inl f1)), (a2, .inl (G.2.1 1, n2, .inl r155)), (a5, .inl (G.2.1 1, n5, .inl r33.2.2)), (a6, .inl (G.2.1 1, n6, .inl r121.2.2.2)), (a3, .inl (G.2.1 1, n3, .inl r33.1)), (a4, .inl (G.2.1 1, n4, .inl r33.2.1))]) [5, 0, 6, 1, 2, 3, 4] rfl) (hD.sub (ws' := [(a0, .inr (9, [.ref a1, .ref o0_1, .ref o0_2, .int x0_3, .int x0_4, .int x0_5, .int x0_6, .int x0_7, .int x0_8, .int x0_9, .int x0_10, .int x0_11, .int r121.2.1, .int x0_13, .int x0_14, .int x0_15, .int r121.2.2.1, .ref a2, .ref a5, .ref a6, .ref a3, .ref a4, .ref o0_22, .ref o0_23])), (a1, .inl (G.2.1 0, n1, .inl f1)), (a2, .inl (G.2.1 1, n2, .inl r155)), (a5, .inl (G.2.1 1, n5, .inl r33.2.2)), (a6, .inl (G.2.1 1, n6, .inl r121.2.2.2)), (a3, .inl (G.2.1 1, n3, .inl r33.1)), (a4, .inl (G.2.1 1, n4, .inl r33.2.1))]) [5, 0, 6, 1, 2, 3, 4] (by decide) rfl) hS hl
              · replace h := (if_pos cq187).symm.trans h
                refine lv_aload_n hx hb d_Mo_table_405 rfl (lv_at hl 0 rfl) ?_
                refine va_get (D := G.1) (ci := 9) (v := .ref a2) (C := R_Mo) (T := F_Mo) (N := 24) hx hb hts i_Mo hown hK hP 5 rfl rfl 17 (by decide) (hts _ q427) (fun _ h9 => h9) rfl d_Mo_table_406 ?_
                refine lv_sipush (v := 256) hx hb d_Mo_table_409 (by decide) ?_
                obtain ⟨hi188, h⟩ := Ix_e h
                refine va_iald hx hb hK hP 6 1 rfl rfl hi188 d_Mo_table_412 ?_
                refine lv_if_ne (tgt := 421) hx hb d_Mo_table_413 (by decide) (fun cq189 => ?_) (fun cq189 => ?_)
                · replace h := (if_neg cq189).symm.trans h
                  exact hj161 r121.2.2.1 _ _ _ h (hP.sub (ws' := [(a0, .inr (9, [.ref a1, .ref o0_1, .ref o0_2, .int x0_3, .int x0_4, .int x0_5, .int x0_6, .int x0_7, .int x0_8, .int x0_9, .int x0_10, .int x0_11, .int r121.2.1, .int x0_13, .int x0_14, .int x0_15, .int r121.2.2.1, .ref a2, .ref a5, .ref a6, .ref a3, .ref a4, .ref o0_22, .ref o0_23])), (a1, .inl (G.2.1 0, n1, .inl f1)), (a2, .inl (G.2.1 1, n2, .inl r155)), (a5, .inl (G.2.1 1, n5, .inl r33.2.2)), (a6, .inl (G.2.1 1, n6, .inl r121.2.2.2)), (a3, .inl (G.2.1 1, n3, .inl r33.1)), (a4, .inl (G.2.1 1, n4, .inl r33.2.1))]) [5, 0, 6, 1, 2, 3, 4] rfl) (hD.sub (ws' := [(a0, .inr (9, [.ref a1, .ref o0_1, .ref o0_2, .int x0_3, .int x0_4, .int x0_5, .int x0_6, .int x0_7, .int x0_8, .int x0_9, .int x0_10, .int x0_11, .int r121.2.1, .int x0_13, .int x0_14, .int x0_15, .int r121.2.2.1, .ref a2, .ref a5, .ref a6, .ref a3, .ref a4, .ref o0_22, .ref o0_23])), (a1, .inl (G.2.1 0, n1, .inl f1)), (a2, .inl (G.2.1 1, n2, .inl r155)), (a5, .inl (G.2.1 1, n5, .inl r33.2.2)), (a6, .inl (G.2.1 1, n6, .inl r121.2.2.2)), (a3, .inl (G.2.1 1, n3, .inl r33.1)), (a4, .inl (G.2.1 1, n4, .inl r33.2.1))]) [5, 0, 6, 1, 2, 3, 4] (by decide) rfl) hS hl
                · replace h := (if_pos cq189).symm.trans h
                  exact hj186 () _ _ _ h (hP.sub (ws' := [(a0, .inr (9, [.ref a1, .ref o0_1, .ref o0_2, .int x0_3, .int x0_4, .int x0_5, .int x0_6, .int x0_7, .int x0_8, .int x0_9, .int x0_10, .int x0_11, .int r121.2.1, .int x0_13, .int x0_14, .int x0_15, .int r121.2.2.1, .ref a2, .ref a5, .ref a6, .ref a3, .ref a4, .ref o0_22, .ref o0_23])), (a1, .inl (G.2.1 0, n1, .inl f1)), (a2, .inl (G.2.1 1, n2, .inl r155)), (a5, .inl (G.2.1 1, n5, .inl r33.2.2)), (a6, .inl (G.2.1 1, n6, .inl r121.2.2.2)), (a3, .inl (G.2.1 1, n3, .inl r33.1)), (a4, .inl (G.2.1 1, n4, .inl r33.2.1))]) [5, 0, 6, 1, 2, 3, 4] rfl) (hD.sub (ws' := [(a0, .inr (9, [.ref a1, .ref o0_1, .ref o0_2, .int x0_3, .int x0_4, .int x0_5, .int x0_6, .int x0_7, .int x0_8, .int x0_9, .int x0_10, .int x0_11, .int r121.2.1, .int x0_13, .int x0_14, .int x0_15, .int r121.2.2.1, .ref a2, .ref a5, .ref a6, .ref a3, .ref a4, .ref o0_22, .ref o0_23])), (a1, .inl (G.2.1 0, n1, .inl f1)), (a2, .inl (G.2.1 1, n2, .inl r155)), (a5, .inl (G.2.1 1, n5, .inl r33.2.2)), (a6, .inl (G.2.1 1, n6, .inl r121.2.2.2)), (a3, .inl (G.2.1 1, n3, .inl r33.1)), (a4, .inl (G.2.1 1, n4, .inl r33.2.1))]) [5, 0, 6, 1, 2, 3, 4] (by decide) rfl) hS hl
      refine lv_icmp_eq (tgt := 108) hx hb d_Mo_table_100 (by decide) (fun cq190 => ?_) (fun cq190 => ?_)
      · replace h := (if_pos cq190).symm.trans h
        exact hj32 r29.2.1 _ _ _ h (hP.sub (ws' := [(a0, .inr (9, [.ref a1, .ref o0_1, .ref o0_2, .int x0_3, .int x0_4, .int x0_5, .int x0_6, .int x0_7, .int x0_8, .int x0_9, .int x0_10, .int x0_11, .int r29.1, .int x0_13, .int x0_14, .int x0_15, .int r29.2.1, .ref a2, .ref a5, .ref a6, .ref a3, .ref a4, .ref o0_22, .ref o0_23])), (a1, .inl (G.2.1 0, n1, .inl f1)), (a2, .inl (G.2.1 1, n2, .inl r29.2.2)), (a5, .inl (G.2.1 1, n5, .inl f5)), (a6, .inl (G.2.1 1, n6, .inl f6)), (a3, .inl (G.2.1 1, n3, .inl f3)), (a4, .inl (G.2.1 1, n4, .inl f4))]) [5, 0, 6, 1, 2, 3, 4] rfl) (hD.sub (ws' := [(a0, .inr (9, [.ref a1, .ref o0_1, .ref o0_2, .int x0_3, .int x0_4, .int x0_5, .int x0_6, .int x0_7, .int x0_8, .int x0_9, .int x0_10, .int x0_11, .int r29.1, .int x0_13, .int x0_14, .int x0_15, .int r29.2.1, .ref a2, .ref a5, .ref a6, .ref a3, .ref a4, .ref o0_22, .ref o0_23])), (a1, .inl (G.2.1 0, n1, .inl f1)), (a2, .inl (G.2.1 1, n2, .inl r29.2.2)), (a5, .inl (G.2.1 1, n5, .inl f5)), (a6, .inl (G.2.1 1, n6, .inl f6)), (a3, .inl (G.2.1 1, n3, .inl f3)), (a4, .inl (G.2.1 1, n4, .inl f4))]) [5, 0, 6, 1, 2, 3, 4] (by decide) rfl) hS hl
      · replace h := (if_neg cq190).symm.trans h
        refine lv_aload_n hx hb d_Mo_table_103 rfl (lv_at hl 0 rfl) ?_
        refine lv_iconst (v := 1) hx hb d_Mo_table_104 (by decide) ?_
        refine va_put (D := G.1) (ci := 9) (v := .int 1) (ty := .boolean) (C := R_Mo) (T := F_Mo) (N := 24) hx hb hts i_Mo t_Mo t_Mo_ok n_Mo hown hK hP hD hS 5 rfl rfl 16 (by decide) (hts _ q488) (fun _ h9 => h9) rfl (by decide +kernel) rfl rfl (Nat.le_of_ble_eq_true rfl) d_Mo_table_105 (fun H locs hP hD hS => ?_)
        have hP : va_P G.1 classes [(a1, .inl (G.2.1 0, n1, .inl f1)), (a5, .inl (G.2.1 1, n5, .inl f5)), (a6, .inl (G.2.1 1, n6, .inl f6)), (a3, .inl (G.2.1 1, n3, .inl f3)), (a4, .inl (G.2.1 1, n4, .inl f4)), (a0, .inr (9, [.ref a1, .ref o0_1, .ref o0_2, .int x0_3, .int x0_4, .int x0_5, .int x0_6, .int x0_7, .int x0_8, .int x0_9, .int x0_10, .int x0_11, .int r29.1, .int x0_13, .int x0_14, .int x0_15, .int 1, .ref a2, .ref a5, .ref a6, .ref a3, .ref a4, .ref o0_22, .ref o0_23])), (a2, .inl (G.2.1 1, n2, .inl r29.2.2))] H := hP
        have hD : va_D A [(a1, .inl (G.2.1 0, n1, .inl f1)), (a5, .inl (G.2.1 1, n5, .inl f5)), (a6, .inl (G.2.1 1, n6, .inl f6)), (a3, .inl (G.2.1 1, n3, .inl f3)), (a4, .inl (G.2.1 1, n4, .inl f4)), (a0, .inr (9, [.ref a1, .ref o0_1, .ref o0_2, .int x0_3, .int x0_4, .int x0_5, .int x0_6, .int x0_7, .int x0_8, .int x0_9, .int x0_10, .int x0_11, .int r29.1, .int x0_13, .int x0_14, .int x0_15, .int 1, .ref a2, .ref a5, .ref a6, .ref a3, .ref a4, .ref o0_22, .ref o0_23])), (a2, .inl (G.2.1 1, n2, .inl r29.2.2))] := hD
        exact hj32 1 _ _ _ h (hP.sub (ws' := [(a0, .inr (9, [.ref a1, .ref o0_1, .ref o0_2, .int x0_3, .int x0_4, .int x0_5, .int x0_6, .int x0_7, .int x0_8, .int x0_9, .int x0_10, .int x0_11, .int r29.1, .int x0_13, .int x0_14, .int x0_15, .int 1, .ref a2, .ref a5, .ref a6, .ref a3, .ref a4, .ref o0_22, .ref o0_23])), (a1, .inl (G.2.1 0, n1, .inl f1)), (a2, .inl (G.2.1 1, n2, .inl r29.2.2)), (a5, .inl (G.2.1 1, n5, .inl f5)), (a6, .inl (G.2.1 1, n6, .inl f6)), (a3, .inl (G.2.1 1, n3, .inl f3)), (a4, .inl (G.2.1 1, n4, .inl f4))]) [5, 0, 6, 1, 2, 3, 4] rfl) (hD.sub (ws' := [(a0, .inr (9, [.ref a1, .ref o0_1, .ref o0_2, .int x0_3, .int x0_4, .int x0_5, .int x0_6, .int x0_7, .int x0_8, .int x0_9, .int x0_10, .int x0_11, .int r29.1, .int x0_13, .int x0_14, .int x0_15, .int 1, .ref a2, .ref a5, .ref a6, .ref a3, .ref a4, .ref o0_22, .ref o0_23])), (a1, .inl (G.2.1 0, n1, .inl f1)), (a2, .inl (G.2.1 1, n2, .inl r29.2.2)), (a5, .inl (G.2.1 1, n5, .inl f5)), (a6, .inl (G.2.1 1, n6, .inl f6)), (a3, .inl (G.2.1 1, n3, .inl f3)), (a4, .inl (G.2.1 1, n4, .inl f4))]) [5, 0, 6, 1, 2, 3, 4] (by decide) rfl) hS hl
  obtain ⟨j193, ej193, h⟩ := Jn_e h
  have hj193 : ∀ (t193 : Unit) (H : Heap) (locs : List Loc) (ls : Array Slot), j193 t193 = some V → va_P G.1 classes [(a0, .inr (9, [.ref a1, .ref o0_1, .ref o0_2, .int x0_3, .int x0_4, .int x0_5, .int x0_6, .int x0_7, .int x0_8, .int x0_9, .int x0_10, .int x0_11, .int r5.2.1, .int x0_13, .int x0_14, .int x0_15, .int r5.2.2, .ref a2, .ref a5, .ref a6, .ref a3, .ref a4, .ref o0_22, .ref o0_23])), (a1, .inl (G.2.1 0, n1, .inl f1)), (a2, .inl (G.2.1 1, n2, .inl f2)), (a5, .inl (G.2.1 1, n5, .inl f5)), (a6, .inl (G.2.1 1, n6, .inl f6)), (a3, .inl (G.2.1 1, n3, .inl f3)), (a4, .inl (G.2.1 1, n4, .inl f4))] H → va_D A [(a0, .inr (9, [.ref a1, .ref o0_1, .ref o0_2, .int x0_3, .int x0_4, .int x0_5, .int x0_6, .int x0_7, .int x0_8, .int x0_9, .int x0_10, .int x0_11, .int r5.2.1, .int x0_13, .int x0_14, .int x0_15, .int r5.2.2, .ref a2, .ref a5, .ref a6, .ref a3, .ref a4, .ref o0_22, .ref o0_23])), (a1, .inl (G.2.1 0, n1, .inl f1)), (a2, .inl (G.2.1 1, n2, .inl f2)), (a5, .inl (G.2.1 1, n5, .inl f5)), (a6, .inl (G.2.1 1, n6, .inl f6)), (a3, .inl (G.2.1 1, n3, .inl f3)), (a4, .inl (G.2.1 1, n4, .inl f4))] → va_S A s.heap H locs → lv_has ls 8 [(0, .ref a0), (1, .int v2), (2, .int v4), (3, .int v6)] → W p l e R s m [.ref a0].toArray below meth c H locs 0 0 Q (F0 m 39 ls []) := by
    intro t193 H locs ls h hP hD hS hl
    replace h := ej193 _ _ h
    refine lv_aload_n hx hb d_Mo_table_39 rfl (lv_at hl 0 rfl) ?_
    refine lv_iconst (v := 1) hx hb d_Mo_table_40 (by decide) ?_
    refine va_put (D := G.1) (ci := 9) (v := .int 1) (ty := .boolean) (C := R_Mo) (T := F_Mo) (N := 24) hx hb hts i_Mo t_Mo t_Mo_ok n_Mo hown hK hP hD hS 0 rfl rfl 16 (by decide) (hts _ q488) (fun _ h9 => h9) rfl (by decide +kernel) rfl rfl (Nat.le_of_ble_eq_true rfl) d_Mo_table_41 (fun H locs hP hD hS => ?_)
    have hP : va_P G.1 classes [(a0, .inr (9, [.ref a1, .ref o0_1, .ref o0_2, .int x0_3, .int x0_4, .int x0_5, .int x0_6, .int x0_7, .int x0_8, .int x0_9, .int x0_10, .int x0_11, .int r5.2.1, .int x0_13, .int x0_14, .int x0_15, .int 1, .ref a2, .ref a5, .ref a6, .ref a3, .ref a4, .ref o0_22, .ref o0_23])), (a1, .inl (G.2.1 0, n1, .inl f1)), (a2, .inl (G.2.1 1, n2, .inl f2)), (a5, .inl (G.2.1 1, n5, .inl f5)), (a6, .inl (G.2.1 1, n6, .inl f6)), (a3, .inl (G.2.1 1, n3, .inl f3)), (a4, .inl (G.2.1 1, n4, .inl f4))] H := hP
    have hD : va_D A [(a0, .inr (9, [.ref a1, .ref o0_1, .ref o0_2, .int x0_3, .int x0_4, .int x0_5, .int x0_6, .int x0_7, .int x0_8, .int x0_9, .int x0_10, .int x0_11, .int r5.2.1, .int x0_13, .int x0_14, .int x0_15, .int 1, .ref a2, .ref a5, .ref a6, .ref a3, .ref a4, .ref o0_22, .ref o0_23])), (a1, .inl (G.2.1 0, n1, .inl f1)), (a2, .inl (G.2.1 1, n2, .inl f2)), (a5, .inl (G.2.1 1, n5, .inl f5)), (a6, .inl (G.2.1 1, n6, .inl f6)), (a3, .inl (G.2.1 1, n3, .inl f3)), (a4, .inl (G.2.1 1, n4, .inl f4))] := hD
    exact hj10 1 _ _ _ h hP hD hS hl
  refine lv_icmp_gt (tgt := 39) hx hb d_Mo_table_30 (by decide) (fun cq194 => ?_) (fun cq194 => ?_)
  · replace h := (if_pos cq194).symm.trans h
    exact hj193 () _ _ _ h (hP.sub (ws' := [(a0, .inr (9, [.ref a1, .ref o0_1, .ref o0_2, .int x0_3, .int x0_4, .int x0_5, .int x0_6, .int x0_7, .int x0_8, .int x0_9, .int x0_10, .int x0_11, .int r5.2.1, .int x0_13, .int x0_14, .int x0_15, .int r5.2.2, .ref a2, .ref a5, .ref a6, .ref a3, .ref a4, .ref o0_22, .ref o0_23])), (a1, .inl (G.2.1 0, n1, .inl f1)), (a2, .inl (G.2.1 1, n2, .inl f2)), (a5, .inl (G.2.1 1, n5, .inl f5)), (a6, .inl (G.2.1 1, n6, .inl f6)), (a3, .inl (G.2.1 1, n3, .inl f3)), (a4, .inl (G.2.1 1, n4, .inl f4))]) [5, 6, 0, 3, 4, 1, 2] rfl) (hD.sub (ws' := [(a0, .inr (9, [.ref a1, .ref o0_1, .ref o0_2, .int x0_3, .int x0_4, .int x0_5, .int x0_6, .int x0_7, .int x0_8, .int x0_9, .int x0_10, .int x0_11, .int r5.2.1, .int x0_13, .int x0_14, .int x0_15, .int r5.2.2, .ref a2, .ref a5, .ref a6, .ref a3, .ref a4, .ref o0_22, .ref o0_23])), (a1, .inl (G.2.1 0, n1, .inl f1)), (a2, .inl (G.2.1 1, n2, .inl f2)), (a5, .inl (G.2.1 1, n5, .inl f5)), (a6, .inl (G.2.1 1, n6, .inl f6)), (a3, .inl (G.2.1 1, n3, .inl f3)), (a4, .inl (G.2.1 1, n4, .inl f4))]) [5, 6, 0, 3, 4, 1, 2] (by decide) rfl) hS (lv_sub hl [3, 2, 1, 0] rfl)
  · replace h := (if_neg cq194).symm.trans h
    refine lv_iload_n hx hb d_Mo_table_33 rfl (lv_at hl 1 rfl) ?_
    refine lv_bipush (v := 30) hx hb d_Mo_table_34 (by decide) ?_
    refine lv_icmp_le (tgt := 44) hx hb d_Mo_table_36 (by decide) (fun cq195 => ?_) (fun cq195 => ?_)
    · replace h := (if_pos cq195).symm.trans h
      exact hj10 r5.2.2 _ _ _ h (hP.sub (ws' := [(a0, .inr (9, [.ref a1, .ref o0_1, .ref o0_2, .int x0_3, .int x0_4, .int x0_5, .int x0_6, .int x0_7, .int x0_8, .int x0_9, .int x0_10, .int x0_11, .int r5.2.1, .int x0_13, .int x0_14, .int x0_15, .int r5.2.2, .ref a2, .ref a5, .ref a6, .ref a3, .ref a4, .ref o0_22, .ref o0_23])), (a1, .inl (G.2.1 0, n1, .inl f1)), (a2, .inl (G.2.1 1, n2, .inl f2)), (a5, .inl (G.2.1 1, n5, .inl f5)), (a6, .inl (G.2.1 1, n6, .inl f6)), (a3, .inl (G.2.1 1, n3, .inl f3)), (a4, .inl (G.2.1 1, n4, .inl f4))]) [5, 6, 0, 3, 4, 1, 2] rfl) (hD.sub (ws' := [(a0, .inr (9, [.ref a1, .ref o0_1, .ref o0_2, .int x0_3, .int x0_4, .int x0_5, .int x0_6, .int x0_7, .int x0_8, .int x0_9, .int x0_10, .int x0_11, .int r5.2.1, .int x0_13, .int x0_14, .int x0_15, .int r5.2.2, .ref a2, .ref a5, .ref a6, .ref a3, .ref a4, .ref o0_22, .ref o0_23])), (a1, .inl (G.2.1 0, n1, .inl f1)), (a2, .inl (G.2.1 1, n2, .inl f2)), (a5, .inl (G.2.1 1, n5, .inl f5)), (a6, .inl (G.2.1 1, n6, .inl f6)), (a3, .inl (G.2.1 1, n3, .inl f3)), (a4, .inl (G.2.1 1, n4, .inl f4))]) [5, 6, 0, 3, 4, 1, 2] (by decide) rfl) hS (lv_sub hl [3, 2, 1, 0] rfl)
    · replace h := (if_neg cq195).symm.trans h
      exact hj193 () _ _ _ h (hP.sub (ws' := [(a0, .inr (9, [.ref a1, .ref o0_1, .ref o0_2, .int x0_3, .int x0_4, .int x0_5, .int x0_6, .int x0_7, .int x0_8, .int x0_9, .int x0_10, .int x0_11, .int r5.2.1, .int x0_13, .int x0_14, .int x0_15, .int r5.2.2, .ref a2, .ref a5, .ref a6, .ref a3, .ref a4, .ref o0_22, .ref o0_23])), (a1, .inl (G.2.1 0, n1, .inl f1)), (a2, .inl (G.2.1 1, n2, .inl f2)), (a5, .inl (G.2.1 1, n5, .inl f5)), (a6, .inl (G.2.1 1, n6, .inl f6)), (a3, .inl (G.2.1 1, n3, .inl f3)), (a4, .inl (G.2.1 1, n4, .inl f4))]) [5, 6, 0, 3, 4, 1, 2] rfl) (hD.sub (ws' := [(a0, .inr (9, [.ref a1, .ref o0_1, .ref o0_2, .int x0_3, .int x0_4, .int x0_5, .int x0_6, .int x0_7, .int x0_8, .int x0_9, .int x0_10, .int x0_11, .int r5.2.1, .int x0_13, .int x0_14, .int x0_15, .int r5.2.2, .ref a2, .ref a5, .ref a6, .ref a3, .ref a4, .ref o0_22, .ref o0_23])), (a1, .inl (G.2.1 0, n1, .inl f1)), (a2, .inl (G.2.1 1, n2, .inl f2)), (a5, .inl (G.2.1 1, n5, .inl f5)), (a6, .inl (G.2.1 1, n6, .inl f6)), (a3, .inl (G.2.1 1, n3, .inl f3)), (a4, .inl (G.2.1 1, n4, .inl f4))]) [5, 6, 0, 3, 4, 1, 2] (by decide) rfl) hS (lv_sub hl [3, 2, 1, 0] rfl)
