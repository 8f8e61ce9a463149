set_option maxHeartbeats 4000000 in
set_option maxRecDepth 100000 in
theorem c_Mo_change (l : Launch) (G : GX) (a0 a1 o0_1 o0_2 o0_17 o0_18 o0_19 o0_20 o0_21 o0_22 o0_23 : Nat) (sz : Nat) (x0_3 : Int32) (x0_4 : Int32) (x0_5 : Int32) (x0_6 : Int32) (x0_7 : Int32) (x0_8 : Int32) (x0_9 : Int32) (x0_10 : Int32) (x0_11 : Int32) (x0_12 : Int32) (x0_13 : Int32) (x0_14 : Int32) (x0_15 : Int32) (x0_16 : Int32) (n1 : Nat) (f1 : (Nat → Int32)) (p1 : Int32) (p2 : Int32) (N : Nat) (V : Int32 × (Nat → Int32)) (h : f_Mo_change N x0_3 n1 f1 p1 p2 = some V) :
    Met l y_Mo_change (wd y_Mo_change b_Mo_change 3 none) { frames := 0, cells := 0, slots := 0, locals := 0 } (PX G [.ref a0, .int p1, .int p2] sz [(a0, .inr (9, [.ref a1, .ref o0_1, .ref o0_2, .int x0_3, .int x0_4, .int x0_5, .int x0_6, .int x0_7, .int x0_8, .int x0_9, .int x0_10, .int x0_11, .int x0_12, .int x0_13, .int x0_14, .int x0_15, .int x0_16, .ref o0_17, .ref o0_18, .ref o0_19, .ref o0_20, .ref o0_21, .ref o0_22, .ref o0_23])), (a1, .inl (G.2.1 0, n1, .inl f1))])
      (QXv G (fun w => w = [(a0, .inr (9, [.ref a1, .ref o0_1, .ref o0_2, .int x0_3, .int x0_4, .int x0_5, .int x0_6, .int x0_7, .int x0_8, .int x0_9, .int V.1, .int x0_11, .int x0_12, .int x0_13, .int x0_14, .int x0_15, .int x0_16, .ref o0_17, .ref o0_18, .ref o0_19, .ref o0_20, .ref o0_21, .ref o0_22, .ref o0_23])), (a1, .inl (G.2.1 0, n1, .inl V.2))]) (va_A [(a0, .inr (9, [.ref a1, .ref o0_1, .ref o0_2, .int x0_3, .int x0_4, .int x0_5, .int x0_6, .int x0_7, .int x0_8, .int x0_9, .int x0_10, .int x0_11, .int x0_12, .int x0_13, .int x0_14, .int x0_15, .int x0_16, .ref o0_17, .ref o0_18, .ref o0_19, .ref o0_20, .ref o0_21, .ref o0_22, .ref o0_23])), (a1, .inl (G.2.1 0, n1, .inl f1))] sz)) 0 0 (va_A [(a0, .inr (9, [.ref a1, .ref o0_1, .ref o0_2, .int x0_3, .int x0_4, .int x0_5, .int x0_6, .int x0_7, .int x0_8, .int x0_9, .int x0_10, .int x0_11, .int x0_12, .int x0_13, .int x0_14, .int x0_15, .int x0_16, .ref o0_17, .ref o0_18, .ref o0_19, .ref o0_20, .ref o0_21, .ref o0_22, .ref o0_23])), (a1, .inl (G.2.1 0, n1, .inl f1))] sz) := by
  refine Met_in (QQ := fun A => QXv G (fun w => w = [(a0, .inr (9, [.ref a1, .ref o0_1, .ref o0_2, .int x0_3, .int x0_4, .int x0_5, .int x0_6, .int x0_7, .int x0_8, .int x0_9, .int V.1, .int x0_11, .int x0_12, .int x0_13, .int x0_14, .int x0_15, .int x0_16, .ref o0_17, .ref o0_18, .ref o0_19, .ref o0_20, .ref o0_21, .ref o0_22, .ref o0_23])), (a1, .inl (G.2.1 0, n1, .inl V.2))]) A) (by decide) (Nat.le_of_ble_eq_true rfl) (fun p e s m below meth c R Q A ls C0 hRf hRl hRc hRs hP hK hD hT hA hS hl hQ => ?_)
  obtain ⟨hx, hb, hml, hown, hts, hr, hlocks, hin⟩ := id C0
  have hown : s.vm.findClass R_Mo = some m.cls := hown
  have hl : lv_has ls 3 [(0, .ref a0), (1, .int p1), (2, .int p2)] := hl
  unfold f_Mo_change at h
  have hkc : 0 ≤ R.cells := Nat.zero_le _
  have hks : 0 ≤ R.slots := Nat.zero_le _
  obtain ⟨H, hH⟩ : ∃ H, H = s.heap := ⟨_, rfl⟩
  obtain ⟨locs, hlc⟩ : ∃ x : List Loc, x = [] := ⟨_, rfl⟩
  rw [← hH] at hP
  have hS : va_S A s.heap H locs := by rw [hH, hlc]; exact hS
  suffices hgo : W p l e R s m [.ref a0, .int p1, .int p2].toArray below meth c H locs 0 0 Q (F0 m 0 ls []) by rw [hH, hlc] at hgo; exact hgo
  refine lv_aload_n hx hb d_Mo_change_0 rfl (lv_at hl 0 rfl) ?_
  refine lv_iconst (v := 0) hx hb d_Mo_change_1 (by decide) ?_
  refine va_put (D := G.1) (ci := 9) (v := .int 0) (ty := .int) (C := R_Mo) (T := F_Mo) (N := 24) hx hb hts i_Mo t_Mo t_Mo_ok n_Mo hown hK hP hD hS 0 rfl rfl 10 (by decide) (hts _ q434) (fun _ h9 => h9) rfl (by decide +kernel) rfl rfl (Nat.le_of_ble_eq_true rfl) d_Mo_change_2 (fun H locs hP hD hS => ?_)
  have hP : va_P G.1 classes [(a0, .inr (9, [.ref a1, .ref o0_1, .ref o0_2, .int x0_3, .int x0_4, .int x0_5, .int x0_6, .int x0_7, .int x0_8, .int x0_9, .int 0, .int x0_11, .int x0_12, .int x0_13, .int x0_14, .int x0_15, .int x0_16, .ref o0_17, .ref o0_18, .ref o0_19, .ref o0_20, .ref o0_21, .ref o0_22, .ref o0_23])), (a1, .inl (G.2.1 0, n1, .inl f1))] H := hP
  have hD : va_D A [(a0, .inr (9, [.ref a1, .ref o0_1, .ref o0_2, .int x0_3, .int x0_4, .int x0_5, .int x0_6, .int x0_7, .int x0_8, .int x0_9, .int 0, .int x0_11, .int x0_12, .int x0_13, .int x0_14, .int x0_15, .int x0_16, .ref o0_17, .ref o0_18, .ref o0_19, .ref o0_20, .ref o0_21, .ref o0_22, .ref o0_23])), (a1, .inl (G.2.1 0, n1, .inl f1))] := hD
  refine lv_iload_n hx hb d_Mo_change_5 rfl (lv_at hl 1 rfl) ?_
  obtain ⟨j8, ej8, h⟩ := Jn_e h
  have hj8 : ∀ (t8 : Unit) (H : Heap) (locs : List Loc) (ls : Array Slot), j8 t8 = some V → va_P G.1 classes [(a0, .inr (9, [.ref a1, .ref o0_1, .ref o0_2, .int x0_3, .int x0_4, .int x0_5, .int x0_6, .int x0_7, .int x0_8, .int x0_9, .int 0, .int x0_11, .int x0_12, .int x0_13, .int x0_14, .int x0_15, .int x0_16, .ref o0_17, .ref o0_18, .ref o0_19, .ref o0_20, .ref o0_21, .ref o0_22, .ref o0_23])), (a1, .inl (G.2.1 0, n1, .inl f1))] H → va_D A [(a0, .inr (9, [.ref a1, .ref o0_1, .ref o0_2, .int x0_3, .int x0_4, .int x0_5, .int x0_6, .int x0_7, .int x0_8, .int x0_9, .int 0, .int x0_11, .int x0_12, .int x0_13, .int x0_14, .int x0_15, .int x0_16, .ref o0_17, .ref o0_18, .ref o0_19, .ref o0_20, .ref o0_21, .ref o0_22, .ref o0_23])), (a1, .inl (G.2.1 0, n1, .inl f1))] → va_S A s.heap H locs → lv_has ls 3 [(0, .ref a0)] → W p l e R s m [.ref a0, .int p1, .int p2].toArray below meth c H locs 0 0 Q (F0 m 28 ls []) := by
    intro t8 H locs ls h hP hD hS hl
    replace h := ej8 _ _ h
    refine lv_aload_n hx hb d_Mo_change_28 rfl (lv_at hl 0 rfl) ?_
    refine lv_iconst (v := 1) hx hb d_Mo_change_29 (by decide) ?_
    refine va_put (D := G.1) (ci := 9) (v := .int 1) (ty := .int) (C := R_Mo) (T := F_Mo) (N := 24) hx hb hts i_Mo t_Mo t_Mo_ok n_Mo hown hK hP hD hS 0 rfl rfl 10 (by decide) (hts _ q434) (fun _ h9 => h9) rfl (by decide +kernel) rfl rfl (Nat.le_of_ble_eq_true rfl) d_Mo_change_30 (fun H locs hP hD hS => ?_)
    have hP : va_P G.1 classes [(a0, .inr (9, [.ref a1, .ref o0_1, .ref o0_2, .int x0_3, .int x0_4, .int x0_5, .int x0_6, .int x0_7, .int x0_8, .int x0_9, .int 1, .int x0_11, .int x0_12, .int x0_13, .int x0_14, .int x0_15, .int x0_16, .ref o0_17, .ref o0_18, .ref o0_19, .ref o0_20, .ref o0_21, .ref o0_22, .ref o0_23])), (a1, .inl (G.2.1 0, n1, .inl f1))] H := hP
    have hD : va_D A [(a0, .inr (9, [.ref a1, .ref o0_1, .ref o0_2, .int x0_3, .int x0_4, .int x0_5, .int x0_6, .int x0_7, .int x0_8, .int x0_9, .int 1, .int x0_11, .int x0_12, .int x0_13, .int x0_14, .int x0_15, .int x0_16, .ref o0_17, .ref o0_18, .ref o0_19, .ref o0_20, .ref o0_21, .ref o0_22, .ref o0_23])), (a1, .inl (G.2.1 0, n1, .inl f1))] := hD
    refine lv_goto (tgt := 51) hx hb d_Mo_change_33 (by decide) ?_
    have eV := so1 h
    subst eV
    exact x_vret C0 hQ hP hD hS rfl (Nat.zero_le _) (Nat.zero_le _) d_Mo_change_51
  refine lv_if_lt (tgt := 28) hx hb d_Mo_change_6 (by decide) (fun cq9 => ?_) (fun cq9 => ?_)
  · replace h := (if_pos cq9).symm.trans h
    exact hj8 () _ _ _ h hP hD hS (lv_sub hl [0] rfl)
  · replace h := (if_neg cq9).symm.trans h
    refine lv_iload_n hx hb d_Mo_change_9 rfl (lv_at hl 1 rfl) ?_
    refine lv_aload_n hx hb d_Mo_change_10 rfl (lv_at hl 0 rfl) ?_
    refine va_get (D := G.1) (ci := 9) (v := .int x0_3) (C := R_Mo) (T := F_Mo) (N := 24) hx hb hts i_Mo hown hK hP 0 rfl rfl 3 (by decide) (hts _ q435) (fun _ h9 => h9) rfl d_Mo_change_11 ?_
    refine lv_icmp_ge (tgt := 28) hx hb d_Mo_change_14 (by decide) (fun cq10 => ?_) (fun cq10 => ?_)
    · replace h := (if_pos cq10).symm.trans h
      exact hj8 () _ _ _ h hP hD hS (lv_sub hl [0] rfl)
    · replace h := (if_neg cq10).symm.trans h
      refine lv_iload_n hx hb d_Mo_change_17 rfl (lv_at hl 2 rfl) ?_
      refine lv_if_lt (tgt := 28) hx hb d_Mo_change_18 (by decide) (fun cq11 => ?_) (fun cq11 => ?_)
      · replace h := (if_pos cq11).symm.trans h
        exact hj8 () _ _ _ h hP hD hS (lv_sub hl [0] rfl)
      · replace h := (if_neg cq11).symm.trans h
        refine lv_iload_n hx hb d_Mo_change_21 rfl (lv_at hl 2 rfl) ?_
        refine lv_sipush (v := 255) hx hb d_Mo_change_22 (by decide) ?_
        refine lv_icmp_le (tgt := 36) hx hb d_Mo_change_25 (by decide) (fun cq12 => ?_) (fun cq12 => ?_)
        · replace h := (if_pos cq12).symm.trans h
          refine lv_aload_n hx hb d_Mo_change_36 rfl (lv_at hl 0 rfl) ?_
          refine va_get (D := G.1) (ci := 9) (v := .ref a1) (C := R_Mo) (T := F_Mo) (N := 24) hx hb hts i_Mo hown hK hP 0 rfl rfl 0 (by decide) (hts _ q423) (fun _ h9 => h9) rfl d_Mo_change_37 ?_
          refine lv_iload_n hx hb d_Mo_change_40 rfl (lv_at hl 1 rfl) ?_
          refine lv_aload_n hx hb d_Mo_change_41 rfl (lv_at hl 0 rfl) ?_
          refine va_get (D := G.1) (ci := 9) (v := .ref a1) (C := R_Mo) (T := F_Mo) (N := 24) hx hb hts i_Mo hown hK hP 0 rfl rfl 0 (by decide) (hts _ q423) (fun _ h9 => h9) rfl d_Mo_change_42 ?_
          refine lv_iload_n hx hb d_Mo_change_45 rfl (lv_at hl 1 rfl) ?_
          obtain ⟨hi13, h⟩ := Ix_e h
          refine va_bald hx hb hK hP 1 0 rfl rfl hi13 d_Mo_change_46 ?_
          refine lv_iload_n hx hb d_Mo_change_47 rfl (lv_at hl 2 rfl) ?_
          refine lv_ixor hx hb d_Mo_change_48 ?_
          refine lv_i2b (v := ((f1 (p1).toNatClampNeg) ^^^ p2).toInt8.toInt32) hx hb d_Mo_change_49 rfl ?_
          obtain ⟨hi14, h⟩ := Ix_e h
          refine y_bast hx hb hK hP hD hS 1 0 rfl rfl hi14 d_Mo_change_50 (fun g15 H locs eg15 hP hD hS => ?_)
          replace h := Lt_e h eg15
          have hP : va_P G.1 classes [(a0, .inr (9, [.ref a1, .ref o0_1, .ref o0_2, .int x0_3, .int x0_4, .int x0_5, .int x0_6, .int x0_7, .int x0_8, .int x0_9, .int 0, .int x0_11, .int x0_12, .int x0_13, .int x0_14, .int x0_15, .int x0_16, .ref o0_17, .ref o0_18, .ref o0_19, .ref o0_20, .ref o0_21, .ref o0_22, .ref o0_23])), (a1, .inl (G.2.1 0, n1, .inl g15))] H := hP
          have hD : va_D A [(a0, .inr (9, [.ref a1, .ref o0_1, .ref o0_2, .int x0_3, .int x0_4, .int x0_5, .int x0_6, .int x0_7, .int x0_8, .int x0_9, .int 0, .int x0_11, .int x0_12, .int x0_13, .int x0_14, .int x0_15, .int x0_16, .ref o0_17, .ref o0_18, .ref o0_19, .ref o0_20, .ref o0_21, .ref o0_22, .ref o0_23])), (a1, .inl (G.2.1 0, n1, .inl g15))] := hD
          have eV := so1 h
          subst eV
          exact x_vret C0 hQ hP hD hS rfl (Nat.zero_le _) (Nat.zero_le _) d_Mo_change_51
        · replace h := (if_neg cq12).symm.trans h
          exact hj8 () _ _ _ h hP hD hS (lv_sub hl [0] rfl)
set_option maxHeartbeats 4000000 in
set_option maxRecDepth 100000 in
theorem c_Mo_putBit (l : Launch) (G : GX) (a0 a1 o0_0 o0_2 o0_17 o0_18 o0_19 o0_20 o0_21 o0_22 o0_23 : Nat) (sz : Nat) (x0_3 : Int32) (x0_4 : Int32) (x0_5 : Int32) (x0_6 : Int32) (x0_7 : Int32) (x0_8 : Int32) (x0_9 : Int32) (x0_10 : Int32) (x0_11 : Int32) (x0_12 : Int32) (x0_13 : Int32) (x0_14 : Int32) (x0_15 : Int32) (x0_16 : Int32) (n1 : Nat) (f1 : (Nat → Int32)) (p1 : Int32) (N : Nat) (V : Int32 × (Nat → Int32)) (h : f_Mo_putBit N x0_11 n1 f1 p1 = some V) :
    Met l y_Mo_putBit (wd y_Mo_putBit b_Mo_putBit 3 none) { frames := 0, cells := 0, slots := 0, locals := 0 } (PX G [.ref a0, .int p1] sz [(a0, .inr (9, [.ref o0_0, .ref a1, .ref o0_2, .int x0_3, .int x0_4, .int x0_5, .int x0_6, .int x0_7, .int x0_8, .int x0_9, .int x0_10, .int x0_11, .int x0_12, .int x0_13, .int x0_14, .int x0_15, .int x0_16, .ref o0_17, .ref o0_18, .ref o0_19, .ref o0_20, .ref o0_21, .ref o0_22, .ref o0_23])), (a1, .inl (G.2.1 0, n1, .inl f1))])
      (QXv G (fun w => w = [(a0, .inr (9, [.ref o0_0, .ref a1, .ref o0_2, .int x0_3, .int x0_4, .int x0_5, .int x0_6, .int x0_7, .int x0_8, .int x0_9, .int x0_10, .int V.1, .int x0_12, .int x0_13, .int x0_14, .int x0_15, .int x0_16, .ref o0_17, .ref o0_18, .ref o0_19, .ref o0_20, .ref o0_21, .ref o0_22, .ref o0_23])), (a1, .inl (G.2.1 0, n1, .inl V.2))]) (va_A [(a0, .inr (9, [.ref o0_0, .ref a1, .ref o0_2, .int x0_3, .int x0_4, .int x0_5, .int x0_6, .int x0_7, .int x0_8, .int x0_9, .int x0_10, .int x0_11, .int x0_12, .int x0_13, .int x0_14, .int x0_15, .int x0_16, .ref o0_17, .ref o0_18, .ref o0_19, .ref o0_20, .ref o0_21, .ref o0_22, .ref o0_23])), (a1, .inl (G.2.1 0, n1, .inl f1))] sz)) 0 0 (va_A [(a0, .inr (9, [.ref o0_0, .ref a1, .ref o0_2, .int x0_3, .int x0_4, .int x0_5, .int x0_6, .int x0_7, .int x0_8, .int x0_9, .int x0_10, .int x0_11, .int x0_12, .int x0_13, .int x0_14, .int x0_15, .int x0_16, .ref o0_17, .ref o0_18, .ref o0_19, .ref o0_20, .ref o0_21, .ref o0_22, .ref o0_23])), (a1, .inl (G.2.1 0, n1, .inl f1))] sz) := by
  refine Met_in (QQ := fun A => QXv G (fun w => w = [(a0, .inr (9, [.ref o0_0, .ref a1, .ref o0_2, .int x0_3, .int x0_4, .int x0_5, .int x0_6, .int x0_7, .int x0_8, .int x0_9, .int x0_10, .int V.1, .int x0_12, .int x0_13, .int x0_14, .int x0_15, .int x0_16, .ref o0_17, .ref o0_18, .ref o0_19, .ref o0_20, .ref o0_21, .ref o0_22, .ref o0_23])), (a1, .inl (G.2.1 0, n1, .inl V.2))]) A) (by decide) (Nat.le_of_ble_eq_true rfl) (fun p e s m below meth c R Q A ls C0 hRf hRl hRc hRs hP hK hD hT hA hS hl hQ => ?_)
  obtain ⟨hx, hb, hml, hown, hts, hr, hlocks, hin⟩ := id C0
  have hown : s.vm.findClass R_Mo = some m.cls := hown
  have hl : lv_has ls 3 [(0, .ref a0), (1, .int p1)] := hl
  unfold f_Mo_putBit at h
  have hkc : 0 ≤ R.cells := Nat.zero_le _
  have hks : 0 ≤ R.slots := Nat.zero_le _
  obtain ⟨H, hH⟩ : ∃ H, H = s.heap := ⟨_, rfl⟩
  obtain ⟨locs, hlc⟩ : ∃ x : List Loc, x = [] := ⟨_, rfl⟩
  rw [← hH] at hP
  have hS : va_S A s.heap H locs := by rw [hH, hlc]; exact hS
  suffices hgo : W p l e R s m [.ref a0, .int p1].toArray below meth c H locs 0 0 Q (F0 m 0 ls []) by rw [hH, hlc] at hgo; exact hgo
  refine lv_iconst (v := 2) hx hb d_Mo_putBit_0 (by decide) ?_
  refine lv_aload_n hx hb d_Mo_putBit_1 rfl (lv_at hl 0 rfl) ?_
  refine va_get (D := G.1) (ci := 9) (v := .int x0_11) (C := R_Mo) (T := F_Mo) (N := 24) hx hb hts i_Mo hown hK hP 0 rfl rfl 11 (by decide) (hts _ q441) (fun _ h9 => h9) rfl d_Mo_putBit_2 ?_
  refine lv_bipush (v := 8) hx hb d_Mo_putBit_5 (by decide) ?_
  refine lv_idiv hx hb d_Mo_putBit_7 (by decide) ?_
  refine lv_iadd hx hb d_Mo_putBit_8 ?_
  refine lv_topi (fun v1 ev1 => ?_)
  replace h := Lt_e h ev1
  refine lv_istore_n (lv' := [(2, .int v1), (0, .ref a0), (1, .int p1)]) hx hb d_Mo_putBit_9 rfl hl (by decide) rfl (fun ls hl => ?_)
  refine lv_aload_n hx hb d_Mo_putBit_10 rfl (lv_at hl 1 rfl) ?_
  refine va_get (D := G.1) (ci := 9) (v := .int x0_11) (C := R_Mo) (T := F_Mo) (N := 24) hx hb hts i_Mo hown hK hP 0 rfl rfl 11 (by decide) (hts _ q441) (fun _ h9 => h9) rfl d_Mo_putBit_11 ?_
  refine lv_bipush (v := 8) hx hb d_Mo_putBit_14 (by decide) ?_
  refine lv_irem hx hb d_Mo_putBit_16 (by decide) ?_
  obtain ⟨j5, ej5, h⟩ := Jn_e h
  have hj5 : ∀ (t5 : (Nat → Int32)) (H : Heap) (locs : List Loc) (ls : Array Slot), j5 t5 = some V → va_P G.1 classes [(a0, .inr (9, [.ref o0_0, .ref a1, .ref o0_2, .int x0_3, .int x0_4, .int x0_5, .int x0_6, .int x0_7, .int x0_8, .int x0_9, .int x0_10, .int x0_11, .int x0_12, .int x0_13, .int x0_14, .int x0_15, .int x0_16, .ref o0_17, .ref o0_18, .ref o0_19, .ref o0_20, .ref o0_21, .ref o0_22, .ref o0_23])), (a1, .inl (G.2.1 0, n1, .inl t5))] H → va_D A [(a0, .inr (9, [.ref o0_0, .ref a1, .ref o0_2, .int x0_3, .int x0_4, .int x0_5, .int x0_6, .int x0_7, .int x0_8, .int x0_9, .int x0_10, .int x0_11, .int x0_12, .int x0_13, .int x0_14, .int x0_15, .int x0_16, .ref o0_17, .ref o0_18, .ref o0_19, .ref o0_20, .ref o0_21, .ref o0_22, .ref o0_23])), (a1, .inl (G.2.1 0, n1, .inl t5))] → va_S A s.heap H locs → lv_has ls 3 [(0, .ref a0), (1, .int p1), (2, .int v1)] → W p l e R s m [.ref a0, .int p1].toArray below meth c H locs 0 0 Q (F0 m 27 ls []) := by
    intro t5 H locs ls h hP hD hS hl
    replace h := ej5 _ _ h
    refine lv_iload_n hx hb d_Mo_putBit_27 rfl (lv_at hl 1 rfl) ?_
    obtain ⟨j10, ej10, h⟩ := Jn_e h
    have hj10 : ∀ (t10 : (Nat → Int32)) (H : Heap) (locs : List Loc) (ls : Array Slot), j10 t10 = some V → va_P G.1 classes [(a0, .inr (9, [.ref o0_0, .ref a1, .ref o0_2, .int x0_3, .int x0_4, .int x0_5, .int x0_6, .int x0_7, .int x0_8, .int x0_9, .int x0_10, .int x0_11, .int x0_12, .int x0_13, .int x0_14, .int x0_15, .int x0_16, .ref o0_17, .ref o0_18, .ref o0_19, .ref o0_20, .ref o0_21, .ref o0_22, .ref o0_23])), (a1, .inl (G.2.1 0, n1, .inl t10))] H → va_D A [(a0, .inr (9, [.ref o0_0, .ref a1, .ref o0_2, .int x0_3, .int x0_4, .int x0_5, .int x0_6, .int x0_7, .int x0_8, .int x0_9, .int x0_10, .int x0_11, .int x0_12, .int x0_13, .int x0_14, .int x0_15, .int x0_16, .ref o0_17, .ref o0_18, .ref o0_19, .ref o0_20, .ref o0_21, .ref o0_22, .ref o0_23])), (a1, .inl (G.2.1 0, n1, .inl t10))] → va_S A s.heap H locs → lv_has ls 3 [(0, .ref a0)] → W p l e R s m [.ref a0, .int p1].toArray below meth c H locs 0 0 Q (F0 m 54 ls []) := by
      intro t10 H locs ls h hP hD hS hl
      replace h := ej10 _ _ h
      refine lv_aload_n hx hb d_Mo_putBit_54 rfl (lv_at hl 0 rfl) ?_
      refine lv_dup hx hb d_Mo_putBit_55 rfl ?_
      refine va_get (D := G.1) (ci := 9) (v := .int x0_11) (C := R_Mo) (T := F_Mo) (N := 24) hx hb hts i_Mo hown hK hP 0 rfl rfl 11 (by decide) (hts _ q441) (fun _ h9 => h9) rfl d_Mo_putBit_56 ?_
      refine lv_iconst (v := 1) hx hb d_Mo_putBit_59 (by decide) ?_
      refine lv_iadd hx hb d_Mo_putBit_60 ?_
      refine lv_topi (fun v11 ev11 => ?_)
      replace h := Lt_e h ev11
      refine va_put (D := G.1) (ci := 9) (v := .int v11) (ty := .int) (C := R_Mo) (T := F_Mo) (N := 24) hx hb hts i_Mo t_Mo t_Mo_ok n_Mo hown hK hP hD hS 0 rfl rfl 11 (by decide) (hts _ q441) (fun _ h9 => h9) rfl (by decide +kernel) rfl rfl (Nat.le_of_ble_eq_true rfl) d_Mo_putBit_61 (fun H locs hP hD hS => ?_)
      have hP : va_P G.1 classes [(a0, .inr (9, [.ref o0_0, .ref a1, .ref o0_2, .int x0_3, .int x0_4, .int x0_5, .int x0_6, .int x0_7, .int x0_8, .int x0_9, .int x0_10, .int v11, .int x0_12, .int x0_13, .int x0_14, .int x0_15, .int x0_16, .ref o0_17, .ref o0_18, .ref o0_19, .ref o0_20, .ref o0_21, .ref o0_22, .ref o0_23])), (a1, .inl (G.2.1 0, n1, .inl t10))] H := hP
      have hD : va_D A [(a0, .inr (9, [.ref o0_0, .ref a1, .ref o0_2, .int x0_3, .int x0_4, .int x0_5, .int x0_6, .int x0_7, .int x0_8, .int x0_9, .int x0_10, .int v11, .int x0_12, .int x0_13, .int x0_14, .int x0_15, .int x0_16, .ref o0_17, .ref o0_18, .ref o0_19, .ref o0_20, .ref o0_21, .ref o0_22, .ref o0_23])), (a1, .inl (G.2.1 0, n1, .inl t10))] := hD
      have eV := so1 h
      subst eV
      exact x_vret C0 hQ hP hD hS rfl (Nat.zero_le _) (Nat.zero_le _) d_Mo_putBit_64
    refine lv_if_eq (tgt := 54) hx hb d_Mo_putBit_28 (by decide) (fun cq12 => ?_) (fun cq12 => ?_)
    · replace h := (if_pos cq12).symm.trans h
      exact hj10 t5 _ _ _ h hP hD hS (lv_sub hl [0] rfl)
    · replace h := (if_neg cq12).symm.trans h
      refine lv_aload_n hx hb d_Mo_putBit_31 rfl (lv_at hl 0 rfl) ?_
      refine va_get (D := G.1) (ci := 9) (v := .ref a1) (C := R_Mo) (T := F_Mo) (N := 24) hx hb hts i_Mo hown hK hP 0 rfl rfl 1 (by decide) (hts _ q425) (fun _ h9 => h9) rfl d_Mo_putBit_32 ?_
      refine lv_iload_n hx hb d_Mo_putBit_35 rfl (lv_at hl 2 rfl) ?_
      refine lv_aload_n hx hb d_Mo_putBit_36 rfl (lv_at hl 0 rfl) ?_
      refine va_get (D := G.1) (ci := 9) (v := .ref a1) (C := R_Mo) (T := F_Mo) (N := 24) hx hb hts i_Mo hown hK hP 0 rfl rfl 1 (by decide) (hts _ q425) (fun _ h9 => h9) rfl d_Mo_putBit_37 ?_
      refine lv_iload_n hx hb d_Mo_putBit_40 rfl (lv_at hl 2 rfl) ?_
      obtain ⟨hi13, h⟩ := Ix_e h
      refine va_bald hx hb hK hP 1 0 rfl rfl hi13 d_Mo_putBit_41 ?_
      refine lv_iconst (v := 1) hx hb d_Mo_putBit_42 (by decide) ?_
      refine lv_aload_n hx hb d_Mo_putBit_43 rfl (lv_at hl 0 rfl) ?_
      refine va_get (D := G.1) (ci := 9) (v := .int x0_11) (C := R_Mo) (T := F_Mo) (N := 24) hx hb hts i_Mo hown hK hP 0 rfl rfl 11 (by decide) (hts _ q441) (fun _ h9 => h9) rfl d_Mo_putBit_44 ?_
      refine lv_bipush (v := 8) hx hb d_Mo_putBit_47 (by decide) ?_
      refine lv_irem hx hb d_Mo_putBit_49 (by decide) ?_
      refine lv_ishl hx hb d_Mo_putBit_50 ?_
      refine lv_ior hx hb d_Mo_putBit_51 ?_
      refine lv_i2b (v := ((t5 (v1).toNatClampNeg) ||| ((1 : Int32) <<< ((irm x0_11 8) &&& 31))).toInt8.toInt32) hx hb d_Mo_putBit_52 rfl ?_
      obtain ⟨hi14, h⟩ := Ix_e h
      refine y_bast hx hb hK hP hD hS 1 0 rfl rfl hi14 d_Mo_putBit_53 (fun g15 H locs eg15 hP hD hS => ?_)
      replace h := Lt_e h eg15
      have hP : va_P G.1 classes [(a0, .inr (9, [.ref o0_0, .ref a1, .ref o0_2, .int x0_3, .int x0_4, .int x0_5, .int x0_6, .int x0_7, .int x0_8, .int x0_9, .int x0_10, .int x0_11, .int x0_12, .int x0_13, .int x0_14, .int x0_15, .int x0_16, .ref o0_17, .ref o0_18, .ref o0_19, .ref o0_20, .ref o0_21, .ref o0_22, .ref o0_23])), (a1, .inl (G.2.1 0, n1, .inl g15))] H := hP
      have hD : va_D A [(a0, .inr (9, [.ref o0_0, .ref a1, .ref o0_2, .int x0_3, .int x0_4, .int x0_5, .int x0_6, .int x0_7, .int x0_8, .int x0_9, .int x0_10, .int x0_11, .int x0_12, .int x0_13, .int x0_14, .int x0_15, .int x0_16, .ref o0_17, .ref o0_18, .ref o0_19, .ref o0_20, .ref o0_21, .ref o0_22, .ref o0_23])), (a1, .inl (G.2.1 0, n1, .inl g15))] := hD
      exact hj10 g15 _ _ _ h hP hD hS (lv_sub hl [0] rfl)
  refine lv_if_ne (tgt := 27) hx hb d_Mo_putBit_17 (by decide) (fun cq16 => ?_) (fun cq16 => ?_)
  · replace h := (if_neg cq16).symm.trans h
    exact hj5 f1 _ _ _ h hP hD hS (lv_sub hl [1, 2, 0] rfl)
  · replace h := (if_pos cq16).symm.trans h
    refine lv_aload_n hx hb d_Mo_putBit_20 rfl (lv_at hl 1 rfl) ?_
    refine va_get (D := G.1) (ci := 9) (v := .ref a1) (C := R_Mo) (T := F_Mo) (N := 24) hx hb hts i_Mo hown hK hP 0 rfl rfl 1 (by decide) (hts _ q425) (fun _ h9 => h9) rfl d_Mo_putBit_21 ?_
    refine lv_iload_n hx hb d_Mo_putBit_24 rfl (lv_at hl 0 rfl) ?_
    refine lv_iconst (v := 0) hx hb d_Mo_putBit_25 (by decide) ?_
    obtain ⟨hi17, h⟩ := Ix_e h
    refine y_bast hx hb hK hP hD hS 1 0 rfl rfl hi17 d_Mo_putBit_26 (fun g18 H locs eg18 hP hD hS => ?_)
    replace h := Lt_e h eg18
    have hP : va_P G.1 classes [(a0, .inr (9, [.ref o0_0, .ref a1, .ref o0_2, .int x0_3, .int x0_4, .int x0_5, .int x0_6, .int x0_7, .int x0_8, .int x0_9, .int x0_10, .int x0_11, .int x0_12, .int x0_13, .int x0_14, .int x0_15, .int x0_16, .ref o0_17, .ref o0_18, .ref o0_19, .ref o0_20, .ref o0_21, .ref o0_22, .ref o0_23])), (a1, .inl (G.2.1 0, n1, .inl g18))] H := hP
    have hD : va_D A [(a0, .inr (9, [.ref o0_0, .ref a1, .ref o0_2, .int x0_3, .int x0_4, .int x0_5, .int x0_6, .int x0_7, .int x0_8, .int x0_9, .int x0_10, .int x0_11, .int x0_12, .int x0_13, .int x0_14, .int x0_15, .int x0_16, .ref o0_17, .ref o0_18, .ref o0_19, .ref o0_20, .ref o0_21, .ref o0_22, .ref o0_23])), (a1, .inl (G.2.1 0, n1, .inl g18))] := hD
    exact hj5 g18 _ _ _ h hP hD hS (lv_sub hl [1, 2, 0] rfl)
set_option maxHeartbeats 4000000 in
set_option maxRecDepth 100000 in
theorem w_Mo_putCode_4 {p : Program} {l : Launch} {e : Env} {R : Room} {s : State} {m : MethodId} {args : Array Value} {below : List Frame} {meth : Method} {c : Code} {Q : State → Prop} {G : GX} {A : Nat → Prop} (C0 : Cx p s m args meth c b_Mo_putCode 4 y_Mo_putCode none) (hRf : 1 ≤ R.frames) (hRl : 22 ≤ R.locals) (hA : ∀ q, s.heap.size ≤ q → A q) (hK : KX G s) (hT : TX G A s) (N : Nat) (i1 : Int32) (y0_3 : Int32) (y0_4 : Int32) (y0_5 : Int32) (y0_6 : Int32) (y0_7 : Int32) (y0_8 : Int32) (y0_9 : Int32) (y0_10 : Int32) (y0_12 : Int32) (y0_13 : Int32) (y0_14 : Int32) (y0_15 : Int32) (y0_16 : Int32) (m1 : Nat) (c0 c1 u0_0 u0_2 u0_17 u0_18 u0_19 u0_20 u0_21 u0_22 u0_23 : Nat) (out : Int32 × (Nat → Int32)) {kc ks : Nat} (hkc : kc ≤ R.cells) (hks : ks ≤ R.slots)
    (kx23 : ∀ (H : Heap) (locs : List Loc) (ls : Array Slot), va_P G.1 classes [(c0, .inr (9, [.ref u0_0, .ref c1, .ref u0_2, .int y0_3, .int y0_4, .int y0_5, .int y0_6, .int y0_7, .int y0_8, .int y0_9, .int y0_10, .int out.1, .int y0_12, .int y0_13, .int y0_14, .int y0_15, .int y0_16, .ref u0_17, .ref u0_18, .ref u0_19, .ref u0_20, .ref u0_21, .ref u0_22, .ref u0_23])), (c1, .inl (G.2.1 0, m1, .inl out.2))] H → va_D A [(c0, .inr (9, [.ref u0_0, .ref c1, .ref u0_2, .int y0_3, .int y0_4, .int y0_5, .int y0_6, .int y0_7, .int y0_8, .int y0_9, .int y0_10, .int out.1, .int y0_12, .int y0_13, .int y0_14, .int y0_15, .int y0_16, .ref u0_17, .ref u0_18, .ref u0_19, .ref u0_20, .ref u0_21, .ref u0_22, .ref u0_23])), (c1, .inl (G.2.1 0, m1, .inl out.2))] → va_S A s.heap H locs → lv_has ls 4 [] → W p l e R s m args below meth c H locs kc ks Q (F0 m 23 ls [])) :
    ∀ (n : Nat) (i3 : Int32) (y0_11 : Int32) (g_1 : (Nat → Int32)) (H : Heap) (locs : List Loc) (ls : Array Slot), lp_Mo_putCode_4 N i1 m1 n i3 y0_11 g_1 = some out → va_P G.1 classes [(c0, .inr (9, [.ref u0_0, .ref c1, .ref u0_2, .int y0_3, .int y0_4, .int y0_5, .int y0_6, .int y0_7, .int y0_8, .int y0_9, .int y0_10, .int y0_11, .int y0_12, .int y0_13, .int y0_14, .int y0_15, .int y0_16, .ref u0_17, .ref u0_18, .ref u0_19, .ref u0_20, .ref u0_21, .ref u0_22, .ref u0_23])), (c1, .inl (G.2.1 0, m1, .inl g_1))] H → va_D A [(c0, .inr (9, [.ref u0_0, .ref c1, .ref u0_2, .int y0_3, .int y0_4, .int y0_5, .int y0_6, .int y0_7, .int y0_8, .int y0_9, .int y0_10, .int y0_11, .int y0_12, .int y0_13, .int y0_14, .int y0_15, .int y0_16, .ref u0_17, .ref u0_18, .ref u0_19, .ref u0_20, .ref u0_21, .ref u0_22, .ref u0_23])), (c1, .inl (G.2.1 0, m1, .inl g_1))] → va_S A s.heap H locs → lv_has ls 4 [(0, .ref c0), (1, .int i1), (3, .int i3)] → W p l e R s m args below meth c H locs kc ks Q (F0 m 4 ls []) := by
  obtain ⟨hx, hb, hml, hown, hts, hr, hlocks, hin⟩ := id C0
  have hown : s.vm.findClass R_Mo = some m.cls := hown
  intro n
  induction n with
  | zero => intro i3 y0_11 g_1 H locs ls h; cases h
  | succ n ih =>
    intro i3 y0_11 g_1 H locs ls h hP hD hS hl
    replace h : lb_Mo_putCode_4 N i1 m1 (lp_Mo_putCode_4 N i1 m1 n) i3 y0_11 g_1 = some out := h
    unfold lb_Mo_putCode_4 at h
    refine lv_iload_n hx hb d_Mo_putCode_4 rfl (lv_at hl 2 rfl) ?_
    refine lv_if_lt (tgt := 23) hx hb d_Mo_putCode_5 (by decide) (fun cq5 => ?_) (fun cq5 => ?_)
    · replace h := (if_pos cq5).symm.trans h
      have eV := so1 h
      subst eV
      exact kx23 _ _ _ hP hD hS (lv_sub hl [] rfl)
    · replace h := (if_neg cq5).symm.trans h
      refine lv_aload_n hx hb d_Mo_putCode_8 rfl (lv_at hl 0 rfl) ?_
      refine lv_iload_n hx hb d_Mo_putCode_9 rfl (lv_at hl 1 rfl) ?_
      refine lv_iload_n hx hb d_Mo_putCode_10 rfl (lv_at hl 2 rfl) ?_
      refine lv_iushr (v := us i1 i3) hx hb d_Mo_putCode_11 rfl ?_
      refine lv_iconst (v := 1) hx hb d_Mo_putCode_12 (by decide) ?_
      refine lv_iand hx hb d_Mo_putCode_13 ?_
      obtain ⟨r6, hc6, h⟩ := Bd_e h
      refine xV_v0 (wr := []) (rest := []) C0 hK hT hA hP hD hS hl.1 (c_Mo_putBit l G c0 c1 u0_0 u0_2 u0_17 u0_18 u0_19 u0_20 u0_21 u0_22 u0_23 _ y0_3 y0_4 y0_5 y0_6 y0_7 y0_8 y0_9 y0_10 y0_11 y0_12 y0_13 y0_14 y0_15 y0_16 m1 g_1 ((us i1 i3) &&& 1) N r6 hc6) (goodV q442 q443 q444 q439 q445) 1 rfl hd_Mo_putBit (Nat.le_trans (by decide) hRf) (Nat.le_trans (by decide) hRl) [0, 1] [] rfl rfl (by decide) (by decide) (by decide) 9 0 rfl rfl rfl (Nat.le_of_ble_eq_true rfl) d_Mo_putCode_14 hkc hks (fun w1 H locs hE hP hD hS => ?_)
      subst hE
      have hP : va_P G.1 classes [(c0, .inr (9, [.ref u0_0, .ref c1, .ref u0_2, .int y0_3, .int y0_4, .int y0_5, .int y0_6, .int y0_7, .int y0_8, .int y0_9, .int y0_10, .int r6.1, .int y0_12, .int y0_13, .int y0_14, .int y0_15, .int y0_16, .ref u0_17, .ref u0_18, .ref u0_19, .ref u0_20, .ref u0_21, .ref u0_22, .ref u0_23])), (c1, .inl (G.2.1 0, m1, .inl r6.2))] H := hP
      have hD : va_D A [(c0, .inr (9, [.ref u0_0, .ref c1, .ref u0_2, .int y0_3, .int y0_4, .int y0_5, .int y0_6, .int y0_7, .int y0_8, .int y0_9, .int y0_10, .int r6.1, .int y0_12, .int y0_13, .int y0_14, .int y0_15, .int y0_16, .ref u0_17, .ref u0_18, .ref u0_19, .ref u0_20, .ref u0_21, .ref u0_22, .ref u0_23])), (c1, .inl (G.2.1 0, m1, .inl r6.2))] := hD
      obtain ⟨v7, ev7⟩ : ∃ y : Int32, y = i3 + (-1) := ⟨_, rfl⟩
      replace h := Lt_e h ev7
      refine lv_iinc (v := v7) (lv' := [(3, .int v7), (0, .ref c0), (1, .int i1)]) hx hb d_Mo_putCode_17 hl (k := 2) rfl (by rw [ev7]; rfl) (by decide) rfl (fun ls hl => ?_)
      refine lv_goto (tgt := 4) hx hb d_Mo_putCode_20 (by decide) ?_
      exact ih v7 r6.1 r6.2  _ _ _ h hP hD hS (lv_sub hl [1, 2, 0] rfl)
set_option maxHeartbeats 4000000 in
set_option maxRecDepth 100000 in
theorem c_Mo_putCode (l : Launch) (G : GX) (a0 a1 o0_0 o0_2 o0_17 o0_18 o0_19 o0_20 o0_21 o0_22 o0_23 : Nat) (sz : Nat) (x0_3 : Int32) (x0_4 : Int32) (x0_5 : Int32) (x0_6 : Int32) (x0_7 : Int32) (x0_8 : Int32) (x0_9 : Int32) (x0_10 : Int32) (x0_11 : Int32) (x0_12 : Int32) (x0_13 : Int32) (x0_14 : Int32) (x0_15 : Int32) (x0_16 : Int32) (n1 : Nat) (f1 : (Nat → Int32)) (p1 : Int32) (p2 : Int32) (N : Nat) (V : Int32 × (Nat → Int32)) (h : f_Mo_putCode N x0_11 n1 f1 p1 p2 = some V) :
    Met l y_Mo_putCode (wd y_Mo_putCode b_Mo_putCode 4 none) { frames := 1, cells := 0, slots := 0, locals := 22 } (PX G [.ref a0, .int p1, .int p2] sz [(a0, .inr (9, [.ref o0_0, .ref a1, .ref o0_2, .int x0_3, .int x0_4, .int x0_5, .int x0_6, .int x0_7, .int x0_8, .int x0_9, .int x0_10, .int x0_11, .int x0_12, .int x0_13, .int x0_14, .int x0_15, .int x0_16, .ref o0_17, .ref o0_18, .ref o0_19, .ref o0_20, .ref o0_21, .ref o0_22, .ref o0_23])), (a1, .inl (G.2.1 0, n1, .inl f1))])
      (QXv G (fun w => w = [(a0, .inr (9, [.ref o0_0, .ref a1, .ref o0_2, .int x0_3, .int x0_4, .int x0_5, .int x0_6, .int x0_7, .int x0_8, .int x0_9, .int x0_10, .int V.1, .int x0_12, .int x0_13, .int x0_14, .int x0_15, .int x0_16, .ref o0_17, .ref o0_18, .ref o0_19, .ref o0_20, .ref o0_21, .ref o0_22, .ref o0_23])), (a1, .inl (G.2.1 0, n1, .inl V.2))]) (va_A [(a0, .inr (9, [.ref o0_0, .ref a1, .ref o0_2, .int x0_3, .int x0_4, .int x0_5, .int x0_6, .int x0_7, .int x0_8, .int x0_9, .int x0_10, .int x0_11, .int x0_12, .int x0_13, .int x0_14, .int x0_15, .int x0_16, .ref o0_17, .ref o0_18, .ref o0_19, .ref o0_20, .ref o0_21, .ref o0_22, .ref o0_23])), (a1, .inl (G.2.1 0, n1, .inl f1))] sz)) 0 0 (va_A [(a0, .inr (9, [.ref o0_0, .ref a1, .ref o0_2, .int x0_3, .int x0_4, .int x0_5, .int x0_6, .int x0_7, .int x0_8, .int x0_9, .int x0_10, .int x0_11, .int x0_12, .int x0_13, .int x0_14, .int x0_15, .int x0_16, .ref o0_17, .ref o0_18, .ref o0_19, .ref o0_20, .ref o0_21, .ref o0_22, .ref o0_23])), (a1, .inl (G.2.1 0, n1, .inl f1))] sz) := by
  refine Met_in (QQ := fun A => QXv G (fun w => w = [(a0, .inr (9, [.ref o0_0, .ref a1, .ref o0_2, .int x0_3, .int x0_4, .int x0_5, .int x0_6, .int x0_7, .int x0_8, .int x0_9, .int x0_10, .int V.1, .int x0_12, .int x0_13, .int x0_14, .int x0_15, .int x0_16, .ref o0_17, .ref o0_18, .ref o0_19, .ref o0_20, .ref o0_21, .ref o0_22, .ref o0_23])), (a1, .inl (G.2.1 0, n1, .inl V.2))]) A) (by decide) (Nat.le_of_ble_eq_true rfl) (fun p e s m below meth c R Q A ls C0 hRf hRl hRc hRs hP hK hD hT hA hS hl hQ => ?_)
  obtain ⟨hx, hb, hml, hown, hts, hr, hlocks, hin⟩ := id C0
  have hown : s.vm.findClass R_Mo = some m.cls := hown
  have hl : lv_has ls 4 [(0, .ref a0), (1, .int p1), (2, .int p2)] := hl
  unfold f_Mo_putCode at h
  have hkc : 0 ≤ R.cells := Nat.zero_le _
  have hks : 0 ≤ R.slots := Nat.zero_le _
  obtain ⟨H, hH⟩ : ∃ H, H = s.heap := ⟨_, rfl⟩
  obtain ⟨locs, hlc⟩ : ∃ x : List Loc, x = [] := ⟨_, rfl⟩
  rw [← hH] at hP
  have hS : va_S A s.heap H locs := by rw [hH, hlc]; exact hS
  suffices hgo : W p l e R s m [.ref a0, .int p1, .int p2].toArray below meth c H locs 0 0 Q (F0 m 0 ls []) by rw [hH, hlc] at hgo; exact hgo
  refine lv_iload_n hx hb d_Mo_putCode_0 rfl (lv_at hl 2 rfl) ?_
  refine lv_iconst (v := 1) hx hb d_Mo_putCode_1 (by decide) ?_
  refine lv_isub hx hb d_Mo_putCode_2 ?_
  refine lv_topi (fun v1 ev1 => ?_)
  replace h := Lt_e h ev1
  refine lv_istore_n (lv' := [(3, .int v1), (0, .ref a0), (1, .int p1), (2, .int p2)]) hx hb d_Mo_putCode_3 rfl hl (by decide) rfl (fun ls hl => ?_)
  obtain ⟨r8, hc8, h⟩ := Bd_e h
  refine w_Mo_putCode_4 C0 hRf hRl hA hK hT N p1 x0_3 x0_4 x0_5 x0_6 x0_7 x0_8 x0_9 x0_10 x0_12 x0_13 x0_14 x0_15 x0_16 n1 a0 a1 o0_0 o0_2 o0_17 o0_18 o0_19 o0_20 o0_21 o0_22 o0_23 r8 (kc := 0) (ks := 0) hkc hks ?_ N v1 x0_11 f1  _ _ _ hc8 hP hD hS (lv_sub hl [1, 2, 0] rfl)
  · intro H locs ls hP hD hS hl
    have eV := so1 h
    subst eV
    exact x_vret C0 hQ hP hD hS rfl (Nat.zero_le _) (Nat.zero_le _) d_Mo_putCode_23
set_option maxHeartbeats 4000000 in
set_option maxRecDepth 100000 in
theorem w_Mo_putNumber_2 {p : Program} {l : Launch} {e : Env} {R : Room} {s : State} {m : MethodId} {args : Array Value} {below : List Frame} {meth : Method} {c : Code} {Q : State → Prop} {G : GX} {A : Nat → Prop} (C0 : Cx p s m args meth c b_Mo_putNumber 4 y_Mo_putNumber none) (hRf : 1 ≤ R.frames) (hRl : 22 ≤ R.locals) (hA : ∀ q, s.heap.size ≤ q → A q) (hK : KX G s) (hT : TX G A s) (N : Nat) (i1 : Int32) (i2 : Int32) (y0_3 : Int32) (y0_4 : Int32) (y0_5 : Int32) (y0_6 : Int32) (y0_7 : Int32) (y0_8 : Int32) (y0_9 : Int32) (y0_10 : Int32) (y0_12 : Int32) (y0_13 : Int32) (y0_14 : Int32) (y0_15 : Int32) (y0_16 : Int32) (m1 : Nat) (c0 c1 u0_0 u0_2 u0_17 u0_18 u0_19 u0_20 u0_21 u0_22 u0_23 : Nat) (out : Int32 × (Nat → Int32)) {kc ks : Nat} (hkc : kc ≤ R.cells) (hks : ks ≤ R.slots)
    (kx22 : ∀ (H : Heap) (locs : List Loc) (ls : Array Slot), va_P G.1 classes [(c0, .inr (9, [.ref u0_0, .ref c1, .ref u0_2, .int y0_3, .int y0_4, .int y0_5, .int y0_6, .int y0_7, .int y0_8, .int y0_9, .int y0_10, .int out.1, .int y0_12, .int y0_13, .int y0_14, .int y0_15, .int y0_16, .ref u0_17, .ref u0_18, .ref u0_19, .ref u0_20, .ref u0_21, .ref u0_22, .ref u0_23])), (c1, .inl (G.2.1 0, m1, .inl out.2))] H → va_D A [(c0, .inr (9, [.ref u0_0, .ref c1, .ref u0_2, .int y0_3, .int y0_4, .int y0_5, .int y0_6, .int y0_7, .int y0_8, .int y0_9, .int y0_10, .int out.1, .int y0_12, .int y0_13, .int y0_14, .int y0_15, .int y0_16, .ref u0_17, .ref u0_18, .ref u0_19, .ref u0_20, .ref u0_21, .ref u0_22, .ref u0_23])), (c1, .inl (G.2.1 0, m1, .inl out.2))] → va_S A s.heap H locs → lv_has ls 4 [] → W p l e R s m args below meth c H locs kc ks Q (F0 m 22 ls [])) :
    ∀ (n : Nat) (i3 : Int32) (y0_11 : Int32) (g_1 : (Nat → Int32)) (H : Heap) (locs : List Loc) (ls : Array Slot), lp_Mo_putNumber_2 N i1 i2 m1 n i3 y0_11 g_1 = some out → va_P G.1 classes [(c0, .inr (9, [.ref u0_0, .ref c1, .ref u0_2, .int y0_3, .int y0_4, .int y0_5, .int y0_6, .int y0_7, .int y0_8, .int y0_9, .int y0_10, .int y0_11, .int y0_12, .int y0_13, .int y0_14, .int y0_15, .int y0_16, .ref u0_17, .ref u0_18, .ref u0_19, .ref u0_20, .ref u0_21, .ref u0_22, .ref u0_23])), (c1, .inl (G.2.1 0, m1, .inl g_1))] H → va_D A [(c0, .inr (9, [.ref u0_0, .ref c1, .ref u0_2, .int y0_3, .int y0_4, .int y0_5, .int y0_6, .int y0_7, .int y0_8, .int y0_9, .int y0_10, .int y0_11, .int y0_12, .int y0_13, .int y0_14, .int y0_15, .int y0_16, .ref u0_17, .ref u0_18, .ref u0_19, .ref u0_20, .ref u0_21, .ref u0_22, .ref u0_23])), (c1, .inl (G.2.1 0, m1, .inl g_1))] → va_S A s.heap H locs → lv_has ls 4 [(0, .ref c0), (1, .int i1), (2, .int i2), (3, .int i3)] → W p l e R s m args below meth c H locs kc ks Q (F0 m 2 ls []) := by
  obtain ⟨hx, hb, hml, hown, hts, hr, hlocks, hin⟩ := id C0
  have hown : s.vm.findClass R_Mo = some m.cls := hown
  intro n
  induction n with
  | zero => intro i3 y0_11 g_1 H locs ls h; cases h
  | succ n ih =>
    intro i3 y0_11 g_1 H locs ls h hP hD hS hl
    replace h : lb_Mo_putNumber_2 N i1 i2 m1 (lp_Mo_putNumber_2 N i1 i2 m1 n) i3 y0_11 g_1 = some out := h
    unfold lb_Mo_putNumber_2 at h
    refine lv_iload_n hx hb d_Mo_putNumber_2 rfl (lv_at hl 3 rfl) ?_
    refine lv_iload_n hx hb d_Mo_putNumber_3 rfl (lv_at hl 2 rfl) ?_
    refine lv_icmp_ge (tgt := 22) hx hb d_Mo_putNumber_4 (by decide) (fun cq4 => ?_) (fun cq4 => ?_)
    · replace h := (if_pos cq4).symm.trans h
      have eV := so1 h
      subst eV
      exact kx22 _ _ _ hP hD hS (lv_sub hl [] rfl)
    · replace h := (if_neg cq4).symm.trans h
      refine lv_aload_n hx hb d_Mo_putNumber_7 rfl (lv_at hl 0 rfl) ?_
      refine lv_iload_n hx hb d_Mo_putNumber_8 rfl (lv_at hl 1 rfl) ?_
      refine lv_iload_n hx hb d_Mo_putNumber_9 rfl (lv_at hl 3 rfl) ?_
      refine lv_iushr (v := us i1 i3) hx hb d_Mo_putNumber_10 rfl ?_
      refine lv_iconst (v := 1) hx hb d_Mo_putNumber_11 (by decide) ?_
      refine lv_iand hx hb d_Mo_putNumber_12 ?_
      obtain ⟨r5, hc5, h⟩ := Bd_e h
      refine xV_v0 (wr := []) (rest := []) C0 hK hT hA hP hD hS hl.1 (c_Mo_putBit l G c0 c1 u0_0 u0_2 u0_17 u0_18 u0_19 u0_20 u0_21 u0_22 u0_23 _ y0_3 y0_4 y0_5 y0_6 y0_7 y0_8 y0_9 y0_10 y0_11 y0_12 y0_13 y0_14 y0_15 y0_16 m1 g_1 ((us i1 i3) &&& 1) N r5 hc5) (goodV q442 q443 q444 q439 q445) 1 rfl hd_Mo_putBit (Nat.le_trans (by decide) hRf) (Nat.le_trans (by decide) hRl) [0, 1] [] rfl rfl (by decide) (by decide) (by decide) 9 0 rfl rfl rfl (Nat.le_of_ble_eq_true rfl) d_Mo_putNumber_13 hkc hks (fun w1 H locs hE hP hD hS => ?_)
      subst hE
      have hP : va_P G.1 classes [(c0, .inr (9, [.ref u0_0, .ref c1, .ref u0_2, .int y0_3, .int y0_4, .int y0_5, .int y0_6, .int y0_7, .int y0_8, .int y0_9, .int y0_10, .int r5.1, .int y0_12, .int y0_13, .int y0_14, .int y0_15, .int y0_16, .ref u0_17, .ref u0_18, .ref u0_19, .ref u0_20, .ref u0_21, .ref u0_22, .ref u0_23])), (c1, .inl (G.2.1 0, m1, .inl r5.2))] H := hP
      have hD : va_D A [(c0, .inr (9, [.ref u0_0, .ref c1, .ref u0_2, .int y0_3, .int y0_4, .int y0_5, .int y0_6, .int y0_7, .int y0_8, .int y0_9, .int y0_10, .int r5.1, .int y0_12, .int y0_13, .int y0_14, .int y0_15, .int y0_16, .ref u0_17, .ref u0_18, .ref u0_19, .ref u0_20, .ref u0_21, .ref u0_22, .ref u0_23])), (c1, .inl (G.2.1 0, m1, .inl r5.2))] := hD
      obtain ⟨v6, ev6⟩ : ∃ y : Int32, y = i3 + 1 := ⟨_, rfl⟩
      replace h := Lt_e h ev6
      refine lv_iinc (v := v6) (lv' := [(3, .int v6), (0, .ref c0), (1, .int i1), (2, .int i2)]) hx hb d_Mo_putNumber_16 hl (k := 3) rfl (by rw [ev6]; rfl) (by decide) rfl (fun ls hl => ?_)
      refine lv_goto (tgt := 2) hx hb d_Mo_putNumber_19 (by decide) ?_
      exact ih v6 r5.1 r5.2  _ _ _ h hP hD hS (lv_sub hl [1, 2, 3, 0] rfl)
set_option maxHeartbeats 4000000 in
set_option maxRecDepth 100000 in
theorem c_Mo_putNumber (l : Launch) (G : GX) (a0 a1 o0_0 o0_2 o0_17 o0_18 o0_19 o0_20 o0_21 o0_22 o0_23 : Nat) (sz : Nat) (x0_3 : Int32) (x0_4 : Int32) (x0_5 : Int32) (x0_6 : Int32) (x0_7 : Int32) (x0_8 : Int32) (x0_9 : Int32) (x0_10 : Int32) (x0_11 : Int32) (x0_12 : Int32) (x0_13 : Int32) (x0_14 : Int32) (x0_15 : Int32) (x0_16 : Int32) (n1 : Nat) (f1 : (Nat → Int32)) (p1 : Int32) (p2 : Int32) (N : Nat) (V : Int32 × (Nat → Int32)) (h : f_Mo_putNumber N x0_11 n1 f1 p1 p2 = some V) :
    Met l y_Mo_putNumber (wd y_Mo_putNumber b_Mo_putNumber 4 none) { frames := 1, cells := 0, slots := 0, locals := 22 } (PX G [.ref a0, .int p1, .int p2] sz [(a0, .inr (9, [.ref o0_0, .ref a1, .ref o0_2, .int x0_3, .int x0_4, .int x0_5, .int x0_6, .int x0_7, .int x0_8, .int x0_9, .int x0_10, .int x0_11, .int x0_12, .int x0_13, .int x0_14, .int x0_15, .int x0_16, .ref o0_17, .ref o0_18, .ref o0_19, .ref o0_20, .ref o0_21, .ref o0_22, .ref o0_23])), (a1, .inl (G.2.1 0, n1, .inl f1))])
      (QXv G (fun w => w = [(a0, .inr (9, [.ref o0_0, .ref a1, .ref o0_2, .int x0_3, .int x0_4, .int x0_5, .int x0_6, .int x0_7, .int x0_8, .int x0_9, .int x0_10, .int V.1, .int x0_12, .int x0_13, .int x0_14, .int x0_15, .int x0_16, .ref o0_17, .ref o0_18, .ref o0_19, .ref o0_20, .ref o0_21, .ref o0_22, .ref o0_23])), (a1, .inl (G.2.1 0, n1, .inl V.2))]) (va_A [(a0, .inr (9, [.ref o0_0, .ref a1, .ref o0_2, .int x0_3, .int x0_4, .int x0_5, .int x0_6, .int x0_7, .int x0_8, .int x0_9, .int x0_10, .int x0_11, .int x0_12, .int x0_13, .int x0_14, .int x0_15, .int x0_16, .ref o0_17, .ref o0_18, .ref o0_19, .ref o0_20, .ref o0_21, .ref o0_22, .ref o0_23])), (a1, .inl (G.2.1 0, n1, .inl f1))] sz)) 0 0 (va_A [(a0, .inr (9, [.ref o0_0, .ref a1, .ref o0_2, .int x0_3, .int x0_4, .int x0_5, .int x0_6, .int x0_7, .int x0_8, .int x0_9, .int x0_10, .int x0_11, .int x0_12, .int x0_13, .int x0_14, .int x0_15, .int x0_16, .ref o0_17, .ref o0_18, .ref o0_19, .ref o0_20, .ref o0_21, .ref o0_22, .ref o0_23])), (a1, .inl (G.2.1 0, n1, .inl f1))] sz) := by
  refine Met_in (QQ := fun A => QXv G (fun w => w = [(a0, .inr (9, [.ref o0_0, .ref a1, .ref o0_2, .int x0_3, .int x0_4, .int x0_5, .int x0_6, .int x0_7, .int x0_8, .int x0_9, .int x0_10, .int V.1, .int x0_12, .int x0_13, .int x0_14, .int x0_15, .int x0_16, .ref o0_17, .ref o0_18, .ref o0_19, .ref o0_20, .ref o0_21, .ref o0_22, .ref o0_23])), (a1, .inl (G.2.1 0, n1, .inl V.2))]) A) (by decide) (Nat.le_of_ble_eq_true rfl) (fun p e s m below meth c R Q A ls C0 hRf hRl hRc hRs hP hK hD hT hA hS hl hQ => ?_)
  obtain ⟨hx, hb, hml, hown, hts, hr, hlocks, hin⟩ := id C0
  have hown : s.vm.findClass R_Mo = some m.cls := hown
  have hl : lv_has ls 4 [(0, .ref a0), (1, .int p1), (2, .int p2)] := hl
  unfold f_Mo_putNumber at h
  have hkc : 0 ≤ R.cells := Nat.zero_le _
  have hks : 0 ≤ R.slots := Nat.zero_le _
  obtain ⟨H, hH⟩ : ∃ H, H = s.heap := ⟨_, rfl⟩
  obtain ⟨locs, hlc⟩ : ∃ x : List Loc, x = [] := ⟨_, rfl⟩
  rw [← hH] at hP
  have hS : va_S A s.heap H locs := by rw [hH, hlc]; exact hS
  suffices hgo : W p l e R s m [.ref a0, .int p1, .int p2].toArray below meth c H locs 0 0 Q (F0 m 0 ls []) by rw [hH, hlc] at hgo; exact hgo
  refine lv_iconst (v := 0) hx hb d_Mo_putNumber_0 (by decide) ?_
  refine lv_istore_n (lv' := [(3, .int 0), (0, .ref a0), (1, .int p1), (2, .int p2)]) hx hb d_Mo_putNumber_1 rfl hl (by decide) rfl (fun ls hl => ?_)
  obtain ⟨r7, hc7, h⟩ := Bd_e h
  refine w_Mo_putNumber_2 C0 hRf hRl hA hK hT N p1 p2 x0_3 x0_4 x0_5 x0_6 x0_7 x0_8 x0_9 x0_10 x0_12 x0_13 x0_14 x0_15 x0_16 n1 a0 a1 o0_0 o0_2 o0_17 o0_18 o0_19 o0_20 o0_21 o0_22 o0_23 r7 (kc := 0) (ks := 0) hkc hks ?_ N 0 x0_11 f1  _ _ _ hc7 hP hD hS (lv_sub hl [1, 2, 3, 0] rfl)
  · intro H locs ls hP hD hS hl
    have eV := so1 h
    subst eV
    exact x_vret C0 hQ hP hD hS rfl (Nat.zero_le _) (Nat.zero_le _) d_Mo_putNumber_22
set_option maxHeartbeats 4000000 in
set_option maxRecDepth 100000 in
theorem c_Mo_putSign (l : Launch) (G : GX) (a0 a1 o0_0 o0_2 o0_17 o0_18 o0_19 o0_20 o0_21 o0_22 o0_23 : Nat) (sz : Nat) (x0_3 : Int32) (x0_4 : Int32) (x0_5 : Int32) (x0_6 : Int32) (x0_7 : Int32) (x0_8 : Int32) (x0_9 : Int32) (x0_10 : Int32) (x0_11 : Int32) (x0_12 : Int32) (x0_13 : Int32) (x0_14 : Int32) (x0_15 : Int32) (x0_16 : Int32) (n1 : Nat) (f1 : (Nat → Int32)) (p1 : Int32) (N : Nat) (V : Int32 × (Nat → Int32)) (h : f_Mo_putSign N x0_11 n1 f1 p1 = some V) :
    Met l y_Mo_putSign (wd y_Mo_putSign b_Mo_putSign 2 none) { frames := 2, cells := 0, slots := 0, locals := 45 } (PX G [.ref a0, .int p1] sz [(a0, .inr (9, [.ref o0_0, .ref a1, .ref o0_2, .int x0_3, .int x0_4, .int x0_5, .int x0_6, .int x0_7, .int x0_8, .int x0_9, .int x0_10, .int x0_11, .int x0_12, .int x0_13, .int x0_14, .int x0_15, .int x0_16, .ref o0_17, .ref o0_18, .ref o0_19, .ref o0_20, .ref o0_21, .ref o0_22, .ref o0_23])), (a1, .inl (G.2.1 0, n1, .inl f1))])
      (QXv G (fun w => w = [(a0, .inr (9, [.ref o0_0, .ref a1, .ref o0_2, .int x0_3, .int x0_4, .int x0_5, .int x0_6, .int x0_7, .int x0_8, .int x0_9, .int x0_10, .int V.1, .int x0_12, .int x0_13, .int x0_14, .int x0_15, .int x0_16, .ref o0_17, .ref o0_18, .ref o0_19, .ref o0_20, .ref o0_21, .ref o0_22, .ref o0_23])), (a1, .inl (G.2.1 0, n1, .inl V.2))]) (va_A [(a0, .inr (9, [.ref o0_0, .ref a1, .ref o0_2, .int x0_3, .int x0_4, .int x0_5, .int x0_6, .int x0_7, .int x0_8, .int x0_9, .int x0_10, .int x0_11, .int x0_12, .int x0_13, .int x0_14, .int x0_15, .int x0_16, .ref o0_17, .ref o0_18, .ref o0_19, .ref o0_20, .ref o0_21, .ref o0_22, .ref o0_23])), (a1, .inl (G.2.1 0, n1, .inl f1))] sz)) 0 0 (va_A [(a0, .inr (9, [.ref o0_0, .ref a1, .ref o0_2, .int x0_3, .int x0_4, .int x0_5, .int x0_6, .int x0_7, .int x0_8, .int x0_9, .int x0_10, .int x0_11, .int x0_12, .int x0_13, .int x0_14, .int x0_15, .int x0_16, .ref o0_17, .ref o0_18, .ref o0_19, .ref o0_20, .ref o0_21, .ref o0_22, .ref o0_23])), (a1, .inl (G.2.1 0, n1, .inl f1))] sz) := by
  refine Met_in (QQ := fun A => QXv G (fun w => w = [(a0, .inr (9, [.ref o0_0, .ref a1, .ref o0_2, .int x0_3, .int x0_4, .int x0_5, .int x0_6, .int x0_7, .int x0_8, .int x0_9, .int x0_10, .int V.1, .int x0_12, .int x0_13, .int x0_14, .int x0_15, .int x0_16, .ref o0_17, .ref o0_18, .ref o0_19, .ref o0_20, .ref o0_21, .ref o0_22, .ref o0_23])), (a1, .inl (G.2.1 0, n1, .inl V.2))]) A) (by decide) (Nat.le_of_ble_eq_true rfl) (fun p e s m below meth c R Q A ls C0 hRf hRl hRc hRs hP hK hD hT hA hS hl hQ => ?_)
  obtain ⟨hx, hb, hml, hown, hts, hr, hlocks, hin⟩ := id C0
  have hown : s.vm.findClass R_Mo = some m.cls := hown
  have hl : lv_has ls 2 [(0, .ref a0), (1, .int p1)] := hl
  unfold f_Mo_putSign at h
  have hkc : 0 ≤ R.cells := Nat.zero_le _
  have hks : 0 ≤ R.slots := Nat.zero_le _
  obtain ⟨H, hH⟩ : ∃ H, H = s.heap := ⟨_, rfl⟩
  obtain ⟨locs, hlc⟩ : ∃ x : List Loc, x = [] := ⟨_, rfl⟩
  rw [← hH] at hP
  have hS : va_S A s.heap H locs := by rw [hH, hlc]; exact hS
  suffices hgo : W p l e R s m [.ref a0, .int p1].toArray below meth c H locs 0 0 Q (F0 m 0 ls []) by rw [hH, hlc] at hgo; exact hgo
  refine lv_iload_n hx hb d_Mo_putSign_0 rfl (lv_at hl 1 rfl) ?_
  refine lv_sipush (v := 144) hx hb d_Mo_putSign_1 (by decide) ?_
  refine lv_icmp_ge (tgt := 20) hx hb d_Mo_putSign_4 (by decide) (fun cq1 => ?_) (fun cq1 => ?_)
  · replace h := (if_pos cq1).symm.trans h
    refine lv_iload_n hx hb d_Mo_putSign_20 rfl (lv_at hl 1 rfl) ?_
    refine lv_sipush (v := 256) hx hb d_Mo_putSign_21 (by decide) ?_
    refine lv_icmp_ge (tgt := 45) hx hb d_Mo_putSign_24 (by decide) (fun cq2 => ?_) (fun cq2 => ?_)
    · replace h := (if_pos cq2).symm.trans h
      refine lv_iload_n hx hb d_Mo_putSign_45 rfl (lv_at hl 1 rfl) ?_
      refine lv_sipush (v := 280) hx hb d_Mo_putSign_46 (by decide) ?_
      refine lv_icmp_ge (tgt := 66) hx hb d_Mo_putSign_49 (by decide) (fun cq3 => ?_) (fun cq3 => ?_)
      · replace h := (if_pos cq3).symm.trans h
        refine lv_aload_n hx hb d_Mo_putSign_66 rfl (lv_at hl 0 rfl) ?_
        refine lv_sipush (v := 192) hx hb d_Mo_putSign_67 (by decide) ?_
        refine lv_iload_n hx hb d_Mo_putSign_70 rfl (lv_at hl 1 rfl) ?_
        refine lv_iadd hx hb d_Mo_putSign_71 ?_
        refine lv_sipush (v := 280) hx hb d_Mo_putSign_72 (by decide) ?_
        refine lv_isub hx hb d_Mo_putSign_75 ?_
        refine lv_bipush (v := 8) hx hb d_Mo_putSign_76 (by decide) ?_
        obtain ⟨r4, hc4, h⟩ := Bd_e h
        refine xV_v0 (wr := []) (rest := []) C0 hK hT hA hP hD hS hl.1 (c_Mo_putCode l G a0 a1 o0_0 o0_2 o0_17 o0_18 o0_19 o0_20 o0_21 o0_22 o0_23 _ x0_3 x0_4 x0_5 x0_6 x0_7 x0_8 x0_9 x0_10 x0_11 x0_12 x0_13 x0_14 x0_15 x0_16 n1 f1 ((192 + p1) - 280) 8 N r4 hc4) (goodV q446 q447 q448 q439 q449) 2 rfl hd_Mo_putCode (Nat.le_trans (by decide) hRf) (Nat.le_trans (by decide) hRl) [0, 1] [] rfl rfl (by decide) (by decide) (by decide) 9 0 rfl rfl rfl (Nat.le_of_ble_eq_true rfl) d_Mo_putSign_78 hkc hks (fun w1 H locs hE hP hD hS => ?_)
        subst hE
        have hP : va_P G.1 classes [(a0, .inr (9, [.ref o0_0, .ref a1, .ref o0_2, .int x0_3, .int x0_4, .int x0_5, .int x0_6, .int x0_7, .int x0_8, .int x0_9, .int x0_10, .int r4.1, .int x0_12, .int x0_13, .int x0_14, .int x0_15, .int x0_16, .ref o0_17, .ref o0_18, .ref o0_19, .ref o0_20, .ref o0_21, .ref o0_22, .ref o0_23])), (a1, .inl (G.2.1 0, n1, .inl r4.2))] H := hP
        have hD : va_D A [(a0, .inr (9, [.ref o0_0, .ref a1, .ref o0_2, .int x0_3, .int x0_4, .int x0_5, .int x0_6, .int x0_7, .int x0_8, .int x0_9, .int x0_10, .int r4.1, .int x0_12, .int x0_13, .int x0_14, .int x0_15, .int x0_16, .ref o0_17, .ref o0_18, .ref o0_19, .ref o0_20, .ref o0_21, .ref o0_22, .ref o0_23])), (a1, .inl (G.2.1 0, n1, .inl r4.2))] := hD
        have eV := so1 h
        subst eV
        exact x_vret C0 hQ hP hD hS rfl (Nat.zero_le _) (Nat.zero_le _) d_Mo_putSign_81
      · replace h := (if_neg cq3).symm.trans h
        refine lv_aload_n hx hb d_Mo_putSign_52 rfl (lv_at hl 0 rfl) ?_
        refine lv_iload_n hx hb d_Mo_putSign_53 rfl (lv_at hl 1 rfl) ?_
        refine lv_sipush (v := 256) hx hb d_Mo_putSign_54 (by decide) ?_
        refine lv_isub hx hb d_Mo_putSign_57 ?_
        refine lv_bipush (v := 7) hx hb d_Mo_putSign_58 (by decide) ?_
        obtain ⟨r5, hc5, h⟩ := Bd_e h
        refine xV_v0 (wr := []) (rest := []) C0 hK hT hA hP hD hS hl.1 (c_Mo_putCode l G a0 a1 o0_0 o0_2 o0_17 o0_18 o0_19 o0_20 o0_21 o0_22 o0_23 _ x0_3 x0_4 x0_5 x0_6 x0_7 x0_8 x0_9 x0_10 x0_11 x0_12 x0_13 x0_14 x0_15 x0_16 n1 f1 (p1 - 256) 7 N r5 hc5) (goodV q446 q447 q448 q439 q449) 2 rfl hd_Mo_putCode (Nat.le_trans (by decide) hRf) (Nat.le_trans (by decide) hRl) [0, 1] [] rfl rfl (by decide) (by decide) (by decide) 9 0 rfl rfl rfl (Nat.le_of_ble_eq_true rfl) d_Mo_putSign_60 hkc hks (fun w1 H locs hE hP hD hS => ?_)
        subst hE
        have hP : va_P G.1 classes [(a0, .inr (9, [.ref o0_0, .ref a1, .ref o0_2, .int x0_3, .int x0_4, .int x0_5, .int x0_6, .int x0_7, .int x0_8, .int x0_9, .int x0_10, .int r5.1, .int x0_12, .int x0_13, .int x0_14, .int x0_15, .int x0_16, .ref o0_17, .ref o0_18, .ref o0_19, .ref o0_20, .ref o0_21, .ref o0_22, .ref o0_23])), (a1, .inl (G.2.1 0, n1, .inl r5.2))] H := hP
        have hD : va_D A [(a0, .inr (9, [.ref o0_0, .ref a1, .ref o0_2, .int x0_3, .int x0_4, .int x0_5, .int x0_6, .int x0_7, .int x0_8, .int x0_9, .int x0_10, .int r5.1, .int x0_12, .int x0_13, .int x0_14, .int x0_15, .int x0_16, .ref o0_17, .ref o0_18, .ref o0_19, .ref o0_20, .ref o0_21, .ref o0_22, .ref o0_23])), (a1, .inl (G.2.1 0, n1, .inl r5.2))] := hD
        refine lv_goto (tgt := 81) hx hb d_Mo_putSign_63 (by decide) ?_
        have eV := so1 h
        subst eV
        exact x_vret C0 hQ hP hD hS rfl (Nat.zero_le _) (Nat.zero_le _) d_Mo_putSign_81
    · replace h := (if_neg cq2).symm.trans h
      refine lv_aload_n hx hb d_Mo_putSign_27 rfl (lv_at hl 0 rfl) ?_
      refine lv_sipush (v := 400) hx hb d_Mo_putSign_28 (by decide) ?_
      refine lv_iload_n hx hb d_Mo_putSign_31 rfl (lv_at hl 1 rfl) ?_
      refine lv_iadd hx hb d_Mo_putSign_32 ?_
      refine lv_sipush (v := 144) hx hb d_Mo_putSign_33 (by decide) ?_
      refine lv_isub hx hb d_Mo_putSign_36 ?_
      refine lv_bipush (v := 9) hx hb d_Mo_putSign_37 (by decide) ?_
      obtain ⟨r6, hc6, h⟩ := Bd_e h
      refine xV_v0 (wr := []) (rest := []) C0 hK hT hA hP hD hS hl.1 (c_Mo_putCode l G a0 a1 o0_0 o0_2 o0_17 o0_18 o0_19 o0_20 o0_21 o0_22 o0_23 _ x0_3 x0_4 x0_5 x0_6 x0_7 x0_8 x0_9 x0_10 x0_11 x0_12 x0_13 x0_14 x0_15 x0_16 n1 f1 ((400 + p1) - 144) 9 N r6 hc6) (goodV q446 q447 q448 q439 q449) 2 rfl hd_Mo_putCode (Nat.le_trans (by decide) hRf) (Nat.le_trans (by decide) hRl) [0, 1] [] rfl rfl (by decide) (by decide) (by decide) 9 0 rfl rfl rfl (Nat.le_of_ble_eq_true rfl) d_Mo_putSign_39 hkc hks (fun w1 H locs hE hP hD hS => ?_)
      subst hE
      have hP : va_P G.1 classes [(a0, .inr (9, [.ref o0_0, .ref a1, .ref o0_2, .int x0_3, .int x0_4, .int x0_5, .int x0_6, .int x0_7, .int x0_8, .int x0_9, .int x0_10, .int r6.1, .int x0_12, .int x0_13, .int x0_14, .int x0_15, .int x0_16, .ref o0_17, .ref o0_18, .ref o0_19, .ref o0_20, .ref o0_21, .ref o0_22, .ref o0_23])), (a1, .inl (G.2.1 0, n1, .inl r6.2))] H := hP
      have hD : va_D A [(a0, .inr (9, [.ref o0_0, .ref a1, .ref o0_2, .int x0_3, .int x0_4, .int x0_5, .int x0_6, .int x0_7, .int x0_8, .int x0_9, .int x0_10, .int r6.1, .int x0_12, .int x0_13, .int x0_14, .int x0_15, .int x0_16, .ref o0_17, .ref o0_18, .ref o0_19, .ref o0_20, .ref o0_21, .ref o0_22, .ref o0_23])), (a1, .inl (G.2.1 0, n1, .inl r6.2))] := hD
      refine lv_goto (tgt := 81) hx hb d_Mo_putSign_42 (by decide) ?_
      have eV := so1 h
      subst eV
      exact x_vret C0 hQ hP hD hS rfl (Nat.zero_le _) (Nat.zero_le _) d_Mo_putSign_81
  · replace h := (if_neg cq1).symm.trans h
    refine lv_aload_n hx hb d_Mo_putSign_7 rfl (lv_at hl 0 rfl) ?_
    refine lv_bipush (v := 48) hx hb d_Mo_putSign_8 (by decide) ?_
    refine lv_iload_n hx hb d_Mo_putSign_10 rfl (lv_at hl 1 rfl) ?_
    refine lv_iadd hx hb d_Mo_putSign_11 ?_
    refine lv_bipush (v := 8) hx hb d_Mo_putSign_12 (by decide) ?_
    obtain ⟨r7, hc7, h⟩ := Bd_e h
    refine xV_v0 (wr := []) (rest := []) C0 hK hT hA hP hD hS hl.1 (c_Mo_putCode l G a0 a1 o0_0 o0_2 o0_17 o0_18 o0_19 o0_20 o0_21 o0_22 o0_23 _ x0_3 x0_4 x0_5 x0_6 x0_7 x0_8 x0_9 x0_10 x0_11 x0_12 x0_13 x0_14 x0_15 x0_16 n1 f1 (48 + p1) 8 N r7 hc7) (goodV q446 q447 q448 q439 q449) 2 rfl hd_Mo_putCode (Nat.le_trans (by decide) hRf) (Nat.le_trans (by decide) hRl) [0, 1] [] rfl rfl (by decide) (by decide) (by decide) 9 0 rfl rfl rfl (Nat.le_of_ble_eq_true rfl) d_Mo_putSign_14 hkc hks (fun w1 H locs hE hP hD hS => ?_)
    subst hE
    have hP : va_P G.1 classes [(a0, .inr (9, [.ref o0_0, .ref a1, .ref o0_2, .int x0_3, .int x0_4, .int x0_5, .int x0_6, .int x0_7, .int x0_8, .int x0_9, .int x0_10, .int r7.1, .int x0_12, .int x0_13, .int x0_14, .int x0_15, .int x0_16, .ref o0_17, .ref o0_18, .ref o0_19, .ref o0_20, .ref o0_21, .ref o0_22, .ref o0_23])), (a1, .inl (G.2.1 0, n1, .inl r7.2))] H := hP
    have hD : va_D A [(a0, .inr (9, [.ref o0_0, .ref a1, .ref o0_2, .int x0_3, .int x0_4, .int x0_5, .int x0_6, .int x0_7, .int x0_8, .int x0_9, .int x0_10, .int r7.1, .int x0_12, .int x0_13, .int x0_14, .int x0_15, .int x0_16, .ref o0_17, .ref o0_18, .ref o0_19, .ref o0_20, .ref o0_21, .ref o0_22, .ref o0_23])), (a1, .inl (G.2.1 0, n1, .inl r7.2))] := hD
    refine lv_goto (tgt := 81) hx hb d_Mo_putSign_17 (by decide) ?_
    have eV := so1 h
    subst eV
    exact x_vret C0 hQ hP hD hS rfl (Nat.zero_le _) (Nat.zero_le _) d_Mo_putSign_81
set_option maxHeartbeats 4000000 in
set_option maxRecDepth 100000 in
theorem c_Mo_lengthBits (l : Launch) (G : GX) (sz : Nat)  (p0 : Int32) (N : Nat) (V : Int32) (h : f_Mo_lengthBits N p0 = some V) :
    Met l y_Mo_lengthBits (wd y_Mo_lengthBits b_Mo_lengthBits 1 (some .int)) { frames := 0, cells := 0, slots := 0, locals := 0 } (PX G [.int p0] sz [])
      (QXi G V (fun w => w = []) (va_A [] sz)) 0 0 (va_A [] sz) := by
  refine Met_in (QQ := fun A => QXi G V (fun w => w = []) A) (by decide) (Nat.le_of_ble_eq_true rfl) (fun p e s m below meth c R Q A ls C0 hRf hRl hRc hRs hP hK hD hT hA hS hl hQ => ?_)
  obtain ⟨hx, hb, hml, hown, hts, hr, hlocks, hin⟩ := id C0
  have hown : s.vm.findClass R_Mo = some m.cls := hown
  have hl : lv_has ls 1 [(0, .int p0)] := hl
  unfold f_Mo_lengthBits at h
  have hkc : 0 ≤ R.cells := Nat.zero_le _
  have hks : 0 ≤ R.slots := Nat.zero_le _
  obtain ⟨H, hH⟩ : ∃ H, H = s.heap := ⟨_, rfl⟩
  obtain ⟨locs, hlc⟩ : ∃ x : List Loc, x = [] := ⟨_, rfl⟩
  rw [← hH] at hP
  have hS : va_S A s.heap H locs := by rw [hH, hlc]; exact hS
  suffices hgo : W p l e R s m [.int p0].toArray below meth c H locs 0 0 Q (F0 m 0 ls []) by rw [hH, hlc] at hgo; exact hgo
  refine lv_iload_n hx hb d_Mo_lengthBits_0 rfl (lv_at hl 0 rfl) ?_
  refine lv_sipush (v := 265) hx hb d_Mo_lengthBits_1 (by decide) ?_
  refine lv_icmp_lt (tgt := 14) hx hb d_Mo_lengthBits_4 (by decide) (fun cq1 => ?_) (fun cq1 => ?_)
  · replace h := (if_pos cq1).symm.trans h
    refine lv_iconst (v := 0) hx hb d_Mo_lengthBits_14 (by decide) ?_
    refine lv_goto (tgt := 25) hx hb d_Mo_lengthBits_15 (by decide) ?_
    have eV := so1 h
    subst eV
    exact x_iret C0 hQ hP hD hS rfl (Nat.zero_le _) (Nat.zero_le _) d_Mo_lengthBits_25
  · replace h := (if_neg cq1).symm.trans h
    refine lv_iload_n hx hb d_Mo_lengthBits_7 rfl (lv_at hl 0 rfl) ?_
    refine lv_sipush (v := 285) hx hb d_Mo_lengthBits_8 (by decide) ?_
    refine lv_icmp_ne (tgt := 18) hx hb d_Mo_lengthBits_11 (by decide) (fun cq2 => ?_) (fun cq2 => ?_)
    · replace h := (if_neg cq2).symm.trans h
      refine lv_iload_n hx hb d_Mo_lengthBits_18 rfl (lv_at hl 0 rfl) ?_
      refine lv_sipush (v := 261) hx hb d_Mo_lengthBits_19 (by decide) ?_
      refine lv_isub hx hb d_Mo_lengthBits_22 ?_
      refine lv_iconst (v := 4) hx hb d_Mo_lengthBits_23 (by decide) ?_
      refine lv_idiv hx hb d_Mo_lengthBits_24 (by decide) ?_
      have eV := so1 h
      subst eV
      exact x_iret C0 hQ hP hD hS rfl (Nat.zero_le _) (Nat.zero_le _) d_Mo_lengthBits_25
    · replace h := (if_pos cq2).symm.trans h
      refine lv_iconst (v := 0) hx hb d_Mo_lengthBits_14 (by decide) ?_
      refine lv_goto (tgt := 25) hx hb d_Mo_lengthBits_15 (by decide) ?_
      have eV := so1 h
      subst eV
      exact x_iret C0 hQ hP hD hS rfl (Nat.zero_le _) (Nat.zero_le _) d_Mo_lengthBits_25
set_option maxHeartbeats 4000000 in
set_option maxRecDepth 100000 in
theorem w_Mo_lengthBase_6 {p : Program} {l : Launch} {e : Env} {R : Room} {s : State} {m : MethodId} {args : Array Value} {below : List Frame} {meth : Method} {c : Code} {Q : State → Prop} {G : GX} {A : Nat → Prop} (C0 : Cx p s m args meth c b_Mo_lengthBase 3 y_Mo_lengthBase (some .int)) (hRf : 1 ≤ R.frames) (hRl : 20 ≤ R.locals) (hA : ∀ q, s.heap.size ≤ q → A q) (hK : KX G s) (hT : TX G A s) (N : Nat) (i0 : Int32)  (out : Int32) {kc ks : Nat} (hkc : kc ≤ R.cells) (hks : ks ≤ R.slots)
    (kx26 : ∀ (H : Heap) (locs : List Loc) (ls : Array Slot), va_P G.1 classes [] H → va_D A [] → va_S A s.heap H locs → lv_has ls 3 [(0, .int i0), (1, .int out)] → W p l e R s m args below meth c H locs kc ks Q (F0 m 26 ls [])) :
    ∀ (n : Nat) (i1 : Int32) (i2 : Int32) (H : Heap) (locs : List Loc) (ls : Array Slot), lp_Mo_lengthBase_6 N i0 n i1 i2 = some out → va_P G.1 classes [] H → va_D A [] → va_S A s.heap H locs → lv_has ls 3 [(0, .int i0), (1, .int i1), (2, .int i2)] → W p l e R s m args below meth c H locs kc ks Q (F0 m 6 ls []) := by
  obtain ⟨hx, hb, hml, hown, hts, hr, hlocks, hin⟩ := id C0
  have hown : s.vm.findClass R_Mo = some m.cls := hown
  intro n
  induction n with
  | zero => intro i1 i2 H locs ls h; cases h
  | succ n ih =>
    intro i1 i2 H locs ls h hP hD hS hl
    replace h : lb_Mo_lengthBase_6 N i0 (lp_Mo_lengthBase_6 N i0 n) i1 i2 = some out := h
    unfold lb_Mo_lengthBase_6 at h
    refine lv_iload_n hx hb d_Mo_lengthBase_6 rfl (lv_at hl 2 rfl) ?_
    refine lv_iload_n hx hb d_Mo_lengthBase_7 rfl (lv_at hl 0 rfl) ?_
    refine lv_icmp_ge (tgt := 26) hx hb d_Mo_lengthBase_8 (by decide) (fun cq5 => ?_) (fun cq5 => ?_)
    · replace h := (if_pos cq5).symm.trans h
      have eV := so1 h
      subst eV
      exact kx26 _ _ _ hP hD hS (lv_sub hl [0, 1] rfl)
    · replace h := (if_neg cq5).symm.trans h
      refine lv_iload_n hx hb d_Mo_lengthBase_11 rfl (lv_at hl 1 rfl) ?_
      refine lv_iconst (v := 1) hx hb d_Mo_lengthBase_12 (by decide) ?_
      refine lv_iload_n hx hb d_Mo_lengthBase_13 rfl (lv_at hl 2 rfl) ?_
      obtain ⟨r6, hc6, h⟩ := Bd_e h
      refine xS_i0 (wr := []) (rest := [.int 1, .int i1]) C0 hK hT hA hP hD hS hl.1 (c_Mo_lengthBits l G  _  i2 N r6 hc6) (goodS q450 q451 q439 q452) 1 rfl hd_Mo_lengthBits (Nat.le_trans (by decide) hRf) (Nat.le_trans (by decide) hRl) [] [] rfl rfl (by decide) (by decide) (by decide) rfl (Nat.le_of_ble_eq_true rfl) d_Mo_lengthBase_14 hkc hks (fun w1 H locs hE hP hD hS => ?_)
      subst hE
      have hP : va_P G.1 classes [] H := hP
      have hD : va_D A [] := hD
      refine lv_ishl hx hb d_Mo_lengthBase_17 ?_
      refine lv_iadd hx hb d_Mo_lengthBase_18 ?_
      refine lv_topi (fun v7 ev7 => ?_)
      replace h := Lt_e h ev7
      refine lv_istore_n (lv' := [(1, .int v7), (0, .int i0), (2, .int i2)]) hx hb d_Mo_lengthBase_19 rfl hl (by decide) rfl (fun ls hl => ?_)
      obtain ⟨v8, ev8⟩ : ∃ y : Int32, y = i2 + 1 := ⟨_, rfl⟩
      replace h := Lt_e h ev8
      refine lv_iinc (v := v8) (lv' := [(2, .int v8), (1, .int v7), (0, .int i0)]) hx hb d_Mo_lengthBase_20 hl (k := 2) rfl (by rw [ev8]; rfl) (by decide) rfl (fun ls hl => ?_)
      refine lv_goto (tgt := 6) hx hb d_Mo_lengthBase_23 (by decide) ?_
      exact ih v7 v8  _ _ _ h hP hD hS (lv_sub hl [2, 1, 0] rfl)
set_option maxHeartbeats 4000000 in
set_option maxRecDepth 100000 in
theorem c_Mo_lengthBase (l : Launch) (G : GX) (sz : Nat)  (p0 : Int32) (N : Nat) (V : Int32) (h : f_Mo_lengthBase N p0 = some V) :
    Met l y_Mo_lengthBase (wd y_Mo_lengthBase b_Mo_lengthBase 3 (some .int)) { frames := 1, cells := 0, slots := 0, locals := 20 } (PX G [.int p0] sz [])
      (QXi G V (fun w => w = []) (va_A [] sz)) 0 0 (va_A [] sz) := by
  refine Met_in (QQ := fun A => QXi G V (fun w => w = []) A) (by decide) (Nat.le_of_ble_eq_true rfl) (fun p e s m below meth c R Q A ls C0 hRf hRl hRc hRs hP hK hD hT hA hS hl hQ => ?_)
  obtain ⟨hx, hb, hml, hown, hts, hr, hlocks, hin⟩ := id C0
  have hown : s.vm.findClass R_Mo = some m.cls := hown
  have hl : lv_has ls 3 [(0, .int p0)] := hl
  unfold f_Mo_lengthBase at h
  have hkc : 0 ≤ R.cells := Nat.zero_le _
  have hks : 0 ≤ R.slots := Nat.zero_le _
  obtain ⟨H, hH⟩ : ∃ H, H = s.heap := ⟨_, rfl⟩
  obtain ⟨locs, hlc⟩ : ∃ x : List Loc, x = [] := ⟨_, rfl⟩
  rw [← hH] at hP
  have hS : va_S A s.heap H locs := by rw [hH, hlc]; exact hS
  suffices hgo : W p l e R s m [.int p0].toArray below meth c H locs 0 0 Q (F0 m 0 ls []) by rw [hH, hlc] at hgo; exact hgo
  refine lv_iconst (v := 3) hx hb d_Mo_lengthBase_0 (by decide) ?_
  refine lv_istore_n (lv' := [(1, .int 3), (0, .int p0)]) hx hb d_Mo_lengthBase_1 rfl hl (by decide) rfl (fun ls hl => ?_)
  refine lv_sipush (v := 257) hx hb d_Mo_lengthBase_2 (by decide) ?_
  refine lv_istore_n (lv' := [(2, .int 257), (1, .int 3), (0, .int p0)]) hx hb d_Mo_lengthBase_5 rfl hl (by decide) rfl (fun ls hl => ?_)
  obtain ⟨r9, hc9, h⟩ := Bd_e h
  refine w_Mo_lengthBase_6 C0 hRf hRl hA hK hT N p0  r9 (kc := 0) (ks := 0) hkc hks ?_ N 3 257  _ _ _ hc9 hP hD hS (lv_sub hl [2, 1, 0] rfl)
  · intro H locs ls hP hD hS hl
    refine lv_iload_n hx hb d_Mo_lengthBase_26 rfl (lv_at hl 0 rfl) ?_
    refine lv_sipush (v := 285) hx hb d_Mo_lengthBase_27 (by decide) ?_
    refine lv_icmp_ne (tgt := 39) hx hb d_Mo_lengthBase_30 (by decide) (fun cq10 => ?_) (fun cq10 => ?_)
    · replace h := (if_neg cq10).symm.trans h
      refine lv_iload_n hx hb d_Mo_lengthBase_39 rfl (lv_at hl 1 rfl) ?_
      have eV := so1 h
      subst eV
      exact x_iret C0 hQ hP hD hS rfl (Nat.zero_le _) (Nat.zero_le _) d_Mo_lengthBase_40
    · replace h := (if_pos cq10).symm.trans h
      refine lv_sipush (v := 258) hx hb d_Mo_lengthBase_33 (by decide) ?_
      refine lv_goto (tgt := 40) hx hb d_Mo_lengthBase_36 (by decide) ?_
      have eV := so1 h
      subst eV
      exact x_iret C0 hQ hP hD hS rfl (Nat.zero_le _) (Nat.zero_le _) d_Mo_lengthBase_40
set_option maxHeartbeats 4000000 in
set_option maxRecDepth 100000 in
theorem c_Mo_distanceBits (l : Launch) (G : GX) (sz : Nat)  (p0 : Int32) (N : Nat) (V : Int32) (h : f_Mo_distanceBits N p0 = some V) :
    Met l y_Mo_distanceBits (wd y_Mo_distanceBits b_Mo_distanceBits 1 (some .int)) { frames := 0, cells := 0, slots := 0, locals := 0 } (PX G [.int p0] sz [])
      (QXi G V (fun w => w = []) (va_A [] sz)) 0 0 (va_A [] sz) := by
  refine Met_in (QQ := fun A => QXi G V (fun w => w = []) A) (by decide) (Nat.le_of_ble_eq_true rfl) (fun p e s m below meth c R Q A ls C0 hRf hRl hRc hRs hP hK hD hT hA hS hl hQ => ?_)
  obtain ⟨hx, hb, hml, hown, hts, hr, hlocks, hin⟩ := id C0
  have hown : s.vm.findClass R_Mo = some m.cls := hown
  have hl : lv_has ls 1 [(0, .int p0)] := hl
  unfold f_Mo_distanceBits at h
  have hkc : 0 ≤ R.cells := Nat.zero_le _
  have hks : 0 ≤ R.slots := Nat.zero_le _
  obtain ⟨H, hH⟩ : ∃ H, H = s.heap := ⟨_, rfl⟩
  obtain ⟨locs, hlc⟩ : ∃ x : List Loc, x = [] := ⟨_, rfl⟩
  rw [← hH] at hP
  have hS : va_S A s.heap H locs := by rw [hH, hlc]; exact hS
  suffices hgo : W p l e R s m [.int p0].toArray below meth c H locs 0 0 Q (F0 m 0 ls []) by rw [hH, hlc] at hgo; exact hgo
  refine lv_iload_n hx hb d_Mo_distanceBits_0 rfl (lv_at hl 0 rfl) ?_
  refine lv_iconst (v := 4) hx hb d_Mo_distanceBits_1 (by decide) ?_
  refine lv_icmp_ge (tgt := 9) hx hb d_Mo_distanceBits_2 (by decide) (fun cq1 => ?_) (fun cq1 => ?_)
  · replace h := (if_pos cq1).symm.trans h
    refine lv_iload_n hx hb d_Mo_distanceBits_9 rfl (lv_at hl 0 rfl) ?_
    refine lv_iconst (v := 2) hx hb d_Mo_distanceBits_10 (by decide) ?_
    refine lv_idiv hx hb d_Mo_distanceBits_11 (by decide) ?_
    refine lv_iconst (v := 1) hx hb d_Mo_distanceBits_12 (by decide) ?_
    refine lv_isub hx hb d_Mo_distanceBits_13 ?_
    have eV := so1 h
    subst eV
    exact x_iret C0 hQ hP hD hS rfl (Nat.zero_le _) (Nat.zero_le _) d_Mo_distanceBits_14
  · replace h := (if_neg cq1).symm.trans h
    refine lv_iconst (v := 0) hx hb d_Mo_distanceBits_5 (by decide) ?_
    refine lv_goto (tgt := 14) hx hb d_Mo_distanceBits_6 (by decide) ?_
    have eV := so1 h
    subst eV
    exact x_iret C0 hQ hP hD hS rfl (Nat.zero_le _) (Nat.zero_le _) d_Mo_distanceBits_14
set_option maxHeartbeats 4000000 in
set_option maxRecDepth 100000 in
theorem w_Mo_distanceBase_4 {p : Program} {l : Launch} {e : Env} {R : Room} {s : State} {m : MethodId} {args : Array Value} {below : List Frame} {meth : Method} {c : Code} {Q : State → Prop} {G : GX} {A : Nat → Prop} (C0 : Cx p s m args meth c b_Mo_distanceBase 3 y_Mo_distanceBase (some .int)) (hRf : 1 ≤ R.frames) (hRl : 20 ≤ R.locals) (hA : ∀ q, s.heap.size ≤ q → A q) (hK : KX G s) (hT : TX G A s) (N : Nat) (i0 : Int32)  (out : Int32) {kc ks : Nat} (hkc : kc ≤ R.cells) (hks : ks ≤ R.slots)
    (kx24 : ∀ (H : Heap) (locs : List Loc) (ls : Array Slot), va_P G.1 classes [] H → va_D A [] → va_S A s.heap H locs → lv_has ls 3 [(1, .int out)] → W p l e R s m args below meth c H locs kc ks Q (F0 m 24 ls [])) :
    ∀ (n : Nat) (i1 : Int32) (i2 : Int32) (H : Heap) (locs : List Loc) (ls : Array Slot), lp_Mo_distanceBase_4 N i0 n i1 i2 = some out → va_P G.1 classes [] H → va_D A [] → va_S A s.heap H locs → lv_has ls 3 [(0, .int i0), (1, .int i1), (2, .int i2)] → W p l e R s m args below meth c H locs kc ks Q (F0 m 4 ls []) := by
  obtain ⟨hx, hb, hml, hown, hts, hr, hlocks, hin⟩ := id C0
  have hown : s.vm.findClass R_Mo = some m.cls := hown
  intro n
  induction n with
  | zero => intro i1 i2 H locs ls h; cases h
  | succ n ih =>
    intro i1 i2 H locs ls h hP hD hS hl
    replace h : lb_Mo_distanceBase_4 N i0 (lp_Mo_distanceBase_4 N i0 n) i1 i2 = some out := h
    unfold lb_Mo_distanceBase_4 at h
    refine lv_iload_n hx hb d_Mo_distanceBase_4 rfl (lv_at hl 2 rfl) ?_
    refine lv_iload_n hx hb d_Mo_distanceBase_5 rfl (lv_at hl 0 rfl) ?_
    refine lv_icmp_ge (tgt := 24) hx hb d_Mo_distanceBase_6 (by decide) (fun cq5 => ?_) (fun cq5 => ?_)
    · replace h := (if_pos cq5).symm.trans h
      have eV := so1 h
      subst eV
      exact kx24 _ _ _ hP hD hS (lv_sub hl [1] rfl)
    · replace h := (if_neg cq5).symm.trans h
      refine lv_iload_n hx hb d_Mo_distanceBase_9 rfl (lv_at hl 1 rfl) ?_
      refine lv_iconst (v := 1) hx hb d_Mo_distanceBase_10 (by decide) ?_
      refine lv_iload_n hx hb d_Mo_distanceBase_11 rfl (lv_at hl 2 rfl) ?_
      obtain ⟨r6, hc6, h⟩ := Bd_e h
      refine xS_i0 (wr := []) (rest := [.int 1, .int i1]) C0 hK hT hA hP hD hS hl.1 (c_Mo_distanceBits l G  _  i2 N r6 hc6) (goodS q453 q454 q439 q455) 1 rfl hd_Mo_distanceBits (Nat.le_trans (by decide) hRf) (Nat.le_trans (by decide) hRl) [] [] rfl rfl (by decide) (by decide) (by decide) rfl (Nat.le_of_ble_eq_true rfl) d_Mo_distanceBase_12 hkc hks (fun w1 H locs hE hP hD hS => ?_)
      subst hE
      have hP : va_P G.1 classes [] H := hP
      have hD : va_D A [] := hD
      refine lv_ishl hx hb d_Mo_distanceBase_15 ?_
      refine lv_iadd hx hb d_Mo_distanceBase_16 ?_
      refine lv_topi (fun v7 ev7 => ?_)
      replace h := Lt_e h ev7
      refine lv_istore_n (lv' := [(1, .int v7), (0, .int i0), (2, .int i2)]) hx hb d_Mo_distanceBase_17 rfl hl (by decide) rfl (fun ls hl => ?_)
      obtain ⟨v8, ev8⟩ : ∃ y : Int32, y = i2 + 1 := ⟨_, rfl⟩
      replace h := Lt_e h ev8
      refine lv_iinc (v := v8) (lv' := [(2, .int v8), (1, .int v7), (0, .int i0)]) hx hb d_Mo_distanceBase_18 hl (k := 2) rfl (by rw [ev8]; rfl) (by decide) rfl (fun ls hl => ?_)
      refine lv_goto (tgt := 4) hx hb d_Mo_distanceBase_21 (by decide) ?_
      exact ih v7 v8  _ _ _ h hP hD hS (lv_sub hl [2, 1, 0] rfl)
set_option maxHeartbeats 4000000 in
set_option maxRecDepth 100000 in
theorem c_Mo_distanceBase (l : Launch) (G : GX) (sz : Nat)  (p0 : Int32) (N : Nat) (V : Int32) (h : f_Mo_distanceBase N p0 = some V) :
    Met l y_Mo_distanceBase (wd y_Mo_distanceBase b_Mo_distanceBase 3 (some .int)) { frames := 1, cells := 0, slots := 0, locals := 20 } (PX G [.int p0] sz [])
      (QXi G V (fun w => w = []) (va_A [] sz)) 0 0 (va_A [] sz) := by
  refine Met_in (QQ := fun A => QXi G V (fun w => w = []) A) (by decide) (Nat.le_of_ble_eq_true rfl) (fun p e s m below meth c R Q A ls C0 hRf hRl hRc hRs hP hK hD hT hA hS hl hQ => ?_)
  obtain ⟨hx, hb, hml, hown, hts, hr, hlocks, hin⟩ := id C0
  have hown : s.vm.findClass R_Mo = some m.cls := hown
  have hl : lv_has ls 3 [(0, .int p0)] := hl
  unfold f_Mo_distanceBase at h
  have hkc : 0 ≤ R.cells := Nat.zero_le _
  have hks : 0 ≤ R.slots := Nat.zero_le _
  obtain ⟨H, hH⟩ : ∃ H, H = s.heap := ⟨_, rfl⟩
  obtain ⟨locs, hlc⟩ : ∃ x : List Loc, x = [] := ⟨_, rfl⟩
  rw [← hH] at hP
  have hS : va_S A s.heap H locs := by rw [hH, hlc]; exact hS
  suffices hgo : W p l e R s m [.int p0].toArray below meth c H locs 0 0 Q (F0 m 0 ls []) by rw [hH, hlc] at hgo; exact hgo
  refine lv_iconst (v := 1) hx hb d_Mo_distanceBase_0 (by decide) ?_
  refine lv_istore_n (lv' := [(1, .int 1), (0, .int p0)]) hx hb d_Mo_distanceBase_1 rfl hl (by decide) rfl (fun ls hl => ?_)
  refine lv_iconst (v := 0) hx hb d_Mo_distanceBase_2 (by decide) ?_
  refine lv_istore_n (lv' := [(2, .int 0), (1, .int 1), (0, .int p0)]) hx hb d_Mo_distanceBase_3 rfl hl (by decide) rfl (fun ls hl => ?_)
  obtain ⟨r9, hc9, h⟩ := Bd_e h
  refine w_Mo_distanceBase_4 C0 hRf hRl hA hK hT N p0  r9 (kc := 0) (ks := 0) hkc hks ?_ N 1 0  _ _ _ hc9 hP hD hS (lv_sub hl [2, 1, 0] rfl)
  · intro H locs ls hP hD hS hl
    refine lv_iload_n hx hb d_Mo_distanceBase_24 rfl (lv_at hl 0 rfl) ?_
    have eV := so1 h
    subst eV
    exact x_iret C0 hQ hP hD hS rfl (Nat.zero_le _) (Nat.zero_le _) d_Mo_distanceBase_25
set_option maxHeartbeats 4000000 in
set_option maxRecDepth 100000 in
theorem w_Mo_putPair_4 {p : Program} {l : Launch} {e : Env} {R : Room} {s : State} {m : MethodId} {args : Array Value} {below : List Frame} {meth : Method} {c : Code} {Q : State → Prop} {G : GX} {A : Nat → Prop} (C0 : Cx p s m args meth c b_Mo_putPair 5 y_Mo_putPair none) (hRf : 3 ≤ R.frames) (hRl : 66 ≤ R.locals) (hA : ∀ q, s.heap.size ≤ q → A q) (hK : KX G s) (hT : TX G A s) (N : Nat) (i1 : Int32) (i2 : Int32) (y0_3 : Int32) (y0_4 : Int32) (y0_5 : Int32) (y0_6 : Int32) (y0_7 : Int32) (y0_8 : Int32) (y0_9 : Int32) (y0_10 : Int32) (y0_11 : Int32) (y0_12 : Int32) (y0_13 : Int32) (y0_14 : Int32) (y0_15 : Int32) (y0_16 : Int32) (m1 : Nat) (g_1 : (Nat → Int32)) (c0 c1 u0_0 u0_2 u0_17 u0_18 u0_19 u0_20 u0_21 u0_22 u0_23 : Nat) (out : Int32) {kc ks : Nat} (hkc : kc ≤ R.cells) (hks : ks ≤ R.slots)
    (kx27 : ∀ (H : Heap) (locs : List Loc) (ls : Array Slot), va_P G.1 classes [(c0, .inr (9, [.ref u0_0, .ref c1, .ref u0_2, .int y0_3, .int y0_4, .int y0_5, .int y0_6, .int y0_7, .int y0_8, .int y0_9, .int y0_10, .int y0_11, .int y0_12, .int y0_13, .int y0_14, .int y0_15, .int y0_16, .ref u0_17, .ref u0_18, .ref u0_19, .ref u0_20, .ref u0_21, .ref u0_22, .ref u0_23])), (c1, .inl (G.2.1 0, m1, .inl g_1))] H → va_D A [(c0, .inr (9, [.ref u0_0, .ref c1, .ref u0_2, .int y0_3, .int y0_4, .int y0_5, .int y0_6, .int y0_7, .int y0_8, .int y0_9, .int y0_10, .int y0_11, .int y0_12, .int y0_13, .int y0_14, .int y0_15, .int y0_16, .ref u0_17, .ref u0_18, .ref u0_19, .ref u0_20, .ref u0_21, .ref u0_22, .ref u0_23])), (c1, .inl (G.2.1 0, m1, .inl g_1))] → va_S A s.heap H locs → lv_has ls 5 [(0, .ref c0), (1, .int i1), (2, .int i2), (3, .int out)] → W p l e R s m args below meth c H locs kc ks Q (F0 m 27 ls [])) :
    ∀ (n : Nat) (i3 : Int32) (H : Heap) (locs : List Loc) (ls : Array Slot), lp_Mo_putPair_4 N i1 n i3 = some out → va_P G.1 classes [(c0, .inr (9, [.ref u0_0, .ref c1, .ref u0_2, .int y0_3, .int y0_4, .int y0_5, .int y0_6, .int y0_7, .int y0_8, .int y0_9, .int y0_10, .int y0_11, .int y0_12, .int y0_13, .int y0_14, .int y0_15, .int y0_16, .ref u0_17, .ref u0_18, .ref u0_19, .ref u0_20, .ref u0_21, .ref u0_22, .ref u0_23])), (c1, .inl (G.2.1 0, m1, .inl g_1))] H → va_D A [(c0, .inr (9, [.ref u0_0, .ref c1, .ref u0_2, .int y0_3, .int y0_4, .int y0_5, .int y0_6, .int y0_7, .int y0_8, .int y0_9, .int y0_10, .int y0_11, .int y0_12, .int y0_13, .int y0_14, .int y0_15, .int y0_16, .ref u0_17, .ref u0_18, .ref u0_19, .ref u0_20, .ref u0_21, .ref u0_22, .ref u0_23])), (c1, .inl (G.2.1 0, m1, .inl g_1))] → va_S A s.heap H locs → lv_has ls 5 [(0, .ref c0), (1, .int i1), (2, .int i2), (3, .int i3)] → W p l e R s m args below meth c H locs kc ks Q (F0 m 4 ls []) := by
  obtain ⟨hx, hb, hml, hown, hts, hr, hlocks, hin⟩ := id C0
  have hown : s.vm.findClass R_Mo = some m.cls := hown
  intro n
  induction n with
  | zero => intro i3 H locs ls h; cases h
  | succ n ih =>
    intro i3 H locs ls h hP hD hS hl
    replace h : lb_Mo_putPair_4 N i1 (lp_Mo_putPair_4 N i1 n) i3 = some out := h
    unfold lb_Mo_putPair_4 at h
    refine lv_iload_n hx hb d_Mo_putPair_4 rfl (lv_at hl 3 rfl) ?_
    refine lv_sipush (v := 285) hx hb d_Mo_putPair_5 (by decide) ?_
    refine lv_icmp_ge (tgt := 27) hx hb d_Mo_putPair_8 (by decide) (fun cq5 => ?_) (fun cq5 => ?_)
    · replace h := (if_pos cq5).symm.trans h
      have eV := so1 h
      subst eV
      exact kx27 _ _ _ hP hD hS hl
    · replace h := (if_neg cq5).symm.trans h
      refine lv_iload_n hx hb d_Mo_putPair_11 rfl (lv_at hl 3 rfl) ?_
      refine lv_iconst (v := 1) hx hb d_Mo_putPair_12 (by decide) ?_
      refine lv_iadd hx hb d_Mo_putPair_13 ?_
      obtain ⟨r6, hc6, h⟩ := Bd_e h
      refine xS_i0 (wr := [(c0, .inr (9, [.ref u0_0, .ref c1, .ref u0_2, .int y0_3, .int y0_4, .int y0_5, .int y0_6, .int y0_7, .int y0_8, .int y0_9, .int y0_10, .int y0_11, .int y0_12, .int y0_13, .int y0_14, .int y0_15, .int y0_16, .ref u0_17, .ref u0_18, .ref u0_19, .ref u0_20, .ref u0_21, .ref u0_22, .ref u0_23])), (c1, .inl (G.2.1 0, m1, .inl g_1))]) (rest := []) C0 hK hT hA hP hD hS hl.1 (c_Mo_lengthBase l G  _  (i3 + 1) N r6 hc6) (goodS q456 q457 q439 q458) 1 rfl hd_Mo_lengthBase (Nat.le_trans (by decide) hRf) (Nat.le_trans (by decide) hRl) [] [0, 1] rfl rfl (by decide) (by decide) (by decide) rfl (Nat.le_of_ble_eq_true rfl) d_Mo_putPair_14 hkc hks (fun w1 H locs hE hP hD hS => ?_)
      subst hE
      have hP : va_P G.1 classes [(c0, .inr (9, [.ref u0_0, .ref c1, .ref u0_2, .int y0_3, .int y0_4, .int y0_5, .int y0_6, .int y0_7, .int y0_8, .int y0_9, .int y0_10, .int y0_11, .int y0_12, .int y0_13, .int y0_14, .int y0_15, .int y0_16, .ref u0_17, .ref u0_18, .ref u0_19, .ref u0_20, .ref u0_21, .ref u0_22, .ref u0_23])), (c1, .inl (G.2.1 0, m1, .inl g_1))] H := hP
      have hD : va_D A [(c0, .inr (9, [.ref u0_0, .ref c1, .ref u0_2, .int y0_3, .int y0_4, .int y0_5, .int y0_6, .int y0_7, .int y0_8, .int y0_9, .int y0_10, .int y0_11, .int y0_12, .int y0_13, .int y0_14, .int y0_15, .int y0_16, .ref u0_17, .ref u0_18, .ref u0_19, .ref u0_20, .ref u0_21, .ref u0_22, .ref u0_23])), (c1, .inl (G.2.1 0, m1, .inl g_1))] := hD
      refine lv_iload_n hx hb d_Mo_putPair_17 rfl (lv_at hl 1 rfl) ?_
      refine lv_icmp_gt (tgt := 27) hx hb d_Mo_putPair_18 (by decide) (fun cq7 => ?_) (fun cq7 => ?_)
      · replace h := (if_pos cq7).symm.trans h
        have eV := so1 h
        subst eV
        exact kx27 _ _ _ hP hD hS hl
      · replace h := (if_neg cq7).symm.trans h
        obtain ⟨v8, ev8⟩ : ∃ y : Int32, y = i3 + 1 := ⟨_, rfl⟩
        replace h := Lt_e h ev8
        refine lv_iinc (v := v8) (lv' := [(3, .int v8), (0, .ref c0), (1, .int i1), (2, .int i2)]) hx hb d_Mo_putPair_21 hl (k := 3) rfl (by rw [ev8]; rfl) (by decide) rfl (fun ls hl => ?_)
        refine lv_goto (tgt := 4) hx hb d_Mo_putPair_24 (by decide) ?_
        exact ih v8  _ _ _ h hP hD hS (lv_sub hl [1, 2, 3, 0] rfl)
set_option maxHeartbeats 4000000 in
set_option maxRecDepth 100000 in
theorem w_Mo_putPair_49 {p : Program} {l : Launch} {e : Env} {R : Room} {s : State} {m : MethodId} {args : Array Value} {below : List Frame} {meth : Method} {c : Code} {Q : State → Prop} {G : GX} {A : Nat → Prop} (C0 : Cx p s m args meth c b_Mo_putPair 5 y_Mo_putPair none) (hRf : 3 ≤ R.frames) (hRl : 66 ≤ R.locals) (hA : ∀ q, s.heap.size ≤ q → A q) (hK : KX G s) (hT : TX G A s) (N : Nat) (i2 : Int32) (y0_3 : Int32) (y0_4 : Int32) (y0_5 : Int32) (y0_6 : Int32) (y0_7 : Int32) (y0_8 : Int32) (y0_9 : Int32) (y0_10 : Int32) (y0_11 : Int32) (y0_12 : Int32) (y0_13 : Int32) (y0_14 : Int32) (y0_15 : Int32) (y0_16 : Int32) (m1 : Nat) (g_1 : (Nat → Int32)) (c0 c1 u0_0 u0_2 u0_17 u0_18 u0_19 u0_20 u0_21 u0_22 u0_23 : Nat) (out : Int32) {kc ks : Nat} (hkc : kc ≤ R.cells) (hks : ks ≤ R.slots)
    (kx73 : ∀ (H : Heap) (locs : List Loc) (ls : Array Slot), va_P G.1 classes [(c0, .inr (9, [.ref u0_0, .ref c1, .ref u0_2, .int y0_3, .int y0_4, .int y0_5, .int y0_6, .int y0_7, .int y0_8, .int y0_9, .int y0_10, .int y0_11, .int y0_12, .int y0_13, .int y0_14, .int y0_15, .int y0_16, .ref u0_17, .ref u0_18, .ref u0_19, .ref u0_20, .ref u0_21, .ref u0_22, .ref u0_23])), (c1, .inl (G.2.1 0, m1, .inl g_1))] H → va_D A [(c0, .inr (9, [.ref u0_0, .ref c1, .ref u0_2, .int y0_3, .int y0_4, .int y0_5, .int y0_6, .int y0_7, .int y0_8, .int y0_9, .int y0_10, .int y0_11, .int y0_12, .int y0_13, .int y0_14, .int y0_15, .int y0_16, .ref u0_17, .ref u0_18, .ref u0_19, .ref u0_20, .ref u0_21, .ref u0_22, .ref u0_23])), (c1, .inl (G.2.1 0, m1, .inl g_1))] → va_S A s.heap H locs → lv_has ls 5 [(0, .ref c0), (2, .int i2), (4, .int out)] → W p l e R s m args below meth c H locs kc ks Q (F0 m 73 ls [])) :
    ∀ (n : Nat) (i4 : Int32) (H : Heap) (locs : List Loc) (ls : Array Slot), lp_Mo_putPair_49 N i2 n i4 = some out → va_P G.1 classes [(c0, .inr (9, [.ref u0_0, .ref c1, .ref u0_2, .int y0_3, .int y0_4, .int y0_5, .int y0_6, .int y0_7, .int y0_8, .int y0_9, .int y0_10, .int y0_11, .int y0_12, .int y0_13, .int y0_14, .int y0_15, .int y0_16, .ref u0_17, .ref u0_18, .ref u0_19, .ref u0_20, .ref u0_21, .ref u0_22, .ref u0_23])), (c1, .inl (G.2.1 0, m1, .inl g_1))] H → va_D A [(c0, .inr (9, [.ref u0_0, .ref c1, .ref u0_2, .int y0_3, .int y0_4, .int y0_5, .int y0_6, .int y0_7, .int y0_8, .int y0_9, .int y0_10, .int y0_11, .int y0_12, .int y0_13, .int y0_14, .int y0_15, .int y0_16, .ref u0_17, .ref u0_18, .ref u0_19, .ref u0_20, .ref u0_21, .ref u0_22, .ref u0_23])), (c1, .inl (G.2.1 0, m1, .inl g_1))] → va_S A s.heap H locs → lv_has ls 5 [(0, .ref c0), (2, .int i2), (4, .int i4)] → W p l e R s m args below meth c H locs kc ks Q (F0 m 49 ls []) := by
  obtain ⟨hx, hb, hml, hown, hts, hr, hlocks, hin⟩ := id C0
  have hown : s.vm.findClass R_Mo = some m.cls := hown
  intro n
  induction n with
  | zero => intro i4 H locs ls h; cases h
  | succ n ih =>
    intro i4 H locs ls h hP hD hS hl
    replace h : lb_Mo_putPair_49 N i2 (lp_Mo_putPair_49 N i2 n) i4 = some out := h
    unfold lb_Mo_putPair_49 at h
    refine lv_iload hx hb d_Mo_putPair_49 (lv_at hl 2 rfl) ?_
    refine lv_bipush (v := 29) hx hb d_Mo_putPair_51 (by decide) ?_
    refine lv_icmp_ge (tgt := 73) hx hb d_Mo_putPair_53 (by decide) (fun cq18 => ?_) (fun cq18 => ?_)
    · replace h := (if_pos cq18).symm.trans h
      have eV := so1 h
      subst eV
      exact kx73 _ _ _ hP hD hS hl
    · replace h := (if_neg cq18).symm.trans h
      refine lv_iload hx hb d_Mo_putPair_56 (lv_at hl 2 rfl) ?_
      refine lv_iconst (v := 1) hx hb d_Mo_putPair_58 (by decide) ?_
      refine lv_iadd hx hb d_Mo_putPair_59 ?_
      obtain ⟨r19, hc19, h⟩ := Bd_e h
      refine xS_i0 (wr := [(c0, .inr (9, [.ref u0_0, .ref c1, .ref u0_2, .int y0_3, .int y0_4, .int y0_5, .int y0_6, .int y0_7, .int y0_8, .int y0_9, .int y0_10, .int y0_11, .int y0_12, .int y0_13, .int y0_14, .int y0_15, .int y0_16, .ref u0_17, .ref u0_18, .ref u0_19, .ref u0_20, .ref u0_21, .ref u0_22, .ref u0_23])), (c1, .inl (G.2.1 0, m1, .inl g_1))]) (rest := []) C0 hK hT hA hP hD hS hl.1 (c_Mo_distanceBase l G  _  (i4 + 1) N r19 hc19) (goodS q467 q468 q439 q469) 1 rfl hd_Mo_distanceBase (Nat.le_trans (by decide) hRf) (Nat.le_trans (by decide) hRl) [] [0, 1] rfl rfl (by decide) (by decide) (by decide) rfl (Nat.le_of_ble_eq_true rfl) d_Mo_putPair_60 hkc hks (fun w1 H locs hE hP hD hS => ?_)
      subst hE
      have hP : va_P G.1 classes [(c0, .inr (9, [.ref u0_0, .ref c1, .ref u0_2, .int y0_3, .int y0_4, .int y0_5, .int y0_6, .int y0_7, .int y0_8, .int y0_9, .int y0_10, .int y0_11, .int y0_12, .int y0_13, .int y0_14, .int y0_15, .int y0_16, .ref u0_17, .ref u0_18, .ref u0_19, .ref u0_20, .ref u0_21, .ref u0_22, .ref u0_23])), (c1, .inl (G.2.1 0, m1, .inl g_1))] H := hP
      have hD : va_D A [(c0, .inr (9, [.ref u0_0, .ref c1, .ref u0_2, .int y0_3, .int y0_4, .int y0_5, .int y0_6, .int y0_7, .int y0_8, .int y0_9, .int y0_10, .int y0_11, .int y0_12, .int y0_13, .int y0_14, .int y0_15, .int y0_16, .ref u0_17, .ref u0_18, .ref u0_19, .ref u0_20, .ref u0_21, .ref u0_22, .ref u0_23])), (c1, .inl (G.2.1 0, m1, .inl g_1))] := hD
      refine lv_iload_n hx hb d_Mo_putPair_63 rfl (lv_at hl 1 rfl) ?_
      refine lv_icmp_gt (tgt := 73) hx hb d_Mo_putPair_64 (by decide) (fun cq20 => ?_) (fun cq20 => ?_)
      · replace h := (if_pos cq20).symm.trans h
        have eV := so1 h
        subst eV
        exact kx73 _ _ _ hP hD hS hl
      · replace h := (if_neg cq20).symm.trans h
        obtain ⟨v21, ev21⟩ : ∃ y : Int32, y = i4 + 1 := ⟨_, rfl⟩
        replace h := Lt_e h ev21
        refine lv_iinc (v := v21) (lv' := [(4, .int v21), (0, .ref c0), (2, .int i2)]) hx hb d_Mo_putPair_67 hl (k := 2) rfl (by rw [ev21]; rfl) (by decide) rfl (fun ls hl => ?_)
        refine lv_goto (tgt := 49) hx hb d_Mo_putPair_70 (by decide) ?_
        exact ih v21  _ _ _ h hP hD hS (lv_sub hl [1, 2, 0] rfl)
set_option maxHeartbeats 4000000 in
set_option maxRecDepth 100000 in
theorem c_Mo_putPair (l : Launch) (G : GX) (a0 a1 o0_0 o0_2 o0_17 o0_18 o0_19 o0_20 o0_21 o0_22 o0_23 : Nat) (sz : Nat) (x0_3 : Int32) (x0_4 : Int32) (x0_5 : Int32) (x0_6 : Int32) (x0_7 : Int32) (x0_8 : Int32) (x0_9 : Int32) (x0_10 : Int32) (x0_11 : Int32) (x0_12 : Int32) (x0_13 : Int32) (x0_14 : Int32) (x0_15 : Int32) (x0_16 : Int32) (n1 : Nat) (f1 : (Nat → Int32)) (p1 : Int32) (p2 : Int32) (N : Nat) (V : Int32 × (Nat → Int32)) (h : f_Mo_putPair N x0_11 n1 f1 p1 p2 = some V) :
    Met l y_Mo_putPair (wd y_Mo_putPair b_Mo_putPair 5 none) { frames := 3, cells := 0, slots := 0, locals := 66 } (PX G [.ref a0, .int p1, .int p2] sz [(a0, .inr (9, [.ref o0_0, .ref a1, .ref o0_2, .int x0_3, .int x0_4, .int x0_5, .int x0_6, .int x0_7, .int x0_8, .int x0_9, .int x0_10, .int x0_11, .int x0_12, .int x0_13, .int x0_14, .int x0_15, .int x0_16, .ref o0_17, .ref o0_18, .ref o0_19, .ref o0_20, .ref o0_21, .ref o0_22, .ref o0_23])), (a1, .inl (G.2.1 0, n1, .inl f1))])
      (QXv G (fun w => w = [(a0, .inr (9, [.ref o0_0, .ref a1, .ref o0_2, .int x0_3, .int x0_4, .int x0_5, .int x0_6, .int x0_7, .int x0_8, .int x0_9, .int x0_10, .int V.1, .int x0_12, .int x0_13, .int x0_14, .int x0_15, .int x0_16, .ref o0_17, .ref o0_18, .ref o0_19, .ref o0_20, .ref o0_21, .ref o0_22, .ref o0_23])), (a1, .inl (G.2.1 0, n1, .inl V.2))]) (va_A [(a0, .inr (9, [.ref o0_0, .ref a1, .ref o0_2, .int x0_3, .int x0_4, .int x0_5, .int x0_6, .int x0_7, .int x0_8, .int x0_9, .int x0_10, .int x0_11, .int x0_12, .int x0_13, .int x0_14, .int x0_15, .int x0_16, .ref o0_17, .ref o0_18, .ref o0_19, .ref o0_20, .ref o0_21, .ref o0_22, .ref o0_23])), (a1, .inl (G.2.1 0, n1, .inl f1))] sz)) 0 0 (va_A [(a0, .inr (9, [.ref o0_0, .ref a1, .ref o0_2, .int x0_3, .int x0_4, .int x0_5, .int x0_6, .int x0_7, .int x0_8, .int x0_9, .int x0_10, .int x0_11, .int x0_12, .int x0_13, .int x0_14, .int x0_15, .int x0_16, .ref o0_17, .ref o0_18, .ref o0_19, .ref o0_20, .ref o0_21, .ref o0_22, .ref o0_23])), (a1, .inl (G.2.1 0, n1, .inl f1))] sz) := by
  refine Met_in (QQ := fun A => QXv G (fun w => w = [(a0, .inr (9, [.ref o0_0, .ref a1, .ref o0_2, .int x0_3, .int x0_4, .int x0_5, .int x0_6, .int x0_7, .int x0_8, .int x0_9, .int x0_10, .int V.1, .int x0_12, .int x0_13, .int x0_14, .int x0_15, .int x0_16, .ref o0_17, .ref o0_18, .ref o0_19, .ref o0_20, .ref o0_21, .ref o0_22, .ref o0_23])), (a1, .inl (G.2.1 0, n1, .inl V.2))]) A) (by decide) (Nat.le_of_ble_eq_true rfl) (fun p e s m below meth c R Q A ls C0 hRf hRl hRc hRs hP hK hD hT hA hS hl hQ => ?_)
  obtain ⟨hx, hb, hml, hown, hts, hr, hlocks, hin⟩ := id C0
  have hown : s.vm.findClass R_Mo = some m.cls := hown
  have hl : lv_has ls 5 [(0, .ref a0), (1, .int p1), (2, .int p2)] := hl
  unfold f_Mo_putPair at h
  have hkc : 0 ≤ R.cells := Nat.zero_le _
  have hks : 0 ≤ R.slots := Nat.zero_le _
  obtain ⟨H, hH⟩ : ∃ H, H = s.heap := ⟨_, rfl⟩
  obtain ⟨locs, hlc⟩ : ∃ x : List Loc, x = [] := ⟨_, rfl⟩
  rw [← hH] at hP
  have hS : va_S A s.heap H locs := by rw [hH, hlc]; exact hS
  suffices hgo : W p l e R s m [.ref a0, .int p1, .int p2].toArray below meth c H locs 0 0 Q (F0 m 0 ls []) by rw [hH, hlc] at hgo; exact hgo
  refine lv_sipush (v := 257) hx hb d_Mo_putPair_0 (by decide) ?_
  refine lv_istore_n (lv' := [(3, .int 257), (0, .ref a0), (1, .int p1), (2, .int p2)]) hx hb d_Mo_putPair_3 rfl hl (by decide) rfl (fun ls hl => ?_)
  obtain ⟨r9, hc9, h⟩ := Bd_e h
  refine w_Mo_putPair_4 C0 hRf hRl hA hK hT N p1 p2 x0_3 x0_4 x0_5 x0_6 x0_7 x0_8 x0_9 x0_10 x0_11 x0_12 x0_13 x0_14 x0_15 x0_16 n1 f1 a0 a1 o0_0 o0_2 o0_17 o0_18 o0_19 o0_20 o0_21 o0_22 o0_23 r9 (kc := 0) (ks := 0) hkc hks ?_ N 257  _ _ _ hc9 hP hD hS (lv_sub hl [1, 2, 3, 0] rfl)
  · intro H locs ls hP hD hS hl
    refine lv_aload_n hx hb d_Mo_putPair_27 rfl (lv_at hl 0 rfl) ?_
    refine lv_iload_n hx hb d_Mo_putPair_28 rfl (lv_at hl 3 rfl) ?_
    obtain ⟨r10, hc10, h⟩ := Bd_e h
    refine xV_v0 (wr := []) (rest := []) C0 hK hT hA hP hD hS hl.1 (c_Mo_putSign l G a0 a1 o0_0 o0_2 o0_17 o0_18 o0_19 o0_20 o0_21 o0_22 o0_23 _ x0_3 x0_4 x0_5 x0_6 x0_7 x0_8 x0_9 x0_10 x0_11 x0_12 x0_13 x0_14 x0_15 x0_16 n1 f1 r9 N r10 hc10) (goodV q459 q460 q461 q439 q462) 1 rfl hd_Mo_putSign (Nat.le_trans (by decide) hRf) (Nat.le_trans (by decide) hRl) [0, 1] [] rfl rfl (by decide) (by decide) (by decide) 9 0 rfl rfl rfl (Nat.le_of_ble_eq_true rfl) d_Mo_putPair_29 hkc hks (fun w1 H locs hE hP hD hS => ?_)
    subst hE
    have hP : va_P G.1 classes [(a0, .inr (9, [.ref o0_0, .ref a1, .ref o0_2, .int x0_3, .int x0_4, .int x0_5, .int x0_6, .int x0_7, .int x0_8, .int x0_9, .int x0_10, .int r10.1, .int x0_12, .int x0_13, .int x0_14, .int x0_15, .int x0_16, .ref o0_17, .ref o0_18, .ref o0_19, .ref o0_20, .ref o0_21, .ref o0_22, .ref o0_23])), (a1, .inl (G.2.1 0, n1, .inl r10.2))] H := hP
    have hD : va_D A [(a0, .inr (9, [.ref o0_0, .ref a1, .ref o0_2, .int x0_3, .int x0_4, .int x0_5, .int x0_6, .int x0_7, .int x0_8, .int x0_9, .int x0_10, .int r10.1, .int x0_12, .int x0_13, .int x0_14, .int x0_15, .int x0_16, .ref o0_17, .ref o0_18, .ref o0_19, .ref o0_20, .ref o0_21, .ref o0_22, .ref o0_23])), (a1, .inl (G.2.1 0, n1, .inl r10.2))] := hD
    refine lv_aload_n hx hb d_Mo_putPair_32 rfl (lv_at hl 0 rfl) ?_
    refine lv_iload_n hx hb d_Mo_putPair_33 rfl (lv_at hl 1 rfl) ?_
    refine lv_iload_n hx hb d_Mo_putPair_34 rfl (lv_at hl 3 rfl) ?_
    obtain ⟨r11, hc11, h⟩ := Bd_e h
    refine xS_i0 (wr := [(a0, .inr (9, [.ref o0_0, .ref a1, .ref o0_2, .int x0_3, .int x0_4, .int x0_5, .int x0_6, .int x0_7, .int x0_8, .int x0_9, .int x0_10, .int r10.1, .int x0_12, .int x0_13, .int x0_14, .int x0_15, .int x0_16, .ref o0_17, .ref o0_18, .ref o0_19, .ref o0_20, .ref o0_21, .ref o0_22, .ref o0_23])), (a1, .inl (G.2.1 0, n1, .inl r10.2))]) (rest := [.int p1, .ref a0]) C0 hK hT hA hP hD hS hl.1 (c_Mo_lengthBase l G  _  r9 N r11 hc11) (goodS q456 q457 q439 q458) 1 rfl hd_Mo_lengthBase (Nat.le_trans (by decide) hRf) (Nat.le_trans (by decide) hRl) [] [0, 1] rfl rfl (by decide) (by decide) (by decide) rfl (Nat.le_of_ble_eq_true rfl) d_Mo_putPair_35 hkc hks (fun w1 H locs hE hP hD hS => ?_)
    subst hE
    have hP : va_P G.1 classes [(a0, .inr (9, [.ref o0_0, .ref a1, .ref o0_2, .int x0_3, .int x0_4, .int x0_5, .int x0_6, .int x0_7, .int x0_8, .int x0_9, .int x0_10, .int r10.1, .int x0_12, .int x0_13, .int x0_14, .int x0_15, .int x0_16, .ref o0_17, .ref o0_18, .ref o0_19, .ref o0_20, .ref o0_21, .ref o0_22, .ref o0_23])), (a1, .inl (G.2.1 0, n1, .inl r10.2))] H := hP
    have hD : va_D A [(a0, .inr (9, [.ref o0_0, .ref a1, .ref o0_2, .int x0_3, .int x0_4, .int x0_5, .int x0_6, .int x0_7, .int x0_8, .int x0_9, .int x0_10, .int r10.1, .int x0_12, .int x0_13, .int x0_14, .int x0_15, .int x0_16, .ref o0_17, .ref o0_18, .ref o0_19, .ref o0_20, .ref o0_21, .ref o0_22, .ref o0_23])), (a1, .inl (G.2.1 0, n1, .inl r10.2))] := hD
    refine lv_isub hx hb d_Mo_putPair_38 ?_
    refine lv_iload_n hx hb d_Mo_putPair_39 rfl (lv_at hl 3 rfl) ?_
    obtain ⟨r12, hc12, h⟩ := Bd_e h
    refine xS_i0 (wr := [(a0, .inr (9, [.ref o0_0, .ref a1, .ref o0_2, .int x0_3, .int x0_4, .int x0_5, .int x0_6, .int x0_7, .int x0_8, .int x0_9, .int x0_10, .int r10.1, .int x0_12, .int x0_13, .int x0_14, .int x0_15, .int x0_16, .ref o0_17, .ref o0_18, .ref o0_19, .ref o0_20, .ref o0_21, .ref o0_22, .ref o0_23])), (a1, .inl (G.2.1 0, n1, .inl r10.2))]) (rest := [.int (p1 - r11), .ref a0]) C0 hK hT hA hP hD hS hl.1 (c_Mo_lengthBits l G  _  r9 N r12 hc12) (goodS q450 q451 q439 q452) 1 rfl hd_Mo_lengthBits (Nat.le_trans (by decide) hRf) (Nat.le_trans (by decide) hRl) [] [0, 1] rfl rfl (by decide) (by decide) (by decide) rfl (Nat.le_of_ble_eq_true rfl) d_Mo_putPair_40 hkc hks (fun w1 H locs hE hP hD hS => ?_)
    subst hE
    have hP : va_P G.1 classes [(a0, .inr (9, [.ref o0_0, .ref a1, .ref o0_2, .int x0_3, .int x0_4, .int x0_5, .int x0_6, .int x0_7, .int x0_8, .int x0_9, .int x0_10, .int r10.1, .int x0_12, .int x0_13, .int x0_14, .int x0_15, .int x0_16, .ref o0_17, .ref o0_18, .ref o0_19, .ref o0_20, .ref o0_21, .ref o0_22, .ref o0_23])), (a1, .inl (G.2.1 0, n1, .inl r10.2))] H := hP
    have hD : va_D A [(a0, .inr (9, [.ref o0_0, .ref a1, .ref o0_2, .int x0_3, .int x0_4, .int x0_5, .int x0_6, .int x0_7, .int x0_8, .int x0_9, .int x0_10, .int r10.1, .int x0_12, .int x0_13, .int x0_14, .int x0_15, .int x0_16, .ref o0_17, .ref o0_18, .ref o0_19, .ref o0_20, .ref o0_21, .ref o0_22, .ref o0_23])), (a1, .inl (G.2.1 0, n1, .inl r10.2))] := hD
    obtain ⟨r13, hc13, h⟩ := Bd_e h
    refine xV_v0 (wr := []) (rest := []) C0 hK hT hA hP hD hS hl.1 (c_Mo_putNumber l G a0 a1 o0_0 o0_2 o0_17 o0_18 o0_19 o0_20 o0_21 o0_22 o0_23 _ x0_3 x0_4 x0_5 x0_6 x0_7 x0_8 x0_9 x0_10 r10.1 x0_12 x0_13 x0_14 x0_15 x0_16 n1 r10.2 (p1 - r11) r12 N r13 hc13) (goodV q463 q464 q465 q439 q466) 2 rfl hd_Mo_putNumber (Nat.le_trans (by decide) hRf) (Nat.le_trans (by decide) hRl) [0, 1] [] rfl rfl (by decide) (by decide) (by decide) 9 0 rfl rfl rfl (Nat.le_of_ble_eq_true rfl) d_Mo_putPair_43 hkc hks (fun w1 H locs hE hP hD hS => ?_)
    subst hE
    have hP : va_P G.1 classes [(a0, .inr (9, [.ref o0_0, .ref a1, .ref o0_2, .int x0_3, .int x0_4, .int x0_5, .int x0_6, .int x0_7, .int x0_8, .int x0_9, .int x0_10, .int r13.1, .int x0_12, .int x0_13, .int x0_14, .int x0_15, .int x0_16, .ref o0_17, .ref o0_18, .ref o0_19, .ref o0_20, .ref o0_21, .ref o0_22, .ref o0_23])), (a1, .inl (G.2.1 0, n1, .inl r13.2))] H := hP
    have hD : va_D A [(a0, .inr (9, [.ref o0_0, .ref a1, .ref o0_2, .int x0_3, .int x0_4, .int x0_5, .int x0_6, .int x0_7, .int x0_8, .int x0_9, .int x0_10, .int r13.1, .int x0_12, .int x0_13, .int x0_14, .int x0_15, .int x0_16, .ref o0_17, .ref o0_18, .ref o0_19, .ref o0_20, .ref o0_21, .ref o0_22, .ref o0_23])), (a1, .inl (G.2.1 0, n1, .inl r13.2))] := hD
    refine lv_iconst (v := 0) hx hb d_Mo_putPair_46 (by decide) ?_
    refine lv_istore (lv' := [(4, .int 0), (0, .ref a0), (1, .int p1), (2, .int p2), (3, .int r9)]) hx hb d_Mo_putPair_47 hl (by decide) rfl (fun ls hl => ?_)
    obtain ⟨r22, hc22, h⟩ := Bd_e h
    refine w_Mo_putPair_49 C0 hRf hRl hA hK hT N p2 x0_3 x0_4 x0_5 x0_6 x0_7 x0_8 x0_9 x0_10 r13.1 x0_12 x0_13 x0_14 x0_15 x0_16 n1 r13.2 a0 a1 o0_0 o0_2 o0_17 o0_18 o0_19 o0_20 o0_21 o0_22 o0_23 r22 (kc := 0) (ks := 0) hkc hks ?_ N 0  _ _ _ hc22 hP hD hS (lv_sub hl [1, 3, 0] rfl)
    · intro H locs ls hP hD hS hl
      refine lv_aload_n hx hb d_Mo_putPair_73 rfl (lv_at hl 0 rfl) ?_
      refine lv_iload hx hb d_Mo_putPair_74 (lv_at hl 2 rfl) ?_
      refine lv_iconst (v := 5) hx hb d_Mo_putPair_76 (by decide) ?_
      obtain ⟨r23, hc23, h⟩ := Bd_e h
      refine xV_v0 (wr := []) (rest := []) C0 hK hT hA hP hD hS hl.1 (c_Mo_putCode l G a0 a1 o0_0 o0_2 o0_17 o0_18 o0_19 o0_20 o0_21 o0_22 o0_23 _ x0_3 x0_4 x0_5 x0_6 x0_7 x0_8 x0_9 x0_10 r13.1 x0_12 x0_13 x0_14 x0_15 x0_16 n1 r13.2 r22 5 N r23 hc23) (goodV q446 q447 q448 q439 q449) 2 rfl hd_Mo_putCode (Nat.le_trans (by decide) hRf) (Nat.le_trans (by decide) hRl) [0, 1] [] rfl rfl (by decide) (by decide) (by decide) 9 0 rfl rfl rfl (Nat.le_of_ble_eq_true rfl) d_Mo_putPair_77 hkc hks (fun w1 H locs hE hP hD hS => ?_)
      subst hE
      have hP : va_P G.1 classes [(a0, .inr (9, [.ref o0_0, .ref a1, .ref o0_2, .int x0_3, .int x0_4, .int x0_5, .int x0_6, .int x0_7, .int x0_8, .int x0_9, .int x0_10, .int r23.1, .int x0_12, .int x0_13, .int x0_14, .int x0_15, .int x0_16, .ref o0_17, .ref o0_18, .ref o0_19, .ref o0_20, .ref o0_21, .ref o0_22, .ref o0_23])), (a1, .inl (G.2.1 0, n1, .inl r23.2))] H := hP
      have hD : va_D A [(a0, .inr (9, [.ref o0_0, .ref a1, .ref o0_2, .int x0_3, .int x0_4, .int x0_5, .int x0_6, .int x0_7, .int x0_8, .int x0_9, .int x0_10, .int r23.1, .int x0_12, .int x0_13, .int x0_14, .int x0_15, .int x0_16, .ref o0_17, .ref o0_18, .ref o0_19, .ref o0_20, .ref o0_21, .ref o0_22, .ref o0_23])), (a1, .inl (G.2.1 0, n1, .inl r23.2))] := hD
      refine lv_aload_n hx hb d_Mo_putPair_80 rfl (lv_at hl 0 rfl) ?_
      refine lv_iload_n hx hb d_Mo_putPair_81 rfl (lv_at hl 1 rfl) ?_
      refine lv_iload hx hb d_Mo_putPair_82 (lv_at hl 2 rfl) ?_
      obtain ⟨r24, hc24, h⟩ := Bd_e h
      refine xS_i0 (wr := [(a0, .inr (9, [.ref o0_0, .ref a1, .ref o0_2, .int x0_3, .int x0_4, .int x0_5, .int x0_6, .int x0_7, .int x0_8, .int x0_9, .int x0_10, .int r23.1, .int x0_12, .int x0_13, .int x0_14, .int x0_15, .int x0_16, .ref o0_17, .ref o0_18, .ref o0_19, .ref o0_20, .ref o0_21, .ref o0_22, .ref o0_23])), (a1, .inl (G.2.1 0, n1, .inl r23.2))]) (rest := [.int p2, .ref a0]) C0 hK hT hA hP hD hS hl.1 (c_Mo_distanceBase l G  _  r22 N r24 hc24) (goodS q467 q468 q439 q469) 1 rfl hd_Mo_distanceBase (Nat.le_trans (by decide) hRf) (Nat.le_trans (by decide) hRl) [] [0, 1] rfl rfl (by decide) (by decide) (by decide) rfl (Nat.le_of_ble_eq_true rfl) d_Mo_putPair_84 hkc hks (fun w1 H locs hE hP hD hS => ?_)
      subst hE
      have hP : va_P G.1 classes [(a0, .inr (9, [.ref o0_0, .ref a1, .ref o0_2, .int x0_3, .int x0_4, .int x0_5, .int x0_6, .int x0_7, .int x0_8, .int x0_9, .int x0_10, .int r23.1, .int x0_12, .int x0_13, .int x0_14, .int x0_15, .int x0_16, .ref o0_17, .ref o0_18, .ref o0_19, .ref o0_20, .ref o0_21, .ref o0_22, .ref o0_23])), (a1, .inl (G.2.1 0, n1, .inl r23.2))] H := hP
      have hD : va_D A [(a0, .inr (9, [.ref o0_0, .ref a1, .ref o0_2, .int x0_3, .int x0_4, .int x0_5, .int x0_6, .int x0_7, .int x0_8, .int x0_9, .int x0_10, .int r23.1, .int x0_12, .int x0_13, .int x0_14, .int x0_15, .int x0_16, .ref o0_17, .ref o0_18, .ref o0_19, .ref o0_20, .ref o0_21, .ref o0_22, .ref o0_23])), (a1, .inl (G.2.1 0, n1, .inl r23.2))] := hD
      refine lv_isub hx hb d_Mo_putPair_87 ?_
      refine lv_iload hx hb d_Mo_putPair_88 (lv_at hl 2 rfl) ?_
      obtain ⟨r25, hc25, h⟩ := Bd_e h
      refine xS_i0 (wr := [(a0, .inr (9, [.ref o0_0, .ref a1, .ref o0_2, .int x0_3, .int x0_4, .int x0_5, .int x0_6, .int x0_7, .int x0_8, .int x0_9, .int x0_10, .int r23.1, .int x0_12, .int x0_13, .int x0_14, .int x0_15, .int x0_16, .ref o0_17, .ref o0_18, .ref o0_19, .ref o0_20, .ref o0_21, .ref o0_22, .ref o0_23])), (a1, .inl (G.2.1 0, n1, .inl r23.2))]) (rest := [.int (p2 - r24), .ref a0]) C0 hK hT hA hP hD hS hl.1 (c_Mo_distanceBits l G  _  r22 N r25 hc25) (goodS q453 q454 q439 q455) 1 rfl hd_Mo_distanceBits (Nat.le_trans (by decide) hRf) (Nat.le_trans (by decide) hRl) [] [0, 1] rfl rfl (by decide) (by decide) (by decide) rfl (Nat.le_of_ble_eq_true rfl) d_Mo_putPair_90 hkc hks (fun w1 H locs hE hP hD hS => ?_)
      subst hE
      have hP : va_P G.1 classes [(a0, .inr (9, [.ref o0_0, .ref a1, .ref o0_2, .int x0_3, .int x0_4, .int x0_5, .int x0_6, .int x0_7, .int x0_8, .int x0_9, .int x0_10, .int r23.1, .int x0_12, .int x0_13, .int x0_14, .int x0_15, .int x0_16, .ref o0_17, .ref o0_18, .ref o0_19, .ref o0_20, .ref o0_21, .ref o0_22, .ref o0_23])), (a1, .inl (G.2.1 0, n1, .inl r23.2))] H := hP
      have hD : va_D A [(a0, .inr (9, [.ref o0_0, .ref a1, .ref o0_2, .int x0_3, .int x0_4, .int x0_5, .int x0_6, .int x0_7, .int x0_8, .int x0_9, .int x0_10, .int r23.1, .int x0_12, .int x0_13, .int x0_14, .int x0_15, .int x0_16, .ref o0_17, .ref o0_18, .ref o0_19, .ref o0_20, .ref o0_21, .ref o0_22, .ref o0_23])), (a1, .inl (G.2.1 0, n1, .inl r23.2))] := hD
      obtain ⟨r26, hc26, h⟩ := Bd_e h
      refine xV_v0 (wr := []) (rest := []) C0 hK hT hA hP hD hS hl.1 (c_Mo_putNumber l G a0 a1 o0_0 o0_2 o0_17 o0_18 o0_19 o0_20 o0_21 o0_22 o0_23 _ x0_3 x0_4 x0_5 x0_6 x0_7 x0_8 x0_9 x0_10 r23.1 x0_12 x0_13 x0_14 x0_15 x0_16 n1 r23.2 (p2 - r24) r25 N r26 hc26) (goodV q463 q464 q465 q439 q466) 2 rfl hd_Mo_putNumber (Nat.le_trans (by decide) hRf) (Nat.le_trans (by decide) hRl) [0, 1] [] rfl rfl (by decide) (by decide) (by decide) 9 0 rfl rfl rfl (Nat.le_of_ble_eq_true rfl) d_Mo_putPair_93 hkc hks (fun w1 H locs hE hP hD hS => ?_)
      subst hE
      have hP : va_P G.1 classes [(a0, .inr (9, [.ref o0_0, .ref a1, .ref o0_2, .int x0_3, .int x0_4, .int x0_5, .int x0_6, .int x0_7, .int x0_8, .int x0_9, .int x0_10, .int r26.1, .int x0_12, .int x0_13, .int x0_14, .int x0_15, .int x0_16, .ref o0_17, .ref o0_18, .ref o0_19, .ref o0_20, .ref o0_21, .ref o0_22, .ref o0_23])), (a1, .inl (G.2.1 0, n1, .inl r26.2))] H := hP
      have hD : va_D A [(a0, .inr (9, [.ref o0_0, .ref a1, .ref o0_2, .int x0_3, .int x0_4, .int x0_5, .int x0_6, .int x0_7, .int x0_8, .int x0_9, .int x0_10, .int r26.1, .int x0_12, .int x0_13, .int x0_14, .int x0_15, .int x0_16, .ref o0_17, .ref o0_18, .ref o0_19, .ref o0_20, .ref o0_21, .ref o0_22, .ref o0_23])), (a1, .inl (G.2.1 0, n1, .inl r26.2))] := hD
      have eV := so1 h
      subst eV
      exact x_vret C0 hQ hP hD hS rfl (Nat.zero_le _) (Nat.zero_le _) d_Mo_putPair_96
