set_option maxHeartbeats 4000000 in
set_option maxRecDepth 100000 in
theorem c_La_letter (l : Launch) (htr : l.stackTraces = false) (G : GX) (a0 a1 a2 a3 o0_0 o0_2 o0_3 o0_4 o0_5 : Nat) (sz : Nat) (x0_6 : Int32) (x0_7 : Int32) (x0_8 : Int32) (x1_1 : Int32) (n2 : Nat) (f2 : (Nat → Int32)) (n3 : Nat) (f3 : (Nat → Int64)) (p1 : Int32) (N : Nat) (V : Int32 × (Nat → Int64)) (K Z : Nat) (h : f_La_letter N x1_1 n2 f2 n3 f3 p1 = some (V, K, Z)) :
    Met l y_La_letter (Cond.codeWith y_La_letter b_La_letter 4 (some .int) [(0, 9, 12, 41)] :: lwG) { frames := 7, cells := K, slots := Z, locals := 106 } (PX G [.ref a0, .int p1, .ref a3] sz [(a0, .inr (0, [.ref o0_0, .ref a1, .ref o0_2, .ref o0_3, .ref o0_4, .ref o0_5, .int x0_6, .int x0_7, .int x0_8])), (a1, .inr (1, [.ref a2, .int x1_1])), (a2, .inl (G.2.1 0, n2, .inl f2)), (a3, .inl (G.2.1 2, n3, .inr (.inl f3)))])
      (QXi G V.1 (fun w => w = [(a0, .inr (0, [.ref o0_0, .ref a1, .ref o0_2, .ref o0_3, .ref o0_4, .ref o0_5, .int x0_6, .int x0_7, .int x0_8])), (a1, .inr (1, [.ref a2, .int x1_1])), (a2, .inl (G.2.1 0, n2, .inl f2)), (a3, .inl (G.2.1 2, n3, .inr (.inl V.2)))]) (va_A [(a0, .inr (0, [.ref o0_0, .ref a1, .ref o0_2, .ref o0_3, .ref o0_4, .ref o0_5, .int x0_6, .int x0_7, .int x0_8])), (a1, .inr (1, [.ref a2, .int x1_1])), (a2, .inl (G.2.1 0, n2, .inl f2)), (a3, .inl (G.2.1 2, n3, .inr (.inl f3)))] sz)) K Z (va_A [(a0, .inr (0, [.ref o0_0, .ref a1, .ref o0_2, .ref o0_3, .ref o0_4, .ref o0_5, .int x0_6, .int x0_7, .int x0_8])), (a1, .inr (1, [.ref a2, .int x1_1])), (a2, .inl (G.2.1 0, n2, .inl f2)), (a3, .inl (G.2.1 2, n3, .inr (.inl f3)))] sz) := by
  refine MetW_in (QQ := fun A => QXi G V.1 (fun w => w = [(a0, .inr (0, [.ref o0_0, .ref a1, .ref o0_2, .ref o0_3, .ref o0_4, .ref o0_5, .int x0_6, .int x0_7, .int x0_8])), (a1, .inr (1, [.ref a2, .int x1_1])), (a2, .inl (G.2.1 0, n2, .inl f2)), (a3, .inl (G.2.1 2, n3, .inr (.inl V.2)))]) A) (by decide) (Nat.le_of_ble_eq_true rfl) (fun p e s m below meth c R Q A ls C0 htab hRf hRl hRc hRs hP hK hD hT hA hS hl hQ => ?_)
  obtain ⟨hx, hb, hml, hown, hts, hr, hlocks, hin⟩ := id C0
  have hown : s.vm.findClass R_La = some m.cls := hown
  have hl : lv_has ls 4 [(0, .ref a0), (1, .int p1), (2, .ref a3)] := hl
  unfold f_La_letter at h
  have hKT : K ≤ R.cells := Nat.le_of_eq hRc.symm
  have hZT : Z ≤ R.slots := Nat.le_of_eq hRs.symm
  have ekc : 0 + K = K := by omega
  have ezc : 0 + Z = Z := by omega
  obtain ⟨H, hH⟩ : ∃ H, H = s.heap := ⟨_, rfl⟩
  obtain ⟨locs, hlc⟩ : ∃ x : List Loc, x = [] := ⟨_, rfl⟩
  rw [← hH] at hP
  have hS : va_S A s.heap H locs := by rw [hH, hlc]; exact hS
  suffices hgo : W p l e R s m [.ref a0, .int p1, .ref a3].toArray below meth c H locs 0 0 Q (F0 m 0 ls []) by rw [hH, hlc] at hgo; exact hgo
  refine lv_aload_n hx hb d_La_letter_0 rfl (lv_at hl 2 rfl) ?_
  refine lv_iconst (v := 0) hx hb d_La_letter_1 (by decide) ?_
  refine lv_aload_n hx hb d_La_letter_2 rfl (lv_at hl 0 rfl) ?_
  refine lv_iload_n hx hb d_La_letter_3 rfl (lv_at hl 1 rfl) ?_
  obtain ⟨r1, k1, z1, kk1, zz1, hc1, h, ek1, ez1⟩ := Bk_e h
  have ekc : 0 + k1 + kk1 = K := by omega
  have ezc : 0 + z1 + zz1 = Z := by omega
  by_cases cq2 : r1.1 = 0
  · replace h := (if_pos cq2).symm.trans h
    refine xV_i (wr := [(a3, .inl (G.2.1 2, n3, .inr (.inl f3)))]) (rest := [.int 0, .ref a3]) C0 hK hT hA hP hD hS hl.1 (MetT_i (c_TP_letter l htr G a0 a1 a2 o0_0 o0_2 o0_3 o0_4 o0_5 _ x0_6 x0_7 x0_8 x1_1 n2 f2 p1 N r1 k1 z1 hc1) cq2) (goodV q599 q600 q601 q571 q602) 1 rfl hd_TP_letter (Nat.le_trans (by decide) hRf) (Nat.le_trans (by decide) hRl) [0, 1, 2] [3] rfl rfl (by decide) (by decide) (by decide) 0 0 rfl rfl rfl (Nat.le_of_ble_eq_true rfl) d_La_letter_4 (by omega) (by omega) (fun w1 H locs hE hP hD hS => ?_)
    subst hE
    have hP : va_P G.1 classes [(a3, .inl (G.2.1 2, n3, .inr (.inl f3))), (a0, .inr (0, [.ref o0_0, .ref a1, .ref o0_2, .ref o0_3, .ref o0_4, .ref o0_5, .int x0_6, .int x0_7, .int x0_8])), (a1, .inr (1, [.ref a2, .int x1_1])), (a2, .inl (G.2.1 0, n2, .inl f2))] H := hP
    have hD : va_D A [(a3, .inl (G.2.1 2, n3, .inr (.inl f3))), (a0, .inr (0, [.ref o0_0, .ref a1, .ref o0_2, .ref o0_3, .ref o0_4, .ref o0_5, .int x0_6, .int x0_7, .int x0_8])), (a1, .inr (1, [.ref a2, .int x1_1])), (a2, .inl (G.2.1 0, n2, .inl f2))] := hD
    refine lv_i2l (v := r1.2.toInt64) hx hb d_La_letter_7 rfl ?_
    obtain ⟨hi3, h⟩ := Ix_e h
    refine y_last hx hb hK hP hD hS 0 2 rfl rfl hi3 d_La_letter_8 (fun g4 H locs eg4 hP hD hS => ?_)
    replace h := Lt_e h eg4
    have hP : va_P G.1 classes [(a3, .inl (G.2.1 2, n3, .inr (.inl g4))), (a0, .inr (0, [.ref o0_0, .ref a1, .ref o0_2, .ref o0_3, .ref o0_4, .ref o0_5, .int x0_6, .int x0_7, .int x0_8])), (a1, .inr (1, [.ref a2, .int x1_1])), (a2, .inl (G.2.1 0, n2, .inl f2))] H := hP
    have hD : va_D A [(a3, .inl (G.2.1 2, n3, .inr (.inl g4))), (a0, .inr (0, [.ref o0_0, .ref a1, .ref o0_2, .ref o0_3, .ref o0_4, .ref o0_5, .int x0_6, .int x0_7, .int x0_8])), (a1, .inr (1, [.ref a2, .int x1_1])), (a2, .inl (G.2.1 0, n2, .inl f2))] := hD
    refine lv_goto (tgt := 15) hx hb d_La_letter_9 (by decide) ?_
    refine lv_iconst (v := 0) hx hb d_La_letter_15 (by decide) ?_
    obtain ⟨eV, ek, ez⟩ := so3 h
    subst eV
    exact x_iret C0 hQ (hP.sub (ws' := [(a0, .inr (0, [.ref o0_0, .ref a1, .ref o0_2, .ref o0_3, .ref o0_4, .ref o0_5, .int x0_6, .int x0_7, .int x0_8])), (a1, .inr (1, [.ref a2, .int x1_1])), (a2, .inl (G.2.1 0, n2, .inl f2)), (a3, .inl (G.2.1 2, n3, .inr (.inl g4)))]) [1, 2, 3, 0] rfl) (hD.sub (ws' := [(a0, .inr (0, [.ref o0_0, .ref a1, .ref o0_2, .ref o0_3, .ref o0_4, .ref o0_5, .int x0_6, .int x0_7, .int x0_8])), (a1, .inr (1, [.ref a2, .int x1_1])), (a2, .inl (G.2.1 0, n2, .inl f2)), (a3, .inl (G.2.1 2, n3, .inr (.inl g4)))]) [1, 2, 3, 0] (by decide) rfl) hS rfl (by omega) (by omega) d_La_letter_16
  · replace h := (if_neg cq2).symm.trans h
    refine z_callT (wr := [(a3, .inl (G.2.1 2, n3, .inr (.inl f3)))]) (rest := [.int 0, .ref a3]) C0 htab hK hT hA hP hD hS hl.1 (c_TP_letter l htr G a0 a1 a2 o0_0 o0_2 o0_3 o0_4 o0_5 _ x0_6 x0_7 x0_8 x1_1 n2 f2 p1 N r1 k1 z1 hc1) cq2 (goodV q599 q600 q601 q571 q602) 1 rfl hd_TP_letter (Nat.le_trans (by decide) hRf) (Nat.le_trans (by decide) hRl) [0, 1, 2] [3] rfl rfl (by decide) (by decide) (by decide) 0 0 rfl rfl rfl (Nat.le_of_ble_eq_true rfl) d_La_letter_4 (by omega) (by omega) (by decide) (by decide) q603 q604 (fun nq5 w1 H locs hE hP hD hS => ?_)
    subst hE
    have hP : va_P G.1 classes [(a3, .inl (G.2.1 2, n3, .inr (.inl f3))), (a0, .inr (0, [.ref o0_0, .ref a1, .ref o0_2, .ref o0_3, .ref o0_4, .ref o0_5, .int x0_6, .int x0_7, .int x0_8])), (a1, .inr (1, [.ref a2, .int x1_1])), (a2, .inl (G.2.1 0, n2, .inl f2))] H := hP
    have hD : va_D A [(a3, .inl (G.2.1 2, n3, .inr (.inl f3))), (a0, .inr (0, [.ref o0_0, .ref a1, .ref o0_2, .ref o0_3, .ref o0_4, .ref o0_5, .int x0_6, .int x0_7, .int x0_8])), (a1, .inr (1, [.ref a2, .int x1_1])), (a2, .inl (G.2.1 0, n2, .inl f2))] := hD
    refine lv_astore_n (lv' := [(3, .ref nq5), (0, .ref a0), (1, .int p1), (2, .ref a3)]) hx hb d_La_letter_12 rfl hl (by decide) rfl (fun ls hl => ?_)
    refine lv_iconst (v := 1) hx hb d_La_letter_13 (by decide) ?_
    obtain ⟨eV, ek, ez⟩ := so3 h
    subst eV
    exact x_iret C0 hQ (hP.sub (ws' := [(a0, .inr (0, [.ref o0_0, .ref a1, .ref o0_2, .ref o0_3, .ref o0_4, .ref o0_5, .int x0_6, .int x0_7, .int x0_8])), (a1, .inr (1, [.ref a2, .int x1_1])), (a2, .inl (G.2.1 0, n2, .inl f2)), (a3, .inl (G.2.1 2, n3, .inr (.inl f3)))]) [1, 2, 3, 0] rfl) (hD.sub (ws' := [(a0, .inr (0, [.ref o0_0, .ref a1, .ref o0_2, .ref o0_3, .ref o0_4, .ref o0_5, .int x0_6, .int x0_7, .int x0_8])), (a1, .inr (1, [.ref a2, .int x1_1])), (a2, .inl (G.2.1 0, n2, .inl f2)), (a3, .inl (G.2.1 2, n3, .inr (.inl f3)))]) [1, 2, 3, 0] (by decide) rfl) hS rfl (by omega) (by omega) d_La_letter_14
