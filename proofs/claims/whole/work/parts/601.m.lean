set_option maxHeartbeats 4000000 in
set_option maxRecDepth 100000 in
theorem c_TP_init (l : Launch) (G : GX) (a0 : Nat) (sz : Nat)   (N : Nat) (V : (Nat → Int32) × (Nat → Int32) × (Nat → Int32) × Nat × (Nat → Int32) × (Nat → Int32) × (Nat → Int32) × Nat × (Nat → Int32) × Nat × Nat × Nat) (K Z : Nat) (h : f_TP_init N  = some (V, K, Z)) :
    Met l y_TP_init (wd y_TP_init b_TP_init 1 none) { frames := 4, cells := K, slots := Z, locals := 80 } (PX G [.ref a0] sz [(a0, .inr (0, [.null, .null, .null, .null, .null, .null, .int 0, .int 0, .int 0]))])
      (QXv G (fun w => ∃ e0 e1 e2 e3 e4 e5 e6 e7 e8 e9 e10 e11 e12 e13 e14 e15 e16 e17 e18 e19 e20 e21 e22 e23 e24 e25 e26 e27 e28 e29 e30 e31 e32 e33 e34 e35 e36 e37 e38 e39 : Nat, w = [(a0, .inr (0, [.ref e0, .ref e1, .ref e2, .ref e3, .ref e4, .ref e5, .int 0, .int 0, .int 0])), (e0, .inr (1, [.ref e6, .int 0])), (e6, .inl (G.2.1 0, 64, .inl ((fun _ => 0)))), (e1, .inr (1, [.ref e7, .int 0])), (e7, .inl (G.2.1 0, 64, .inl ((fun _ => 0)))), (e2, .inr (1, [.ref e8, .int 0])), (e8, .inl (G.2.1 0, 64, .inl ((fun _ => 0)))), (e3, .inr (2, [.ref e9, .ref e10])), (e9, .inl (G.2.1 1, 80, .inl ((fun _ => 0)))), (e10, .inl (G.2.1 1, 5, .inl ((fun _ => 0)))), (e4, .inr (5, [.ref e11, .ref e12, .int 0, .int 0])), (e11, .inr (3, [.ref e13, .int 0, .int 0])), (e13, .inr (1, [.ref e14, .int 0])), (e14, .inl (G.2.1 0, 64, .inl ((fun _ => 0)))), (e12, .inr (4, [.ref e15, .ref e16, .int 0, .int 0])), (e15, .inl (G.2.1 1, 4096, .inl ((fun _ => 0)))), (e16, .inl (G.2.1 1, 64, .inl ((fun _ => 0)))), (e5, .inr (8, [.ref e17, .ref e18, .ref e19, .ref e20, .ref e21, .ref e22, .ref e23, .int 0, .int 0])), (e17, .inr (6, [.ref e24, .int 0, .int 0, .int 0])), (e24, .inl (G.2.1 0, 0, .inl ((fun _ => 0)))), (e18, .inl (G.2.1 1, 316, .inl V.1)), (e19, .inr (7, [.ref e25, .ref e26, .ref e27])), (e25, .inl (G.2.1 1, 16, .inl V.2.1)), (e26, .inl (G.2.1 1, 16, .inl V.2.2.1)), (e27, .inl (G.2.1 1, V.2.2.2.1, .inl V.2.2.2.2.1)), (e20, .inr (7, [.ref e28, .ref e29, .ref e30])), (e28, .inl (G.2.1 1, 16, .inl V.2.2.2.2.2.1)), (e29, .inl (G.2.1 1, 16, .inl V.2.2.2.2.2.2.1)), (e30, .inl (G.2.1 1, V.2.2.2.2.2.2.2.1, .inl V.2.2.2.2.2.2.2.2.1)), (e21, .inr (7, [.ref e31, .ref e32, .ref e33])), (e31, .inl (G.2.1 1, 16, .inl ((fun _ => 0)))), (e32, .inl (G.2.1 1, 16, .inl ((fun _ => 0)))), (e33, .inl (G.2.1 1, V.2.2.2.2.2.2.2.2.2.1, .inl ((fun _ => 0)))), (e22, .inr (7, [.ref e34, .ref e35, .ref e36])), (e34, .inl (G.2.1 1, 16, .inl ((fun _ => 0)))), (e35, .inl (G.2.1 1, 16, .inl ((fun _ => 0)))), (e36, .inl (G.2.1 1, V.2.2.2.2.2.2.2.2.2.2.1, .inl ((fun _ => 0)))), (e23, .inr (7, [.ref e37, .ref e38, .ref e39])), (e37, .inl (G.2.1 1, 16, .inl ((fun _ => 0)))), (e38, .inl (G.2.1 1, 16, .inl ((fun _ => 0)))), (e39, .inl (G.2.1 1, V.2.2.2.2.2.2.2.2.2.2.2, .inl ((fun _ => 0))))]) (va_A [(a0, .inr (0, [.null, .null, .null, .null, .null, .null, .int 0, .int 0, .int 0]))] sz)) K Z (va_A [(a0, .inr (0, [.null, .null, .null, .null, .null, .null, .int 0, .int 0, .int 0]))] sz) := by
  refine Met_in (QQ := fun A => QXv G (fun w => ∃ e0 e1 e2 e3 e4 e5 e6 e7 e8 e9 e10 e11 e12 e13 e14 e15 e16 e17 e18 e19 e20 e21 e22 e23 e24 e25 e26 e27 e28 e29 e30 e31 e32 e33 e34 e35 e36 e37 e38 e39 : Nat, w = [(a0, .inr (0, [.ref e0, .ref e1, .ref e2, .ref e3, .ref e4, .ref e5, .int 0, .int 0, .int 0])), (e0, .inr (1, [.ref e6, .int 0])), (e6, .inl (G.2.1 0, 64, .inl ((fun _ => 0)))), (e1, .inr (1, [.ref e7, .int 0])), (e7, .inl (G.2.1 0, 64, .inl ((fun _ => 0)))), (e2, .inr (1, [.ref e8, .int 0])), (e8, .inl (G.2.1 0, 64, .inl ((fun _ => 0)))), (e3, .inr (2, [.ref e9, .ref e10])), (e9, .inl (G.2.1 1, 80, .inl ((fun _ => 0)))), (e10, .inl (G.2.1 1, 5, .inl ((fun _ => 0)))), (e4, .inr (5, [.ref e11, .ref e12, .int 0, .int 0])), (e11, .inr (3, [.ref e13, .int 0, .int 0])), (e13, .inr (1, [.ref e14, .int 0])), (e14, .inl (G.2.1 0, 64, .inl ((fun _ => 0)))), (e12, .inr (4, [.ref e15, .ref e16, .int 0, .int 0])), (e15, .inl (G.2.1 1, 4096, .inl ((fun _ => 0)))), (e16, .inl (G.2.1 1, 64, .inl ((fun _ => 0)))), (e5, .inr (8, [.ref e17, .ref e18, .ref e19, .ref e20, .ref e21, .ref e22, .ref e23, .int 0, .int 0])), (e17, .inr (6, [.ref e24, .int 0, .int 0, .int 0])), (e24, .inl (G.2.1 0, 0, .inl ((fun _ => 0)))), (e18, .inl (G.2.1 1, 316, .inl V.1)), (e19, .inr (7, [.ref e25, .ref e26, .ref e27])), (e25, .inl (G.2.1 1, 16, .inl V.2.1)), (e26, .inl (G.2.1 1, 16, .inl V.2.2.1)), (e27, .inl (G.2.1 1, V.2.2.2.1, .inl V.2.2.2.2.1)), (e20, .inr (7, [.ref e28, .ref e29, .ref e30])), (e28, .inl (G.2.1 1, 16, .inl V.2.2.2.2.2.1)), (e29, .inl (G.2.1 1, 16, .inl V.2.2.2.2.2.2.1)), (e30, .inl (G.2.1 1, V.2.2.2.2.2.2.2.1, .inl V.2.2.2.2.2.2.2.2.1)), (e21, .inr (7, [.ref e31, .ref e32, .ref e33])), (e31, .inl (G.2.1 1, 16, .inl ((fun _ => 0)))), (e32, .inl (G.2.1 1, 16, .inl ((fun _ => 0)))), (e33, .inl (G.2.1 1, V.2.2.2.2.2.2.2.2.2.1, .inl ((fun _ => 0)))), (e22, .inr (7, [.ref e34, .ref e35, .ref e36])), (e34, .inl (G.2.1 1, 16, .inl ((fun _ => 0)))), (e35, .inl (G.2.1 1, 16, .inl ((fun _ => 0)))), (e36, .inl (G.2.1 1, V.2.2.2.2.2.2.2.2.2.2.1, .inl ((fun _ => 0)))), (e23, .inr (7, [.ref e37, .ref e38, .ref e39])), (e37, .inl (G.2.1 1, 16, .inl ((fun _ => 0)))), (e38, .inl (G.2.1 1, 16, .inl ((fun _ => 0)))), (e39, .inl (G.2.1 1, V.2.2.2.2.2.2.2.2.2.2.2, .inl ((fun _ => 0))))]) A) (by decide) (Nat.le_of_ble_eq_true rfl) (fun p e s m below meth c R Q A ls C0 hRf hRl hRc hRs hP hK hD hT hA hS hl hQ => ?_)
  obtain ⟨hx, hb, hml, hown, hts, hr, hlocks, hin⟩ := id C0
  have hown : s.vm.findClass R_TP = some m.cls := hown
  have hl : lv_has ls 1 [(0, .ref a0)] := hl
  unfold f_TP_init at h
  have hKT : K ≤ R.cells := Nat.le_of_eq hRc.symm
  have hZT : Z ≤ R.slots := Nat.le_of_eq hRs.symm
  have ekc : 0 + K = K := by omega
  have ezc : 0 + Z = Z := by omega
  obtain ⟨H, hH⟩ : ∃ H, H = s.heap := ⟨_, rfl⟩
  obtain ⟨locs, hlc⟩ : ∃ x : List Loc, x = [] := ⟨_, rfl⟩
  rw [← hH] at hP
  have hS : va_S A s.heap H locs := by rw [hH, hlc]; exact hS
  suffices hgo : W p l e R s m [.ref a0].toArray below meth c H locs 0 0 Q (F0 m 0 ls []) by rw [hH, hlc] at hgo; exact hgo
  refine lv_aload_n hx hb d_TP_init_0 rfl (lv_at hl 0 rfl) ?_
  refine W.objInit hx hb hown (hts _ q0) (hts _ q1) (hts _ q2) rfl (by rw [hml]; exact hl.1) rfl d_TP_init_1 (Nat.le_trans (by decide) hRf) (Nat.le_trans (Nat.le_of_ble_eq_true rfl) hRl) ?_
  refine W.eq (g2 := F0 m 4 ls []) rfl ?_
  refine lv_aload_n hx hb d_TP_init_4 rfl (lv_at hl 0 rfl) ?_
  obtain ⟨k2, z2, h, ek2, ez2⟩ := Ak_e h
  have ekc : 0 + 1 + k2 = K := by omega
  have ezc : 0 + 2 + z2 = Z := by omega
  refine va_new (ci := 1) (fs := [.null, .int 0]) (C := R_Row) (T := F_Row) (N := 2) hx hb hts i_Row t_Row t_Row_ok hown (hts _ q3) (hts _ q4) (hts _ q5) hK hP hD hS hA rfl df_Row (by omega) (by omega) d_TP_init_5 (fun nq1 H hP hD hS => ?_)
  have hP : va_P G.1 classes [(a0, .inr (0, [.null, .null, .null, .null, .null, .null, .int 0, .int 0, .int 0])), (nq1, .inr (1, [.null, .int 0]))] H := hP
  have hD : va_D A [(a0, .inr (0, [.null, .null, .null, .null, .null, .null, .int 0, .int 0, .int 0])), (nq1, .inr (1, [.null, .int 0]))] := hD
  refine lv_dup hx hb d_TP_init_8 rfl ?_
  obtain ⟨r3, k3, z3, kk3, zz3, hc3, h, ek3, ez3⟩ := Bk_e h
  have ekc : 0 + 1 + k3 + kk3 = K := by omega
  have ezc : 0 + 2 + z3 + zz3 = Z := by omega
  refine xI_v (wr := [(a0, .inr (0, [.null, .null, .null, .null, .null, .null, .int 0, .int 0, .int 0]))]) (rest := [.ref nq1, .ref a0]) C0 hK hT hA hP hD hS hl.1 (c_Row_init l G nq1 _   N r3 k3 z3 hc3) (goodI q10 q11 q5 q12) 0 rfl hd_Row_init rfl (Nat.le_trans (by decide) hRf) (Nat.le_trans (by decide) hRl) [1] [0] rfl rfl (by decide) (by decide) (by decide) rfl (Nat.le_of_ble_eq_true rfl) d_TP_init_9 (by omega) (by omega) (fun w1 H locs hE hP hD hS => ?_)
  obtain ⟨b4, rfl⟩ := hE
  have hP : va_P G.1 classes [(a0, .inr (0, [.null, .null, .null, .null, .null, .null, .int 0, .int 0, .int 0])), (nq1, .inr (1, [.ref b4, .int 0])), (b4, .inl (G.2.1 0, 64, .inl ((fun _ => 0))))] H := hP
  have hD : va_D A [(a0, .inr (0, [.null, .null, .null, .null, .null, .null, .int 0, .int 0, .int 0])), (nq1, .inr (1, [.ref b4, .int 0])), (b4, .inl (G.2.1 0, 64, .inl ((fun _ => 0))))] := hD
  refine va_putF (D := G.1) (ci := 0) (v := .ref nq1) (ty := .object "TextPress$Row") (C := R_TP) (T := F_TP) (N := 9) hx hb hts i_TP t_TP t_TP_ok n_TP hown hK hP hD hS 0 rfl rfl 0 (by decide) (hts _ q13) (fun _ h9 => h9) rfl (hin rfl) rfl (by decide +kernel) rfl rfl (Nat.le_of_ble_eq_true rfl) d_TP_init_12 (fun H locs hP hD hS => ?_)
  have hP : va_P G.1 classes [(a0, .inr (0, [.ref nq1, .null, .null, .null, .null, .null, .int 0, .int 0, .int 0])), (nq1, .inr (1, [.ref b4, .int 0])), (b4, .inl (G.2.1 0, 64, .inl ((fun _ => 0))))] H := hP
  have hD : va_D A [(a0, .inr (0, [.ref nq1, .null, .null, .null, .null, .null, .int 0, .int 0, .int 0])), (nq1, .inr (1, [.ref b4, .int 0])), (b4, .inl (G.2.1 0, 64, .inl ((fun _ => 0))))] := hD
  refine lv_aload_n hx hb d_TP_init_15 rfl (lv_at hl 0 rfl) ?_
  obtain ⟨k6, z6, h, ek6, ez6⟩ := Ak_e h
  have ekc : 0 + 1 + k3 + 1 + k6 = K := by omega
  have ezc : 0 + 2 + z3 + 2 + z6 = Z := by omega
  refine va_new (ci := 1) (fs := [.null, .int 0]) (C := R_Row) (T := F_Row) (N := 2) hx hb hts i_Row t_Row t_Row_ok hown (hts _ q3) (hts _ q4) (hts _ q5) hK hP hD hS hA rfl df_Row (by omega) (by omega) d_TP_init_16 (fun nq5 H hP hD hS => ?_)
  have hP : va_P G.1 classes [(a0, .inr (0, [.ref nq1, .null, .null, .null, .null, .null, .int 0, .int 0, .int 0])), (nq1, .inr (1, [.ref b4, .int 0])), (b4, .inl (G.2.1 0, 64, .inl ((fun _ => 0)))), (nq5, .inr (1, [.null, .int 0]))] H := hP
  have hD : va_D A [(a0, .inr (0, [.ref nq1, .null, .null, .null, .null, .null, .int 0, .int 0, .int 0])), (nq1, .inr (1, [.ref b4, .int 0])), (b4, .inl (G.2.1 0, 64, .inl ((fun _ => 0)))), (nq5, .inr (1, [.null, .int 0]))] := hD
  refine lv_dup hx hb d_TP_init_19 rfl ?_
  obtain ⟨r7, k7, z7, kk7, zz7, hc7, h, ek7, ez7⟩ := Bk_e h
  have ekc : 0 + 1 + k3 + 1 + k7 + kk7 = K := by omega
  have ezc : 0 + 2 + z3 + 2 + z7 + zz7 = Z := by omega
  refine xI_v (wr := [(a0, .inr (0, [.ref nq1, .null, .null, .null, .null, .null, .int 0, .int 0, .int 0])), (nq1, .inr (1, [.ref b4, .int 0])), (b4, .inl (G.2.1 0, 64, .inl ((fun _ => 0))))]) (rest := [.ref nq5, .ref a0]) C0 hK hT hA hP hD hS hl.1 (c_Row_init l G nq5 _   N r7 k7 z7 hc7) (goodI q10 q11 q5 q12) 0 rfl hd_Row_init rfl (Nat.le_trans (by decide) hRf) (Nat.le_trans (by decide) hRl) [3] [0, 1, 2] rfl rfl (by decide) (by decide) (by decide) rfl (Nat.le_of_ble_eq_true rfl) d_TP_init_20 (by omega) (by omega) (fun w1 H locs hE hP hD hS => ?_)
  obtain ⟨b8, rfl⟩ := hE
  have hP : va_P G.1 classes [(a0, .inr (0, [.ref nq1, .null, .null, .null, .null, .null, .int 0, .int 0, .int 0])), (nq1, .inr (1, [.ref b4, .int 0])), (b4, .inl (G.2.1 0, 64, .inl ((fun _ => 0)))), (nq5, .inr (1, [.ref b8, .int 0])), (b8, .inl (G.2.1 0, 64, .inl ((fun _ => 0))))] H := hP
  have hD : va_D A [(a0, .inr (0, [.ref nq1, .null, .null, .null, .null, .null, .int 0, .int 0, .int 0])), (nq1, .inr (1, [.ref b4, .int 0])), (b4, .inl (G.2.1 0, 64, .inl ((fun _ => 0)))), (nq5, .inr (1, [.ref b8, .int 0])), (b8, .inl (G.2.1 0, 64, .inl ((fun _ => 0))))] := hD
  refine va_put (D := G.1) (ci := 0) (v := .ref nq5) (ty := .object "TextPress$Row") (C := R_TP) (T := F_TP) (N := 9) hx hb hts i_TP t_TP t_TP_ok n_TP hown hK hP hD hS 0 rfl rfl 1 (by decide) (hts _ q14) (fun _ h9 => h9) rfl (by decide +kernel) rfl rfl (Nat.le_of_ble_eq_true rfl) d_TP_init_23 (fun H locs hP hD hS => ?_)
  have hP : va_P G.1 classes [(a0, .inr (0, [.ref nq1, .ref nq5, .null, .null, .null, .null, .int 0, .int 0, .int 0])), (nq1, .inr (1, [.ref b4, .int 0])), (b4, .inl (G.2.1 0, 64, .inl ((fun _ => 0)))), (nq5, .inr (1, [.ref b8, .int 0])), (b8, .inl (G.2.1 0, 64, .inl ((fun _ => 0))))] H := hP
  have hD : va_D A [(a0, .inr (0, [.ref nq1, .ref nq5, .null, .null, .null, .null, .int 0, .int 0, .int 0])), (nq1, .inr (1, [.ref b4, .int 0])), (b4, .inl (G.2.1 0, 64, .inl ((fun _ => 0)))), (nq5, .inr (1, [.ref b8, .int 0])), (b8, .inl (G.2.1 0, 64, .inl ((fun _ => 0))))] := hD
  refine lv_aload_n hx hb d_TP_init_26 rfl (lv_at hl 0 rfl) ?_
  obtain ⟨k10, z10, h, ek10, ez10⟩ := Ak_e h
  have ekc : 0 + 1 + k3 + 1 + k7 + 1 + k10 = K := by omega
  have ezc : 0 + 2 + z3 + 2 + z7 + 2 + z10 = Z := by omega
  refine va_new (ci := 1) (fs := [.null, .int 0]) (C := R_Row) (T := F_Row) (N := 2) hx hb hts i_Row t_Row t_Row_ok hown (hts _ q3) (hts _ q4) (hts _ q5) hK hP hD hS hA rfl df_Row (by omega) (by omega) d_TP_init_27 (fun nq9 H hP hD hS => ?_)
  have hP : va_P G.1 classes [(a0, .inr (0, [.ref nq1, .ref nq5, .null, .null, .null, .null, .int 0, .int 0, .int 0])), (nq1, .inr (1, [.ref b4, .int 0])), (b4, .inl (G.2.1 0, 64, .inl ((fun _ => 0)))), (nq5, .inr (1, [.ref b8, .int 0])), (b8, .inl (G.2.1 0, 64, .inl ((fun _ => 0)))), (nq9, .inr (1, [.null, .int 0]))] H := hP
  have hD : va_D A [(a0, .inr (0, [.ref nq1, .ref nq5, .null, .null, .null, .null, .int 0, .int 0, .int 0])), (nq1, .inr (1, [.ref b4, .int 0])), (b4, .inl (G.2.1 0, 64, .inl ((fun _ => 0)))), (nq5, .inr (1, [.ref b8, .int 0])), (b8, .inl (G.2.1 0, 64, .inl ((fun _ => 0)))), (nq9, .inr (1, [.null, .int 0]))] := hD
  refine lv_dup hx hb d_TP_init_30 rfl ?_
  obtain ⟨r11, k11, z11, kk11, zz11, hc11, h, ek11, ez11⟩ := Bk_e h
  have ekc : 0 + 1 + k3 + 1 + k7 + 1 + k11 + kk11 = K := by omega
  have ezc : 0 + 2 + z3 + 2 + z7 + 2 + z11 + zz11 = Z := by omega
  refine xI_v (wr := [(a0, .inr (0, [.ref nq1, .ref nq5, .null, .null, .null, .null, .int 0, .int 0, .int 0])), (nq1, .inr (1, [.ref b4, .int 0])), (b4, .inl (G.2.1 0, 64, .inl ((fun _ => 0)))), (nq5, .inr (1, [.ref b8, .int 0])), (b8, .inl (G.2.1 0, 64, .inl ((fun _ => 0))))]) (rest := [.ref nq9, .ref a0]) C0 hK hT hA hP hD hS hl.1 (c_Row_init l G nq9 _   N r11 k11 z11 hc11) (goodI q10 q11 q5 q12) 0 rfl hd_Row_init rfl (Nat.le_trans (by decide) hRf) (Nat.le_trans (by decide) hRl) [5] [0, 1, 2, 3, 4] rfl rfl (by decide) (by decide) (by decide) rfl (Nat.le_of_ble_eq_true rfl) d_TP_init_31 (by omega) (by omega) (fun w1 H locs hE hP hD hS => ?_)
  obtain ⟨b12, rfl⟩ := hE
  have hP : va_P G.1 classes [(a0, .inr (0, [.ref nq1, .ref nq5, .null, .null, .null, .null, .int 0, .int 0, .int 0])), (nq1, .inr (1, [.ref b4, .int 0])), (b4, .inl (G.2.1 0, 64, .inl ((fun _ => 0)))), (nq5, .inr (1, [.ref b8, .int 0])), (b8, .inl (G.2.1 0, 64, .inl ((fun _ => 0)))), (nq9, .inr (1, [.ref b12, .int 0])), (b12, .inl (G.2.1 0, 64, .inl ((fun _ => 0))))] H := hP
  have hD : va_D A [(a0, .inr (0, [.ref nq1, .ref nq5, .null, .null, .null, .null, .int 0, .int 0, .int 0])), (nq1, .inr (1, [.ref b4, .int 0])), (b4, .inl (G.2.1 0, 64, .inl ((fun _ => 0)))), (nq5, .inr (1, [.ref b8, .int 0])), (b8, .inl (G.2.1 0, 64, .inl ((fun _ => 0)))), (nq9, .inr (1, [.ref b12, .int 0])), (b12, .inl (G.2.1 0, 64, .inl ((fun _ => 0))))] := hD
  refine va_put (D := G.1) (ci := 0) (v := .ref nq9) (ty := .object "TextPress$Row") (C := R_TP) (T := F_TP) (N := 9) hx hb hts i_TP t_TP t_TP_ok n_TP hown hK hP hD hS 0 rfl rfl 2 (by decide) (hts _ q15) (fun _ h9 => h9) rfl (by decide +kernel) rfl rfl (Nat.le_of_ble_eq_true rfl) d_TP_init_34 (fun H locs hP hD hS => ?_)
  have hP : va_P G.1 classes [(a0, .inr (0, [.ref nq1, .ref nq5, .ref nq9, .null, .null, .null, .int 0, .int 0, .int 0])), (nq1, .inr (1, [.ref b4, .int 0])), (b4, .inl (G.2.1 0, 64, .inl ((fun _ => 0)))), (nq5, .inr (1, [.ref b8, .int 0])), (b8, .inl (G.2.1 0, 64, .inl ((fun _ => 0)))), (nq9, .inr (1, [.ref b12, .int 0])), (b12, .inl (G.2.1 0, 64, .inl ((fun _ => 0))))] H := hP
  have hD : va_D A [(a0, .inr (0, [.ref nq1, .ref nq5, .ref nq9, .null, .null, .null, .int 0, .int 0, .int 0])), (nq1, .inr (1, [.ref b4, .int 0])), (b4, .inl (G.2.1 0, 64, .inl ((fun _ => 0)))), (nq5, .inr (1, [.ref b8, .int 0])), (b8, .inl (G.2.1 0, 64, .inl ((fun _ => 0)))), (nq9, .inr (1, [.ref b12, .int 0])), (b12, .inl (G.2.1 0, 64, .inl ((fun _ => 0))))] := hD
  refine lv_aload_n hx hb d_TP_init_37 rfl (lv_at hl 0 rfl) ?_
  obtain ⟨k14, z14, h, ek14, ez14⟩ := Ak_e h
  have ekc : 0 + 1 + k3 + 1 + k7 + 1 + k11 + 1 + k14 = K := by omega
  have ezc : 0 + 2 + z3 + 2 + z7 + 2 + z11 + 2 + z14 = Z := by omega
  refine va_new (ci := 2) (fs := [.null, .null]) (C := R_Sha) (T := F_Sha) (N := 2) hx hb hts i_Sha t_Sha t_Sha_ok hown (hts _ q16) (hts _ q17) (hts _ q18) hK hP hD hS hA rfl df_Sha (by omega) (by omega) d_TP_init_38 (fun nq13 H hP hD hS => ?_)
  have hP : va_P G.1 classes [(a0, .inr (0, [.ref nq1, .ref nq5, .ref nq9, .null, .null, .null, .int 0, .int 0, .int 0])), (nq1, .inr (1, [.ref b4, .int 0])), (b4, .inl (G.2.1 0, 64, .inl ((fun _ => 0)))), (nq5, .inr (1, [.ref b8, .int 0])), (b8, .inl (G.2.1 0, 64, .inl ((fun _ => 0)))), (nq9, .inr (1, [.ref b12, .int 0])), (b12, .inl (G.2.1 0, 64, .inl ((fun _ => 0)))), (nq13, .inr (2, [.null, .null]))] H := hP
  have hD : va_D A [(a0, .inr (0, [.ref nq1, .ref nq5, .ref nq9, .null, .null, .null, .int 0, .int 0, .int 0])), (nq1, .inr (1, [.ref b4, .int 0])), (b4, .inl (G.2.1 0, 64, .inl ((fun _ => 0)))), (nq5, .inr (1, [.ref b8, .int 0])), (b8, .inl (G.2.1 0, 64, .inl ((fun _ => 0)))), (nq9, .inr (1, [.ref b12, .int 0])), (b12, .inl (G.2.1 0, 64, .inl ((fun _ => 0)))), (nq13, .inr (2, [.null, .null]))] := hD
  refine lv_dup hx hb d_TP_init_41 rfl ?_
  obtain ⟨r15, k15, z15, kk15, zz15, hc15, h, ek15, ez15⟩ := Bk_e h
  have ekc : 0 + 1 + k3 + 1 + k7 + 1 + k11 + 1 + k15 + kk15 = K := by omega
  have ezc : 0 + 2 + z3 + 2 + z7 + 2 + z11 + 2 + z15 + zz15 = Z := by omega
  refine xI_v (wr := [(a0, .inr (0, [.ref nq1, .ref nq5, .ref nq9, .null, .null, .null, .int 0, .int 0, .int 0])), (nq1, .inr (1, [.ref b4, .int 0])), (b4, .inl (G.2.1 0, 64, .inl ((fun _ => 0)))), (nq5, .inr (1, [.ref b8, .int 0])), (b8, .inl (G.2.1 0, 64, .inl ((fun _ => 0)))), (nq9, .inr (1, [.ref b12, .int 0])), (b12, .inl (G.2.1 0, 64, .inl ((fun _ => 0))))]) (rest := [.ref nq13, .ref a0]) C0 hK hT hA hP hD hS hl.1 (c_Sha_init l G nq13 _   N r15 k15 z15 hc15) (goodI q23 q24 q18 q25) 0 rfl hd_Sha_init rfl (Nat.le_trans (by decide) hRf) (Nat.le_trans (by decide) hRl) [7] [0, 1, 2, 3, 4, 5, 6] rfl rfl (by decide) (by decide) (by decide) rfl (Nat.le_of_ble_eq_true rfl) d_TP_init_42 (by omega) (by omega) (fun w1 H locs hE hP hD hS => ?_)
  obtain ⟨b16, b17, rfl⟩ := hE
  have hP : va_P G.1 classes [(a0, .inr (0, [.ref nq1, .ref nq5, .ref nq9, .null, .null, .null, .int 0, .int 0, .int 0])), (nq1, .inr (1, [.ref b4, .int 0])), (b4, .inl (G.2.1 0, 64, .inl ((fun _ => 0)))), (nq5, .inr (1, [.ref b8, .int 0])), (b8, .inl (G.2.1 0, 64, .inl ((fun _ => 0)))), (nq9, .inr (1, [.ref b12, .int 0])), (b12, .inl (G.2.1 0, 64, .inl ((fun _ => 0)))), (nq13, .inr (2, [.ref b16, .ref b17])), (b16, .inl (G.2.1 1, 80, .inl ((fun _ => 0)))), (b17, .inl (G.2.1 1, 5, .inl ((fun _ => 0))))] H := hP
  have hD : va_D A [(a0, .inr (0, [.ref nq1, .ref nq5, .ref nq9, .null, .null, .null, .int 0, .int 0, .int 0])), (nq1, .inr (1, [.ref b4, .int 0])), (b4, .inl (G.2.1 0, 64, .inl ((fun _ => 0)))), (nq5, .inr (1, [.ref b8, .int 0])), (b8, .inl (G.2.1 0, 64, .inl ((fun _ => 0)))), (nq9, .inr (1, [.ref b12, .int 0])), (b12, .inl (G.2.1 0, 64, .inl ((fun _ => 0)))), (nq13, .inr (2, [.ref b16, .ref b17])), (b16, .inl (G.2.1 1, 80, .inl ((fun _ => 0)))), (b17, .inl (G.2.1 1, 5, .inl ((fun _ => 0))))] := hD
  refine va_putF (D := G.1) (ci := 0) (v := .ref nq13) (ty := .object "TextPress$Sha1") (C := R_TP) (T := F_TP) (N := 9) hx hb hts i_TP t_TP t_TP_ok n_TP hown hK hP hD hS 0 rfl rfl 3 (by decide) (hts _ q26) (fun _ h9 => h9) rfl (hin rfl) rfl (by decide +kernel) rfl rfl (Nat.le_of_ble_eq_true rfl) d_TP_init_45 (fun H locs hP hD hS => ?_)
  have hP : va_P G.1 classes [(a0, .inr (0, [.ref nq1, .ref nq5, .ref nq9, .ref nq13, .null, .null, .int 0, .int 0, .int 0])), (nq1, .inr (1, [.ref b4, .int 0])), (b4, .inl (G.2.1 0, 64, .inl ((fun _ => 0)))), (nq5, .inr (1, [.ref b8, .int 0])), (b8, .inl (G.2.1 0, 64, .inl ((fun _ => 0)))), (nq9, .inr (1, [.ref b12, .int 0])), (b12, .inl (G.2.1 0, 64, .inl ((fun _ => 0)))), (nq13, .inr (2, [.ref b16, .ref b17])), (b16, .inl (G.2.1 1, 80, .inl ((fun _ => 0)))), (b17, .inl (G.2.1 1, 5, .inl ((fun _ => 0))))] H := hP
  have hD : va_D A [(a0, .inr (0, [.ref nq1, .ref nq5, .ref nq9, .ref nq13, .null, .null, .int 0, .int 0, .int 0])), (nq1, .inr (1, [.ref b4, .int 0])), (b4, .inl (G.2.1 0, 64, .inl ((fun _ => 0)))), (nq5, .inr (1, [.ref b8, .int 0])), (b8, .inl (G.2.1 0, 64, .inl ((fun _ => 0)))), (nq9, .inr (1, [.ref b12, .int 0])), (b12, .inl (G.2.1 0, 64, .inl ((fun _ => 0)))), (nq13, .inr (2, [.ref b16, .ref b17])), (b16, .inl (G.2.1 1, 80, .inl ((fun _ => 0)))), (b17, .inl (G.2.1 1, 5, .inl ((fun _ => 0))))] := hD
  refine lv_aload_n hx hb d_TP_init_48 rfl (lv_at hl 0 rfl) ?_
  obtain ⟨k19, z19, h, ek19, ez19⟩ := Ak_e h
  have ekc : 0 + 1 + k3 + 1 + k7 + 1 + k11 + 1 + k15 + 1 + k19 = K := by omega
  have ezc : 0 + 2 + z3 + 2 + z7 + 2 + z11 + 2 + z15 + 4 + z19 = Z := by omega
  refine va_new (ci := 5) (fs := [.null, .null, .int 0, .int 0]) (C := R_Pr) (T := F_Pr) (N := 4) hx hb hts i_Pr t_Pr t_Pr_ok hown (hts _ q27) (hts _ q28) (hts _ q29) hK hP hD hS hA rfl df_Pr (by omega) (by omega) d_TP_init_49 (fun nq18 H hP hD hS => ?_)
  have hP : va_P G.1 classes [(a0, .inr (0, [.ref nq1, .ref nq5, .ref nq9, .ref nq13, .null, .null, .int 0, .int 0, .int 0])), (nq1, .inr (1, [.ref b4, .int 0])), (b4, .inl (G.2.1 0, 64, .inl ((fun _ => 0)))), (nq5, .inr (1, [.ref b8, .int 0])), (b8, .inl (G.2.1 0, 64, .inl ((fun _ => 0)))), (nq9, .inr (1, [.ref b12, .int 0])), (b12, .inl (G.2.1 0, 64, .inl ((fun _ => 0)))), (nq13, .inr (2, [.ref b16, .ref b17])), (b16, .inl (G.2.1 1, 80, .inl ((fun _ => 0)))), (b17, .inl (G.2.1 1, 5, .inl ((fun _ => 0)))), (nq18, .inr (5, [.null, .null, .int 0, .int 0]))] H := hP
  have hD : va_D A [(a0, .inr (0, [.ref nq1, .ref nq5, .ref nq9, .ref nq13, .null, .null, .int 0, .int 0, .int 0])), (nq1, .inr (1, [.ref b4, .int 0])), (b4, .inl (G.2.1 0, 64, .inl ((fun _ => 0)))), (nq5, .inr (1, [.ref b8, .int 0])), (b8, .inl (G.2.1 0, 64, .inl ((fun _ => 0)))), (nq9, .inr (1, [.ref b12, .int 0])), (b12, .inl (G.2.1 0, 64, .inl ((fun _ => 0)))), (nq13, .inr (2, [.ref b16, .ref b17])), (b16, .inl (G.2.1 1, 80, .inl ((fun _ => 0)))), (b17, .inl (G.2.1 1, 5, .inl ((fun _ => 0)))), (nq18, .inr (5, [.null, .null, .int 0, .int 0]))] := hD
  refine lv_dup hx hb d_TP_init_52 rfl ?_
  obtain ⟨r20, k20, z20, kk20, zz20, hc20, h, ek20, ez20⟩ := Bk_e h
  have ekc : 0 + 1 + k3 + 1 + k7 + 1 + k11 + 1 + k15 + 1 + k20 + kk20 = K := by omega
  have ezc : 0 + 2 + z3 + 2 + z7 + 2 + z11 + 2 + z15 + 4 + z20 + zz20 = Z := by omega
  refine xI_v (wr := [(a0, .inr (0, [.ref nq1, .ref nq5, .ref nq9, .ref nq13, .null, .null, .int 0, .int 0, .int 0])), (nq1, .inr (1, [.ref b4, .int 0])), (b4, .inl (G.2.1 0, 64, .inl ((fun _ => 0)))), (nq5, .inr (1, [.ref b8, .int 0])), (b8, .inl (G.2.1 0, 64, .inl ((fun _ => 0)))), (nq9, .inr (1, [.ref b12, .int 0])), (b12, .inl (G.2.1 0, 64, .inl ((fun _ => 0)))), (nq13, .inr (2, [.ref b16, .ref b17])), (b16, .inl (G.2.1 1, 80, .inl ((fun _ => 0)))), (b17, .inl (G.2.1 1, 5, .inl ((fun _ => 0))))]) (rest := [.ref nq18, .ref a0]) C0 hK hT hA hP hD hS hl.1 (c_Pr_init l G nq18 _   N r20 k20 z20 hc20) (goodI q58 q59 q29 q60) 0 rfl hd_Pr_init rfl (Nat.le_trans (by decide) hRf) (Nat.le_trans (by decide) hRl) [10] [0, 1, 2, 3, 4, 5, 6, 7, 8, 9] rfl rfl (by decide) (by decide) (by decide) rfl (Nat.le_of_ble_eq_true rfl) d_TP_init_53 (by omega) (by omega) (fun w1 H locs hE hP hD hS => ?_)
  obtain ⟨b21, b22, b23, b24, b25, b26, rfl⟩ := hE
  have hP : va_P G.1 classes [(a0, .inr (0, [.ref nq1, .ref nq5, .ref nq9, .ref nq13, .null, .null, .int 0, .int 0, .int 0])), (nq1, .inr (1, [.ref b4, .int 0])), (b4, .inl (G.2.1 0, 64, .inl ((fun _ => 0)))), (nq5, .inr (1, [.ref b8, .int 0])), (b8, .inl (G.2.1 0, 64, .inl ((fun _ => 0)))), (nq9, .inr (1, [.ref b12, .int 0])), (b12, .inl (G.2.1 0, 64, .inl ((fun _ => 0)))), (nq13, .inr (2, [.ref b16, .ref b17])), (b16, .inl (G.2.1 1, 80, .inl ((fun _ => 0)))), (b17, .inl (G.2.1 1, 5, .inl ((fun _ => 0)))), (nq18, .inr (5, [.ref b21, .ref b22, .int 0, .int 0])), (b21, .inr (3, [.ref b23, .int 0, .int 0])), (b23, .inr (1, [.ref b24, .int 0])), (b24, .inl (G.2.1 0, 64, .inl ((fun _ => 0)))), (b22, .inr (4, [.ref b25, .ref b26, .int 0, .int 0])), (b25, .inl (G.2.1 1, 4096, .inl ((fun _ => 0)))), (b26, .inl (G.2.1 1, 64, .inl ((fun _ => 0))))] H := hP
  have hD : va_D A [(a0, .inr (0, [.ref nq1, .ref nq5, .ref nq9, .ref nq13, .null, .null, .int 0, .int 0, .int 0])), (nq1, .inr (1, [.ref b4, .int 0])), (b4, .inl (G.2.1 0, 64, .inl ((fun _ => 0)))), (nq5, .inr (1, [.ref b8, .int 0])), (b8, .inl (G.2.1 0, 64, .inl ((fun _ => 0)))), (nq9, .inr (1, [.ref b12, .int 0])), (b12, .inl (G.2.1 0, 64, .inl ((fun _ => 0)))), (nq13, .inr (2, [.ref b16, .ref b17])), (b16, .inl (G.2.1 1, 80, .inl ((fun _ => 0)))), (b17, .inl (G.2.1 1, 5, .inl ((fun _ => 0)))), (nq18, .inr (5, [.ref b21, .ref b22, .int 0, .int 0])), (b21, .inr (3, [.ref b23, .int 0, .int 0])), (b23, .inr (1, [.ref b24, .int 0])), (b24, .inl (G.2.1 0, 64, .inl ((fun _ => 0)))), (b22, .inr (4, [.ref b25, .ref b26, .int 0, .int 0])), (b25, .inl (G.2.1 1, 4096, .inl ((fun _ => 0)))), (b26, .inl (G.2.1 1, 64, .inl ((fun _ => 0))))] := hD
  refine va_putF (D := G.1) (ci := 0) (v := .ref nq18) (ty := .object "TextPress$Presser") (C := R_TP) (T := F_TP) (N := 9) hx hb hts i_TP t_TP t_TP_ok n_TP hown hK hP hD hS 0 rfl rfl 4 (by decide) (hts _ q61) (fun _ h9 => h9) rfl (hin rfl) rfl (by decide +kernel) rfl rfl (Nat.le_of_ble_eq_true rfl) d_TP_init_56 (fun H locs hP hD hS => ?_)
  have hP : va_P G.1 classes [(a0, .inr (0, [.ref nq1, .ref nq5, .ref nq9, .ref nq13, .ref nq18, .null, .int 0, .int 0, .int 0])), (nq1, .inr (1, [.ref b4, .int 0])), (b4, .inl (G.2.1 0, 64, .inl ((fun _ => 0)))), (nq5, .inr (1, [.ref b8, .int 0])), (b8, .inl (G.2.1 0, 64, .inl ((fun _ => 0)))), (nq9, .inr (1, [.ref b12, .int 0])), (b12, .inl (G.2.1 0, 64, .inl ((fun _ => 0)))), (nq13, .inr (2, [.ref b16, .ref b17])), (b16, .inl (G.2.1 1, 80, .inl ((fun _ => 0)))), (b17, .inl (G.2.1 1, 5, .inl ((fun _ => 0)))), (nq18, .inr (5, [.ref b21, .ref b22, .int 0, .int 0])), (b21, .inr (3, [.ref b23, .int 0, .int 0])), (b23, .inr (1, [.ref b24, .int 0])), (b24, .inl (G.2.1 0, 64, .inl ((fun _ => 0)))), (b22, .inr (4, [.ref b25, .ref b26, .int 0, .int 0])), (b25, .inl (G.2.1 1, 4096, .inl ((fun _ => 0)))), (b26, .inl (G.2.1 1, 64, .inl ((fun _ => 0))))] H := hP
  have hD : va_D A [(a0, .inr (0, [.ref nq1, .ref nq5, .ref nq9, .ref nq13, .ref nq18, .null, .int 0, .int 0, .int 0])), (nq1, .inr (1, [.ref b4, .int 0])), (b4, .inl (G.2.1 0, 64, .inl ((fun _ => 0)))), (nq5, .inr (1, [.ref b8, .int 0])), (b8, .inl (G.2.1 0, 64, .inl ((fun _ => 0)))), (nq9, .inr (1, [.ref b12, .int 0])), (b12, .inl (G.2.1 0, 64, .inl ((fun _ => 0)))), (nq13, .inr (2, [.ref b16, .ref b17])), (b16, .inl (G.2.1 1, 80, .inl ((fun _ => 0)))), (b17, .inl (G.2.1 1, 5, .inl ((fun _ => 0)))), (nq18, .inr (5, [.ref b21, .ref b22, .int 0, .int 0])), (b21, .inr (3, [.ref b23, .int 0, .int 0])), (b23, .inr (1, [.ref b24, .int 0])), (b24, .inl (G.2.1 0, 64, .inl ((fun _ => 0)))), (b22, .inr (4, [.ref b25, .ref b26, .int 0, .int 0])), (b25, .inl (G.2.1 1, 4096, .inl ((fun _ => 0)))), (b26, .inl (G.2.1 1, 64, .inl ((fun _ => 0))))] := hD
  refine lv_aload_n hx hb d_TP_init_59 rfl (lv_at hl 0 rfl) ?_
  obtain ⟨k28, z28, h, ek28, ez28⟩ := Ak_e h
  have ekc : 0 + 1 + k3 + 1 + k7 + 1 + k11 + 1 + k15 + 1 + k20 + 1 + k28 = K := by omega
  have ezc : 0 + 2 + z3 + 2 + z7 + 2 + z11 + 2 + z15 + 4 + z20 + 9 + z28 = Z := by omega
  refine va_new (ci := 8) (fs := [.null, .null, .null, .null, .null, .null, .null, .int 0, .int 0]) (C := R_Un) (T := F_Un) (N := 9) hx hb hts i_Un t_Un t_Un_ok hown (hts _ q62) (hts _ q63) (hts _ q64) hK hP hD hS hA rfl df_Un (by omega) (by omega) d_TP_init_60 (fun nq27 H hP hD hS => ?_)
  have hP : va_P G.1 classes [(a0, .inr (0, [.ref nq1, .ref nq5, .ref nq9, .ref nq13, .ref nq18, .null, .int 0, .int 0, .int 0])), (nq1, .inr (1, [.ref b4, .int 0])), (b4, .inl (G.2.1 0, 64, .inl ((fun _ => 0)))), (nq5, .inr (1, [.ref b8, .int 0])), (b8, .inl (G.2.1 0, 64, .inl ((fun _ => 0)))), (nq9, .inr (1, [.ref b12, .int 0])), (b12, .inl (G.2.1 0, 64, .inl ((fun _ => 0)))), (nq13, .inr (2, [.ref b16, .ref b17])), (b16, .inl (G.2.1 1, 80, .inl ((fun _ => 0)))), (b17, .inl (G.2.1 1, 5, .inl ((fun _ => 0)))), (nq18, .inr (5, [.ref b21, .ref b22, .int 0, .int 0])), (b21, .inr (3, [.ref b23, .int 0, .int 0])), (b23, .inr (1, [.ref b24, .int 0])), (b24, .inl (G.2.1 0, 64, .inl ((fun _ => 0)))), (b22, .inr (4, [.ref b25, .ref b26, .int 0, .int 0])), (b25, .inl (G.2.1 1, 4096, .inl ((fun _ => 0)))), (b26, .inl (G.2.1 1, 64, .inl ((fun _ => 0)))), (nq27, .inr (8, [.null, .null, .null, .null, .null, .null, .null, .int 0, .int 0]))] H := hP
  have hD : va_D A [(a0, .inr (0, [.ref nq1, .ref nq5, .ref nq9, .ref nq13, .ref nq18, .null, .int 0, .int 0, .int 0])), (nq1, .inr (1, [.ref b4, .int 0])), (b4, .inl (G.2.1 0, 64, .inl ((fun _ => 0)))), (nq5, .inr (1, [.ref b8, .int 0])), (b8, .inl (G.2.1 0, 64, .inl ((fun _ => 0)))), (nq9, .inr (1, [.ref b12, .int 0])), (b12, .inl (G.2.1 0, 64, .inl ((fun _ => 0)))), (nq13, .inr (2, [.ref b16, .ref b17])), (b16, .inl (G.2.1 1, 80, .inl ((fun _ => 0)))), (b17, .inl (G.2.1 1, 5, .inl ((fun _ => 0)))), (nq18, .inr (5, [.ref b21, .ref b22, .int 0, .int 0])), (b21, .inr (3, [.ref b23, .int 0, .int 0])), (b23, .inr (1, [.ref b24, .int 0])), (b24, .inl (G.2.1 0, 64, .inl ((fun _ => 0)))), (b22, .inr (4, [.ref b25, .ref b26, .int 0, .int 0])), (b25, .inl (G.2.1 1, 4096, .inl ((fun _ => 0)))), (b26, .inl (G.2.1 1, 64, .inl ((fun _ => 0)))), (nq27, .inr (8, [.null, .null, .null, .null, .null, .null, .null, .int 0, .int 0]))] := hD
  refine lv_dup hx hb d_TP_init_63 rfl ?_
  obtain ⟨r29, k29, z29, kk29, zz29, hc29, h, ek29, ez29⟩ := Bk_e h
  have ekc : 0 + 1 + k3 + 1 + k7 + 1 + k11 + 1 + k15 + 1 + k20 + 1 + k29 + kk29 = K := by omega
  have ezc : 0 + 2 + z3 + 2 + z7 + 2 + z11 + 2 + z15 + 4 + z20 + 9 + z29 + zz29 = Z := by omega
  refine xI_v (wr := [(a0, .inr (0, [.ref nq1, .ref nq5, .ref nq9, .ref nq13, .ref nq18, .null, .int 0, .int 0, .int 0])), (nq1, .inr (1, [.ref b4, .int 0])), (b4, .inl (G.2.1 0, 64, .inl ((fun _ => 0)))), (nq5, .inr (1, [.ref b8, .int 0])), (b8, .inl (G.2.1 0, 64, .inl ((fun _ => 0)))), (nq9, .inr (1, [.ref b12, .int 0])), (b12, .inl (G.2.1 0, 64, .inl ((fun _ => 0)))), (nq13, .inr (2, [.ref b16, .ref b17])), (b16, .inl (G.2.1 1, 80, .inl ((fun _ => 0)))), (b17, .inl (G.2.1 1, 5, .inl ((fun _ => 0)))), (nq18, .inr (5, [.ref b21, .ref b22, .int 0, .int 0])), (b21, .inr (3, [.ref b23, .int 0, .int 0])), (b23, .inr (1, [.ref b24, .int 0])), (b24, .inl (G.2.1 0, 64, .inl ((fun _ => 0)))), (b22, .inr (4, [.ref b25, .ref b26, .int 0, .int 0])), (b25, .inl (G.2.1 1, 4096, .inl ((fun _ => 0)))), (b26, .inl (G.2.1 1, 64, .inl ((fun _ => 0))))]) (rest := [.ref nq27, .ref a0]) C0 hK hT hA hP hD hS hl.1 (c_Un_init l G nq27 _   N r29 k29 z29 hc29) (goodI q105 q106 q64 q107) 0 rfl hd_Un_init rfl (Nat.le_trans (by decide) hRf) (Nat.le_trans (by decide) hRl) [17] [0, 1, 2, 3, 4, 5, 6, 7, 8, 9, 10, 11, 12, 13, 14, 15, 16] rfl rfl (by decide) (by decide) (by decide) rfl (Nat.le_of_ble_eq_true rfl) d_TP_init_64 (by omega) (by omega) (fun w1 H locs hE hP hD hS => ?_)
  obtain ⟨b30, b31, b32, b33, b34, b35, b36, b37, b38, b39, b40, b41, b42, b43, b44, b45, b46, b47, b48, b49, b50, b51, b52, rfl⟩ := hE
  have hP : va_P G.1 classes [(a0, .inr (0, [.ref nq1, .ref nq5, .ref nq9, .ref nq13, .ref nq18, .null, .int 0, .int 0, .int 0])), (nq1, .inr (1, [.ref b4, .int 0])), (b4, .inl (G.2.1 0, 64, .inl ((fun _ => 0)))), (nq5, .inr (1, [.ref b8, .int 0])), (b8, .inl (G.2.1 0, 64, .inl ((fun _ => 0)))), (nq9, .inr (1, [.ref b12, .int 0])), (b12, .inl (G.2.1 0, 64, .inl ((fun _ => 0)))), (nq13, .inr (2, [.ref b16, .ref b17])), (b16, .inl (G.2.1 1, 80, .inl ((fun _ => 0)))), (b17, .inl (G.2.1 1, 5, .inl ((fun _ => 0)))), (nq18, .inr (5, [.ref b21, .ref b22, .int 0, .int 0])), (b21, .inr (3, [.ref b23, .int 0, .int 0])), (b23, .inr (1, [.ref b24, .int 0])), (b24, .inl (G.2.1 0, 64, .inl ((fun _ => 0)))), (b22, .inr (4, [.ref b25, .ref b26, .int 0, .int 0])), (b25, .inl (G.2.1 1, 4096, .inl ((fun _ => 0)))), (b26, .inl (G.2.1 1, 64, .inl ((fun _ => 0)))), (nq27, .inr (8, [.ref b30, .ref b31, .ref b32, .ref b33, .ref b34, .ref b35, .ref b36, .int 0, .int 0])), (b30, .inr (6, [.ref b37, .int 0, .int 0, .int 0])), (b37, .inl (G.2.1 0, 0, .inl ((fun _ => 0)))), (b31, .inl (G.2.1 1, 316, .inl r29.1)), (b32, .inr (7, [.ref b38, .ref b39, .ref b40])), (b38, .inl (G.2.1 1, 16, .inl r29.2.1)), (b39, .inl (G.2.1 1, 16, .inl r29.2.2.1)), (b40, .inl (G.2.1 1, r29.2.2.2.1, .inl r29.2.2.2.2.1)), (b33, .inr (7, [.ref b41, .ref b42, .ref b43])), (b41, .inl (G.2.1 1, 16, .inl r29.2.2.2.2.2.1)), (b42, .inl (G.2.1 1, 16, .inl r29.2.2.2.2.2.2.1)), (b43, .inl (G.2.1 1, r29.2.2.2.2.2.2.2.1, .inl r29.2.2.2.2.2.2.2.2.1)), (b34, .inr (7, [.ref b44, .ref b45, .ref b46])), (b44, .inl (G.2.1 1, 16, .inl ((fun _ => 0)))), (b45, .inl (G.2.1 1, 16, .inl ((fun _ => 0)))), (b46, .inl (G.2.1 1, r29.2.2.2.2.2.2.2.2.2.1, .inl ((fun _ => 0)))), (b35, .inr (7, [.ref b47, .ref b48, .ref b49])), (b47, .inl (G.2.1 1, 16, .inl ((fun _ => 0)))), (b48, .inl (G.2.1 1, 16, .inl ((fun _ => 0)))), (b49, .inl (G.2.1 1, r29.2.2.2.2.2.2.2.2.2.2.1, .inl ((fun _ => 0)))), (b36, .inr (7, [.ref b50, .ref b51, .ref b52])), (b50, .inl (G.2.1 1, 16, .inl ((fun _ => 0)))), (b51, .inl (G.2.1 1, 16, .inl ((fun _ => 0)))), (b52, .inl (G.2.1 1, r29.2.2.2.2.2.2.2.2.2.2.2, .inl ((fun _ => 0))))] H := hP
  have hD : va_D A [(a0, .inr (0, [.ref nq1, .ref nq5, .ref nq9, .ref nq13, .ref nq18, .null, .int 0, .int 0, .int 0])), (nq1, .inr (1, [.ref b4, .int 0])), (b4, .inl (G.2.1 0, 64, .inl ((fun _ => 0)))), (nq5, .inr (1, [.ref b8, .int 0])), (b8, .inl (G.2.1 0, 64, .inl ((fun _ => 0)))), (nq9, .inr (1, [.ref b12, .int 0])), (b12, .inl (G.2.1 0, 64, .inl ((fun _ => 0)))), (nq13, .inr (2, [.ref b16, .ref b17])), (b16, .inl (G.2.1 1, 80, .inl ((fun _ => 0)))), (b17, .inl (G.2.1 1, 5, .inl ((fun _ => 0)))), (nq18, .inr (5, [.ref b21, .ref b22, .int 0, .int 0])), (b21, .inr (3, [.ref b23, .int 0, .int 0])), (b23, .inr (1, [.ref b24, .int 0])), (b24, .inl (G.2.1 0, 64, .inl ((fun _ => 0)))), (b22, .inr (4, [.ref b25, .ref b26, .int 0, .int 0])), (b25, .inl (G.2.1 1, 4096, .inl ((fun _ => 0)))), (b26, .inl (G.2.1 1, 64, .inl ((fun _ => 0)))), (nq27, .inr (8, [.ref b30, .ref b31, .ref b32, .ref b33, .ref b34, .ref b35, .ref b36, .int 0, .int 0])), (b30, .inr (6, [.ref b37, .int 0, .int 0, .int 0])), (b37, .inl (G.2.1 0, 0, .inl ((fun _ => 0)))), (b31, .inl (G.2.1 1, 316, .inl r29.1)), (b32, .inr (7, [.ref b38, .ref b39, .ref b40])), (b38, .inl (G.2.1 1, 16, .inl r29.2.1)), (b39, .inl (G.2.1 1, 16, .inl r29.2.2.1)), (b40, .inl (G.2.1 1, r29.2.2.2.1, .inl r29.2.2.2.2.1)), (b33, .inr (7, [.ref b41, .ref b42, .ref b43])), (b41, .inl (G.2.1 1, 16, .inl r29.2.2.2.2.2.1)), (b42, .inl (G.2.1 1, 16, .inl r29.2.2.2.2.2.2.1)), (b43, .inl (G.2.1 1, r29.2.2.2.2.2.2.2.1, .inl r29.2.2.2.2.2.2.2.2.1)), (b34, .inr (7, [.ref b44, .ref b45, .ref b46])), (b44, .inl (G.2.1 1, 16, .inl ((fun _ => 0)))), (b45, .inl (G.2.1 1, 16, .inl ((fun _ => 0)))), (b46, .inl (G.2.1 1, r29.2.2.2.2.2.2.2.2.2.1, .inl ((fun _ => 0)))), (b35, .inr (7, [.ref b47, .ref b48, .ref b49])), (b47, .inl (G.2.1 1, 16, .inl ((fun _ => 0)))), (b48, .inl (G.2.1 1, 16, .inl ((fun _ => 0)))), (b49, .inl (G.2.1 1, r29.2.2.2.2.2.2.2.2.2.2.1, .inl ((fun _ => 0)))), (b36, .inr (7, [.ref b50, .ref b51, .ref b52])), (b50, .inl (G.2.1 1, 16, .inl ((fun _ => 0)))), (b51, .inl (G.2.1 1, 16, .inl ((fun _ => 0)))), (b52, .inl (G.2.1 1, r29.2.2.2.2.2.2.2.2.2.2.2, .inl ((fun _ => 0))))] := hD
  refine va_putF (D := G.1) (ci := 0) (v := .ref nq27) (ty := .object "TextPress$Unpresser") (C := R_TP) (T := F_TP) (N := 9) hx hb hts i_TP t_TP t_TP_ok n_TP hown hK hP hD hS 0 rfl rfl 5 (by decide) (hts _ q108) (fun _ h9 => h9) rfl (hin rfl) rfl (by decide +kernel) rfl rfl (Nat.le_of_ble_eq_true rfl) d_TP_init_67 (fun H locs hP hD hS => ?_)
  have hP : va_P G.1 classes [(a0, .inr (0, [.ref nq1, .ref nq5, .ref nq9, .ref nq13, .ref nq18, .ref nq27, .int 0, .int 0, .int 0])), (nq1, .inr (1, [.ref b4, .int 0])), (b4, .inl (G.2.1 0, 64, .inl ((fun _ => 0)))), (nq5, .inr (1, [.ref b8, .int 0])), (b8, .inl (G.2.1 0, 64, .inl ((fun _ => 0)))), (nq9, .inr (1, [.ref b12, .int 0])), (b12, .inl (G.2.1 0, 64, .inl ((fun _ => 0)))), (nq13, .inr (2, [.ref b16, .ref b17])), (b16, .inl (G.2.1 1, 80, .inl ((fun _ => 0)))), (b17, .inl (G.2.1 1, 5, .inl ((fun _ => 0)))), (nq18, .inr (5, [.ref b21, .ref b22, .int 0, .int 0])), (b21, .inr (3, [.ref b23, .int 0, .int 0])), (b23, .inr (1, [.ref b24, .int 0])), (b24, .inl (G.2.1 0, 64, .inl ((fun _ => 0)))), (b22, .inr (4, [.ref b25, .ref b26, .int 0, .int 0])), (b25, .inl (G.2.1 1, 4096, .inl ((fun _ => 0)))), (b26, .inl (G.2.1 1, 64, .inl ((fun _ => 0)))), (nq27, .inr (8, [.ref b30, .ref b31, .ref b32, .ref b33, .ref b34, .ref b35, .ref b36, .int 0, .int 0])), (b30, .inr (6, [.ref b37, .int 0, .int 0, .int 0])), (b37, .inl (G.2.1 0, 0, .inl ((fun _ => 0)))), (b31, .inl (G.2.1 1, 316, .inl r29.1)), (b32, .inr (7, [.ref b38, .ref b39, .ref b40])), (b38, .inl (G.2.1 1, 16, .inl r29.2.1)), (b39, .inl (G.2.1 1, 16, .inl r29.2.2.1)), (b40, .inl (G.2.1 1, r29.2.2.2.1, .inl r29.2.2.2.2.1)), (b33, .inr (7, [.ref b41, .ref b42, .ref b43])), (b41, .inl (G.2.1 1, 16, .inl r29.2.2.2.2.2.1)), (b42, .inl (G.2.1 1, 16, .inl r29.2.2.2.2.2.2.1)), (b43, .inl (G.2.1 1, r29.2.2.2.2.2.2.2.1, .inl r29.2.2.2.2.2.2.2.2.1)), (b34, .inr (7, [.ref b44, .ref b45, .ref b46])), (b44, .inl (G.2.1 1, 16, .inl ((fun _ => 0)))), (b45, .inl (G.2.1 1, 16, .inl ((fun _ => 0)))), (b46, .inl (G.2.1 1, r29.2.2.2.2.2.2.2.2.2.1, .inl ((fun _ => 0)))), (b35, .inr (7, [.ref b47, .ref b48, .ref b49])), (b47, .inl (G.2.1 1, 16, .inl ((fun _ => 0)))), (b48, .inl (G.2.1 1, 16, .inl ((fun _ => 0)))), (b49, .inl (G.2.1 1, r29.2.2.2.2.2.2.2.2.2.2.1, .inl ((fun _ => 0)))), (b36, .inr (7, [.ref b50, .ref b51, .ref b52])), (b50, .inl (G.2.1 1, 16, .inl ((fun _ => 0)))), (b51, .inl (G.2.1 1, 16, .inl ((fun _ => 0)))), (b52, .inl (G.2.1 1, r29.2.2.2.2.2.2.2.2.2.2.2, .inl ((fun _ => 0))))] H := hP
  have hD : va_D A [(a0, .inr (0, [.ref nq1, .ref nq5, .ref nq9, .ref nq13, .ref nq18, .ref nq27, .int 0, .int 0, .int 0])), (nq1, .inr (1, [.ref b4, .int 0])), (b4, .inl (G.2.1 0, 64, .inl ((fun _ => 0)))), (nq5, .inr (1, [.ref b8, .int 0])), (b8, .inl (G.2.1 0, 64, .inl ((fun _ => 0)))), (nq9, .inr (1, [.ref b12, .int 0])), (b12, .inl (G.2.1 0, 64, .inl ((fun _ => 0)))), (nq13, .inr (2, [.ref b16, .ref b17])), (b16, .inl (G.2.1 1, 80, .inl ((fun _ => 0)))), (b17, .inl (G.2.1 1, 5, .inl ((fun _ => 0)))), (nq18, .inr (5, [.ref b21, .ref b22, .int 0, .int 0])), (b21, .inr (3, [.ref b23, .int 0, .int 0])), (b23, .inr (1, [.ref b24, .int 0])), (b24, .inl (G.2.1 0, 64, .inl ((fun _ => 0)))), (b22, .inr (4, [.ref b25, .ref b26, .int 0, .int 0])), (b25, .inl (G.2.1 1, 4096, .inl ((fun _ => 0)))), (b26, .inl (G.2.1 1, 64, .inl ((fun _ => 0)))), (nq27, .inr (8, [.ref b30, .ref b31, .ref b32, .ref b33, .ref b34, .ref b35, .ref b36, .int 0, .int 0])), (b30, .inr (6, [.ref b37, .int 0, .int 0, .int 0])), (b37, .inl (G.2.1 0, 0, .inl ((fun _ => 0)))), (b31, .inl (G.2.1 1, 316, .inl r29.1)), (b32, .inr (7, [.ref b38, .ref b39, .ref b40])), (b38, .inl (G.2.1 1, 16, .inl r29.2.1)), (b39, .inl (G.2.1 1, 16, .inl r29.2.2.1)), (b40, .inl (G.2.1 1, r29.2.2.2.1, .inl r29.2.2.2.2.1)), (b33, .inr (7, [.ref b41, .ref b42, .ref b43])), (b41, .inl (G.2.1 1, 16, .inl r29.2.2.2.2.2.1)), (b42, .inl (G.2.1 1, 16, .inl r29.2.2.2.2.2.2.1)), (b43, .inl (G.2.1 1, r29.2.2.2.2.2.2.2.1, .inl r29.2.2.2.2.2.2.2.2.1)), (b34, .inr (7, [.ref b44, .ref b45, .ref b46])), (b44, .inl (G.2.1 1, 16, .inl ((fun _ => 0)))), (b45, .inl (G.2.1 1, 16, .inl ((fun _ => 0)))), (b46, .inl (G.2.1 1, r29.2.2.2.2.2.2.2.2.2.1, .inl ((fun _ => 0)))), (b35, .inr (7, [.ref b47, .ref b48, .ref b49])), (b47, .inl (G.2.1 1, 16, .inl ((fun _ => 0)))), (b48, .inl (G.2.1 1, 16, .inl ((fun _ => 0)))), (b49, .inl (G.2.1 1, r29.2.2.2.2.2.2.2.2.2.2.1, .inl ((fun _ => 0)))), (b36, .inr (7, [.ref b50, .ref b51, .ref b52])), (b50, .inl (G.2.1 1, 16, .inl ((fun _ => 0)))), (b51, .inl (G.2.1 1, 16, .inl ((fun _ => 0)))), (b52, .inl (G.2.1 1, r29.2.2.2.2.2.2.2.2.2.2.2, .inl ((fun _ => 0))))] := hD
  obtain ⟨eV, ek, ez⟩ := so3 h
  subst eV
  exact x_vret C0 hQ hP hD hS ⟨nq1, nq5, nq9, nq13, nq18, nq27, b4, b8, b12, b16, b17, b21, b22, b23, b24, b25, b26, b30, b31, b32, b33, b34, b35, b36, b37, b38, b39, b40, b41, b42, b43, b44, b45, b46, b47, b48, b49, b50, b51, b52, rfl⟩ (by omega) (by omega) d_TP_init_70
set_option maxHeartbeats 4000000 in
set_option maxRecDepth 100000 in
theorem c_Row_length (l : Launch) (G : GX) (a0 o0_0 : Nat) (sz : Nat) (x0_1 : Int32)  (N : Nat) (V : Int32) (h : f_Row_length N x0_1 = some V) :
    Met l y_Row_length (wd y_Row_length b_Row_length 1 (some .int)) { frames := 0, cells := 0, slots := 0, locals := 0 } (PX G [.ref a0] sz [(a0, .inr (1, [.ref o0_0, .int x0_1]))])
      (QXi G V (fun w => w = [(a0, .inr (1, [.ref o0_0, .int x0_1]))]) (va_A [(a0, .inr (1, [.ref o0_0, .int x0_1]))] sz)) 0 0 (va_A [(a0, .inr (1, [.ref o0_0, .int x0_1]))] sz) := by
  refine Met_in (QQ := fun A => QXi G V (fun w => w = [(a0, .inr (1, [.ref o0_0, .int x0_1]))]) A) (by decide) (Nat.le_of_ble_eq_true rfl) (fun p e s m below meth c R Q A ls C0 hRf hRl hRc hRs hP hK hD hT hA hS hl hQ => ?_)
  obtain ⟨hx, hb, hml, hown, hts, hr, hlocks, hin⟩ := id C0
  have hown : s.vm.findClass R_Row = some m.cls := hown
  have hl : lv_has ls 1 [(0, .ref a0)] := hl
  unfold f_Row_length at h
  have hkc : 0 ≤ R.cells := Nat.zero_le _
  have hks : 0 ≤ R.slots := Nat.zero_le _
  obtain ⟨H, hH⟩ : ∃ H, H = s.heap := ⟨_, rfl⟩
  obtain ⟨locs, hlc⟩ : ∃ x : List Loc, x = [] := ⟨_, rfl⟩
  rw [← hH] at hP
  have hS : va_S A s.heap H locs := by rw [hH, hlc]; exact hS
  suffices hgo : W p l e R s m [.ref a0].toArray below meth c H locs 0 0 Q (F0 m 0 ls []) by rw [hH, hlc] at hgo; exact hgo
  refine lv_aload_n hx hb d_Row_length_0 rfl (lv_at hl 0 rfl) ?_
  refine va_get (D := G.1) (ci := 1) (v := .int x0_1) (C := R_Row) (T := F_Row) (N := 2) hx hb hts i_Row hown hK hP 0 rfl rfl 1 (by decide) (hts _ q9) (fun _ h9 => h9) rfl d_Row_length_1 ?_
  have eV := so1 h
  subst eV
  exact x_iret C0 hQ hP hD hS rfl (Nat.zero_le _) (Nat.zero_le _) d_Row_length_4
set_option maxHeartbeats 4000000 in
set_option maxRecDepth 100000 in
theorem c_JA_copyOf (l : Launch) (G : GX) (a0 : Nat) (sz : Nat) (n0 : Nat) (f0 : (Nat → Int32)) (p1 : Int32) (N : Nat) (V : Nat × (Nat → Int32)) (K Z : Nat) (h : f_JA_copyOf N n0 f0 p1 = some (V, K, Z)) :
    Met l y_JA_copyOf (wd y_JA_copyOf b_JA_copyOf 3 (some (.array .byte))) { frames := 1, cells := K, slots := Z, locals := 60 } (PX G [.ref a0, .int p1] sz [(a0, .inl (G.2.1 0, n0, .inl f0))])
      (QXr G (fun ra w => w = [(a0, .inl (G.2.1 0, n0, .inl f0)), (ra, .inl (G.2.1 0, V.1, .inl V.2))]) (va_A [(a0, .inl (G.2.1 0, n0, .inl f0))] sz)) K Z (va_A [(a0, .inl (G.2.1 0, n0, .inl f0))] sz) := by
  refine Met_in (QQ := fun A => QXr G (fun ra w => w = [(a0, .inl (G.2.1 0, n0, .inl f0)), (ra, .inl (G.2.1 0, V.1, .inl V.2))]) A) (by decide) (Nat.le_of_ble_eq_true rfl) (fun p e s m below meth c R Q A ls C0 hRf hRl hRc hRs hP hK hD hT hA hS hl hQ => ?_)
  obtain ⟨hx, hb, hml, hown, hts, hr, hlocks, hin⟩ := id C0
  have hown : s.vm.findClass R_JA = some m.cls := hown
  have hl : lv_has ls 3 [(0, .ref a0), (1, .int p1)] := hl
  unfold f_JA_copyOf at h
  have hKT : K ≤ R.cells := Nat.le_of_eq hRc.symm
  have hZT : Z ≤ R.slots := Nat.le_of_eq hRs.symm
  have ekc : 0 + K = K := by omega
  have ezc : 0 + Z = Z := by omega
  obtain ⟨H, hH⟩ : ∃ H, H = s.heap := ⟨_, rfl⟩
  obtain ⟨locs, hlc⟩ : ∃ x : List Loc, x = [] := ⟨_, rfl⟩
  rw [← hH] at hP
  have hS : va_S A s.heap H locs := by rw [hH, hlc]; exact hS
  suffices hgo : W p l e R s m [.ref a0, .int p1].toArray below meth c H locs 0 0 Q (F0 m 0 ls []) by rw [hH, hlc] at hgo; exact hgo
  refine lv_iload_n hx hb d_JA_copyOf_0 rfl (lv_at hl 1 rfl) ?_
  refine lv_aload_n hx hb d_JA_copyOf_1 rfl (lv_at hl 0 rfl) ?_
  refine va_alen (v := nI n0) hx hb hK hP 0 0 rfl rfl rfl d_JA_copyOf_2 ?_
  refine lv_icmp_ne (tgt := 14) hx hb d_JA_copyOf_3 (by decide) (fun cq1 => ?_) (fun cq1 => ?_)
  · replace h := (if_neg cq1).symm.trans h
    refine lv_iload_n hx hb d_JA_copyOf_14 rfl (lv_at hl 1 rfl) ?_
    obtain ⟨hz3, h⟩ := Ga_e h
    obtain ⟨k4, z4, h, ek4, ez4⟩ := Ak_e h
    have ekc : 0 + 1 + k4 = K := by omega
    have ezc : 0 + ((p1).toNatClampNeg) + z4 = Z := by omega
    refine y_newaB (N' := (p1).toNatClampNeg) hx hb (hts _ q7) hK hP hD hS hA hz3.1 rfl hz3.2 (by omega) (by omega) d_JA_copyOf_15 (fun nq2 H hP hD hS => ?_)
    have hP : va_P G.1 classes [(a0, .inl (G.2.1 0, n0, .inl f0)), (nq2, .inl (G.2.1 0, (p1).toNatClampNeg, .inl ((fun _ => 0))))] H := hP
    have hD : va_D A [(a0, .inl (G.2.1 0, n0, .inl f0)), (nq2, .inl (G.2.1 0, (p1).toNatClampNeg, .inl ((fun _ => 0))))] := hD
    refine lv_astore_n (lv' := [(2, .ref nq2), (0, .ref a0), (1, .int p1)]) hx hb d_JA_copyOf_17 rfl hl (by decide) rfl (fun ls hl => ?_)
    refine lv_aload_n hx hb d_JA_copyOf_18 rfl (lv_at hl 1 rfl) ?_
    refine lv_iconst (v := 0) hx hb d_JA_copyOf_19 (by decide) ?_
    refine lv_aload_n hx hb d_JA_copyOf_20 rfl (lv_at hl 0 rfl) ?_
    refine lv_iconst (v := 0) hx hb d_JA_copyOf_21 (by decide) ?_
    refine lv_aload_n hx hb d_JA_copyOf_22 rfl (lv_at hl 1 rfl) ?_
    refine va_alen (v := nI n0) hx hb hK hP 0 0 rfl rfl rfl d_JA_copyOf_23 ?_
    refine lv_iload_n hx hb d_JA_copyOf_24 rfl (lv_at hl 2 rfl) ?_
    refine va_mmin hx hb (hml.trans hl.1.symm) hown (hts _ q122) (hts _ q116) (hts _ q117) (hts _ q118) (Nat.le_trans (by decide) hRf) (Nat.le_trans (Nat.le_of_ble_eq_true rfl) hRl) (by omega) (by omega) d_JA_copyOf_25 ?_
    refine lv_topi (fun v5 ev5 => ?_)
    replace h := Lt_e h ev5
    obtain ⟨hz7, h⟩ := Gc_e h
    refine y_copyb hx hb (hml.trans hl.1.symm) hown (hts _ q123) (hts _ q124) (hts _ q125) (hts _ q126) hK hP hD hS 0 1 0 0 rfl rfl rfl rfl hz7 (Nat.le_trans (by decide) hRf) (Nat.le_trans (Nat.le_of_ble_eq_true rfl) hRl) d_JA_copyOf_28 (fun g6 H locs eg6 hP hD hS => ?_)
    replace h := Lt_e h eg6
    have hP : va_P G.1 classes [(a0, .inl (G.2.1 0, n0, .inl f0)), (nq2, .inl (G.2.1 0, (p1).toNatClampNeg, .inl g6))] H := hP
    have hD : va_D A [(a0, .inl (G.2.1 0, n0, .inl f0)), (nq2, .inl (G.2.1 0, (p1).toNatClampNeg, .inl g6))] := hD
    refine lv_aload_n hx hb d_JA_copyOf_31 rfl (lv_at hl 0 rfl) ?_
    obtain ⟨eV, ek, ez⟩ := so3 h
    subst eV
    exact x_aret C0 hQ hP hD hS rfl (by omega) (by omega) d_JA_copyOf_32
  · replace h := (if_pos cq1).symm.trans h
    refine lv_aload_n hx hb d_JA_copyOf_6 rfl (lv_at hl 0 rfl) ?_
    cases h
set_option maxHeartbeats 4000000 in
set_option maxRecDepth 100000 in
theorem c_Row_makeRoom (l : Launch) (G : GX) (a0 a1 : Nat) (sz : Nat) (x0_1 : Int32) (n1 : Nat) (f1 : (Nat → Int32)) (p1 : Int32) (N : Nat) (V : Nat × (Nat → Int32)) (K Z : Nat) (h : f_Row_makeRoom N n1 f1 p1 = some (V, K, Z)) :
    Met l y_Row_makeRoom (wd y_Row_makeRoom b_Row_makeRoom 3 none) { frames := 2, cells := K, slots := Z, locals := 82 } (PX G [.ref a0, .int p1] sz [(a0, .inr (1, [.ref a1, .int x0_1])), (a1, .inl (G.2.1 0, n1, .inl f1))])
      (QXv G (fun w => ∃ e0 : Nat, w = [(a0, .inr (1, [.ref e0, .int x0_1])), (e0, .inl (G.2.1 0, V.1, .inl V.2))]) (va_A [(a0, .inr (1, [.ref a1, .int x0_1])), (a1, .inl (G.2.1 0, n1, .inl f1))] sz)) K Z (va_A [(a0, .inr (1, [.ref a1, .int x0_1])), (a1, .inl (G.2.1 0, n1, .inl f1))] sz) := by
  refine Met_in (QQ := fun A => QXv G (fun w => ∃ e0 : Nat, w = [(a0, .inr (1, [.ref e0, .int x0_1])), (e0, .inl (G.2.1 0, V.1, .inl V.2))]) A) (by decide) (Nat.le_of_ble_eq_true rfl) (fun p e s m below meth c R Q A ls C0 hRf hRl hRc hRs hP hK hD hT hA hS hl hQ => ?_)
  obtain ⟨hx, hb, hml, hown, hts, hr, hlocks, hin⟩ := id C0
  have hown : s.vm.findClass R_Row = some m.cls := hown
  have hl : lv_has ls 3 [(0, .ref a0), (1, .int p1)] := hl
  unfold f_Row_makeRoom at h
  have hKT : K ≤ R.cells := Nat.le_of_eq hRc.symm
  have hZT : Z ≤ R.slots := Nat.le_of_eq hRs.symm
  have ekc : 0 + K = K := by omega
  have ezc : 0 + Z = Z := by omega
  obtain ⟨H, hH⟩ : ∃ H, H = s.heap := ⟨_, rfl⟩
  obtain ⟨locs, hlc⟩ : ∃ x : List Loc, x = [] := ⟨_, rfl⟩
  rw [← hH] at hP
  have hS : va_S A s.heap H locs := by rw [hH, hlc]; exact hS
  suffices hgo : W p l e R s m [.ref a0, .int p1].toArray below meth c H locs 0 0 Q (F0 m 0 ls []) by rw [hH, hlc] at hgo; exact hgo
  refine lv_iload_n hx hb d_Row_makeRoom_0 rfl (lv_at hl 1 rfl) ?_
  refine lv_aload_n hx hb d_Row_makeRoom_1 rfl (lv_at hl 0 rfl) ?_
  refine va_get (D := G.1) (ci := 1) (v := .ref a1) (C := R_Row) (T := F_Row) (N := 2) hx hb hts i_Row hown hK hP 0 rfl rfl 0 (by decide) (hts _ q8) (fun _ h9 => h9) rfl d_Row_makeRoom_2 ?_
  refine va_alen (v := nI n1) hx hb hK hP 1 0 rfl rfl rfl d_Row_makeRoom_5 ?_
  refine lv_icmp_le (tgt := 38) hx hb d_Row_makeRoom_6 (by decide) (fun cq1 => ?_) (fun cq1 => ?_)
  · replace h := (if_pos cq1).symm.trans h
    obtain ⟨eV, ek, ez⟩ := so3 h
    subst eV
    exact x_vret C0 hQ hP hD hS ⟨a1, rfl⟩ (by omega) (by omega) d_Row_makeRoom_38
  · replace h := (if_neg cq1).symm.trans h
    refine lv_iconst (v := 4) hx hb d_Row_makeRoom_9 (by decide) ?_
    refine lv_aload_n hx hb d_Row_makeRoom_10 rfl (lv_at hl 0 rfl) ?_
    refine va_get (D := G.1) (ci := 1) (v := .ref a1) (C := R_Row) (T := F_Row) (N := 2) hx hb hts i_Row hown hK hP 0 rfl rfl 0 (by decide) (hts _ q8) (fun _ h9 => h9) rfl d_Row_makeRoom_11 ?_
    refine va_alen (v := nI n1) hx hb hK hP 1 0 rfl rfl rfl d_Row_makeRoom_14 ?_
    refine lv_imul hx hb d_Row_makeRoom_15 ?_
    refine lv_ldc (v := 73736) hx hb hown (hts _ q114) d_Row_makeRoom_16 ?_
    refine va_mmin hx hb (hml.trans hl.1.symm) hown (hts _ q115) (hts _ q116) (hts _ q117) (hts _ q118) (Nat.le_trans (by decide) hRf) (Nat.le_trans (Nat.le_of_ble_eq_true rfl) hRl) (by omega) (by omega) d_Row_makeRoom_18 ?_
    refine lv_topi (fun v2 ev2 => ?_)
    replace h := Lt_e h ev2
    refine lv_istore_n (lv' := [(2, .int v2), (0, .ref a0), (1, .int p1)]) hx hb d_Row_makeRoom_21 rfl hl (by decide) rfl (fun ls hl => ?_)
    refine lv_aload_n hx hb d_Row_makeRoom_22 rfl (lv_at hl 1 rfl) ?_
    refine lv_aload_n hx hb d_Row_makeRoom_23 rfl (lv_at hl 1 rfl) ?_
    refine va_get (D := G.1) (ci := 1) (v := .ref a1) (C := R_Row) (T := F_Row) (N := 2) hx hb hts i_Row hown hK hP 0 rfl rfl 0 (by decide) (hts _ q8) (fun _ h9 => h9) rfl d_Row_makeRoom_24 ?_
    refine lv_iload_n hx hb d_Row_makeRoom_27 rfl (lv_at hl 2 rfl) ?_
    refine lv_iload_n hx hb d_Row_makeRoom_28 rfl (lv_at hl 0 rfl) ?_
    refine va_mmax hx hb (hml.trans hl.1.symm) hown (hts _ q119) (hts _ q120) (hts _ q117) (hts _ q121) (Nat.le_trans (by decide) hRf) (Nat.le_trans (Nat.le_of_ble_eq_true rfl) hRl) (by omega) (by omega) d_Row_makeRoom_29 ?_
    refine lv_topi (fun v3 ev3 => ?_)
    replace h := Lt_e h ev3
    obtain ⟨r4, k4, z4, kk4, zz4, hc4, h, ek4, ez4⟩ := Bk_e h
    have ekc : 0 + k4 + kk4 = K := by omega
    have ezc : 0 + z4 + zz4 = Z := by omega
    refine xS_r (wr := [(a0, .inr (1, [.ref a1, .int x0_1]))]) (rest := [.ref a0]) C0 hK hT hA hP hD hS hl.1 (c_JA_copyOf l G a1 _ n1 f1 v3 N r4 k4 z4 hc4) (goodS q127 q128 q92 q129) 2 rfl hd_JA_copyOf (Nat.le_trans (by decide) hRf) (Nat.le_trans (by decide) hRl) [1] [0] rfl rfl (by decide) (by decide) (by decide) rfl (Nat.le_of_ble_eq_true rfl) d_Row_makeRoom_32 (by omega) (by omega) (fun b5 w1 H locs hE hP hD hS => ?_)
    subst hE
    have hP : va_P G.1 classes [(a0, .inr (1, [.ref a1, .int x0_1])), (a1, .inl (G.2.1 0, n1, .inl f1)), (b5, .inl (G.2.1 0, r4.1, .inl r4.2))] H := hP
    have hD : va_D A [(a0, .inr (1, [.ref a1, .int x0_1])), (a1, .inl (G.2.1 0, n1, .inl f1)), (b5, .inl (G.2.1 0, r4.1, .inl r4.2))] := hD
    refine va_put (D := G.1) (ci := 1) (v := .ref b5) (ty := .array .byte) (C := R_Row) (T := F_Row) (N := 2) hx hb hts i_Row t_Row t_Row_ok n_Row hown hK hP hD hS 0 rfl rfl 0 (by decide) (hts _ q8) (fun _ h9 => h9) rfl (by decide +kernel) rfl rfl (Nat.le_of_ble_eq_true rfl) d_Row_makeRoom_35 (fun H locs hP hD hS => ?_)
    have hP : va_P G.1 classes [(a0, .inr (1, [.ref b5, .int x0_1])), (a1, .inl (G.2.1 0, n1, .inl f1)), (b5, .inl (G.2.1 0, r4.1, .inl r4.2))] H := hP
    have hD : va_D A [(a0, .inr (1, [.ref b5, .int x0_1])), (a1, .inl (G.2.1 0, n1, .inl f1)), (b5, .inl (G.2.1 0, r4.1, .inl r4.2))] := hD
    obtain ⟨eV, ek, ez⟩ := so3 h
    subst eV
    exact x_vret C0 hQ (hP.sub (ws' := [(a0, .inr (1, [.ref b5, .int x0_1])), (b5, .inl (G.2.1 0, r4.1, .inl r4.2))]) [0, 2] rfl) (hD.sub (ws' := [(a0, .inr (1, [.ref b5, .int x0_1])), (b5, .inl (G.2.1 0, r4.1, .inl r4.2))]) [0, 2] (by decide) rfl) hS ⟨b5, rfl⟩ (by omega) (by omega) d_Row_makeRoom_38
set_option maxHeartbeats 4000000 in
set_option maxRecDepth 100000 in
theorem c_Row_add (l : Launch) (G : GX) (a0 a1 : Nat) (sz : Nat) (x0_1 : Int32) (n1 : Nat) (f1 : (Nat → Int32)) (p1 : Int32) (N : Nat) (V : Int32 × Nat × (Nat → Int32)) (K Z : Nat) (h : f_Row_add N x0_1 n1 f1 p1 = some (V, K, Z)) :
    Met l y_Row_add (wd y_Row_add b_Row_add 2 none) { frames := 3, cells := K, slots := Z, locals := 104 } (PX G [.ref a0, .int p1] sz [(a0, .inr (1, [.ref a1, .int x0_1])), (a1, .inl (G.2.1 0, n1, .inl f1))])
      (QXv G (fun w => ∃ e0 : Nat, w = [(a0, .inr (1, [.ref e0, .int V.1])), (e0, .inl (G.2.1 0, V.2.1, .inl V.2.2))]) (va_A [(a0, .inr (1, [.ref a1, .int x0_1])), (a1, .inl (G.2.1 0, n1, .inl f1))] sz)) K Z (va_A [(a0, .inr (1, [.ref a1, .int x0_1])), (a1, .inl (G.2.1 0, n1, .inl f1))] sz) := by
  refine Met_in (QQ := fun A => QXv G (fun w => ∃ e0 : Nat, w = [(a0, .inr (1, [.ref e0, .int V.1])), (e0, .inl (G.2.1 0, V.2.1, .inl V.2.2))]) A) (by decide) (Nat.le_of_ble_eq_true rfl) (fun p e s m below meth c R Q A ls C0 hRf hRl hRc hRs hP hK hD hT hA hS hl hQ => ?_)
  obtain ⟨hx, hb, hml, hown, hts, hr, hlocks, hin⟩ := id C0
  have hown : s.vm.findClass R_Row = some m.cls := hown
  have hl : lv_has ls 2 [(0, .ref a0), (1, .int p1)] := hl
  unfold f_Row_add at h
  have hKT : K ≤ R.cells := Nat.le_of_eq hRc.symm
  have hZT : Z ≤ R.slots := Nat.le_of_eq hRs.symm
  have ekc : 0 + K = K := by omega
  have ezc : 0 + Z = Z := by omega
  obtain ⟨H, hH⟩ : ∃ H, H = s.heap := ⟨_, rfl⟩
  obtain ⟨locs, hlc⟩ : ∃ x : List Loc, x = [] := ⟨_, rfl⟩
  rw [← hH] at hP
  have hS : va_S A s.heap H locs := by rw [hH, hlc]; exact hS
  suffices hgo : W p l e R s m [.ref a0, .int p1].toArray below meth c H locs 0 0 Q (F0 m 0 ls []) by rw [hH, hlc] at hgo; exact hgo
  refine lv_aload_n hx hb d_Row_add_0 rfl (lv_at hl 0 rfl) ?_
  refine lv_aload_n hx hb d_Row_add_1 rfl (lv_at hl 0 rfl) ?_
  refine va_get (D := G.1) (ci := 1) (v := .int x0_1) (C := R_Row) (T := F_Row) (N := 2) hx hb hts i_Row hown hK hP 0 rfl rfl 1 (by decide) (hts _ q9) (fun _ h9 => h9) rfl d_Row_add_2 ?_
  refine lv_iconst (v := 1) hx hb d_Row_add_5 (by decide) ?_
  refine lv_iadd hx hb d_Row_add_6 ?_
  obtain ⟨r1, k1, z1, kk1, zz1, hc1, h, ek1, ez1⟩ := Bk_e h
  have ekc : 0 + k1 + kk1 = K := by omega
  have ezc : 0 + z1 + zz1 = Z := by omega
  refine xV_v (wr := []) (rest := []) C0 hK hT hA hP hD hS hl.1 (c_Row_makeRoom l G a0 a1 _ x0_1 n1 f1 (x0_1 + 1) N r1 k1 z1 hc1) (goodV q130 q131 q132 q5 q133) 1 rfl hd_Row_makeRoom (Nat.le_trans (by decide) hRf) (Nat.le_trans (by decide) hRl) [0, 1] [] rfl rfl (by decide) (by decide) (by decide) 1 0 rfl rfl rfl (Nat.le_of_ble_eq_true rfl) d_Row_add_7 (by omega) (by omega) (fun w1 H locs hE hP hD hS => ?_)
  obtain ⟨b2, rfl⟩ := hE
  have hP : va_P G.1 classes [(a0, .inr (1, [.ref b2, .int x0_1])), (b2, .inl (G.2.1 0, r1.1, .inl r1.2))] H := hP
  have hD : va_D A [(a0, .inr (1, [.ref b2, .int x0_1])), (b2, .inl (G.2.1 0, r1.1, .inl r1.2))] := hD
  refine lv_aload_n hx hb d_Row_add_10 rfl (lv_at hl 0 rfl) ?_
  refine va_get (D := G.1) (ci := 1) (v := .ref b2) (C := R_Row) (T := F_Row) (N := 2) hx hb hts i_Row hown hK hP 0 rfl rfl 0 (by decide) (hts _ q8) (fun _ h9 => h9) rfl d_Row_add_11 ?_
  refine lv_aload_n hx hb d_Row_add_14 rfl (lv_at hl 0 rfl) ?_
  refine va_get (D := G.1) (ci := 1) (v := .int x0_1) (C := R_Row) (T := F_Row) (N := 2) hx hb hts i_Row hown hK hP 0 rfl rfl 1 (by decide) (hts _ q9) (fun _ h9 => h9) rfl d_Row_add_15 ?_
  refine lv_iload_n hx hb d_Row_add_18 rfl (lv_at hl 1 rfl) ?_
  refine lv_i2b (v := p1.toInt8.toInt32) hx hb d_Row_add_19 rfl ?_
  obtain ⟨hi3, h⟩ := Ix_e h
  refine y_bast hx hb hK hP hD hS 1 0 rfl rfl hi3 d_Row_add_20 (fun g4 H locs eg4 hP hD hS => ?_)
  replace h := Lt_e h eg4
  have hP : va_P G.1 classes [(a0, .inr (1, [.ref b2, .int x0_1])), (b2, .inl (G.2.1 0, r1.1, .inl g4))] H := hP
  have hD : va_D A [(a0, .inr (1, [.ref b2, .int x0_1])), (b2, .inl (G.2.1 0, r1.1, .inl g4))] := hD
  refine lv_aload_n hx hb d_Row_add_21 rfl (lv_at hl 0 rfl) ?_
  refine lv_dup hx hb d_Row_add_22 rfl ?_
  refine va_get (D := G.1) (ci := 1) (v := .int x0_1) (C := R_Row) (T := F_Row) (N := 2) hx hb hts i_Row hown hK hP 0 rfl rfl 1 (by decide) (hts _ q9) (fun _ h9 => h9) rfl d_Row_add_23 ?_
  refine lv_iconst (v := 1) hx hb d_Row_add_26 (by decide) ?_
  refine lv_iadd hx hb d_Row_add_27 ?_
  refine lv_topi (fun v5 ev5 => ?_)
  replace h := Lt_e h ev5
  refine va_put (D := G.1) (ci := 1) (v := .int v5) (ty := .int) (C := R_Row) (T := F_Row) (N := 2) hx hb hts i_Row t_Row t_Row_ok n_Row hown hK hP hD hS 0 rfl rfl 1 (by decide) (hts _ q9) (fun _ h9 => h9) rfl (by decide +kernel) rfl rfl (Nat.le_of_ble_eq_true rfl) d_Row_add_28 (fun H locs hP hD hS => ?_)
  have hP : va_P G.1 classes [(a0, .inr (1, [.ref b2, .int v5])), (b2, .inl (G.2.1 0, r1.1, .inl g4))] H := hP
  have hD : va_D A [(a0, .inr (1, [.ref b2, .int v5])), (b2, .inl (G.2.1 0, r1.1, .inl g4))] := hD
  obtain ⟨eV, ek, ez⟩ := so3 h
  subst eV
  exact x_vret C0 hQ hP hD hS ⟨b2, rfl⟩ (by omega) (by omega) d_Row_add_31
set_option maxHeartbeats 4000000 in
set_option maxRecDepth 100000 in
theorem c_Row_addNumber (l : Launch) (G : GX) (a0 a1 : Nat) (sz : Nat) (x0_1 : Int32) (n1 : Nat) (f1 : (Nat → Int32)) (p1 : Int32) (N : Nat) (V : Int32 × Nat × (Nat → Int32)) (K Z : Nat) (h : f_Row_addNumber N x0_1 n1 f1 p1 = some (V, K, Z)) :
    Met l y_Row_addNumber (wd y_Row_addNumber b_Row_addNumber 2 none) { frames := 4, cells := K, slots := Z, locals := 125 } (PX G [.ref a0, .int p1] sz [(a0, .inr (1, [.ref a1, .int x0_1])), (a1, .inl (G.2.1 0, n1, .inl f1))])
      (QXv G (fun w => ∃ e0 : Nat, w = [(a0, .inr (1, [.ref e0, .int V.1])), (e0, .inl (G.2.1 0, V.2.1, .inl V.2.2))]) (va_A [(a0, .inr (1, [.ref a1, .int x0_1])), (a1, .inl (G.2.1 0, n1, .inl f1))] sz)) K Z (va_A [(a0, .inr (1, [.ref a1, .int x0_1])), (a1, .inl (G.2.1 0, n1, .inl f1))] sz) := by
  refine Met_in (QQ := fun A => QXv G (fun w => ∃ e0 : Nat, w = [(a0, .inr (1, [.ref e0, .int V.1])), (e0, .inl (G.2.1 0, V.2.1, .inl V.2.2))]) A) (by decide) (Nat.le_of_ble_eq_true rfl) (fun p e s m below meth c R Q A ls C0 hRf hRl hRc hRs hP hK hD hT hA hS hl hQ => ?_)
  obtain ⟨hx, hb, hml, hown, hts, hr, hlocks, hin⟩ := id C0
  have hown : s.vm.findClass R_Row = some m.cls := hown
  have hl : lv_has ls 2 [(0, .ref a0), (1, .int p1)] := hl
  unfold f_Row_addNumber at h
  have hKT : K ≤ R.cells := Nat.le_of_eq hRc.symm
  have hZT : Z ≤ R.slots := Nat.le_of_eq hRs.symm
  have ekc : 0 + K = K := by omega
  have ezc : 0 + Z = Z := by omega
  obtain ⟨H, hH⟩ : ∃ H, H = s.heap := ⟨_, rfl⟩
  obtain ⟨locs, hlc⟩ : ∃ x : List Loc, x = [] := ⟨_, rfl⟩
  rw [← hH] at hP
  have hS : va_S A s.heap H locs := by rw [hH, hlc]; exact hS
  suffices hgo : W p l e R s m [.ref a0, .int p1].toArray below meth c H locs 0 0 Q (F0 m 0 ls []) by rw [hH, hlc] at hgo; exact hgo
  refine lv_aload_n hx hb d_Row_addNumber_0 rfl (lv_at hl 0 rfl) ?_
  refine lv_iload_n hx hb d_Row_addNumber_1 rfl (lv_at hl 1 rfl) ?_
  refine lv_bipush (v := 24) hx hb d_Row_addNumber_2 (by decide) ?_
  refine lv_iushr (v := us p1 24) hx hb d_Row_addNumber_4 rfl ?_
  obtain ⟨r1, k1, z1, kk1, zz1, hc1, h, ek1, ez1⟩ := Bk_e h
  have ekc : 0 + k1 + kk1 = K := by omega
  have ezc : 0 + z1 + zz1 = Z := by omega
  refine xV_v (wr := []) (rest := []) C0 hK hT hA hP hD hS hl.1 (c_Row_add l G a0 a1 _ x0_1 n1 f1 (us p1 24) N r1 k1 z1 hc1) (goodV q134 q135 q136 q5 q137) 1 rfl hd_Row_add (Nat.le_trans (by decide) hRf) (Nat.le_trans (by decide) hRl) [0, 1] [] rfl rfl (by decide) (by decide) (by decide) 1 0 rfl rfl rfl (Nat.le_of_ble_eq_true rfl) d_Row_addNumber_5 (by omega) (by omega) (fun w1 H locs hE hP hD hS => ?_)
  obtain ⟨b2, rfl⟩ := hE
  have hP : va_P G.1 classes [(a0, .inr (1, [.ref b2, .int r1.1])), (b2, .inl (G.2.1 0, r1.2.1, .inl r1.2.2))] H := hP
  have hD : va_D A [(a0, .inr (1, [.ref b2, .int r1.1])), (b2, .inl (G.2.1 0, r1.2.1, .inl r1.2.2))] := hD
  refine lv_aload_n hx hb d_Row_addNumber_8 rfl (lv_at hl 0 rfl) ?_
  refine lv_iload_n hx hb d_Row_addNumber_9 rfl (lv_at hl 1 rfl) ?_
  refine lv_bipush (v := 16) hx hb d_Row_addNumber_10 (by decide) ?_
  refine lv_iushr (v := us p1 16) hx hb d_Row_addNumber_12 rfl ?_
  obtain ⟨r3, k3, z3, kk3, zz3, hc3, h, ek3, ez3⟩ := Bk_e h
  have ekc : 0 + k1 + k3 + kk3 = K := by omega
  have ezc : 0 + z1 + z3 + zz3 = Z := by omega
  refine xV_v (wr := []) (rest := []) C0 hK hT hA hP hD hS hl.1 (c_Row_add l G a0 b2 _ r1.1 r1.2.1 r1.2.2 (us p1 16) N r3 k3 z3 hc3) (goodV q134 q135 q136 q5 q137) 1 rfl hd_Row_add (Nat.le_trans (by decide) hRf) (Nat.le_trans (by decide) hRl) [0, 1] [] rfl rfl (by decide) (by decide) (by decide) 1 0 rfl rfl rfl (Nat.le_of_ble_eq_true rfl) d_Row_addNumber_13 (by omega) (by omega) (fun w1 H locs hE hP hD hS => ?_)
  obtain ⟨b4, rfl⟩ := hE
  have hP : va_P G.1 classes [(a0, .inr (1, [.ref b4, .int r3.1])), (b4, .inl (G.2.1 0, r3.2.1, .inl r3.2.2))] H := hP
  have hD : va_D A [(a0, .inr (1, [.ref b4, .int r3.1])), (b4, .inl (G.2.1 0, r3.2.1, .inl r3.2.2))] := hD
  refine lv_aload_n hx hb d_Row_addNumber_16 rfl (lv_at hl 0 rfl) ?_
  refine lv_iload_n hx hb d_Row_addNumber_17 rfl (lv_at hl 1 rfl) ?_
  refine lv_bipush (v := 8) hx hb d_Row_addNumber_18 (by decide) ?_
  refine lv_iushr (v := us p1 8) hx hb d_Row_addNumber_20 rfl ?_
  obtain ⟨r5, k5, z5, kk5, zz5, hc5, h, ek5, ez5⟩ := Bk_e h
  have ekc : 0 + k1 + k3 + k5 + kk5 = K := by omega
  have ezc : 0 + z1 + z3 + z5 + zz5 = Z := by omega
  refine xV_v (wr := []) (rest := []) C0 hK hT hA hP hD hS hl.1 (c_Row_add l G a0 b4 _ r3.1 r3.2.1 r3.2.2 (us p1 8) N r5 k5 z5 hc5) (goodV q134 q135 q136 q5 q137) 1 rfl hd_Row_add (Nat.le_trans (by decide) hRf) (Nat.le_trans (by decide) hRl) [0, 1] [] rfl rfl (by decide) (by decide) (by decide) 1 0 rfl rfl rfl (Nat.le_of_ble_eq_true rfl) d_Row_addNumber_21 (by omega) (by omega) (fun w1 H locs hE hP hD hS => ?_)
  obtain ⟨b6, rfl⟩ := hE
  have hP : va_P G.1 classes [(a0, .inr (1, [.ref b6, .int r5.1])), (b6, .inl (G.2.1 0, r5.2.1, .inl r5.2.2))] H := hP
  have hD : va_D A [(a0, .inr (1, [.ref b6, .int r5.1])), (b6, .inl (G.2.1 0, r5.2.1, .inl r5.2.2))] := hD
  refine lv_aload_n hx hb d_Row_addNumber_24 rfl (lv_at hl 0 rfl) ?_
  refine lv_iload_n hx hb d_Row_addNumber_25 rfl (lv_at hl 1 rfl) ?_
  obtain ⟨r7, k7, z7, kk7, zz7, hc7, h, ek7, ez7⟩ := Bk_e h
  have ekc : 0 + k1 + k3 + k5 + k7 + kk7 = K := by omega
  have ezc : 0 + z1 + z3 + z5 + z7 + zz7 = Z := by omega
  refine xV_v (wr := []) (rest := []) C0 hK hT hA hP hD hS hl.1 (c_Row_add l G a0 b6 _ r5.1 r5.2.1 r5.2.2 p1 N r7 k7 z7 hc7) (goodV q134 q135 q136 q5 q137) 1 rfl hd_Row_add (Nat.le_trans (by decide) hRf) (Nat.le_trans (by decide) hRl) [0, 1] [] rfl rfl (by decide) (by decide) (by decide) 1 0 rfl rfl rfl (Nat.le_of_ble_eq_true rfl) d_Row_addNumber_26 (by omega) (by omega) (fun w1 H locs hE hP hD hS => ?_)
  obtain ⟨b8, rfl⟩ := hE
  have hP : va_P G.1 classes [(a0, .inr (1, [.ref b8, .int r7.1])), (b8, .inl (G.2.1 0, r7.2.1, .inl r7.2.2))] H := hP
  have hD : va_D A [(a0, .inr (1, [.ref b8, .int r7.1])), (b8, .inl (G.2.1 0, r7.2.1, .inl r7.2.2))] := hD
  obtain ⟨eV, ek, ez⟩ := so3 h
  subst eV
  exact x_vret C0 hQ hP hD hS ⟨b8, rfl⟩ (by omega) (by omega) d_Row_addNumber_29
theorem own_TP_feed : inT (Jvm.Bundle.ownAtoms R_TP 52 "java/lang/IllegalStateException" ["java/lang/RuntimeException", "java/lang/Exception"]) [50, 436, 445, 450, 453, 455, 437, 438, 65, 66, 439, 444, 451, 471, 426, 472, 428, 473, 430, 440, 441, 442, 443, 432, 467, 468, 470, 432, 458, 459, 460, 461, 418, 461, 462, 463, 464, 420, 464, 465, 466, 467, 422, 457, 415, 416, 423, 424, 425, 427, 429, 431, 0, 0, 435, 434, 433] = true := by decide +kernel
set_option maxHeartbeats 4000000 in
set_option maxRecDepth 100000 in
theorem c_TP_feed (l : Launch) (htr : l.stackTraces = false) (G : GX) (a0 a1 a2 o0_1 o0_2 o0_3 o0_4 o0_5 : Nat) (sz : Nat) (x0_6 : Int32) (x0_7 : Int32) (x0_8 : Int32) (x1_1 : Int32) (n2 : Nat) (f2 : (Nat → Int32)) (p1 : Int32) (p2 : Int32) (p3 : Int32) (p4 : Int32) (p5 : Int32) (N : Nat) (V : Nat × Int32 × Int32 × Nat × (Nat → Int32)) (K Z : Nat) (h : f_TP_feed N x1_1 n2 f2 p1 p2 p3 p4 p5 = some (V, K, Z)) :
    MetT l y_TP_feed (wd y_TP_feed b_TP_feed 6 (some .int)) { frames := 6, cells := K, slots := Z, locals := 146 } (PX G [.ref a0, .int p1, .int p2, .int p3, .int p4, .int p5] sz [(a0, .inr (0, [.ref a1, .ref o0_1, .ref o0_2, .ref o0_3, .ref o0_4, .ref o0_5, .int x0_6, .int x0_7, .int x0_8])), (a1, .inr (1, [.ref a2, .int x1_1])), (a2, .inl (G.2.1 0, n2, .inl f2))])
      (QT G V.1 (some (.int V.2.1)) "java/lang/IllegalStateException" (fun w => ∃ e0 : Nat, w = [(a0, .inr (0, [.ref a1, .ref o0_1, .ref o0_2, .ref o0_3, .ref o0_4, .ref o0_5, .int x0_6, .int x0_7, .int x0_8])), (a1, .inr (1, [.ref e0, .int V.2.2.1])), (e0, .inl (G.2.1 0, V.2.2.2.1, .inl V.2.2.2.2))]) (va_A [(a0, .inr (0, [.ref a1, .ref o0_1, .ref o0_2, .ref o0_3, .ref o0_4, .ref o0_5, .int x0_6, .int x0_7, .int x0_8])), (a1, .inr (1, [.ref a2, .int x1_1])), (a2, .inl (G.2.1 0, n2, .inl f2))] sz)) K Z (va_A [(a0, .inr (0, [.ref a1, .ref o0_1, .ref o0_2, .ref o0_3, .ref o0_4, .ref o0_5, .int x0_6, .int x0_7, .int x0_8])), (a1, .inr (1, [.ref a2, .int x1_1])), (a2, .inl (G.2.1 0, n2, .inl f2))] sz) := by
  refine MetT_in (QQ := fun A => QT G V.1 (some (.int V.2.1)) "java/lang/IllegalStateException" (fun w => ∃ e0 : Nat, w = [(a0, .inr (0, [.ref a1, .ref o0_1, .ref o0_2, .ref o0_3, .ref o0_4, .ref o0_5, .int x0_6, .int x0_7, .int x0_8])), (a1, .inr (1, [.ref e0, .int V.2.2.1])), (e0, .inl (G.2.1 0, V.2.2.2.1, .inl V.2.2.2.2))]) A) (by decide) (Nat.le_of_ble_eq_true rfl) (fun p e s m below meth c R Q A ls C0 hex hRf hRl hRc hRs hP hK hD hT hA hS hl hQ => ?_)
  obtain ⟨hx, hb, hml, hown, hts, hr, hlocks, hin⟩ := id C0
  have hown : s.vm.findClass R_TP = some m.cls := hown
  have hl : lv_has ls 6 [(0, .ref a0), (1, .int p1), (2, .int p2), (3, .int p3), (4, .int p4), (5, .int p5)] := hl
  unfold f_TP_feed at h
  have hKT : K ≤ R.cells := Nat.le_of_eq hRc.symm
  have hZT : Z ≤ R.slots := Nat.le_of_eq hRs.symm
  have ekc : 0 + K = K := by omega
  have ezc : 0 + Z = Z := by omega
  obtain ⟨H, hH⟩ : ∃ H, H = s.heap := ⟨_, rfl⟩
  obtain ⟨locs, hlc⟩ : ∃ x : List Loc, x = [] := ⟨_, rfl⟩
  rw [← hH] at hP
  have hS : va_S A s.heap H locs := by rw [hH, hlc]; exact hS
  suffices hgo : W p l e R s m [.ref a0, .int p1, .int p2, .int p3, .int p4, .int p5].toArray below meth c H locs 0 0 Q (F0 m 0 ls []) by rw [hH, hlc] at hgo; exact hgo
  refine lv_aload_n hx hb d_TP_feed_0 rfl (lv_at hl 0 rfl) ?_
  refine va_get (D := G.1) (ci := 0) (v := .ref a1) (C := R_TP) (T := F_TP) (N := 9) hx hb hts i_TP hown hK hP 0 rfl rfl 0 (by decide) (hts _ q13) (fun _ h9 => h9) rfl d_TP_feed_1 ?_
  obtain ⟨r1, hc1, h⟩ := Bd_e h
  refine xV_i0 (wr := [(a0, .inr (0, [.ref a1, .ref o0_1, .ref o0_2, .ref o0_3, .ref o0_4, .ref o0_5, .int x0_6, .int x0_7, .int x0_8])), (a2, .inl (G.2.1 0, n2, .inl f2))]) (rest := []) C0 hK hT hA hP hD hS hl.1 (c_Row_length l G a1 a2 _ x1_1  N r1 hc1) (goodV q109 q110 q111 q5 q112) 0 rfl hd_Row_length (Nat.le_trans (by decide) hRf) (Nat.le_trans (by decide) hRl) [1] [0, 2] rfl rfl (by decide) (by decide) (by decide) 1 1 rfl rfl rfl (Nat.le_of_ble_eq_true rfl) d_TP_feed_4 (by omega) (by omega) (fun w1 H locs hE hP hD hS => ?_)
  subst hE
  have hP : va_P G.1 classes [(a0, .inr (0, [.ref a1, .ref o0_1, .ref o0_2, .ref o0_3, .ref o0_4, .ref o0_5, .int x0_6, .int x0_7, .int x0_8])), (a2, .inl (G.2.1 0, n2, .inl f2)), (a1, .inr (1, [.ref a2, .int x1_1]))] H := hP
  have hD : va_D A [(a0, .inr (0, [.ref a1, .ref o0_1, .ref o0_2, .ref o0_3, .ref o0_4, .ref o0_5, .int x0_6, .int x0_7, .int x0_8])), (a2, .inl (G.2.1 0, n2, .inl f2)), (a1, .inr (1, [.ref a2, .int x1_1]))] := hD
  refine lv_bipush (v := 20) hx hb d_TP_feed_7 (by decide) ?_
  refine lv_iadd hx hb d_TP_feed_9 ?_
  refine lv_ldc (v := 65536) hx hb hown (hts _ q113) d_TP_feed_10 ?_
  refine lv_icmp_le (tgt := 25) hx hb d_TP_feed_12 (by decide) (fun cq2 => ?_) (fun cq2 => ?_)
  · replace h := (if_pos cq2).symm.trans h
    refine lv_aload_n hx hb d_TP_feed_25 rfl (lv_at hl 0 rfl) ?_
    refine va_get (D := G.1) (ci := 0) (v := .ref a1) (C := R_TP) (T := F_TP) (N := 9) hx hb hts i_TP hown hK hP 0 rfl rfl 0 (by decide) (hts _ q13) (fun _ h9 => h9) rfl d_TP_feed_26 ?_
    refine lv_iload_n hx hb d_TP_feed_29 rfl (lv_at hl 1 rfl) ?_
    obtain ⟨r3, k3, z3, kk3, zz3, hc3, h, ek3, ez3⟩ := Bk_e h
    have ekc : 0 + k3 + kk3 = K := by omega
    have ezc : 0 + z3 + zz3 = Z := by omega
    refine xV_v (wr := [(a0, .inr (0, [.ref a1, .ref o0_1, .ref o0_2, .ref o0_3, .ref o0_4, .ref o0_5, .int x0_6, .int x0_7, .int x0_8]))]) (rest := []) C0 hK hT hA hP hD hS hl.1 (c_Row_addNumber l G a1 a2 _ x1_1 n2 f2 p1 N r3 k3 z3 hc3) (goodV q138 q139 q140 q5 q141) 1 rfl hd_Row_addNumber (Nat.le_trans (by decide) hRf) (Nat.le_trans (by decide) hRl) [2, 1] [0] rfl rfl (by decide) (by decide) (by decide) 1 2 rfl rfl rfl (Nat.le_of_ble_eq_true rfl) d_TP_feed_30 (by omega) (by omega) (fun w1 H locs hE hP hD hS => ?_)
    obtain ⟨b4, rfl⟩ := hE
    have hP : va_P G.1 classes [(a0, .inr (0, [.ref a1, .ref o0_1, .ref o0_2, .ref o0_3, .ref o0_4, .ref o0_5, .int x0_6, .int x0_7, .int x0_8])), (a1, .inr (1, [.ref b4, .int r3.1])), (b4, .inl (G.2.1 0, r3.2.1, .inl r3.2.2))] H := hP
    have hD : va_D A [(a0, .inr (0, [.ref a1, .ref o0_1, .ref o0_2, .ref o0_3, .ref o0_4, .ref o0_5, .int x0_6, .int x0_7, .int x0_8])), (a1, .inr (1, [.ref b4, .int r3.1])), (b4, .inl (G.2.1 0, r3.2.1, .inl r3.2.2))] := hD
    refine lv_aload_n hx hb d_TP_feed_33 rfl (lv_at hl 0 rfl) ?_
    refine va_get (D := G.1) (ci := 0) (v := .ref a1) (C := R_TP) (T := F_TP) (N := 9) hx hb hts i_TP hown hK hP 0 rfl rfl 0 (by decide) (hts _ q13) (fun _ h9 => h9) rfl d_TP_feed_34 ?_
    refine lv_iload_n hx hb d_TP_feed_37 rfl (lv_at hl 2 rfl) ?_
    obtain ⟨r5, k5, z5, kk5, zz5, hc5, h, ek5, ez5⟩ := Bk_e h
    have ekc : 0 + k3 + k5 + kk5 = K := by omega
    have ezc : 0 + z3 + z5 + zz5 = Z := by omega
    refine xV_v (wr := [(a0, .inr (0, [.ref a1, .ref o0_1, .ref o0_2, .ref o0_3, .ref o0_4, .ref o0_5, .int x0_6, .int x0_7, .int x0_8]))]) (rest := []) C0 hK hT hA hP hD hS hl.1 (c_Row_addNumber l G a1 b4 _ r3.1 r3.2.1 r3.2.2 p2 N r5 k5 z5 hc5) (goodV q138 q139 q140 q5 q141) 1 rfl hd_Row_addNumber (Nat.le_trans (by decide) hRf) (Nat.le_trans (by decide) hRl) [1, 2] [0] rfl rfl (by decide) (by decide) (by decide) 1 1 rfl rfl rfl (Nat.le_of_ble_eq_true rfl) d_TP_feed_38 (by omega) (by omega) (fun w1 H locs hE hP hD hS => ?_)
    obtain ⟨b6, rfl⟩ := hE
    have hP : va_P G.1 classes [(a0, .inr (0, [.ref a1, .ref o0_1, .ref o0_2, .ref o0_3, .ref o0_4, .ref o0_5, .int x0_6, .int x0_7, .int x0_8])), (a1, .inr (1, [.ref b6, .int r5.1])), (b6, .inl (G.2.1 0, r5.2.1, .inl r5.2.2))] H := hP
    have hD : va_D A [(a0, .inr (0, [.ref a1, .ref o0_1, .ref o0_2, .ref o0_3, .ref o0_4, .ref o0_5, .int x0_6, .int x0_7, .int x0_8])), (a1, .inr (1, [.ref b6, .int r5.1])), (b6, .inl (G.2.1 0, r5.2.1, .inl r5.2.2))] := hD
    refine lv_aload_n hx hb d_TP_feed_41 rfl (lv_at hl 0 rfl) ?_
    refine va_get (D := G.1) (ci := 0) (v := .ref a1) (C := R_TP) (T := F_TP) (N := 9) hx hb hts i_TP hown hK hP 0 rfl rfl 0 (by decide) (hts _ q13) (fun _ h9 => h9) rfl d_TP_feed_42 ?_
    refine lv_iload_n hx hb d_TP_feed_45 rfl (lv_at hl 3 rfl) ?_
    obtain ⟨r7, k7, z7, kk7, zz7, hc7, h, ek7, ez7⟩ := Bk_e h
    have ekc : 0 + k3 + k5 + k7 + kk7 = K := by omega
    have ezc : 0 + z3 + z5 + z7 + zz7 = Z := by omega
    refine xV_v (wr := [(a0, .inr (0, [.ref a1, .ref o0_1, .ref o0_2, .ref o0_3, .ref o0_4, .ref o0_5, .int x0_6, .int x0_7, .int x0_8]))]) (rest := []) C0 hK hT hA hP hD hS hl.1 (c_Row_addNumber l G a1 b6 _ r5.1 r5.2.1 r5.2.2 p3 N r7 k7 z7 hc7) (goodV q138 q139 q140 q5 q141) 1 rfl hd_Row_addNumber (Nat.le_trans (by decide) hRf) (Nat.le_trans (by decide) hRl) [1, 2] [0] rfl rfl (by decide) (by decide) (by decide) 1 1 rfl rfl rfl (Nat.le_of_ble_eq_true rfl) d_TP_feed_46 (by omega) (by omega) (fun w1 H locs hE hP hD hS => ?_)
    obtain ⟨b8, rfl⟩ := hE
    have hP : va_P G.1 classes [(a0, .inr (0, [.ref a1, .ref o0_1, .ref o0_2, .ref o0_3, .ref o0_4, .ref o0_5, .int x0_6, .int x0_7, .int x0_8])), (a1, .inr (1, [.ref b8, .int r7.1])), (b8, .inl (G.2.1 0, r7.2.1, .inl r7.2.2))] H := hP
    have hD : va_D A [(a0, .inr (0, [.ref a1, .ref o0_1, .ref o0_2, .ref o0_3, .ref o0_4, .ref o0_5, .int x0_6, .int x0_7, .int x0_8])), (a1, .inr (1, [.ref b8, .int r7.1])), (b8, .inl (G.2.1 0, r7.2.1, .inl r7.2.2))] := hD
    refine lv_aload_n hx hb d_TP_feed_49 rfl (lv_at hl 0 rfl) ?_
    refine va_get (D := G.1) (ci := 0) (v := .ref a1) (C := R_TP) (T := F_TP) (N := 9) hx hb hts i_TP hown hK hP 0 rfl rfl 0 (by decide) (hts _ q13) (fun _ h9 => h9) rfl d_TP_feed_50 ?_
    refine lv_iload hx hb d_TP_feed_53 (lv_at hl 4 rfl) ?_
    obtain ⟨r9, k9, z9, kk9, zz9, hc9, h, ek9, ez9⟩ := Bk_e h
    have ekc : 0 + k3 + k5 + k7 + k9 + kk9 = K := by omega
    have ezc : 0 + z3 + z5 + z7 + z9 + zz9 = Z := by omega
    refine xV_v (wr := [(a0, .inr (0, [.ref a1, .ref o0_1, .ref o0_2, .ref o0_3, .ref o0_4, .ref o0_5, .int x0_6, .int x0_7, .int x0_8]))]) (rest := []) C0 hK hT hA hP hD hS hl.1 (c_Row_addNumber l G a1 b8 _ r7.1 r7.2.1 r7.2.2 p4 N r9 k9 z9 hc9) (goodV q138 q139 q140 q5 q141) 1 rfl hd_Row_addNumber (Nat.le_trans (by decide) hRf) (Nat.le_trans (by decide) hRl) [1, 2] [0] rfl rfl (by decide) (by decide) (by decide) 1 1 rfl rfl rfl (Nat.le_of_ble_eq_true rfl) d_TP_feed_55 (by omega) (by omega) (fun w1 H locs hE hP hD hS => ?_)
    obtain ⟨b10, rfl⟩ := hE
    have hP : va_P G.1 classes [(a0, .inr (0, [.ref a1, .ref o0_1, .ref o0_2, .ref o0_3, .ref o0_4, .ref o0_5, .int x0_6, .int x0_7, .int x0_8])), (a1, .inr (1, [.ref b10, .int r9.1])), (b10, .inl (G.2.1 0, r9.2.1, .inl r9.2.2))] H := hP
    have hD : va_D A [(a0, .inr (0, [.ref a1, .ref o0_1, .ref o0_2, .ref o0_3, .ref o0_4, .ref o0_5, .int x0_6, .int x0_7, .int x0_8])), (a1, .inr (1, [.ref b10, .int r9.1])), (b10, .inl (G.2.1 0, r9.2.1, .inl r9.2.2))] := hD
    refine lv_aload_n hx hb d_TP_feed_58 rfl (lv_at hl 0 rfl) ?_
    refine va_get (D := G.1) (ci := 0) (v := .ref a1) (C := R_TP) (T := F_TP) (N := 9) hx hb hts i_TP hown hK hP 0 rfl rfl 0 (by decide) (hts _ q13) (fun _ h9 => h9) rfl d_TP_feed_59 ?_
    refine lv_iload hx hb d_TP_feed_62 (lv_at hl 5 rfl) ?_
    obtain ⟨r11, k11, z11, kk11, zz11, hc11, h, ek11, ez11⟩ := Bk_e h
    have ekc : 0 + k3 + k5 + k7 + k9 + k11 + kk11 = K := by omega
    have ezc : 0 + z3 + z5 + z7 + z9 + z11 + zz11 = Z := by omega
    refine xV_v (wr := [(a0, .inr (0, [.ref a1, .ref o0_1, .ref o0_2, .ref o0_3, .ref o0_4, .ref o0_5, .int x0_6, .int x0_7, .int x0_8]))]) (rest := []) C0 hK hT hA hP hD hS hl.1 (c_Row_addNumber l G a1 b10 _ r9.1 r9.2.1 r9.2.2 p5 N r11 k11 z11 hc11) (goodV q138 q139 q140 q5 q141) 1 rfl hd_Row_addNumber (Nat.le_trans (by decide) hRf) (Nat.le_trans (by decide) hRl) [1, 2] [0] rfl rfl (by decide) (by decide) (by decide) 1 1 rfl rfl rfl (Nat.le_of_ble_eq_true rfl) d_TP_feed_64 (by omega) (by omega) (fun w1 H locs hE hP hD hS => ?_)
    obtain ⟨b12, rfl⟩ := hE
    have hP : va_P G.1 classes [(a0, .inr (0, [.ref a1, .ref o0_1, .ref o0_2, .ref o0_3, .ref o0_4, .ref o0_5, .int x0_6, .int x0_7, .int x0_8])), (a1, .inr (1, [.ref b12, .int r11.1])), (b12, .inl (G.2.1 0, r11.2.1, .inl r11.2.2))] H := hP
    have hD : va_D A [(a0, .inr (0, [.ref a1, .ref o0_1, .ref o0_2, .ref o0_3, .ref o0_4, .ref o0_5, .int x0_6, .int x0_7, .int x0_8])), (a1, .inr (1, [.ref b12, .int r11.1])), (b12, .inl (G.2.1 0, r11.2.1, .inl r11.2.2))] := hD
    refine lv_aload_n hx hb d_TP_feed_67 rfl (lv_at hl 0 rfl) ?_
    refine va_get (D := G.1) (ci := 0) (v := .ref a1) (C := R_TP) (T := F_TP) (N := 9) hx hb hts i_TP hown hK hP 0 rfl rfl 0 (by decide) (hts _ q13) (fun _ h9 => h9) rfl d_TP_feed_68 ?_
    obtain ⟨r13, hc13, h⟩ := Bd_e h
    refine xV_i0 (wr := [(a0, .inr (0, [.ref a1, .ref o0_1, .ref o0_2, .ref o0_3, .ref o0_4, .ref o0_5, .int x0_6, .int x0_7, .int x0_8])), (b12, .inl (G.2.1 0, r11.2.1, .inl r11.2.2))]) (rest := []) C0 hK hT hA hP hD hS hl.1 (c_Row_length l G a1 b12 _ r11.1  N r13 hc13) (goodV q109 q110 q111 q5 q112) 0 rfl hd_Row_length (Nat.le_trans (by decide) hRf) (Nat.le_trans (by decide) hRl) [1] [0, 2] rfl rfl (by decide) (by decide) (by decide) 1 1 rfl rfl rfl (Nat.le_of_ble_eq_true rfl) d_TP_feed_71 (by omega) (by omega) (fun w1 H locs hE hP hD hS => ?_)
    subst hE
    have hP : va_P G.1 classes [(a0, .inr (0, [.ref a1, .ref o0_1, .ref o0_2, .ref o0_3, .ref o0_4, .ref o0_5, .int x0_6, .int x0_7, .int x0_8])), (b12, .inl (G.2.1 0, r11.2.1, .inl r11.2.2)), (a1, .inr (1, [.ref b12, .int r11.1]))] H := hP
    have hD : va_D A [(a0, .inr (0, [.ref a1, .ref o0_1, .ref o0_2, .ref o0_3, .ref o0_4, .ref o0_5, .int x0_6, .int x0_7, .int x0_8])), (b12, .inl (G.2.1 0, r11.2.1, .inl r11.2.2)), (a1, .inr (1, [.ref b12, .int r11.1]))] := hD
    obtain ⟨eV, ek, ez⟩ := so3 h
    subst eV
    exact x_iretT C0 hQ (hP.sub (ws' := [(a0, .inr (0, [.ref a1, .ref o0_1, .ref o0_2, .ref o0_3, .ref o0_4, .ref o0_5, .int x0_6, .int x0_7, .int x0_8])), (a1, .inr (1, [.ref b12, .int r11.1])), (b12, .inl (G.2.1 0, r11.2.1, .inl r11.2.2))]) [0, 2, 1] rfl) (hD.sub (ws' := [(a0, .inr (0, [.ref a1, .ref o0_1, .ref o0_2, .ref o0_3, .ref o0_4, .ref o0_5, .int x0_6, .int x0_7, .int x0_8])), (a1, .inr (1, [.ref b12, .int r11.1])), (b12, .inl (G.2.1 0, r11.2.1, .inl r11.2.2))]) [0, 2, 1] (by decide) rfl) hS ⟨b12, rfl⟩ (by omega) (by omega) d_TP_feed_74
  · replace h := (if_neg cq2).symm.trans h
    obtain ⟨k14, z14, h, ek14, ez14⟩ := Ak_e h
    have ekc : 0 + 1 + k14 = K := by omega
    have ezc : 0 + 6 + z14 = Z := by omega
    obtain ⟨eV, ek, ez⟩ := so3 h
    subst eV
    exact z_throw (names := ["java/lang/RuntimeException", "java/lang/Exception"]) C0 hex htr hQ hT (hP.sub (ws' := [(a0, .inr (0, [.ref a1, .ref o0_1, .ref o0_2, .ref o0_3, .ref o0_4, .ref o0_5, .int x0_6, .int x0_7, .int x0_8])), (a1, .inr (1, [.ref a2, .int x1_1])), (a2, .inl (G.2.1 0, n2, .inl f2))]) [0, 2, 1] rfl) (hD.sub (ws' := [(a0, .inr (0, [.ref a1, .ref o0_1, .ref o0_2, .ref o0_3, .ref o0_4, .ref o0_5, .int x0_6, .int x0_7, .int x0_8])), (a1, .inr (1, [.ref a2, .int x1_1])), (a2, .inl (G.2.1 0, n2, .inl f2))]) [0, 2, 1] (by decide) rfl) hS ⟨a2, rfl⟩ hl.1 (by decide +kernel) (by decide +kernel) own_TP_feed q142 q143 q144 q145 d_TP_feed_15 d_TP_feed_18 d_TP_feed_19 d_TP_feed_21 d_TP_feed_24 (Nat.le_trans (by decide) hRf) (Nat.le_trans (by decide) hRl) (by omega) (by omega) hKT hZT
set_option maxHeartbeats 4000000 in
set_option maxRecDepth 100000 in
theorem c_Row_shorten (l : Launch) (G : GX) (a0 o0_0 : Nat) (sz : Nat) (x0_1 : Int32) (p1 : Int32) (N : Nat) (V : Int32) (h : f_Row_shorten N x0_1 p1 = some V) :
    Met l y_Row_shorten (wd y_Row_shorten b_Row_shorten 2 none) { frames := 0, cells := 0, slots := 0, locals := 0 } (PX G [.ref a0, .int p1] sz [(a0, .inr (1, [.ref o0_0, .int x0_1]))])
      (QXv G (fun w => w = [(a0, .inr (1, [.ref o0_0, .int V]))]) (va_A [(a0, .inr (1, [.ref o0_0, .int x0_1]))] sz)) 0 0 (va_A [(a0, .inr (1, [.ref o0_0, .int x0_1]))] sz) := by
  refine Met_in (QQ := fun A => QXv G (fun w => w = [(a0, .inr (1, [.ref o0_0, .int V]))]) A) (by decide) (Nat.le_of_ble_eq_true rfl) (fun p e s m below meth c R Q A ls C0 hRf hRl hRc hRs hP hK hD hT hA hS hl hQ => ?_)
  obtain ⟨hx, hb, hml, hown, hts, hr, hlocks, hin⟩ := id C0
  have hown : s.vm.findClass R_Row = some m.cls := hown
  have hl : lv_has ls 2 [(0, .ref a0), (1, .int p1)] := hl
  unfold f_Row_shorten at h
  have hkc : 0 ≤ R.cells := Nat.zero_le _
  have hks : 0 ≤ R.slots := Nat.zero_le _
  obtain ⟨H, hH⟩ : ∃ H, H = s.heap := ⟨_, rfl⟩
  obtain ⟨locs, hlc⟩ : ∃ x : List Loc, x = [] := ⟨_, rfl⟩
  rw [← hH] at hP
  have hS : va_S A s.heap H locs := by rw [hH, hlc]; exact hS
  suffices hgo : W p l e R s m [.ref a0, .int p1].toArray below meth c H locs 0 0 Q (F0 m 0 ls []) by rw [hH, hlc] at hgo; exact hgo
  refine lv_iload_n hx hb d_Row_shorten_0 rfl (lv_at hl 1 rfl) ?_
  refine lv_if_lt (tgt := 17) hx hb d_Row_shorten_1 (by decide) (fun cq1 => ?_) (fun cq1 => ?_)
  · replace h := (if_pos cq1).symm.trans h
    have eV := so1 h
    subst eV
    exact x_vret C0 hQ hP hD hS rfl (Nat.zero_le _) (Nat.zero_le _) d_Row_shorten_17
  · replace h := (if_neg cq1).symm.trans h
    refine lv_iload_n hx hb d_Row_shorten_4 rfl (lv_at hl 1 rfl) ?_
    refine lv_aload_n hx hb d_Row_shorten_5 rfl (lv_at hl 0 rfl) ?_
    refine va_get (D := G.1) (ci := 1) (v := .int x0_1) (C := R_Row) (T := F_Row) (N := 2) hx hb hts i_Row hown hK hP 0 rfl rfl 1 (by decide) (hts _ q9) (fun _ h9 => h9) rfl d_Row_shorten_6 ?_
    refine lv_icmp_gt (tgt := 17) hx hb d_Row_shorten_9 (by decide) (fun cq2 => ?_) (fun cq2 => ?_)
    · replace h := (if_pos cq2).symm.trans h
      have eV := so1 h
      subst eV
      exact x_vret C0 hQ hP hD hS rfl (Nat.zero_le _) (Nat.zero_le _) d_Row_shorten_17
    · replace h := (if_neg cq2).symm.trans h
      refine lv_aload_n hx hb d_Row_shorten_12 rfl (lv_at hl 0 rfl) ?_
      refine lv_iload_n hx hb d_Row_shorten_13 rfl (lv_at hl 1 rfl) ?_
      refine va_put (D := G.1) (ci := 1) (v := .int p1) (ty := .int) (C := R_Row) (T := F_Row) (N := 2) hx hb hts i_Row t_Row t_Row_ok n_Row hown hK hP hD hS 0 rfl rfl 1 (by decide) (hts _ q9) (fun _ h9 => h9) rfl (by decide +kernel) rfl rfl (Nat.le_of_ble_eq_true rfl) d_Row_shorten_14 (fun H locs hP hD hS => ?_)
      have hP : va_P G.1 classes [(a0, .inr (1, [.ref o0_0, .int p1]))] H := hP
      have hD : va_D A [(a0, .inr (1, [.ref o0_0, .int p1]))] := hD
      have eV := so1 h
      subst eV
      exact x_vret C0 hQ hP hD hS rfl (Nat.zero_le _) (Nat.zero_le _) d_Row_shorten_17
theorem own_TP_end : inT (Jvm.Bundle.ownAtoms R_TP 63 "java/lang/IllegalArgumentException" ["java/lang/RuntimeException", "java/lang/Exception"]) [50, 436, 445, 450, 453, 455, 437, 438, 65, 66, 439, 444, 451, 471, 426, 472, 428, 473, 430, 440, 441, 442, 443, 432, 467, 468, 470, 432, 502, 503, 504, 461, 418, 461, 462, 463, 464, 420, 464, 465, 466, 467, 422, 501, 492, 493, 494, 448, 495, 496, 497, 498, 0, 0, 435, 434, 499] = true := by decide +kernel
set_option maxHeartbeats 4000000 in
set_option maxRecDepth 100000 in
theorem c_TP_end (l : Launch) (htr : l.stackTraces = false) (G : GX) (a0 a1 o0_1 o0_2 o0_3 o0_4 o0_5 o1_0 : Nat) (sz : Nat) (x0_6 : Int32) (x0_7 : Int32) (x0_8 : Int32) (x1_1 : Int32) (p1 : Int32) (N : Nat) (V : Nat × Int32 × Int32) (K Z : Nat) (h : f_TP_end N x1_1 p1 = some (V, K, Z)) :
    MetT l y_TP_end (wd y_TP_end b_TP_end 2 (some .int)) { frames := 6, cells := K, slots := Z, locals := 85 } (PX G [.ref a0, .int p1] sz [(a0, .inr (0, [.ref a1, .ref o0_1, .ref o0_2, .ref o0_3, .ref o0_4, .ref o0_5, .int x0_6, .int x0_7, .int x0_8])), (a1, .inr (1, [.ref o1_0, .int x1_1]))])
      (QT G V.1 (some (.int V.2.1)) "java/lang/IllegalArgumentException" (fun w => w = [(a0, .inr (0, [.ref a1, .ref o0_1, .ref o0_2, .ref o0_3, .ref o0_4, .ref o0_5, .int x0_6, .int x0_7, .int x0_8])), (a1, .inr (1, [.ref o1_0, .int V.2.2]))]) (va_A [(a0, .inr (0, [.ref a1, .ref o0_1, .ref o0_2, .ref o0_3, .ref o0_4, .ref o0_5, .int x0_6, .int x0_7, .int x0_8])), (a1, .inr (1, [.ref o1_0, .int x1_1]))] sz)) K Z (va_A [(a0, .inr (0, [.ref a1, .ref o0_1, .ref o0_2, .ref o0_3, .ref o0_4, .ref o0_5, .int x0_6, .int x0_7, .int x0_8])), (a1, .inr (1, [.ref o1_0, .int x1_1]))] sz) := by
  refine MetT_in (QQ := fun A => QT G V.1 (some (.int V.2.1)) "java/lang/IllegalArgumentException" (fun w => w = [(a0, .inr (0, [.ref a1, .ref o0_1, .ref o0_2, .ref o0_3, .ref o0_4, .ref o0_5, .int x0_6, .int x0_7, .int x0_8])), (a1, .inr (1, [.ref o1_0, .int V.2.2]))]) A) (by decide) (Nat.le_of_ble_eq_true rfl) (fun p e s m below meth c R Q A ls C0 hex hRf hRl hRc hRs hP hK hD hT hA hS hl hQ => ?_)
  obtain ⟨hx, hb, hml, hown, hts, hr, hlocks, hin⟩ := id C0
  have hown : s.vm.findClass R_TP = some m.cls := hown
  have hl : lv_has ls 2 [(0, .ref a0), (1, .int p1)] := hl
  unfold f_TP_end at h
  have hKT : K ≤ R.cells := Nat.le_of_eq hRc.symm
  have hZT : Z ≤ R.slots := Nat.le_of_eq hRs.symm
  have ekc : 0 + K = K := by omega
  have ezc : 0 + Z = Z := by omega
  obtain ⟨H, hH⟩ : ∃ H, H = s.heap := ⟨_, rfl⟩
  obtain ⟨locs, hlc⟩ : ∃ x : List Loc, x = [] := ⟨_, rfl⟩
  rw [← hH] at hP
  have hS : va_S A s.heap H locs := by rw [hH, hlc]; exact hS
  suffices hgo : W p l e R s m [.ref a0, .int p1].toArray below meth c H locs 0 0 Q (F0 m 0 ls []) by rw [hH, hlc] at hgo; exact hgo
  refine lv_iload_n hx hb d_TP_end_0 rfl (lv_at hl 1 rfl) ?_
  obtain ⟨j7, ej7, h⟩ := Jn_e h
  have hj7 : ∀ (t7 : Unit) (kc7 ks7 k7 z7 : Nat) (H : Heap) (locs : List Loc) (ls : Array Slot), j7 t7 = some (V, k7, z7) → kc7 + k7 = K → ks7 + z7 = Z → va_P G.1 classes [(a0, .inr (0, [.ref a1, .ref o0_1, .ref o0_2, .ref o0_3, .ref o0_4, .ref o0_5, .int x0_6, .int x0_7, .int x0_8])), (a1, .inr (1, [.ref o1_0, .int x1_1]))] H → va_D A [(a0, .inr (0, [.ref a1, .ref o0_1, .ref o0_2, .ref o0_3, .ref o0_4, .ref o0_5, .int x0_6, .int x0_7, .int x0_8])), (a1, .inr (1, [.ref o1_0, .int x1_1]))] → va_S A s.heap H locs → lv_has ls 2 [] → W p l e R s m [.ref a0, .int p1].toArray below meth c H locs kc7 ks7 Q (F0 m 15 ls []) := by
    intro t7 kc7 ks7 k7 z7 H locs ls h ekc ezc hP hD hS hl
    replace h := ej7 _ _ h
    obtain ⟨k8, z8, h, ek8, ez8⟩ := Ak_e h
    have ekc : kc7 + 1 + k8 = K := by omega
    have ezc : ks7 + 6 + z8 = Z := by omega
    obtain ⟨eV, ek, ez⟩ := so3 h
    subst eV
    exact z_throw (names := ["java/lang/RuntimeException", "java/lang/Exception"]) C0 hex htr hQ hT hP hD hS rfl hl.1 (by decide +kernel) (by decide +kernel) own_TP_end q150 q151 q152 q153 d_TP_end_15 d_TP_end_18 d_TP_end_19 d_TP_end_21 d_TP_end_24 (Nat.le_trans (by decide) hRf) (Nat.le_trans (by decide) hRl) (by omega) (by omega) hKT hZT
  refine lv_if_lt (tgt := 15) hx hb d_TP_end_1 (by decide) (fun cq9 => ?_) (fun cq9 => ?_)
  · replace h := (if_pos cq9).symm.trans h
    exact hj7 () _ _ _ _ _ _ _ h (by omega) (by omega) hP hD hS (lv_sub hl [] rfl)
  · replace h := (if_neg cq9).symm.trans h
    refine lv_iload_n hx hb d_TP_end_4 rfl (lv_at hl 1 rfl) ?_
    refine lv_aload_n hx hb d_TP_end_5 rfl (lv_at hl 0 rfl) ?_
    refine va_get (D := G.1) (ci := 0) (v := .ref a1) (C := R_TP) (T := F_TP) (N := 9) hx hb hts i_TP hown hK hP 0 rfl rfl 0 (by decide) (hts _ q13) (fun _ h9 => h9) rfl d_TP_end_6 ?_
    obtain ⟨r10, hc10, h⟩ := Bd_e h
    refine xV_i0 (wr := [(a0, .inr (0, [.ref a1, .ref o0_1, .ref o0_2, .ref o0_3, .ref o0_4, .ref o0_5, .int x0_6, .int x0_7, .int x0_8]))]) (rest := [.int p1]) C0 hK hT hA hP hD hS hl.1 (c_Row_length l G a1 o1_0 _ x1_1  N r10 hc10) (goodV q109 q110 q111 q5 q112) 0 rfl hd_Row_length (Nat.le_trans (by decide) hRf) (Nat.le_trans (by decide) hRl) [1] [0] rfl rfl (by decide) (by decide) (by decide) 1 1 rfl rfl rfl (Nat.le_of_ble_eq_true rfl) d_TP_end_9 (by omega) (by omega) (fun w1 H locs hE hP hD hS => ?_)
    subst hE
    have hP : va_P G.1 classes [(a0, .inr (0, [.ref a1, .ref o0_1, .ref o0_2, .ref o0_3, .ref o0_4, .ref o0_5, .int x0_6, .int x0_7, .int x0_8])), (a1, .inr (1, [.ref o1_0, .int x1_1]))] H := hP
    have hD : va_D A [(a0, .inr (0, [.ref a1, .ref o0_1, .ref o0_2, .ref o0_3, .ref o0_4, .ref o0_5, .int x0_6, .int x0_7, .int x0_8])), (a1, .inr (1, [.ref o1_0, .int x1_1]))] := hD
    refine lv_icmp_le (tgt := 25) hx hb d_TP_end_12 (by decide) (fun cq11 => ?_) (fun cq11 => ?_)
    · replace h := (if_pos cq11).symm.trans h
      refine lv_aload_n hx hb d_TP_end_25 rfl (lv_at hl 0 rfl) ?_
      refine va_get (D := G.1) (ci := 0) (v := .ref a1) (C := R_TP) (T := F_TP) (N := 9) hx hb hts i_TP hown hK hP 0 rfl rfl 0 (by decide) (hts _ q13) (fun _ h9 => h9) rfl d_TP_end_26 ?_
      refine lv_aload_n hx hb d_TP_end_29 rfl (lv_at hl 0 rfl) ?_
      refine va_get (D := G.1) (ci := 0) (v := .ref a1) (C := R_TP) (T := F_TP) (N := 9) hx hb hts i_TP hown hK hP 0 rfl rfl 0 (by decide) (hts _ q13) (fun _ h9 => h9) rfl d_TP_end_30 ?_
      obtain ⟨r12, hc12, h⟩ := Bd_e h
      refine xV_i0 (wr := [(a0, .inr (0, [.ref a1, .ref o0_1, .ref o0_2, .ref o0_3, .ref o0_4, .ref o0_5, .int x0_6, .int x0_7, .int x0_8]))]) (rest := [.ref a1]) C0 hK hT hA hP hD hS hl.1 (c_Row_length l G a1 o1_0 _ x1_1  N r12 hc12) (goodV q109 q110 q111 q5 q112) 0 rfl hd_Row_length (Nat.le_trans (by decide) hRf) (Nat.le_trans (by decide) hRl) [1] [0] rfl rfl (by decide) (by decide) (by decide) 1 1 rfl rfl rfl (Nat.le_of_ble_eq_true rfl) d_TP_end_33 (by omega) (by omega) (fun w1 H locs hE hP hD hS => ?_)
      subst hE
      have hP : va_P G.1 classes [(a0, .inr (0, [.ref a1, .ref o0_1, .ref o0_2, .ref o0_3, .ref o0_4, .ref o0_5, .int x0_6, .int x0_7, .int x0_8])), (a1, .inr (1, [.ref o1_0, .int x1_1]))] H := hP
      have hD : va_D A [(a0, .inr (0, [.ref a1, .ref o0_1, .ref o0_2, .ref o0_3, .ref o0_4, .ref o0_5, .int x0_6, .int x0_7, .int x0_8])), (a1, .inr (1, [.ref o1_0, .int x1_1]))] := hD
      refine lv_iload_n hx hb d_TP_end_36 rfl (lv_at hl 1 rfl) ?_
      refine lv_isub hx hb d_TP_end_37 ?_
      obtain ⟨r13, hc13, h⟩ := Bd_e h
      refine xV_v0 (wr := [(a0, .inr (0, [.ref a1, .ref o0_1, .ref o0_2, .ref o0_3, .ref o0_4, .ref o0_5, .int x0_6, .int x0_7, .int x0_8]))]) (rest := []) C0 hK hT hA hP hD hS hl.1 (c_Row_shorten l G a1 o1_0 _ x1_1 (r12 - p1) N r13 hc13) (goodV q146 q147 q148 q5 q149) 1 rfl hd_Row_shorten (Nat.le_trans (by decide) hRf) (Nat.le_trans (by decide) hRl) [1] [0] rfl rfl (by decide) (by decide) (by decide) 1 1 rfl rfl rfl (Nat.le_of_ble_eq_true rfl) d_TP_end_38 (by omega) (by omega) (fun w1 H locs hE hP hD hS => ?_)
      subst hE
      have hP : va_P G.1 classes [(a0, .inr (0, [.ref a1, .ref o0_1, .ref o0_2, .ref o0_3, .ref o0_4, .ref o0_5, .int x0_6, .int x0_7, .int x0_8])), (a1, .inr (1, [.ref o1_0, .int r13]))] H := hP
      have hD : va_D A [(a0, .inr (0, [.ref a1, .ref o0_1, .ref o0_2, .ref o0_3, .ref o0_4, .ref o0_5, .int x0_6, .int x0_7, .int x0_8])), (a1, .inr (1, [.ref o1_0, .int r13]))] := hD
      refine lv_aload_n hx hb d_TP_end_41 rfl (lv_at hl 0 rfl) ?_
      refine va_get (D := G.1) (ci := 0) (v := .ref a1) (C := R_TP) (T := F_TP) (N := 9) hx hb hts i_TP hown hK hP 0 rfl rfl 0 (by decide) (hts _ q13) (fun _ h9 => h9) rfl d_TP_end_42 ?_
      obtain ⟨r14, hc14, h⟩ := Bd_e h
      refine xV_i0 (wr := [(a0, .inr (0, [.ref a1, .ref o0_1, .ref o0_2, .ref o0_3, .ref o0_4, .ref o0_5, .int x0_6, .int x0_7, .int x0_8]))]) (rest := []) C0 hK hT hA hP hD hS hl.1 (c_Row_length l G a1 o1_0 _ r13  N r14 hc14) (goodV q109 q110 q111 q5 q112) 0 rfl hd_Row_length (Nat.le_trans (by decide) hRf) (Nat.le_trans (by decide) hRl) [1] [0] rfl rfl (by decide) (by decide) (by decide) 1 1 rfl rfl rfl (Nat.le_of_ble_eq_true rfl) d_TP_end_45 (by omega) (by omega) (fun w1 H locs hE hP hD hS => ?_)
      subst hE
      have hP : va_P G.1 classes [(a0, .inr (0, [.ref a1, .ref o0_1, .ref o0_2, .ref o0_3, .ref o0_4, .ref o0_5, .int x0_6, .int x0_7, .int x0_8])), (a1, .inr (1, [.ref o1_0, .int r13]))] H := hP
      have hD : va_D A [(a0, .inr (0, [.ref a1, .ref o0_1, .ref o0_2, .ref o0_3, .ref o0_4, .ref o0_5, .int x0_6, .int x0_7, .int x0_8])), (a1, .inr (1, [.ref o1_0, .int r13]))] := hD
      obtain ⟨eV, ek, ez⟩ := so3 h
      subst eV
      exact x_iretT C0 hQ hP hD hS rfl (by omega) (by omega) d_TP_end_48
    · replace h := (if_neg cq11).symm.trans h
      exact hj7 () _ _ _ _ _ _ _ h (by omega) (by omega) hP hD hS (lv_sub hl [] rfl)
