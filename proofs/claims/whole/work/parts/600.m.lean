set_option maxHeartbeats 4000000 in
set_option maxRecDepth 100000 in
theorem c_Row_init (l : Launch) (G : GX) (a0 : Nat) (sz : Nat)   (N : Nat) (V : Unit) (K Z : Nat) (h : f_Row_init N  = some (V, K, Z)) :
    Met l y_Row_init (wd y_Row_init b_Row_init 1 none) { frames := 1, cells := K, slots := Z, locals := 20 } (PX G [.ref a0] sz [(a0, .inr (1, [.null, .int 0]))])
      (QXv G (fun w => ∃ e0 : Nat, w = [(a0, .inr (1, [.ref e0, .int 0])), (e0, .inl (G.2.1 0, 64, .inl ((fun _ => 0))))]) (va_A [(a0, .inr (1, [.null, .int 0]))] sz)) K Z (va_A [(a0, .inr (1, [.null, .int 0]))] sz) := by
  refine Met_in (QQ := fun A => QXv G (fun w => ∃ e0 : Nat, w = [(a0, .inr (1, [.ref e0, .int 0])), (e0, .inl (G.2.1 0, 64, .inl ((fun _ => 0))))]) A) (by decide) (Nat.le_of_ble_eq_true rfl) (fun p e s m below meth c R Q A ls C0 hRf hRl hRc hRs hP hK hD hT hA hS hl hQ => ?_)
  obtain ⟨hx, hb, hml, hown, hts, hr, hlocks, hin⟩ := id C0
  have hown : s.vm.findClass R_Row = some m.cls := hown
  have hl : lv_has ls 1 [(0, .ref a0)] := hl
  unfold f_Row_init at h
  have hKT : K ≤ R.cells := Nat.le_of_eq hRc.symm
  have hZT : Z ≤ R.slots := Nat.le_of_eq hRs.symm
  have ekc : 0 + K = K := by omega
  have ezc : 0 + Z = Z := by omega
  obtain ⟨H, hH⟩ : ∃ H, H = s.heap := ⟨_, rfl⟩
  obtain ⟨locs, hlc⟩ : ∃ x : List Loc, x = [] := ⟨_, rfl⟩
  rw [← hH] at hP
  have hS : va_S A s.heap H locs := by rw [hH, hlc]; exact hS
  suffices hgo : W p l e R s m [.ref a0].toArray below meth c H locs 0 0 Q (F0 m 0 ls []) by rw [hH, hlc] at hgo; exact hgo
  refine lv_aload_n hx hb d_Row_init_0 rfl (lv_at hl 0 rfl) ?_
  refine W.objInit hx hb hown (hts _ q6) (hts _ q1) (hts _ q2) rfl (by rw [hml]; exact hl.1) rfl d_Row_init_1 (Nat.le_trans (by decide) hRf) (Nat.le_trans (Nat.le_of_ble_eq_true rfl) hRl) ?_
  refine W.eq (g2 := F0 m 4 ls []) rfl ?_
  refine lv_aload_n hx hb d_Row_init_4 rfl (lv_at hl 0 rfl) ?_
  refine lv_bipush (v := 64) hx hb d_Row_init_5 (by decide) ?_
  obtain ⟨k2, z2, h, ek2, ez2⟩ := Ak_e h
  have ekc : 0 + 1 + k2 = K := by omega
  have ezc : 0 + 64 + z2 = Z := by omega
  refine y_newaB (N' := 64) hx hb (hts _ q7) hK hP hD hS hA (by decide) (by decide) (by decide) (by omega) (by omega) d_Row_init_7 (fun nq1 H hP hD hS => ?_)
  have hP : va_P G.1 classes [(a0, .inr (1, [.null, .int 0])), (nq1, .inl (G.2.1 0, 64, .inl ((fun _ => 0))))] H := hP
  have hD : va_D A [(a0, .inr (1, [.null, .int 0])), (nq1, .inl (G.2.1 0, 64, .inl ((fun _ => 0))))] := hD
  refine va_put (D := G.1) (ci := 1) (v := .ref nq1) (ty := .array .byte) (C := R_Row) (T := F_Row) (N := 2) hx hb hts i_Row t_Row t_Row_ok n_Row hown hK hP hD hS 0 rfl rfl 0 (by decide) (hts _ q8) (fun _ h9 => h9) rfl (by decide +kernel) rfl rfl (Nat.le_of_ble_eq_true rfl) d_Row_init_9 (fun H locs hP hD hS => ?_)
  have hP : va_P G.1 classes [(a0, .inr (1, [.ref nq1, .int 0])), (nq1, .inl (G.2.1 0, 64, .inl ((fun _ => 0))))] H := hP
  have hD : va_D A [(a0, .inr (1, [.ref nq1, .int 0])), (nq1, .inl (G.2.1 0, 64, .inl ((fun _ => 0))))] := hD
  refine lv_aload_n hx hb d_Row_init_12 rfl (lv_at hl 0 rfl) ?_
  refine lv_iconst (v := 0) hx hb d_Row_init_13 (by decide) ?_
  refine va_put (D := G.1) (ci := 1) (v := .int 0) (ty := .int) (C := R_Row) (T := F_Row) (N := 2) hx hb hts i_Row t_Row t_Row_ok n_Row hown hK hP hD hS 0 rfl rfl 1 (by decide) (hts _ q9) (fun _ h9 => h9) rfl (by decide +kernel) rfl rfl (Nat.le_of_ble_eq_true rfl) d_Row_init_14 (fun H locs hP hD hS => ?_)
  have hP : va_P G.1 classes [(a0, .inr (1, [.ref nq1, .int 0])), (nq1, .inl (G.2.1 0, 64, .inl ((fun _ => 0))))] H := hP
  have hD : va_D A [(a0, .inr (1, [.ref nq1, .int 0])), (nq1, .inl (G.2.1 0, 64, .inl ((fun _ => 0))))] := hD
  obtain ⟨eV, ek, ez⟩ := so3 h
  subst eV
  exact x_vret C0 hQ hP hD hS ⟨nq1, rfl⟩ (by omega) (by omega) d_Row_init_17
set_option maxHeartbeats 4000000 in
set_option maxRecDepth 100000 in
theorem c_Sha_init (l : Launch) (G : GX) (a0 : Nat) (sz : Nat)   (N : Nat) (V : Unit) (K Z : Nat) (h : f_Sha_init N  = some (V, K, Z)) :
    Met l y_Sha_init (wd y_Sha_init b_Sha_init 1 none) { frames := 1, cells := K, slots := Z, locals := 20 } (PX G [.ref a0] sz [(a0, .inr (2, [.null, .null]))])
      (QXv G (fun w => ∃ e0 e1 : Nat, w = [(a0, .inr (2, [.ref e0, .ref e1])), (e0, .inl (G.2.1 1, 80, .inl ((fun _ => 0)))), (e1, .inl (G.2.1 1, 5, .inl ((fun _ => 0))))]) (va_A [(a0, .inr (2, [.null, .null]))] sz)) K Z (va_A [(a0, .inr (2, [.null, .null]))] sz) := by
  refine Met_in (QQ := fun A => QXv G (fun w => ∃ e0 e1 : Nat, w = [(a0, .inr (2, [.ref e0, .ref e1])), (e0, .inl (G.2.1 1, 80, .inl ((fun _ => 0)))), (e1, .inl (G.2.1 1, 5, .inl ((fun _ => 0))))]) A) (by decide) (Nat.le_of_ble_eq_true rfl) (fun p e s m below meth c R Q A ls C0 hRf hRl hRc hRs hP hK hD hT hA hS hl hQ => ?_)
  obtain ⟨hx, hb, hml, hown, hts, hr, hlocks, hin⟩ := id C0
  have hown : s.vm.findClass R_Sha = some m.cls := hown
  have hl : lv_has ls 1 [(0, .ref a0)] := hl
  unfold f_Sha_init at h
  have hKT : K ≤ R.cells := Nat.le_of_eq hRc.symm
  have hZT : Z ≤ R.slots := Nat.le_of_eq hRs.symm
  have ekc : 0 + K = K := by omega
  have ezc : 0 + Z = Z := by omega
  obtain ⟨H, hH⟩ : ∃ H, H = s.heap := ⟨_, rfl⟩
  obtain ⟨locs, hlc⟩ : ∃ x : List Loc, x = [] := ⟨_, rfl⟩
  rw [← hH] at hP
  have hS : va_S A s.heap H locs := by rw [hH, hlc]; exact hS
  suffices hgo : W p l e R s m [.ref a0].toArray below meth c H locs 0 0 Q (F0 m 0 ls []) by rw [hH, hlc] at hgo; exact hgo
  refine lv_aload_n hx hb d_Sha_init_0 rfl (lv_at hl 0 rfl) ?_
  refine W.objInit hx hb hown (hts _ q19) (hts _ q1) (hts _ q2) rfl (by rw [hml]; exact hl.1) rfl d_Sha_init_1 (Nat.le_trans (by decide) hRf) (Nat.le_trans (Nat.le_of_ble_eq_true rfl) hRl) ?_
  refine W.eq (g2 := F0 m 4 ls []) rfl ?_
  refine lv_aload_n hx hb d_Sha_init_4 rfl (lv_at hl 0 rfl) ?_
  refine lv_bipush (v := 80) hx hb d_Sha_init_5 (by decide) ?_
  obtain ⟨k2, z2, h, ek2, ez2⟩ := Ak_e h
  have ekc : 0 + 1 + k2 = K := by omega
  have ezc : 0 + 80 + z2 = Z := by omega
  refine y_newaI (N' := 80) hx hb (hts _ q20) hK hP hD hS hA (by decide) (by decide) (by decide) (by omega) (by omega) d_Sha_init_7 (fun nq1 H hP hD hS => ?_)
  have hP : va_P G.1 classes [(a0, .inr (2, [.null, .null])), (nq1, .inl (G.2.1 1, 80, .inl ((fun _ => 0))))] H := hP
  have hD : va_D A [(a0, .inr (2, [.null, .null])), (nq1, .inl (G.2.1 1, 80, .inl ((fun _ => 0))))] := hD
  refine va_putF (D := G.1) (ci := 2) (v := .ref nq1) (ty := .array .int) (C := R_Sha) (T := F_Sha) (N := 2) hx hb hts i_Sha t_Sha t_Sha_ok n_Sha hown hK hP hD hS 0 rfl rfl 0 (by decide) (hts _ q21) (fun _ h9 => h9) rfl (hin rfl) rfl (by decide +kernel) rfl rfl (Nat.le_of_ble_eq_true rfl) d_Sha_init_9 (fun H locs hP hD hS => ?_)
  have hP : va_P G.1 classes [(a0, .inr (2, [.ref nq1, .null])), (nq1, .inl (G.2.1 1, 80, .inl ((fun _ => 0))))] H := hP
  have hD : va_D A [(a0, .inr (2, [.ref nq1, .null])), (nq1, .inl (G.2.1 1, 80, .inl ((fun _ => 0))))] := hD
  refine lv_aload_n hx hb d_Sha_init_12 rfl (lv_at hl 0 rfl) ?_
  refine lv_iconst (v := 5) hx hb d_Sha_init_13 (by decide) ?_
  obtain ⟨k4, z4, h, ek4, ez4⟩ := Ak_e h
  have ekc : 0 + 1 + 1 + k4 = K := by omega
  have ezc : 0 + 80 + 5 + z4 = Z := by omega
  refine y_newaI (N' := 5) hx hb (hts _ q20) hK hP hD hS hA (by decide) (by decide) (by decide) (by omega) (by omega) d_Sha_init_14 (fun nq3 H hP hD hS => ?_)
  have hP : va_P G.1 classes [(a0, .inr (2, [.ref nq1, .null])), (nq1, .inl (G.2.1 1, 80, .inl ((fun _ => 0)))), (nq3, .inl (G.2.1 1, 5, .inl ((fun _ => 0))))] H := hP
  have hD : va_D A [(a0, .inr (2, [.ref nq1, .null])), (nq1, .inl (G.2.1 1, 80, .inl ((fun _ => 0)))), (nq3, .inl (G.2.1 1, 5, .inl ((fun _ => 0))))] := hD
  refine va_putF (D := G.1) (ci := 2) (v := .ref nq3) (ty := .array .int) (C := R_Sha) (T := F_Sha) (N := 2) hx hb hts i_Sha t_Sha t_Sha_ok n_Sha hown hK hP hD hS 0 rfl rfl 1 (by decide) (hts _ q22) (fun _ h9 => h9) rfl (hin rfl) rfl (by decide +kernel) rfl rfl (Nat.le_of_ble_eq_true rfl) d_Sha_init_16 (fun H locs hP hD hS => ?_)
  have hP : va_P G.1 classes [(a0, .inr (2, [.ref nq1, .ref nq3])), (nq1, .inl (G.2.1 1, 80, .inl ((fun _ => 0)))), (nq3, .inl (G.2.1 1, 5, .inl ((fun _ => 0))))] H := hP
  have hD : va_D A [(a0, .inr (2, [.ref nq1, .ref nq3])), (nq1, .inl (G.2.1 1, 80, .inl ((fun _ => 0)))), (nq3, .inl (G.2.1 1, 5, .inl ((fun _ => 0))))] := hD
  obtain ⟨eV, ek, ez⟩ := so3 h
  subst eV
  exact x_vret C0 hQ hP hD hS ⟨nq1, nq3, rfl⟩ (by omega) (by omega) d_Sha_init_19
set_option maxHeartbeats 4000000 in
set_option maxRecDepth 100000 in
theorem c_BW_init (l : Launch) (G : GX) (a0 : Nat) (sz : Nat)   (N : Nat) (V : Unit) (K Z : Nat) (h : f_BW_init N  = some (V, K, Z)) :
    Met l y_BW_init (wd y_BW_init b_BW_init 1 none) { frames := 2, cells := K, slots := Z, locals := 40 } (PX G [.ref a0] sz [(a0, .inr (3, [.null, .int 0, .int 0]))])
      (QXv G (fun w => ∃ e0 e1 : Nat, w = [(a0, .inr (3, [.ref e0, .int 0, .int 0])), (e0, .inr (1, [.ref e1, .int 0])), (e1, .inl (G.2.1 0, 64, .inl ((fun _ => 0))))]) (va_A [(a0, .inr (3, [.null, .int 0, .int 0]))] sz)) K Z (va_A [(a0, .inr (3, [.null, .int 0, .int 0]))] sz) := by
  refine Met_in (QQ := fun A => QXv G (fun w => ∃ e0 e1 : Nat, w = [(a0, .inr (3, [.ref e0, .int 0, .int 0])), (e0, .inr (1, [.ref e1, .int 0])), (e1, .inl (G.2.1 0, 64, .inl ((fun _ => 0))))]) A) (by decide) (Nat.le_of_ble_eq_true rfl) (fun p e s m below meth c R Q A ls C0 hRf hRl hRc hRs hP hK hD hT hA hS hl hQ => ?_)
  obtain ⟨hx, hb, hml, hown, hts, hr, hlocks, hin⟩ := id C0
  have hown : s.vm.findClass R_BW = some m.cls := hown
  have hl : lv_has ls 1 [(0, .ref a0)] := hl
  unfold f_BW_init at h
  have hKT : K ≤ R.cells := Nat.le_of_eq hRc.symm
  have hZT : Z ≤ R.slots := Nat.le_of_eq hRs.symm
  have ekc : 0 + K = K := by omega
  have ezc : 0 + Z = Z := by omega
  obtain ⟨H, hH⟩ : ∃ H, H = s.heap := ⟨_, rfl⟩
  obtain ⟨locs, hlc⟩ : ∃ x : List Loc, x = [] := ⟨_, rfl⟩
  rw [← hH] at hP
  have hS : va_S A s.heap H locs := by rw [hH, hlc]; exact hS
  suffices hgo : W p l e R s m [.ref a0].toArray below meth c H locs 0 0 Q (F0 m 0 ls []) by rw [hH, hlc] at hgo; exact hgo
  refine lv_aload_n hx hb d_BW_init_0 rfl (lv_at hl 0 rfl) ?_
  refine W.objInit hx hb hown (hts _ q34) (hts _ q1) (hts _ q2) rfl (by rw [hml]; exact hl.1) rfl d_BW_init_1 (Nat.le_trans (by decide) hRf) (Nat.le_trans (Nat.le_of_ble_eq_true rfl) hRl) ?_
  refine W.eq (g2 := F0 m 4 ls []) rfl ?_
  refine lv_aload_n hx hb d_BW_init_4 rfl (lv_at hl 0 rfl) ?_
  obtain ⟨k2, z2, h, ek2, ez2⟩ := Ak_e h
  have ekc : 0 + 1 + k2 = K := by omega
  have ezc : 0 + 2 + z2 = Z := by omega
  refine va_new (ci := 1) (fs := [.null, .int 0]) (C := R_Row) (T := F_Row) (N := 2) hx hb hts i_Row t_Row t_Row_ok hown (hts _ q35) (hts _ q4) (hts _ q5) hK hP hD hS hA rfl df_Row (by omega) (by omega) d_BW_init_5 (fun nq1 H hP hD hS => ?_)
  have hP : va_P G.1 classes [(a0, .inr (3, [.null, .int 0, .int 0])), (nq1, .inr (1, [.null, .int 0]))] H := hP
  have hD : va_D A [(a0, .inr (3, [.null, .int 0, .int 0])), (nq1, .inr (1, [.null, .int 0]))] := hD
  refine lv_dup hx hb d_BW_init_8 rfl ?_
  obtain ⟨r3, k3, z3, kk3, zz3, hc3, h, ek3, ez3⟩ := Bk_e h
  have ekc : 0 + 1 + k3 + kk3 = K := by omega
  have ezc : 0 + 2 + z3 + zz3 = Z := by omega
  refine xI_v (wr := [(a0, .inr (3, [.null, .int 0, .int 0]))]) (rest := [.ref nq1, .ref a0]) C0 hK hT hA hP hD hS hl.1 (c_Row_init l G nq1 _   N r3 k3 z3 hc3) (goodI q36 q11 q5 q12) 0 rfl hd_Row_init rfl (Nat.le_trans (by decide) hRf) (Nat.le_trans (by decide) hRl) [1] [0] rfl rfl (by decide) (by decide) (by decide) rfl (Nat.le_of_ble_eq_true rfl) d_BW_init_9 (by omega) (by omega) (fun w1 H locs hE hP hD hS => ?_)
  obtain ⟨b4, rfl⟩ := hE
  have hP : va_P G.1 classes [(a0, .inr (3, [.null, .int 0, .int 0])), (nq1, .inr (1, [.ref b4, .int 0])), (b4, .inl (G.2.1 0, 64, .inl ((fun _ => 0))))] H := hP
  have hD : va_D A [(a0, .inr (3, [.null, .int 0, .int 0])), (nq1, .inr (1, [.ref b4, .int 0])), (b4, .inl (G.2.1 0, 64, .inl ((fun _ => 0))))] := hD
  refine va_put (D := G.1) (ci := 3) (v := .ref nq1) (ty := .object "TextPress$Row") (C := R_BW) (T := F_BW) (N := 3) hx hb hts i_BW t_BW t_BW_ok n_BW hown hK hP hD hS 0 rfl rfl 0 (by decide) (hts _ q37) (fun _ h9 => h9) rfl (by decide +kernel) rfl rfl (Nat.le_of_ble_eq_true rfl) d_BW_init_12 (fun H locs hP hD hS => ?_)
  have hP : va_P G.1 classes [(a0, .inr (3, [.ref nq1, .int 0, .int 0])), (nq1, .inr (1, [.ref b4, .int 0])), (b4, .inl (G.2.1 0, 64, .inl ((fun _ => 0))))] H := hP
  have hD : va_D A [(a0, .inr (3, [.ref nq1, .int 0, .int 0])), (nq1, .inr (1, [.ref b4, .int 0])), (b4, .inl (G.2.1 0, 64, .inl ((fun _ => 0))))] := hD
  refine lv_aload_n hx hb d_BW_init_15 rfl (lv_at hl 0 rfl) ?_
  refine lv_iconst (v := 0) hx hb d_BW_init_16 (by decide) ?_
  refine va_put (D := G.1) (ci := 3) (v := .int 0) (ty := .int) (C := R_BW) (T := F_BW) (N := 3) hx hb hts i_BW t_BW t_BW_ok n_BW hown hK hP hD hS 0 rfl rfl 1 (by decide) (hts _ q38) (fun _ h9 => h9) rfl (by decide +kernel) rfl rfl (Nat.le_of_ble_eq_true rfl) d_BW_init_17 (fun H locs hP hD hS => ?_)
  have hP : va_P G.1 classes [(a0, .inr (3, [.ref nq1, .int 0, .int 0])), (nq1, .inr (1, [.ref b4, .int 0])), (b4, .inl (G.2.1 0, 64, .inl ((fun _ => 0))))] H := hP
  have hD : va_D A [(a0, .inr (3, [.ref nq1, .int 0, .int 0])), (nq1, .inr (1, [.ref b4, .int 0])), (b4, .inl (G.2.1 0, 64, .inl ((fun _ => 0))))] := hD
  refine lv_aload_n hx hb d_BW_init_20 rfl (lv_at hl 0 rfl) ?_
  refine lv_iconst (v := 0) hx hb d_BW_init_21 (by decide) ?_
  refine va_put (D := G.1) (ci := 3) (v := .int 0) (ty := .int) (C := R_BW) (T := F_BW) (N := 3) hx hb hts i_BW t_BW t_BW_ok n_BW hown hK hP hD hS 0 rfl rfl 2 (by decide) (hts _ q39) (fun _ h9 => h9) rfl (by decide +kernel) rfl rfl (Nat.le_of_ble_eq_true rfl) d_BW_init_22 (fun H locs hP hD hS => ?_)
  have hP : va_P G.1 classes [(a0, .inr (3, [.ref nq1, .int 0, .int 0])), (nq1, .inr (1, [.ref b4, .int 0])), (b4, .inl (G.2.1 0, 64, .inl ((fun _ => 0))))] H := hP
  have hD : va_D A [(a0, .inr (3, [.ref nq1, .int 0, .int 0])), (nq1, .inr (1, [.ref b4, .int 0])), (b4, .inl (G.2.1 0, 64, .inl ((fun _ => 0))))] := hD
  obtain ⟨eV, ek, ez⟩ := so3 h
  subst eV
  exact x_vret C0 hQ hP hD hS ⟨nq1, b4, rfl⟩ (by omega) (by omega) d_BW_init_25
set_option maxHeartbeats 4000000 in
set_option maxRecDepth 100000 in
theorem c_Fi_init (l : Launch) (G : GX) (a0 : Nat) (sz : Nat)   (N : Nat) (V : Unit) (K Z : Nat) (h : f_Fi_init N  = some (V, K, Z)) :
    Met l y_Fi_init (wd y_Fi_init b_Fi_init 1 none) { frames := 1, cells := K, slots := Z, locals := 20 } (PX G [.ref a0] sz [(a0, .inr (4, [.null, .null, .int 0, .int 0]))])
      (QXv G (fun w => ∃ e0 e1 : Nat, w = [(a0, .inr (4, [.ref e0, .ref e1, .int 0, .int 0])), (e0, .inl (G.2.1 1, 4096, .inl ((fun _ => 0)))), (e1, .inl (G.2.1 1, 64, .inl ((fun _ => 0))))]) (va_A [(a0, .inr (4, [.null, .null, .int 0, .int 0]))] sz)) K Z (va_A [(a0, .inr (4, [.null, .null, .int 0, .int 0]))] sz) := by
  refine Met_in (QQ := fun A => QXv G (fun w => ∃ e0 e1 : Nat, w = [(a0, .inr (4, [.ref e0, .ref e1, .int 0, .int 0])), (e0, .inl (G.2.1 1, 4096, .inl ((fun _ => 0)))), (e1, .inl (G.2.1 1, 64, .inl ((fun _ => 0))))]) A) (by decide) (Nat.le_of_ble_eq_true rfl) (fun p e s m below meth c R Q A ls C0 hRf hRl hRc hRs hP hK hD hT hA hS hl hQ => ?_)
  obtain ⟨hx, hb, hml, hown, hts, hr, hlocks, hin⟩ := id C0
  have hown : s.vm.findClass R_Fi = some m.cls := hown
  have hl : lv_has ls 1 [(0, .ref a0)] := hl
  unfold f_Fi_init at h
  have hKT : K ≤ R.cells := Nat.le_of_eq hRc.symm
  have hZT : Z ≤ R.slots := Nat.le_of_eq hRs.symm
  have ekc : 0 + K = K := by omega
  have ezc : 0 + Z = Z := by omega
  obtain ⟨H, hH⟩ : ∃ H, H = s.heap := ⟨_, rfl⟩
  obtain ⟨locs, hlc⟩ : ∃ x : List Loc, x = [] := ⟨_, rfl⟩
  rw [← hH] at hP
  have hS : va_S A s.heap H locs := by rw [hH, hlc]; exact hS
  suffices hgo : W p l e R s m [.ref a0].toArray below meth c H locs 0 0 Q (F0 m 0 ls []) by rw [hH, hlc] at hgo; exact hgo
  refine lv_aload_n hx hb d_Fi_init_0 rfl (lv_at hl 0 rfl) ?_
  refine W.objInit hx hb hown (hts _ q47) (hts _ q1) (hts _ q2) rfl (by rw [hml]; exact hl.1) rfl d_Fi_init_1 (Nat.le_trans (by decide) hRf) (Nat.le_trans (Nat.le_of_ble_eq_true rfl) hRl) ?_
  refine W.eq (g2 := F0 m 4 ls []) rfl ?_
  refine lv_aload_n hx hb d_Fi_init_4 rfl (lv_at hl 0 rfl) ?_
  refine lv_sipush (v := 4096) hx hb d_Fi_init_5 (by decide) ?_
  obtain ⟨k2, z2, h, ek2, ez2⟩ := Ak_e h
  have ekc : 0 + 1 + k2 = K := by omega
  have ezc : 0 + 4096 + z2 = Z := by omega
  refine y_newaI (N' := 4096) hx hb (hts _ q20) hK hP hD hS hA (by decide) (by decide) (by decide) (by omega) (by omega) d_Fi_init_8 (fun nq1 H hP hD hS => ?_)
  have hP : va_P G.1 classes [(a0, .inr (4, [.null, .null, .int 0, .int 0])), (nq1, .inl (G.2.1 1, 4096, .inl ((fun _ => 0))))] H := hP
  have hD : va_D A [(a0, .inr (4, [.null, .null, .int 0, .int 0])), (nq1, .inl (G.2.1 1, 4096, .inl ((fun _ => 0))))] := hD
  refine va_putF (D := G.1) (ci := 4) (v := .ref nq1) (ty := .array .int) (C := R_Fi) (T := F_Fi) (N := 4) hx hb hts i_Fi t_Fi t_Fi_ok n_Fi hown hK hP hD hS 0 rfl rfl 0 (by decide) (hts _ q48) (fun _ h9 => h9) rfl (hin rfl) rfl (by decide +kernel) rfl rfl (Nat.le_of_ble_eq_true rfl) d_Fi_init_10 (fun H locs hP hD hS => ?_)
  have hP : va_P G.1 classes [(a0, .inr (4, [.ref nq1, .null, .int 0, .int 0])), (nq1, .inl (G.2.1 1, 4096, .inl ((fun _ => 0))))] H := hP
  have hD : va_D A [(a0, .inr (4, [.ref nq1, .null, .int 0, .int 0])), (nq1, .inl (G.2.1 1, 4096, .inl ((fun _ => 0))))] := hD
  refine lv_aload_n hx hb d_Fi_init_13 rfl (lv_at hl 0 rfl) ?_
  refine lv_bipush (v := 64) hx hb d_Fi_init_14 (by decide) ?_
  obtain ⟨k4, z4, h, ek4, ez4⟩ := Ak_e h
  have ekc : 0 + 1 + 1 + k4 = K := by omega
  have ezc : 0 + 4096 + 64 + z4 = Z := by omega
  refine y_newaI (N' := 64) hx hb (hts _ q20) hK hP hD hS hA (by decide) (by decide) (by decide) (by omega) (by omega) d_Fi_init_16 (fun nq3 H hP hD hS => ?_)
  have hP : va_P G.1 classes [(a0, .inr (4, [.ref nq1, .null, .int 0, .int 0])), (nq1, .inl (G.2.1 1, 4096, .inl ((fun _ => 0)))), (nq3, .inl (G.2.1 1, 64, .inl ((fun _ => 0))))] H := hP
  have hD : va_D A [(a0, .inr (4, [.ref nq1, .null, .int 0, .int 0])), (nq1, .inl (G.2.1 1, 4096, .inl ((fun _ => 0)))), (nq3, .inl (G.2.1 1, 64, .inl ((fun _ => 0))))] := hD
  refine va_put (D := G.1) (ci := 4) (v := .ref nq3) (ty := .array .int) (C := R_Fi) (T := F_Fi) (N := 4) hx hb hts i_Fi t_Fi t_Fi_ok n_Fi hown hK hP hD hS 0 rfl rfl 1 (by decide) (hts _ q49) (fun _ h9 => h9) rfl (by decide +kernel) rfl rfl (Nat.le_of_ble_eq_true rfl) d_Fi_init_18 (fun H locs hP hD hS => ?_)
  have hP : va_P G.1 classes [(a0, .inr (4, [.ref nq1, .ref nq3, .int 0, .int 0])), (nq1, .inl (G.2.1 1, 4096, .inl ((fun _ => 0)))), (nq3, .inl (G.2.1 1, 64, .inl ((fun _ => 0))))] H := hP
  have hD : va_D A [(a0, .inr (4, [.ref nq1, .ref nq3, .int 0, .int 0])), (nq1, .inl (G.2.1 1, 4096, .inl ((fun _ => 0)))), (nq3, .inl (G.2.1 1, 64, .inl ((fun _ => 0))))] := hD
  refine lv_aload_n hx hb d_Fi_init_21 rfl (lv_at hl 0 rfl) ?_
  refine lv_iconst (v := 0) hx hb d_Fi_init_22 (by decide) ?_
  refine va_put (D := G.1) (ci := 4) (v := .int 0) (ty := .int) (C := R_Fi) (T := F_Fi) (N := 4) hx hb hts i_Fi t_Fi t_Fi_ok n_Fi hown hK hP hD hS 0 rfl rfl 2 (by decide) (hts _ q50) (fun _ h9 => h9) rfl (by decide +kernel) rfl rfl (Nat.le_of_ble_eq_true rfl) d_Fi_init_23 (fun H locs hP hD hS => ?_)
  have hP : va_P G.1 classes [(a0, .inr (4, [.ref nq1, .ref nq3, .int 0, .int 0])), (nq1, .inl (G.2.1 1, 4096, .inl ((fun _ => 0)))), (nq3, .inl (G.2.1 1, 64, .inl ((fun _ => 0))))] H := hP
  have hD : va_D A [(a0, .inr (4, [.ref nq1, .ref nq3, .int 0, .int 0])), (nq1, .inl (G.2.1 1, 4096, .inl ((fun _ => 0)))), (nq3, .inl (G.2.1 1, 64, .inl ((fun _ => 0))))] := hD
  refine lv_aload_n hx hb d_Fi_init_26 rfl (lv_at hl 0 rfl) ?_
  refine lv_iconst (v := 0) hx hb d_Fi_init_27 (by decide) ?_
  refine va_put (D := G.1) (ci := 4) (v := .int 0) (ty := .int) (C := R_Fi) (T := F_Fi) (N := 4) hx hb hts i_Fi t_Fi t_Fi_ok n_Fi hown hK hP hD hS 0 rfl rfl 3 (by decide) (hts _ q51) (fun _ h9 => h9) rfl (by decide +kernel) rfl rfl (Nat.le_of_ble_eq_true rfl) d_Fi_init_28 (fun H locs hP hD hS => ?_)
  have hP : va_P G.1 classes [(a0, .inr (4, [.ref nq1, .ref nq3, .int 0, .int 0])), (nq1, .inl (G.2.1 1, 4096, .inl ((fun _ => 0)))), (nq3, .inl (G.2.1 1, 64, .inl ((fun _ => 0))))] H := hP
  have hD : va_D A [(a0, .inr (4, [.ref nq1, .ref nq3, .int 0, .int 0])), (nq1, .inl (G.2.1 1, 4096, .inl ((fun _ => 0)))), (nq3, .inl (G.2.1 1, 64, .inl ((fun _ => 0))))] := hD
  obtain ⟨eV, ek, ez⟩ := so3 h
  subst eV
  exact x_vret C0 hQ hP hD hS ⟨nq1, nq3, rfl⟩ (by omega) (by omega) d_Fi_init_31
set_option maxHeartbeats 4000000 in
set_option maxRecDepth 100000 in
theorem c_Pr_init (l : Launch) (G : GX) (a0 : Nat) (sz : Nat)   (N : Nat) (V : Unit) (K Z : Nat) (h : f_Pr_init N  = some (V, K, Z)) :
    Met l y_Pr_init (wd y_Pr_init b_Pr_init 1 none) { frames := 3, cells := K, slots := Z, locals := 60 } (PX G [.ref a0] sz [(a0, .inr (5, [.null, .null, .int 0, .int 0]))])
      (QXv G (fun w => ∃ e0 e1 e2 e3 e4 e5 : Nat, w = [(a0, .inr (5, [.ref e0, .ref e1, .int 0, .int 0])), (e0, .inr (3, [.ref e2, .int 0, .int 0])), (e2, .inr (1, [.ref e3, .int 0])), (e3, .inl (G.2.1 0, 64, .inl ((fun _ => 0)))), (e1, .inr (4, [.ref e4, .ref e5, .int 0, .int 0])), (e4, .inl (G.2.1 1, 4096, .inl ((fun _ => 0)))), (e5, .inl (G.2.1 1, 64, .inl ((fun _ => 0))))]) (va_A [(a0, .inr (5, [.null, .null, .int 0, .int 0]))] sz)) K Z (va_A [(a0, .inr (5, [.null, .null, .int 0, .int 0]))] sz) := by
  refine Met_in (QQ := fun A => QXv G (fun w => ∃ e0 e1 e2 e3 e4 e5 : Nat, w = [(a0, .inr (5, [.ref e0, .ref e1, .int 0, .int 0])), (e0, .inr (3, [.ref e2, .int 0, .int 0])), (e2, .inr (1, [.ref e3, .int 0])), (e3, .inl (G.2.1 0, 64, .inl ((fun _ => 0)))), (e1, .inr (4, [.ref e4, .ref e5, .int 0, .int 0])), (e4, .inl (G.2.1 1, 4096, .inl ((fun _ => 0)))), (e5, .inl (G.2.1 1, 64, .inl ((fun _ => 0))))]) A) (by decide) (Nat.le_of_ble_eq_true rfl) (fun p e s m below meth c R Q A ls C0 hRf hRl hRc hRs hP hK hD hT hA hS hl hQ => ?_)
  obtain ⟨hx, hb, hml, hown, hts, hr, hlocks, hin⟩ := id C0
  have hown : s.vm.findClass R_Pr = some m.cls := hown
  have hl : lv_has ls 1 [(0, .ref a0)] := hl
  unfold f_Pr_init at h
  have hKT : K ≤ R.cells := Nat.le_of_eq hRc.symm
  have hZT : Z ≤ R.slots := Nat.le_of_eq hRs.symm
  have ekc : 0 + K = K := by omega
  have ezc : 0 + Z = Z := by omega
  obtain ⟨H, hH⟩ : ∃ H, H = s.heap := ⟨_, rfl⟩
  obtain ⟨locs, hlc⟩ : ∃ x : List Loc, x = [] := ⟨_, rfl⟩
  rw [← hH] at hP
  have hS : va_S A s.heap H locs := by rw [hH, hlc]; exact hS
  suffices hgo : W p l e R s m [.ref a0].toArray below meth c H locs 0 0 Q (F0 m 0 ls []) by rw [hH, hlc] at hgo; exact hgo
  refine lv_aload_n hx hb d_Pr_init_0 rfl (lv_at hl 0 rfl) ?_
  refine W.objInit hx hb hown (hts _ q30) (hts _ q1) (hts _ q2) rfl (by rw [hml]; exact hl.1) rfl d_Pr_init_1 (Nat.le_trans (by decide) hRf) (Nat.le_trans (Nat.le_of_ble_eq_true rfl) hRl) ?_
  refine W.eq (g2 := F0 m 4 ls []) rfl ?_
  refine lv_aload_n hx hb d_Pr_init_4 rfl (lv_at hl 0 rfl) ?_
  obtain ⟨k2, z2, h, ek2, ez2⟩ := Ak_e h
  have ekc : 0 + 1 + k2 = K := by omega
  have ezc : 0 + 3 + z2 = Z := by omega
  refine va_new (ci := 3) (fs := [.null, .int 0, .int 0]) (C := R_BW) (T := F_BW) (N := 3) hx hb hts i_BW t_BW t_BW_ok hown (hts _ q31) (hts _ q32) (hts _ q33) hK hP hD hS hA rfl df_BW (by omega) (by omega) d_Pr_init_5 (fun nq1 H hP hD hS => ?_)
  have hP : va_P G.1 classes [(a0, .inr (5, [.null, .null, .int 0, .int 0])), (nq1, .inr (3, [.null, .int 0, .int 0]))] H := hP
  have hD : va_D A [(a0, .inr (5, [.null, .null, .int 0, .int 0])), (nq1, .inr (3, [.null, .int 0, .int 0]))] := hD
  refine lv_dup hx hb d_Pr_init_8 rfl ?_
  obtain ⟨r3, k3, z3, kk3, zz3, hc3, h, ek3, ez3⟩ := Bk_e h
  have ekc : 0 + 1 + k3 + kk3 = K := by omega
  have ezc : 0 + 3 + z3 + zz3 = Z := by omega
  refine xI_v (wr := [(a0, .inr (5, [.null, .null, .int 0, .int 0]))]) (rest := [.ref nq1, .ref a0]) C0 hK hT hA hP hD hS hl.1 (c_BW_init l G nq1 _   N r3 k3 z3 hc3) (goodI q40 q41 q33 q42) 0 rfl hd_BW_init rfl (Nat.le_trans (by decide) hRf) (Nat.le_trans (by decide) hRl) [1] [0] rfl rfl (by decide) (by decide) (by decide) rfl (Nat.le_of_ble_eq_true rfl) d_Pr_init_9 (by omega) (by omega) (fun w1 H locs hE hP hD hS => ?_)
  obtain ⟨b4, b5, rfl⟩ := hE
  have hP : va_P G.1 classes [(a0, .inr (5, [.null, .null, .int 0, .int 0])), (nq1, .inr (3, [.ref b4, .int 0, .int 0])), (b4, .inr (1, [.ref b5, .int 0])), (b5, .inl (G.2.1 0, 64, .inl ((fun _ => 0))))] H := hP
  have hD : va_D A [(a0, .inr (5, [.null, .null, .int 0, .int 0])), (nq1, .inr (3, [.ref b4, .int 0, .int 0])), (b4, .inr (1, [.ref b5, .int 0])), (b5, .inl (G.2.1 0, 64, .inl ((fun _ => 0))))] := hD
  refine va_putF (D := G.1) (ci := 5) (v := .ref nq1) (ty := .object "TextPress$BitWriter") (C := R_Pr) (T := F_Pr) (N := 4) hx hb hts i_Pr t_Pr t_Pr_ok n_Pr hown hK hP hD hS 0 rfl rfl 0 (by decide) (hts _ q43) (fun _ h9 => h9) rfl (hin rfl) rfl (by decide +kernel) rfl rfl (Nat.le_of_ble_eq_true rfl) d_Pr_init_12 (fun H locs hP hD hS => ?_)
  have hP : va_P G.1 classes [(a0, .inr (5, [.ref nq1, .null, .int 0, .int 0])), (nq1, .inr (3, [.ref b4, .int 0, .int 0])), (b4, .inr (1, [.ref b5, .int 0])), (b5, .inl (G.2.1 0, 64, .inl ((fun _ => 0))))] H := hP
  have hD : va_D A [(a0, .inr (5, [.ref nq1, .null, .int 0, .int 0])), (nq1, .inr (3, [.ref b4, .int 0, .int 0])), (b4, .inr (1, [.ref b5, .int 0])), (b5, .inl (G.2.1 0, 64, .inl ((fun _ => 0))))] := hD
  refine lv_aload_n hx hb d_Pr_init_15 rfl (lv_at hl 0 rfl) ?_
  obtain ⟨k7, z7, h, ek7, ez7⟩ := Ak_e h
  have ekc : 0 + 1 + k3 + 1 + k7 = K := by omega
  have ezc : 0 + 3 + z3 + 4 + z7 = Z := by omega
  refine va_new (ci := 4) (fs := [.null, .null, .int 0, .int 0]) (C := R_Fi) (T := F_Fi) (N := 4) hx hb hts i_Fi t_Fi t_Fi_ok hown (hts _ q44) (hts _ q45) (hts _ q46) hK hP hD hS hA rfl df_Fi (by omega) (by omega) d_Pr_init_16 (fun nq6 H hP hD hS => ?_)
  have hP : va_P G.1 classes [(a0, .inr (5, [.ref nq1, .null, .int 0, .int 0])), (nq1, .inr (3, [.ref b4, .int 0, .int 0])), (b4, .inr (1, [.ref b5, .int 0])), (b5, .inl (G.2.1 0, 64, .inl ((fun _ => 0)))), (nq6, .inr (4, [.null, .null, .int 0, .int 0]))] H := hP
  have hD : va_D A [(a0, .inr (5, [.ref nq1, .null, .int 0, .int 0])), (nq1, .inr (3, [.ref b4, .int 0, .int 0])), (b4, .inr (1, [.ref b5, .int 0])), (b5, .inl (G.2.1 0, 64, .inl ((fun _ => 0)))), (nq6, .inr (4, [.null, .null, .int 0, .int 0]))] := hD
  refine lv_dup hx hb d_Pr_init_19 rfl ?_
  obtain ⟨r8, k8, z8, kk8, zz8, hc8, h, ek8, ez8⟩ := Bk_e h
  have ekc : 0 + 1 + k3 + 1 + k8 + kk8 = K := by omega
  have ezc : 0 + 3 + z3 + 4 + z8 + zz8 = Z := by omega
  refine xI_v (wr := [(a0, .inr (5, [.ref nq1, .null, .int 0, .int 0])), (nq1, .inr (3, [.ref b4, .int 0, .int 0])), (b4, .inr (1, [.ref b5, .int 0])), (b5, .inl (G.2.1 0, 64, .inl ((fun _ => 0))))]) (rest := [.ref nq6, .ref a0]) C0 hK hT hA hP hD hS hl.1 (c_Fi_init l G nq6 _   N r8 k8 z8 hc8) (goodI q52 q53 q46 q54) 0 rfl hd_Fi_init rfl (Nat.le_trans (by decide) hRf) (Nat.le_trans (by decide) hRl) [4] [0, 1, 2, 3] rfl rfl (by decide) (by decide) (by decide) rfl (Nat.le_of_ble_eq_true rfl) d_Pr_init_20 (by omega) (by omega) (fun w1 H locs hE hP hD hS => ?_)
  obtain ⟨b9, b10, rfl⟩ := hE
  have hP : va_P G.1 classes [(a0, .inr (5, [.ref nq1, .null, .int 0, .int 0])), (nq1, .inr (3, [.ref b4, .int 0, .int 0])), (b4, .inr (1, [.ref b5, .int 0])), (b5, .inl (G.2.1 0, 64, .inl ((fun _ => 0)))), (nq6, .inr (4, [.ref b9, .ref b10, .int 0, .int 0])), (b9, .inl (G.2.1 1, 4096, .inl ((fun _ => 0)))), (b10, .inl (G.2.1 1, 64, .inl ((fun _ => 0))))] H := hP
  have hD : va_D A [(a0, .inr (5, [.ref nq1, .null, .int 0, .int 0])), (nq1, .inr (3, [.ref b4, .int 0, .int 0])), (b4, .inr (1, [.ref b5, .int 0])), (b5, .inl (G.2.1 0, 64, .inl ((fun _ => 0)))), (nq6, .inr (4, [.ref b9, .ref b10, .int 0, .int 0])), (b9, .inl (G.2.1 1, 4096, .inl ((fun _ => 0)))), (b10, .inl (G.2.1 1, 64, .inl ((fun _ => 0))))] := hD
  refine va_putF (D := G.1) (ci := 5) (v := .ref nq6) (ty := .object "TextPress$Finder") (C := R_Pr) (T := F_Pr) (N := 4) hx hb hts i_Pr t_Pr t_Pr_ok n_Pr hown hK hP hD hS 0 rfl rfl 1 (by decide) (hts _ q55) (fun _ h9 => h9) rfl (hin rfl) rfl (by decide +kernel) rfl rfl (Nat.le_of_ble_eq_true rfl) d_Pr_init_23 (fun H locs hP hD hS => ?_)
  have hP : va_P G.1 classes [(a0, .inr (5, [.ref nq1, .ref nq6, .int 0, .int 0])), (nq1, .inr (3, [.ref b4, .int 0, .int 0])), (b4, .inr (1, [.ref b5, .int 0])), (b5, .inl (G.2.1 0, 64, .inl ((fun _ => 0)))), (nq6, .inr (4, [.ref b9, .ref b10, .int 0, .int 0])), (b9, .inl (G.2.1 1, 4096, .inl ((fun _ => 0)))), (b10, .inl (G.2.1 1, 64, .inl ((fun _ => 0))))] H := hP
  have hD : va_D A [(a0, .inr (5, [.ref nq1, .ref nq6, .int 0, .int 0])), (nq1, .inr (3, [.ref b4, .int 0, .int 0])), (b4, .inr (1, [.ref b5, .int 0])), (b5, .inl (G.2.1 0, 64, .inl ((fun _ => 0)))), (nq6, .inr (4, [.ref b9, .ref b10, .int 0, .int 0])), (b9, .inl (G.2.1 1, 4096, .inl ((fun _ => 0)))), (b10, .inl (G.2.1 1, 64, .inl ((fun _ => 0))))] := hD
  refine lv_aload_n hx hb d_Pr_init_26 rfl (lv_at hl 0 rfl) ?_
  refine lv_iconst (v := 0) hx hb d_Pr_init_27 (by decide) ?_
  refine va_put (D := G.1) (ci := 5) (v := .int 0) (ty := .int) (C := R_Pr) (T := F_Pr) (N := 4) hx hb hts i_Pr t_Pr t_Pr_ok n_Pr hown hK hP hD hS 0 rfl rfl 2 (by decide) (hts _ q56) (fun _ h9 => h9) rfl (by decide +kernel) rfl rfl (Nat.le_of_ble_eq_true rfl) d_Pr_init_28 (fun H locs hP hD hS => ?_)
  have hP : va_P G.1 classes [(a0, .inr (5, [.ref nq1, .ref nq6, .int 0, .int 0])), (nq1, .inr (3, [.ref b4, .int 0, .int 0])), (b4, .inr (1, [.ref b5, .int 0])), (b5, .inl (G.2.1 0, 64, .inl ((fun _ => 0)))), (nq6, .inr (4, [.ref b9, .ref b10, .int 0, .int 0])), (b9, .inl (G.2.1 1, 4096, .inl ((fun _ => 0)))), (b10, .inl (G.2.1 1, 64, .inl ((fun _ => 0))))] H := hP
  have hD : va_D A [(a0, .inr (5, [.ref nq1, .ref nq6, .int 0, .int 0])), (nq1, .inr (3, [.ref b4, .int 0, .int 0])), (b4, .inr (1, [.ref b5, .int 0])), (b5, .inl (G.2.1 0, 64, .inl ((fun _ => 0)))), (nq6, .inr (4, [.ref b9, .ref b10, .int 0, .int 0])), (b9, .inl (G.2.1 1, 4096, .inl ((fun _ => 0)))), (b10, .inl (G.2.1 1, 64, .inl ((fun _ => 0))))] := hD
  refine lv_aload_n hx hb d_Pr_init_31 rfl (lv_at hl 0 rfl) ?_
  refine lv_iconst (v := 0) hx hb d_Pr_init_32 (by decide) ?_
  refine va_put (D := G.1) (ci := 5) (v := .int 0) (ty := .int) (C := R_Pr) (T := F_Pr) (N := 4) hx hb hts i_Pr t_Pr t_Pr_ok n_Pr hown hK hP hD hS 0 rfl rfl 3 (by decide) (hts _ q57) (fun _ h9 => h9) rfl (by decide +kernel) rfl rfl (Nat.le_of_ble_eq_true rfl) d_Pr_init_33 (fun H locs hP hD hS => ?_)
  have hP : va_P G.1 classes [(a0, .inr (5, [.ref nq1, .ref nq6, .int 0, .int 0])), (nq1, .inr (3, [.ref b4, .int 0, .int 0])), (b4, .inr (1, [.ref b5, .int 0])), (b5, .inl (G.2.1 0, 64, .inl ((fun _ => 0)))), (nq6, .inr (4, [.ref b9, .ref b10, .int 0, .int 0])), (b9, .inl (G.2.1 1, 4096, .inl ((fun _ => 0)))), (b10, .inl (G.2.1 1, 64, .inl ((fun _ => 0))))] H := hP
  have hD : va_D A [(a0, .inr (5, [.ref nq1, .ref nq6, .int 0, .int 0])), (nq1, .inr (3, [.ref b4, .int 0, .int 0])), (b4, .inr (1, [.ref b5, .int 0])), (b5, .inl (G.2.1 0, 64, .inl ((fun _ => 0)))), (nq6, .inr (4, [.ref b9, .ref b10, .int 0, .int 0])), (b9, .inl (G.2.1 1, 4096, .inl ((fun _ => 0)))), (b10, .inl (G.2.1 1, 64, .inl ((fun _ => 0))))] := hD
  obtain ⟨eV, ek, ez⟩ := so3 h
  subst eV
  exact x_vret C0 hQ hP hD hS ⟨nq1, nq6, b4, b5, b9, b10, rfl⟩ (by omega) (by omega) d_Pr_init_36
set_option maxHeartbeats 4000000 in
set_option maxRecDepth 100000 in
theorem c_BR_init (l : Launch) (G : GX) (a0 : Nat) (sz : Nat)   (N : Nat) (V : Unit) (K Z : Nat) (h : f_BR_init N  = some (V, K, Z)) :
    Met l y_BR_init (wd y_BR_init b_BR_init 1 none) { frames := 1, cells := K, slots := Z, locals := 20 } (PX G [.ref a0] sz [(a0, .inr (6, [.null, .int 0, .int 0, .int 0]))])
      (QXv G (fun w => ∃ e0 : Nat, w = [(a0, .inr (6, [.ref e0, .int 0, .int 0, .int 0])), (e0, .inl (G.2.1 0, 0, .inl ((fun _ => 0))))]) (va_A [(a0, .inr (6, [.null, .int 0, .int 0, .int 0]))] sz)) K Z (va_A [(a0, .inr (6, [.null, .int 0, .int 0, .int 0]))] sz) := by
  refine Met_in (QQ := fun A => QXv G (fun w => ∃ e0 : Nat, w = [(a0, .inr (6, [.ref e0, .int 0, .int 0, .int 0])), (e0, .inl (G.2.1 0, 0, .inl ((fun _ => 0))))]) A) (by decide) (Nat.le_of_ble_eq_true rfl) (fun p e s m below meth c R Q A ls C0 hRf hRl hRc hRs hP hK hD hT hA hS hl hQ => ?_)
  obtain ⟨hx, hb, hml, hown, hts, hr, hlocks, hin⟩ := id C0
  have hown : s.vm.findClass R_BR = some m.cls := hown
  have hl : lv_has ls 1 [(0, .ref a0)] := hl
  unfold f_BR_init at h
  have hKT : K ≤ R.cells := Nat.le_of_eq hRc.symm
  have hZT : Z ≤ R.slots := Nat.le_of_eq hRs.symm
  have ekc : 0 + K = K := by omega
  have ezc : 0 + Z = Z := by omega
  obtain ⟨H, hH⟩ : ∃ H, H = s.heap := ⟨_, rfl⟩
  obtain ⟨locs, hlc⟩ : ∃ x : List Loc, x = [] := ⟨_, rfl⟩
  rw [← hH] at hP
  have hS : va_S A s.heap H locs := by rw [hH, hlc]; exact hS
  suffices hgo : W p l e R s m [.ref a0].toArray below meth c H locs 0 0 Q (F0 m 0 ls []) by rw [hH, hlc] at hgo; exact hgo
  refine lv_aload_n hx hb d_BR_init_0 rfl (lv_at hl 0 rfl) ?_
  refine W.objInit hx hb hown (hts _ q69) (hts _ q1) (hts _ q2) rfl (by rw [hml]; exact hl.1) rfl d_BR_init_1 (Nat.le_trans (by decide) hRf) (Nat.le_trans (Nat.le_of_ble_eq_true rfl) hRl) ?_
  refine W.eq (g2 := F0 m 4 ls []) rfl ?_
  refine lv_aload_n hx hb d_BR_init_4 rfl (lv_at hl 0 rfl) ?_
  refine lv_iconst (v := 0) hx hb d_BR_init_5 (by decide) ?_
  obtain ⟨k2, z2, h, ek2, ez2⟩ := Ak_e h
  have ekc : 0 + 1 + k2 = K := by omega
  have ezc : 0 + 0 + z2 = Z := by omega
  refine y_newaB (N' := 0) hx hb (hts _ q7) hK hP hD hS hA (by decide) (by decide) (by decide) (by omega) (by omega) d_BR_init_6 (fun nq1 H hP hD hS => ?_)
  have hP : va_P G.1 classes [(a0, .inr (6, [.null, .int 0, .int 0, .int 0])), (nq1, .inl (G.2.1 0, 0, .inl ((fun _ => 0))))] H := hP
  have hD : va_D A [(a0, .inr (6, [.null, .int 0, .int 0, .int 0])), (nq1, .inl (G.2.1 0, 0, .inl ((fun _ => 0))))] := hD
  refine va_put (D := G.1) (ci := 6) (v := .ref nq1) (ty := .array .byte) (C := R_BR) (T := F_BR) (N := 4) hx hb hts i_BR t_BR t_BR_ok n_BR hown hK hP hD hS 0 rfl rfl 0 (by decide) (hts _ q70) (fun _ h9 => h9) rfl (by decide +kernel) rfl rfl (Nat.le_of_ble_eq_true rfl) d_BR_init_8 (fun H locs hP hD hS => ?_)
  have hP : va_P G.1 classes [(a0, .inr (6, [.ref nq1, .int 0, .int 0, .int 0])), (nq1, .inl (G.2.1 0, 0, .inl ((fun _ => 0))))] H := hP
  have hD : va_D A [(a0, .inr (6, [.ref nq1, .int 0, .int 0, .int 0])), (nq1, .inl (G.2.1 0, 0, .inl ((fun _ => 0))))] := hD
  refine lv_aload_n hx hb d_BR_init_11 rfl (lv_at hl 0 rfl) ?_
  refine lv_iconst (v := 0) hx hb d_BR_init_12 (by decide) ?_
  refine va_put (D := G.1) (ci := 6) (v := .int 0) (ty := .int) (C := R_BR) (T := F_BR) (N := 4) hx hb hts i_BR t_BR t_BR_ok n_BR hown hK hP hD hS 0 rfl rfl 1 (by decide) (hts _ q71) (fun _ h9 => h9) rfl (by decide +kernel) rfl rfl (Nat.le_of_ble_eq_true rfl) d_BR_init_13 (fun H locs hP hD hS => ?_)
  have hP : va_P G.1 classes [(a0, .inr (6, [.ref nq1, .int 0, .int 0, .int 0])), (nq1, .inl (G.2.1 0, 0, .inl ((fun _ => 0))))] H := hP
  have hD : va_D A [(a0, .inr (6, [.ref nq1, .int 0, .int 0, .int 0])), (nq1, .inl (G.2.1 0, 0, .inl ((fun _ => 0))))] := hD
  refine lv_aload_n hx hb d_BR_init_16 rfl (lv_at hl 0 rfl) ?_
  refine lv_iconst (v := 0) hx hb d_BR_init_17 (by decide) ?_
  refine va_put (D := G.1) (ci := 6) (v := .int 0) (ty := .int) (C := R_BR) (T := F_BR) (N := 4) hx hb hts i_BR t_BR t_BR_ok n_BR hown hK hP hD hS 0 rfl rfl 2 (by decide) (hts _ q72) (fun _ h9 => h9) rfl (by decide +kernel) rfl rfl (Nat.le_of_ble_eq_true rfl) d_BR_init_18 (fun H locs hP hD hS => ?_)
  have hP : va_P G.1 classes [(a0, .inr (6, [.ref nq1, .int 0, .int 0, .int 0])), (nq1, .inl (G.2.1 0, 0, .inl ((fun _ => 0))))] H := hP
  have hD : va_D A [(a0, .inr (6, [.ref nq1, .int 0, .int 0, .int 0])), (nq1, .inl (G.2.1 0, 0, .inl ((fun _ => 0))))] := hD
  refine lv_aload_n hx hb d_BR_init_21 rfl (lv_at hl 0 rfl) ?_
  refine lv_iconst (v := 0) hx hb d_BR_init_22 (by decide) ?_
  refine va_put (D := G.1) (ci := 6) (v := .int 0) (ty := .boolean) (C := R_BR) (T := F_BR) (N := 4) hx hb hts i_BR t_BR t_BR_ok n_BR hown hK hP hD hS 0 rfl rfl 3 (by decide) (hts _ q73) (fun _ h9 => h9) rfl (by decide +kernel) rfl rfl (Nat.le_of_ble_eq_true rfl) d_BR_init_23 (fun H locs hP hD hS => ?_)
  have hP : va_P G.1 classes [(a0, .inr (6, [.ref nq1, .int 0, .int 0, .int 0])), (nq1, .inl (G.2.1 0, 0, .inl ((fun _ => 0))))] H := hP
  have hD : va_D A [(a0, .inr (6, [.ref nq1, .int 0, .int 0, .int 0])), (nq1, .inl (G.2.1 0, 0, .inl ((fun _ => 0))))] := hD
  obtain ⟨eV, ek, ez⟩ := so3 h
  subst eV
  exact x_vret C0 hQ hP hD hS ⟨nq1, rfl⟩ (by omega) (by omega) d_BR_init_26
set_option maxHeartbeats 4000000 in
set_option maxRecDepth 100000 in
theorem c_Co_init (l : Launch) (G : GX) (a0 : Nat) (sz : Nat)  (p1 : Int32) (N : Nat) (V : Nat) (K Z : Nat) (h : f_Co_init N p1 = some (V, K, Z)) :
    Met l y_Co_init (wd y_Co_init b_Co_init 2 none) { frames := 1, cells := K, slots := Z, locals := 20 } (PX G [.ref a0, .int p1] sz [(a0, .inr (7, [.null, .null, .null]))])
      (QXv G (fun w => ∃ e0 e1 e2 : Nat, w = [(a0, .inr (7, [.ref e0, .ref e1, .ref e2])), (e0, .inl (G.2.1 1, 16, .inl ((fun _ => 0)))), (e1, .inl (G.2.1 1, 16, .inl ((fun _ => 0)))), (e2, .inl (G.2.1 1, V, .inl ((fun _ => 0))))]) (va_A [(a0, .inr (7, [.null, .null, .null]))] sz)) K Z (va_A [(a0, .inr (7, [.null, .null, .null]))] sz) := by
  refine Met_in (QQ := fun A => QXv G (fun w => ∃ e0 e1 e2 : Nat, w = [(a0, .inr (7, [.ref e0, .ref e1, .ref e2])), (e0, .inl (G.2.1 1, 16, .inl ((fun _ => 0)))), (e1, .inl (G.2.1 1, 16, .inl ((fun _ => 0)))), (e2, .inl (G.2.1 1, V, .inl ((fun _ => 0))))]) A) (by decide) (Nat.le_of_ble_eq_true rfl) (fun p e s m below meth c R Q A ls C0 hRf hRl hRc hRs hP hK hD hT hA hS hl hQ => ?_)
  obtain ⟨hx, hb, hml, hown, hts, hr, hlocks, hin⟩ := id C0
  have hown : s.vm.findClass R_Co = some m.cls := hown
  have hl : lv_has ls 2 [(0, .ref a0), (1, .int p1)] := hl
  unfold f_Co_init at h
  have hKT : K ≤ R.cells := Nat.le_of_eq hRc.symm
  have hZT : Z ≤ R.slots := Nat.le_of_eq hRs.symm
  have ekc : 0 + K = K := by omega
  have ezc : 0 + Z = Z := by omega
  obtain ⟨H, hH⟩ : ∃ H, H = s.heap := ⟨_, rfl⟩
  obtain ⟨locs, hlc⟩ : ∃ x : List Loc, x = [] := ⟨_, rfl⟩
  rw [← hH] at hP
  have hS : va_S A s.heap H locs := by rw [hH, hlc]; exact hS
  suffices hgo : W p l e R s m [.ref a0, .int p1].toArray below meth c H locs 0 0 Q (F0 m 0 ls []) by rw [hH, hlc] at hgo; exact hgo
  refine lv_aload_n hx hb d_Co_init_0 rfl (lv_at hl 0 rfl) ?_
  refine W.objInit hx hb hown (hts _ q82) (hts _ q1) (hts _ q2) rfl (by rw [hml]; exact hl.1) rfl d_Co_init_1 (Nat.le_trans (by decide) hRf) (Nat.le_trans (Nat.le_of_ble_eq_true rfl) hRl) ?_
  refine W.eq (g2 := F0 m 4 ls []) rfl ?_
  refine lv_aload_n hx hb d_Co_init_4 rfl (lv_at hl 0 rfl) ?_
  refine lv_bipush (v := 16) hx hb d_Co_init_5 (by decide) ?_
  obtain ⟨k2, z2, h, ek2, ez2⟩ := Ak_e h
  have ekc : 0 + 1 + k2 = K := by omega
  have ezc : 0 + 16 + z2 = Z := by omega
  refine y_newaI (N' := 16) hx hb (hts _ q20) hK hP hD hS hA (by decide) (by decide) (by decide) (by omega) (by omega) d_Co_init_7 (fun nq1 H hP hD hS => ?_)
  have hP : va_P G.1 classes [(a0, .inr (7, [.null, .null, .null])), (nq1, .inl (G.2.1 1, 16, .inl ((fun _ => 0))))] H := hP
  have hD : va_D A [(a0, .inr (7, [.null, .null, .null])), (nq1, .inl (G.2.1 1, 16, .inl ((fun _ => 0))))] := hD
  refine va_putF (D := G.1) (ci := 7) (v := .ref nq1) (ty := .array .int) (C := R_Co) (T := F_Co) (N := 3) hx hb hts i_Co t_Co t_Co_ok n_Co hown hK hP hD hS 0 rfl rfl 0 (by decide) (hts _ q83) (fun _ h9 => h9) rfl (hin rfl) rfl (by decide +kernel) rfl rfl (Nat.le_of_ble_eq_true rfl) d_Co_init_9 (fun H locs hP hD hS => ?_)
  have hP : va_P G.1 classes [(a0, .inr (7, [.ref nq1, .null, .null])), (nq1, .inl (G.2.1 1, 16, .inl ((fun _ => 0))))] H := hP
  have hD : va_D A [(a0, .inr (7, [.ref nq1, .null, .null])), (nq1, .inl (G.2.1 1, 16, .inl ((fun _ => 0))))] := hD
  refine lv_aload_n hx hb d_Co_init_12 rfl (lv_at hl 0 rfl) ?_
  refine lv_bipush (v := 16) hx hb d_Co_init_13 (by decide) ?_
  obtain ⟨k4, z4, h, ek4, ez4⟩ := Ak_e h
  have ekc : 0 + 1 + 1 + k4 = K := by omega
  have ezc : 0 + 16 + 16 + z4 = Z := by omega
  refine y_newaI (N' := 16) hx hb (hts _ q20) hK hP hD hS hA (by decide) (by decide) (by decide) (by omega) (by omega) d_Co_init_15 (fun nq3 H hP hD hS => ?_)
  have hP : va_P G.1 classes [(a0, .inr (7, [.ref nq1, .null, .null])), (nq1, .inl (G.2.1 1, 16, .inl ((fun _ => 0)))), (nq3, .inl (G.2.1 1, 16, .inl ((fun _ => 0))))] H := hP
  have hD : va_D A [(a0, .inr (7, [.ref nq1, .null, .null])), (nq1, .inl (G.2.1 1, 16, .inl ((fun _ => 0)))), (nq3, .inl (G.2.1 1, 16, .inl ((fun _ => 0))))] := hD
  refine va_putF (D := G.1) (ci := 7) (v := .ref nq3) (ty := .array .int) (C := R_Co) (T := F_Co) (N := 3) hx hb hts i_Co t_Co t_Co_ok n_Co hown hK hP hD hS 0 rfl rfl 1 (by decide) (hts _ q84) (fun _ h9 => h9) rfl (hin rfl) rfl (by decide +kernel) rfl rfl (Nat.le_of_ble_eq_true rfl) d_Co_init_17 (fun H locs hP hD hS => ?_)
  have hP : va_P G.1 classes [(a0, .inr (7, [.ref nq1, .ref nq3, .null])), (nq1, .inl (G.2.1 1, 16, .inl ((fun _ => 0)))), (nq3, .inl (G.2.1 1, 16, .inl ((fun _ => 0))))] H := hP
  have hD : va_D A [(a0, .inr (7, [.ref nq1, .ref nq3, .null])), (nq1, .inl (G.2.1 1, 16, .inl ((fun _ => 0)))), (nq3, .inl (G.2.1 1, 16, .inl ((fun _ => 0))))] := hD
  refine lv_aload_n hx hb d_Co_init_20 rfl (lv_at hl 0 rfl) ?_
  refine lv_iload_n hx hb d_Co_init_21 rfl (lv_at hl 1 rfl) ?_
  obtain ⟨hz6, h⟩ := Ga_e h
  obtain ⟨k7, z7, h, ek7, ez7⟩ := Ak_e h
  have ekc : 0 + 1 + 1 + 1 + k7 = K := by omega
  have ezc : 0 + 16 + 16 + ((p1).toNatClampNeg) + z7 = Z := by omega
  refine y_newaI (N' := (p1).toNatClampNeg) hx hb (hts _ q20) hK hP hD hS hA hz6.1 rfl hz6.2 (by omega) (by omega) d_Co_init_22 (fun nq5 H hP hD hS => ?_)
  have hP : va_P G.1 classes [(a0, .inr (7, [.ref nq1, .ref nq3, .null])), (nq1, .inl (G.2.1 1, 16, .inl ((fun _ => 0)))), (nq3, .inl (G.2.1 1, 16, .inl ((fun _ => 0)))), (nq5, .inl (G.2.1 1, (p1).toNatClampNeg, .inl ((fun _ => 0))))] H := hP
  have hD : va_D A [(a0, .inr (7, [.ref nq1, .ref nq3, .null])), (nq1, .inl (G.2.1 1, 16, .inl ((fun _ => 0)))), (nq3, .inl (G.2.1 1, 16, .inl ((fun _ => 0)))), (nq5, .inl (G.2.1 1, (p1).toNatClampNeg, .inl ((fun _ => 0))))] := hD
  refine va_putF (D := G.1) (ci := 7) (v := .ref nq5) (ty := .array .int) (C := R_Co) (T := F_Co) (N := 3) hx hb hts i_Co t_Co t_Co_ok n_Co hown hK hP hD hS 0 rfl rfl 2 (by decide) (hts _ q85) (fun _ h9 => h9) rfl (hin rfl) rfl (by decide +kernel) rfl rfl (Nat.le_of_ble_eq_true rfl) d_Co_init_24 (fun H locs hP hD hS => ?_)
  have hP : va_P G.1 classes [(a0, .inr (7, [.ref nq1, .ref nq3, .ref nq5])), (nq1, .inl (G.2.1 1, 16, .inl ((fun _ => 0)))), (nq3, .inl (G.2.1 1, 16, .inl ((fun _ => 0)))), (nq5, .inl (G.2.1 1, (p1).toNatClampNeg, .inl ((fun _ => 0))))] H := hP
  have hD : va_D A [(a0, .inr (7, [.ref nq1, .ref nq3, .ref nq5])), (nq1, .inl (G.2.1 1, 16, .inl ((fun _ => 0)))), (nq3, .inl (G.2.1 1, 16, .inl ((fun _ => 0)))), (nq5, .inl (G.2.1 1, (p1).toNatClampNeg, .inl ((fun _ => 0))))] := hD
  obtain ⟨eV, ek, ez⟩ := so3 h
  subst eV
  exact x_vret C0 hQ hP hD hS ⟨nq1, nq3, nq5, rfl⟩ (by omega) (by omega) d_Co_init_27
set_option maxHeartbeats 4000000 in
set_option maxRecDepth 100000 in
theorem w_JA_fill_5 {p : Program} {l : Launch} {e : Env} {R : Room} {s : State} {m : MethodId} {args : Array Value} {below : List Frame} {meth : Method} {c : Code} {Q : State → Prop} {G : GX} {A : Nat → Prop} (C0 : Cx p s m args meth c b_JA_fill 4 y_JA_fill none) (hRf : 0 ≤ R.frames) (hRl : 0 ≤ R.locals) (hA : ∀ q, s.heap.size ≤ q → A q) (hK : KX G s) (hT : TX G A s) (N : Nat) (i1 : Int32) (i3 : Int32) (m0 : Nat) (c0 : Nat) (out : (Nat → Int32)) {kc ks : Nat} (hkc : kc ≤ R.cells) (hks : ks ≤ R.slots)
    (kx20 : ∀ (H : Heap) (locs : List Loc) (ls : Array Slot), va_P G.1 classes [(c0, .inl (G.2.1 1, m0, .inl out))] H → va_D A [(c0, .inl (G.2.1 1, m0, .inl out))] → va_S A s.heap H locs → lv_has ls 4 [] → W p l e R s m args below meth c H locs kc ks Q (F0 m 20 ls [])) :
    ∀ (n : Nat) (i2 : Int32) (g_0 : (Nat → Int32)) (H : Heap) (locs : List Loc) (ls : Array Slot), lp_JA_fill_5 N i1 i3 m0 n i2 g_0 = some out → va_P G.1 classes [(c0, .inl (G.2.1 1, m0, .inl g_0))] H → va_D A [(c0, .inl (G.2.1 1, m0, .inl g_0))] → va_S A s.heap H locs → lv_has ls 4 [(0, .ref c0), (1, .int i1), (2, .int i2), (3, .int i3)] → W p l e R s m args below meth c H locs kc ks Q (F0 m 5 ls []) := by
  obtain ⟨hx, hb, hml, hown, hts, hr, hlocks, hin⟩ := id C0
  have hown : s.vm.findClass R_JA = some m.cls := hown
  intro n
  induction n with
  | zero => intro i2 g_0 H locs ls h; cases h
  | succ n ih =>
    intro i2 g_0 H locs ls h hP hD hS hl
    replace h : lb_JA_fill_5 N i1 i3 m0 (lp_JA_fill_5 N i1 i3 m0 n) i2 g_0 = some out := h
    unfold lb_JA_fill_5 at h
    refine lv_iload_n hx hb d_JA_fill_5 rfl (lv_at hl 2 rfl) ?_
    refine lv_iload_n hx hb d_JA_fill_6 rfl (lv_at hl 3 rfl) ?_
    refine lv_icmp_ge (tgt := 20) hx hb d_JA_fill_7 (by decide) (fun cq6 => ?_) (fun cq6 => ?_)
    · replace h := (if_pos cq6).symm.trans h
      have eV := so1 h
      subst eV
      exact kx20 _ _ _ hP hD hS (lv_sub hl [] rfl)
    · replace h := (if_neg cq6).symm.trans h
      refine lv_aload_n hx hb d_JA_fill_10 rfl (lv_at hl 0 rfl) ?_
      refine lv_iload_n hx hb d_JA_fill_11 rfl (lv_at hl 2 rfl) ?_
      refine lv_iload_n hx hb d_JA_fill_12 rfl (lv_at hl 1 rfl) ?_
      obtain ⟨hi7, h⟩ := Ix_e h
      refine y_iast hx hb hK hP hD hS 0 1 rfl rfl hi7 d_JA_fill_13 (fun g8 H locs eg8 hP hD hS => ?_)
      replace h := Lt_e h eg8
      have hP : va_P G.1 classes [(c0, .inl (G.2.1 1, m0, .inl g8))] H := hP
      have hD : va_D A [(c0, .inl (G.2.1 1, m0, .inl g8))] := hD
      obtain ⟨v9, ev9⟩ : ∃ y : Int32, y = i2 + 1 := ⟨_, rfl⟩
      replace h := Lt_e h ev9
      refine lv_iinc (v := v9) (lv' := [(2, .int v9), (0, .ref c0), (1, .int i1), (3, .int i3)]) hx hb d_JA_fill_14 hl (k := 2) rfl (by rw [ev9]; rfl) (by decide) rfl (fun ls hl => ?_)
      refine lv_goto (tgt := 5) hx hb d_JA_fill_17 (by decide) ?_
      exact ih v9 g8  _ _ _ h hP hD hS (lv_sub hl [1, 2, 0, 3] rfl)
set_option maxHeartbeats 4000000 in
set_option maxRecDepth 100000 in
theorem c_JA_fill (l : Launch) (G : GX) (a0 : Nat) (sz : Nat) (n0 : Nat) (f0 : (Nat → Int32)) (p1 : Int32) (N : Nat) (V : (Nat → Int32)) (h : f_JA_fill N n0 f0 p1 = some V) :
    Met l y_JA_fill (wd y_JA_fill b_JA_fill 4 none) { frames := 0, cells := 0, slots := 0, locals := 0 } (PX G [.ref a0, .int p1] sz [(a0, .inl (G.2.1 1, n0, .inl f0))])
      (QXv G (fun w => w = [(a0, .inl (G.2.1 1, n0, .inl V))]) (va_A [(a0, .inl (G.2.1 1, n0, .inl f0))] sz)) 0 0 (va_A [(a0, .inl (G.2.1 1, n0, .inl f0))] sz) := by
  refine Met_in (QQ := fun A => QXv G (fun w => w = [(a0, .inl (G.2.1 1, n0, .inl V))]) A) (by decide) (Nat.le_of_ble_eq_true rfl) (fun p e s m below meth c R Q A ls C0 hRf hRl hRc hRs hP hK hD hT hA hS hl hQ => ?_)
  obtain ⟨hx, hb, hml, hown, hts, hr, hlocks, hin⟩ := id C0
  have hown : s.vm.findClass R_JA = some m.cls := hown
  have hl : lv_has ls 4 [(0, .ref a0), (1, .int p1)] := hl
  unfold f_JA_fill at h
  have hkc : 0 ≤ R.cells := Nat.zero_le _
  have hks : 0 ≤ R.slots := Nat.zero_le _
  obtain ⟨H, hH⟩ : ∃ H, H = s.heap := ⟨_, rfl⟩
  obtain ⟨locs, hlc⟩ : ∃ x : List Loc, x = [] := ⟨_, rfl⟩
  rw [← hH] at hP
  have hS : va_S A s.heap H locs := by rw [hH, hlc]; exact hS
  suffices hgo : W p l e R s m [.ref a0, .int p1].toArray below meth c H locs 0 0 Q (F0 m 0 ls []) by rw [hH, hlc] at hgo; exact hgo
  refine lv_iconst (v := 0) hx hb d_JA_fill_0 (by decide) ?_
  refine lv_istore_n (lv' := [(2, .int 0), (0, .ref a0), (1, .int p1)]) hx hb d_JA_fill_1 rfl hl (by decide) rfl (fun ls hl => ?_)
  refine lv_aload_n hx hb d_JA_fill_2 rfl (lv_at hl 1 rfl) ?_
  refine va_alen (v := nI n0) hx hb hK hP 0 1 rfl rfl rfl d_JA_fill_3 ?_
  refine lv_topi (fun v1 ev1 => ?_)
  replace h := Lt_e h ev1
  refine lv_istore_n (lv' := [(3, .int v1), (2, .int 0), (0, .ref a0), (1, .int p1)]) hx hb d_JA_fill_4 rfl hl (by decide) rfl (fun ls hl => ?_)
  obtain ⟨r10, hc10, h⟩ := Bd_e h
  refine w_JA_fill_5 C0 hRf hRl hA hK hT N p1 v1 n0 a0 r10 (kc := 0) (ks := 0) hkc hks ?_ N 0 f0  _ _ _ hc10 hP hD hS (lv_sub hl [2, 3, 1, 0] rfl)
  · intro H locs ls hP hD hS hl
    have eV := so1 h
    subst eV
    exact x_vret C0 hQ hP hD hS rfl (Nat.zero_le _) (Nat.zero_le _) d_JA_fill_20
set_option maxHeartbeats 4000000 in
set_option maxRecDepth 100000 in
theorem w_Co_tell_11 {p : Program} {l : Launch} {e : Env} {R : Room} {s : State} {m : MethodId} {args : Array Value} {below : List Frame} {meth : Method} {c : Code} {Q : State → Prop} {G : GX} {A : Nat → Prop} (C0 : Cx p s m args meth c b_Co_tell 6 y_Co_tell none) (hRf : 1 ≤ R.frames) (hRl : 23 ≤ R.locals) (hA : ∀ q, s.heap.size ≤ q → A q) (hK : KX G s) (hT : TX G A s) (N : Nat) (i2 : Int32) (i3 : Int32) (m1 : Nat) (m2 : Nat) (g_2 : (Nat → Int32)) (m3 : Nat) (g_3 : (Nat → Int32)) (m4 : Nat) (g_4 : (Nat → Int32)) (c0 c1 c2 c3 c4 : Nat) (out : (Nat → Int32)) {kc ks : Nat} (hkc : kc ≤ R.cells) (hks : ks ≤ R.slots)
    (kx38 : ∀ (H : Heap) (locs : List Loc) (ls : Array Slot), va_P G.1 classes [(c0, .inr (7, [.ref c1, .ref c2, .ref c3])), (c1, .inl (G.2.1 1, m1, .inl out)), (c2, .inl (G.2.1 1, m2, .inl g_2)), (c3, .inl (G.2.1 1, m3, .inl g_3)), (c4, .inl (G.2.1 1, m4, .inl g_4))] H → va_D A [(c0, .inr (7, [.ref c1, .ref c2, .ref c3])), (c1, .inl (G.2.1 1, m1, .inl out)), (c2, .inl (G.2.1 1, m2, .inl g_2)), (c3, .inl (G.2.1 1, m3, .inl g_3)), (c4, .inl (G.2.1 1, m4, .inl g_4))] → va_S A s.heap H locs → lv_has ls 6 [(0, .ref c0), (1, .ref c4), (2, .int i2), (3, .int i3)] → W p l e R s m args below meth c H locs kc ks Q (F0 m 38 ls [])) :
    ∀ (n : Nat) (i4 : Int32) (g_1 : (Nat → Int32)) (H : Heap) (locs : List Loc) (ls : Array Slot), lp_Co_tell_11 N i2 i3 m1 m4 g_4 n i4 g_1 = some out → va_P G.1 classes [(c0, .inr (7, [.ref c1, .ref c2, .ref c3])), (c1, .inl (G.2.1 1, m1, .inl g_1)), (c2, .inl (G.2.1 1, m2, .inl g_2)), (c3, .inl (G.2.1 1, m3, .inl g_3)), (c4, .inl (G.2.1 1, m4, .inl g_4))] H → va_D A [(c0, .inr (7, [.ref c1, .ref c2, .ref c3])), (c1, .inl (G.2.1 1, m1, .inl g_1)), (c2, .inl (G.2.1 1, m2, .inl g_2)), (c3, .inl (G.2.1 1, m3, .inl g_3)), (c4, .inl (G.2.1 1, m4, .inl g_4))] → va_S A s.heap H locs → lv_has ls 6 [(0, .ref c0), (1, .ref c4), (2, .int i2), (3, .int i3), (4, .int i4)] → W p l e R s m args below meth c H locs kc ks Q (F0 m 11 ls []) := by
  obtain ⟨hx, hb, hml, hown, hts, hr, hlocks, hin⟩ := id C0
  have hown : s.vm.findClass R_Co = some m.cls := hown
  intro n
  induction n with
  | zero => intro i4 g_1 H locs ls h; cases h
  | succ n ih =>
    intro i4 g_1 H locs ls h hP hD hS hl
    replace h : lb_Co_tell_11 N i2 i3 m1 m4 g_4 (lp_Co_tell_11 N i2 i3 m1 m4 g_4 n) i4 g_1 = some out := h
    unfold lb_Co_tell_11 at h
    refine lv_iload hx hb d_Co_tell_11 (lv_at hl 4 rfl) ?_
    refine lv_iload_n hx hb d_Co_tell_13 rfl (lv_at hl 3 rfl) ?_
    refine lv_icmp_ge (tgt := 38) hx hb d_Co_tell_14 (by decide) (fun cq8 => ?_) (fun cq8 => ?_)
    · replace h := (if_pos cq8).symm.trans h
      have eV := so1 h
      subst eV
      exact kx38 _ _ _ hP hD hS (lv_sub hl [0, 1, 2, 3] rfl)
    · replace h := (if_neg cq8).symm.trans h
      refine lv_aload_n hx hb d_Co_tell_17 rfl (lv_at hl 0 rfl) ?_
      refine va_get (D := G.1) (ci := 7) (v := .ref c1) (C := R_Co) (T := F_Co) (N := 3) hx hb hts i_Co hown hK hP 0 rfl rfl 0 (by decide) (hts _ q83) (fun _ h9 => h9) rfl d_Co_tell_18 ?_
      refine lv_aload_n hx hb d_Co_tell_21 rfl (lv_at hl 1 rfl) ?_
      refine lv_iload_n hx hb d_Co_tell_22 rfl (lv_at hl 2 rfl) ?_
      refine lv_iload hx hb d_Co_tell_23 (lv_at hl 4 rfl) ?_
      refine lv_iadd hx hb d_Co_tell_25 ?_
      obtain ⟨hi9, h⟩ := Ix_e h
      refine va_iald hx hb hK hP 4 1 rfl rfl hi9 d_Co_tell_26 ?_
      refine lv_dup2_11 hx hb d_Co_tell_27 rfl rfl ?_
      obtain ⟨hi10, h⟩ := Ix_e h
      refine va_iald hx hb hK hP 1 1 rfl rfl hi10 d_Co_tell_28 ?_
      refine lv_iconst (v := 1) hx hb d_Co_tell_29 (by decide) ?_
      refine lv_iadd hx hb d_Co_tell_30 ?_
      obtain ⟨hi11, h⟩ := Ix_e h
      refine y_iast hx hb hK hP hD hS 1 1 rfl rfl hi11 d_Co_tell_31 (fun g12 H locs eg12 hP hD hS => ?_)
      replace h := Lt_e h eg12
      have hP : va_P G.1 classes [(c0, .inr (7, [.ref c1, .ref c2, .ref c3])), (c1, .inl (G.2.1 1, m1, .inl g12)), (c2, .inl (G.2.1 1, m2, .inl g_2)), (c3, .inl (G.2.1 1, m3, .inl g_3)), (c4, .inl (G.2.1 1, m4, .inl g_4))] H := hP
      have hD : va_D A [(c0, .inr (7, [.ref c1, .ref c2, .ref c3])), (c1, .inl (G.2.1 1, m1, .inl g12)), (c2, .inl (G.2.1 1, m2, .inl g_2)), (c3, .inl (G.2.1 1, m3, .inl g_3)), (c4, .inl (G.2.1 1, m4, .inl g_4))] := hD
      obtain ⟨v13, ev13⟩ : ∃ y : Int32, y = i4 + 1 := ⟨_, rfl⟩
      replace h := Lt_e h ev13
      refine lv_iinc (v := v13) (lv' := [(4, .int v13), (0, .ref c0), (1, .ref c4), (2, .int i2), (3, .int i3)]) hx hb d_Co_tell_32 hl (k := 4) rfl (by rw [ev13]; rfl) (by decide) rfl (fun ls hl => ?_)
      refine lv_goto (tgt := 11) hx hb d_Co_tell_35 (by decide) ?_
      exact ih v13 g12  _ _ _ h hP hD hS (lv_sub hl [1, 2, 3, 4, 0] rfl)
set_option maxHeartbeats 4000000 in
set_option maxRecDepth 100000 in
theorem w_Co_tell_55 {p : Program} {l : Launch} {e : Env} {R : Room} {s : State} {m : MethodId} {args : Array Value} {below : List Frame} {meth : Method} {c : Code} {Q : State → Prop} {G : GX} {A : Nat → Prop} (C0 : Cx p s m args meth c b_Co_tell 6 y_Co_tell none) (hRf : 1 ≤ R.frames) (hRl : 23 ≤ R.locals) (hA : ∀ q, s.heap.size ≤ q → A q) (hK : KX G s) (hT : TX G A s) (N : Nat) (i2 : Int32) (i3 : Int32) (m1 : Nat) (g_1 : (Nat → Int32)) (m2 : Nat) (m3 : Nat) (g_3 : (Nat → Int32)) (m4 : Nat) (g_4 : (Nat → Int32)) (c0 c1 c2 c3 c4 : Nat) (out : (Nat → Int32)) {kc ks : Nat} (hkc : kc ≤ R.cells) (hks : ks ≤ R.slots)
    (kx94 : ∀ (H : Heap) (locs : List Loc) (ls : Array Slot), va_P G.1 classes [(c0, .inr (7, [.ref c1, .ref c2, .ref c3])), (c1, .inl (G.2.1 1, m1, .inl g_1)), (c2, .inl (G.2.1 1, m2, .inl out)), (c3, .inl (G.2.1 1, m3, .inl g_3)), (c4, .inl (G.2.1 1, m4, .inl g_4))] H → va_D A [(c0, .inr (7, [.ref c1, .ref c2, .ref c3])), (c1, .inl (G.2.1 1, m1, .inl g_1)), (c2, .inl (G.2.1 1, m2, .inl out)), (c3, .inl (G.2.1 1, m3, .inl g_3)), (c4, .inl (G.2.1 1, m4, .inl g_4))] → va_S A s.heap H locs → lv_has ls 6 [(0, .ref c0), (1, .ref c4), (2, .int i2), (3, .int i3)] → W p l e R s m args below meth c H locs kc ks Q (F0 m 94 ls [])) :
    ∀ (n : Nat) (i4 : Int32) (g_2 : (Nat → Int32)) (H : Heap) (locs : List Loc) (ls : Array Slot), lp_Co_tell_55 N m1 g_1 m2 n i4 g_2 = some out → va_P G.1 classes [(c0, .inr (7, [.ref c1, .ref c2, .ref c3])), (c1, .inl (G.2.1 1, m1, .inl g_1)), (c2, .inl (G.2.1 1, m2, .inl g_2)), (c3, .inl (G.2.1 1, m3, .inl g_3)), (c4, .inl (G.2.1 1, m4, .inl g_4))] H → va_D A [(c0, .inr (7, [.ref c1, .ref c2, .ref c3])), (c1, .inl (G.2.1 1, m1, .inl g_1)), (c2, .inl (G.2.1 1, m2, .inl g_2)), (c3, .inl (G.2.1 1, m3, .inl g_3)), (c4, .inl (G.2.1 1, m4, .inl g_4))] → va_S A s.heap H locs → lv_has ls 6 [(0, .ref c0), (1, .ref c4), (2, .int i2), (3, .int i3), (4, .int i4)] → W p l e R s m args below meth c H locs kc ks Q (F0 m 55 ls []) := by
  obtain ⟨hx, hb, hml, hown, hts, hr, hlocks, hin⟩ := id C0
  have hown : s.vm.findClass R_Co = some m.cls := hown
  intro n
  induction n with
  | zero => intro i4 g_2 H locs ls h; cases h
  | succ n ih =>
    intro i4 g_2 H locs ls h hP hD hS hl
    replace h : lb_Co_tell_55 N m1 g_1 m2 (lp_Co_tell_55 N m1 g_1 m2 n) i4 g_2 = some out := h
    unfold lb_Co_tell_55 at h
    refine lv_iload hx hb d_Co_tell_55 (lv_at hl 4 rfl) ?_
    refine lv_bipush (v := 15) hx hb d_Co_tell_57 (by decide) ?_
    refine lv_icmp_gt (tgt := 94) hx hb d_Co_tell_59 (by decide) (fun cq25 => ?_) (fun cq25 => ?_)
    · replace h := (if_pos cq25).symm.trans h
      have eV := so1 h
      subst eV
      exact kx94 _ _ _ hP hD hS (lv_sub hl [0, 1, 2, 3] rfl)
    · replace h := (if_neg cq25).symm.trans h
      refine lv_aload_n hx hb d_Co_tell_62 rfl (lv_at hl 0 rfl) ?_
      refine va_get (D := G.1) (ci := 7) (v := .ref c2) (C := R_Co) (T := F_Co) (N := 3) hx hb hts i_Co hown hK hP 0 rfl rfl 1 (by decide) (hts _ q84) (fun _ h9 => h9) rfl d_Co_tell_63 ?_
      refine lv_iload hx hb d_Co_tell_66 (lv_at hl 4 rfl) ?_
      refine lv_aload_n hx hb d_Co_tell_68 rfl (lv_at hl 0 rfl) ?_
      refine va_get (D := G.1) (ci := 7) (v := .ref c2) (C := R_Co) (T := F_Co) (N := 3) hx hb hts i_Co hown hK hP 0 rfl rfl 1 (by decide) (hts _ q84) (fun _ h9 => h9) rfl d_Co_tell_69 ?_
      refine lv_iload hx hb d_Co_tell_72 (lv_at hl 4 rfl) ?_
      refine lv_iconst (v := 1) hx hb d_Co_tell_74 (by decide) ?_
      refine lv_isub hx hb d_Co_tell_75 ?_
      obtain ⟨hi26, h⟩ := Ix_e h
      refine va_iald hx hb hK hP 2 1 rfl rfl hi26 d_Co_tell_76 ?_
      refine lv_aload_n hx hb d_Co_tell_77 rfl (lv_at hl 0 rfl) ?_
      refine va_get (D := G.1) (ci := 7) (v := .ref c1) (C := R_Co) (T := F_Co) (N := 3) hx hb hts i_Co hown hK hP 0 rfl rfl 0 (by decide) (hts _ q83) (fun _ h9 => h9) rfl d_Co_tell_78 ?_
      refine lv_iload hx hb d_Co_tell_81 (lv_at hl 4 rfl) ?_
      refine lv_iconst (v := 1) hx hb d_Co_tell_83 (by decide) ?_
      refine lv_isub hx hb d_Co_tell_84 ?_
      obtain ⟨hi27, h⟩ := Ix_e h
      refine va_iald hx hb hK hP 1 1 rfl rfl hi27 d_Co_tell_85 ?_
      refine lv_iadd hx hb d_Co_tell_86 ?_
      obtain ⟨hi28, h⟩ := Ix_e h
      refine y_iast hx hb hK hP hD hS 2 1 rfl rfl hi28 d_Co_tell_87 (fun g29 H locs eg29 hP hD hS => ?_)
      replace h := Lt_e h eg29
      have hP : va_P G.1 classes [(c0, .inr (7, [.ref c1, .ref c2, .ref c3])), (c1, .inl (G.2.1 1, m1, .inl g_1)), (c2, .inl (G.2.1 1, m2, .inl g29)), (c3, .inl (G.2.1 1, m3, .inl g_3)), (c4, .inl (G.2.1 1, m4, .inl g_4))] H := hP
      have hD : va_D A [(c0, .inr (7, [.ref c1, .ref c2, .ref c3])), (c1, .inl (G.2.1 1, m1, .inl g_1)), (c2, .inl (G.2.1 1, m2, .inl g29)), (c3, .inl (G.2.1 1, m3, .inl g_3)), (c4, .inl (G.2.1 1, m4, .inl g_4))] := hD
      obtain ⟨v30, ev30⟩ : ∃ y : Int32, y = i4 + 1 := ⟨_, rfl⟩
      replace h := Lt_e h ev30
      refine lv_iinc (v := v30) (lv' := [(4, .int v30), (0, .ref c0), (1, .ref c4), (2, .int i2), (3, .int i3)]) hx hb d_Co_tell_88 hl (k := 4) rfl (by rw [ev30]; rfl) (by decide) rfl (fun ls hl => ?_)
      refine lv_goto (tgt := 55) hx hb d_Co_tell_91 (by decide) ?_
      exact ih v30 g29  _ _ _ h hP hD hS (lv_sub hl [1, 2, 3, 4, 0] rfl)
set_option maxHeartbeats 4000000 in
set_option maxRecDepth 100000 in
theorem w_Co_tell_97 {p : Program} {l : Launch} {e : Env} {R : Room} {s : State} {m : MethodId} {args : Array Value} {below : List Frame} {meth : Method} {c : Code} {Q : State → Prop} {G : GX} {A : Nat → Prop} (C0 : Cx p s m args meth c b_Co_tell 6 y_Co_tell none) (hRf : 1 ≤ R.frames) (hRl : 23 ≤ R.locals) (hA : ∀ q, s.heap.size ≤ q → A q) (hK : KX G s) (hT : TX G A s) (N : Nat) (i2 : Int32) (i3 : Int32) (m1 : Nat) (g_1 : (Nat → Int32)) (m2 : Nat) (m3 : Nat) (m4 : Nat) (g_4 : (Nat → Int32)) (c0 c1 c2 c3 c4 : Nat) (out : (Nat → Int32) × (Nat → Int32)) {kc ks : Nat} (hkc : kc ≤ R.cells) (hks : ks ≤ R.slots)
    (kx147 : ∀ (H : Heap) (locs : List Loc) (ls : Array Slot), va_P G.1 classes [(c0, .inr (7, [.ref c1, .ref c2, .ref c3])), (c1, .inl (G.2.1 1, m1, .inl g_1)), (c2, .inl (G.2.1 1, m2, .inl out.1)), (c3, .inl (G.2.1 1, m3, .inl out.2)), (c4, .inl (G.2.1 1, m4, .inl g_4))] H → va_D A [(c0, .inr (7, [.ref c1, .ref c2, .ref c3])), (c1, .inl (G.2.1 1, m1, .inl g_1)), (c2, .inl (G.2.1 1, m2, .inl out.1)), (c3, .inl (G.2.1 1, m3, .inl out.2)), (c4, .inl (G.2.1 1, m4, .inl g_4))] → va_S A s.heap H locs → lv_has ls 6 [] → W p l e R s m args below meth c H locs kc ks Q (F0 m 147 ls [])) :
    ∀ (n : Nat) (i4 : Int32) (g_2 : (Nat → Int32)) (g_3 : (Nat → Int32)) (H : Heap) (locs : List Loc) (ls : Array Slot), lp_Co_tell_97 N i2 i3 m2 m3 m4 g_4 n i4 g_2 g_3 = some out → va_P G.1 classes [(c0, .inr (7, [.ref c1, .ref c2, .ref c3])), (c1, .inl (G.2.1 1, m1, .inl g_1)), (c2, .inl (G.2.1 1, m2, .inl g_2)), (c3, .inl (G.2.1 1, m3, .inl g_3)), (c4, .inl (G.2.1 1, m4, .inl g_4))] H → va_D A [(c0, .inr (7, [.ref c1, .ref c2, .ref c3])), (c1, .inl (G.2.1 1, m1, .inl g_1)), (c2, .inl (G.2.1 1, m2, .inl g_2)), (c3, .inl (G.2.1 1, m3, .inl g_3)), (c4, .inl (G.2.1 1, m4, .inl g_4))] → va_S A s.heap H locs → lv_has ls 6 [(0, .ref c0), (1, .ref c4), (2, .int i2), (3, .int i3), (4, .int i4)] → W p l e R s m args below meth c H locs kc ks Q (F0 m 97 ls []) := by
  obtain ⟨hx, hb, hml, hown, hts, hr, hlocks, hin⟩ := id C0
  have hown : s.vm.findClass R_Co = some m.cls := hown
  intro n
  induction n with
  | zero => intro i4 g_2 g_3 H locs ls h; cases h
  | succ n ih =>
    intro i4 g_2 g_3 H locs ls h hP hD hS hl
    replace h : lb_Co_tell_97 N i2 i3 m2 m3 m4 g_4 (lp_Co_tell_97 N i2 i3 m2 m3 m4 g_4 n) i4 g_2 g_3 = some out := h
    unfold lb_Co_tell_97 at h
    refine lv_iload hx hb d_Co_tell_97 (lv_at hl 4 rfl) ?_
    refine lv_iload_n hx hb d_Co_tell_99 rfl (lv_at hl 3 rfl) ?_
    refine lv_icmp_ge (tgt := 147) hx hb d_Co_tell_100 (by decide) (fun cq44 => ?_) (fun cq44 => ?_)
    · replace h := (if_pos cq44).symm.trans h
      have eV := so1 h
      subst eV
      exact kx147 _ _ _ hP hD hS (lv_sub hl [] rfl)
    · replace h := (if_neg cq44).symm.trans h
      refine lv_aload_n hx hb d_Co_tell_103 rfl (lv_at hl 1 rfl) ?_
      refine lv_iload_n hx hb d_Co_tell_104 rfl (lv_at hl 2 rfl) ?_
      refine lv_iload hx hb d_Co_tell_105 (lv_at hl 4 rfl) ?_
      refine lv_iadd hx hb d_Co_tell_107 ?_
      obtain ⟨hi45, h⟩ := Ix_e h
      refine va_iald hx hb hK hP 4 1 rfl rfl hi45 d_Co_tell_108 ?_
      refine lv_topi (fun v46 ev46 => ?_)
      replace h := Lt_e h ev46
      refine lv_istore (lv' := [(5, .int v46), (0, .ref c0), (1, .ref c4), (2, .int i2), (3, .int i3), (4, .int i4)]) hx hb d_Co_tell_109 hl (by decide) rfl (fun ls hl => ?_)
      refine lv_iload hx hb d_Co_tell_111 (lv_at hl 0 rfl) ?_
      refine lv_if_eq (tgt := 141) hx hb d_Co_tell_113 (by decide) (fun cq47 => ?_) (fun cq47 => ?_)
      · replace h := (if_pos cq47).symm.trans h
        obtain ⟨v48, ev48⟩ : ∃ y : Int32, y = i4 + 1 := ⟨_, rfl⟩
        replace h := Lt_e h ev48
        refine lv_iinc (v := v48) (lv' := [(4, .int v48), (5, .int v46), (0, .ref c0), (1, .ref c4), (2, .int i2), (3, .int i3)]) hx hb d_Co_tell_141 hl (k := 5) rfl (by rw [ev48]; rfl) (by decide) rfl (fun ls hl => ?_)
        refine lv_goto (tgt := 97) hx hb d_Co_tell_144 (by decide) ?_
        exact ih v48 g_2 g_3  _ _ _ h hP hD hS (lv_sub hl [2, 3, 4, 5, 0] rfl)
      · replace h := (if_neg cq47).symm.trans h
        refine lv_aload_n hx hb d_Co_tell_116 rfl (lv_at hl 1 rfl) ?_
        refine va_get (D := G.1) (ci := 7) (v := .ref c3) (C := R_Co) (T := F_Co) (N := 3) hx hb hts i_Co hown hK hP 0 rfl rfl 2 (by decide) (hts _ q85) (fun _ h9 => h9) rfl d_Co_tell_117 ?_
        refine lv_aload_n hx hb d_Co_tell_120 rfl (lv_at hl 1 rfl) ?_
        refine va_get (D := G.1) (ci := 7) (v := .ref c2) (C := R_Co) (T := F_Co) (N := 3) hx hb hts i_Co hown hK hP 0 rfl rfl 1 (by decide) (hts _ q84) (fun _ h9 => h9) rfl d_Co_tell_121 ?_
        refine lv_iload hx hb d_Co_tell_124 (lv_at hl 0 rfl) ?_
        obtain ⟨hi49, h⟩ := Ix_e h
        refine va_iald hx hb hK hP 2 1 rfl rfl hi49 d_Co_tell_126 ?_
        refine lv_iload hx hb d_Co_tell_127 (lv_at hl 5 rfl) ?_
        obtain ⟨hi50, h⟩ := Ix_e h
        refine y_iast hx hb hK hP hD hS 3 1 rfl rfl hi50 d_Co_tell_129 (fun g51 H locs eg51 hP hD hS => ?_)
        replace h := Lt_e h eg51
        have hP : va_P G.1 classes [(c0, .inr (7, [.ref c1, .ref c2, .ref c3])), (c1, .inl (G.2.1 1, m1, .inl g_1)), (c2, .inl (G.2.1 1, m2, .inl g_2)), (c3, .inl (G.2.1 1, m3, .inl g51)), (c4, .inl (G.2.1 1, m4, .inl g_4))] H := hP
        have hD : va_D A [(c0, .inr (7, [.ref c1, .ref c2, .ref c3])), (c1, .inl (G.2.1 1, m1, .inl g_1)), (c2, .inl (G.2.1 1, m2, .inl g_2)), (c3, .inl (G.2.1 1, m3, .inl g51)), (c4, .inl (G.2.1 1, m4, .inl g_4))] := hD
        refine lv_aload_n hx hb d_Co_tell_130 rfl (lv_at hl 1 rfl) ?_
        refine va_get (D := G.1) (ci := 7) (v := .ref c2) (C := R_Co) (T := F_Co) (N := 3) hx hb hts i_Co hown hK hP 0 rfl rfl 1 (by decide) (hts _ q84) (fun _ h9 => h9) rfl d_Co_tell_131 ?_
        refine lv_iload hx hb d_Co_tell_134 (lv_at hl 0 rfl) ?_
        refine lv_dup2_11 hx hb d_Co_tell_136 rfl rfl ?_
        obtain ⟨hi52, h⟩ := Ix_e h
        refine va_iald hx hb hK hP 2 1 rfl rfl hi52 d_Co_tell_137 ?_
        refine lv_iconst (v := 1) hx hb d_Co_tell_138 (by decide) ?_
        refine lv_iadd hx hb d_Co_tell_139 ?_
        obtain ⟨hi53, h⟩ := Ix_e h
        refine y_iast hx hb hK hP hD hS 2 1 rfl rfl hi53 d_Co_tell_140 (fun g54 H locs eg54 hP hD hS => ?_)
        replace h := Lt_e h eg54
        have hP : va_P G.1 classes [(c0, .inr (7, [.ref c1, .ref c2, .ref c3])), (c1, .inl (G.2.1 1, m1, .inl g_1)), (c2, .inl (G.2.1 1, m2, .inl g54)), (c3, .inl (G.2.1 1, m3, .inl g51)), (c4, .inl (G.2.1 1, m4, .inl g_4))] H := hP
        have hD : va_D A [(c0, .inr (7, [.ref c1, .ref c2, .ref c3])), (c1, .inl (G.2.1 1, m1, .inl g_1)), (c2, .inl (G.2.1 1, m2, .inl g54)), (c3, .inl (G.2.1 1, m3, .inl g51)), (c4, .inl (G.2.1 1, m4, .inl g_4))] := hD
        obtain ⟨v55, ev55⟩ : ∃ y : Int32, y = i4 + 1 := ⟨_, rfl⟩
        replace h := Lt_e h ev55
        refine lv_iinc (v := v55) (lv' := [(4, .int v55), (5, .int v46), (0, .ref c0), (1, .ref c4), (2, .int i2), (3, .int i3)]) hx hb d_Co_tell_141 hl (k := 5) rfl (by rw [ev55]; rfl) (by decide) rfl (fun ls hl => ?_)
        refine lv_goto (tgt := 97) hx hb d_Co_tell_144 (by decide) ?_
        exact ih v55 g54 g51  _ _ _ h hP hD hS (lv_sub hl [2, 3, 4, 5, 0] rfl)
set_option maxHeartbeats 4000000 in
set_option maxRecDepth 100000 in
theorem c_Co_tell (l : Launch) (G : GX) (a0 a1 a2 a3 a4 : Nat) (sz : Nat) (n1 : Nat) (f1 : (Nat → Int32)) (n2 : Nat) (f2 : (Nat → Int32)) (n3 : Nat) (f3 : (Nat → Int32)) (n4 : Nat) (f4 : (Nat → Int32)) (p2 : Int32) (p3 : Int32) (N : Nat) (V : (Nat → Int32) × (Nat → Int32) × (Nat → Int32)) (h : f_Co_tell N n1 f1 n2 f2 n3 f3 n4 f4 p2 p3 = some V) :
    Met l y_Co_tell (wd y_Co_tell b_Co_tell 6 none) { frames := 1, cells := 0, slots := 0, locals := 23 } (PX G [.ref a0, .ref a2, .int p2, .int p3] sz [(a0, .inr (7, [.ref a1, .ref a3, .ref a4])), (a1, .inl (G.2.1 1, n1, .inl f1)), (a2, .inl (G.2.1 1, n2, .inl f2)), (a3, .inl (G.2.1 1, n3, .inl f3)), (a4, .inl (G.2.1 1, n4, .inl f4))])
      (QXv G (fun w => w = [(a0, .inr (7, [.ref a1, .ref a3, .ref a4])), (a1, .inl (G.2.1 1, n1, .inl V.1)), (a2, .inl (G.2.1 1, n2, .inl f2)), (a3, .inl (G.2.1 1, n3, .inl V.2.1)), (a4, .inl (G.2.1 1, n4, .inl V.2.2))]) (va_A [(a0, .inr (7, [.ref a1, .ref a3, .ref a4])), (a1, .inl (G.2.1 1, n1, .inl f1)), (a2, .inl (G.2.1 1, n2, .inl f2)), (a3, .inl (G.2.1 1, n3, .inl f3)), (a4, .inl (G.2.1 1, n4, .inl f4))] sz)) 0 0 (va_A [(a0, .inr (7, [.ref a1, .ref a3, .ref a4])), (a1, .inl (G.2.1 1, n1, .inl f1)), (a2, .inl (G.2.1 1, n2, .inl f2)), (a3, .inl (G.2.1 1, n3, .inl f3)), (a4, .inl (G.2.1 1, n4, .inl f4))] sz) := by
  refine Met_in (QQ := fun A => QXv G (fun w => w = [(a0, .inr (7, [.ref a1, .ref a3, .ref a4])), (a1, .inl (G.2.1 1, n1, .inl V.1)), (a2, .inl (G.2.1 1, n2, .inl f2)), (a3, .inl (G.2.1 1, n3, .inl V.2.1)), (a4, .inl (G.2.1 1, n4, .inl V.2.2))]) A) (by decide) (Nat.le_of_ble_eq_true rfl) (fun p e s m below meth c R Q A ls C0 hRf hRl hRc hRs hP hK hD hT hA hS hl hQ => ?_)
  obtain ⟨hx, hb, hml, hown, hts, hr, hlocks, hin⟩ := id C0
  have hown : s.vm.findClass R_Co = some m.cls := hown
  have hl : lv_has ls 6 [(0, .ref a0), (1, .ref a2), (2, .int p2), (3, .int p3)] := hl
  unfold f_Co_tell at h
  have hkc : 0 ≤ R.cells := Nat.zero_le _
  have hks : 0 ≤ R.slots := Nat.zero_le _
  obtain ⟨H, hH⟩ : ∃ H, H = s.heap := ⟨_, rfl⟩
  obtain ⟨locs, hlc⟩ : ∃ x : List Loc, x = [] := ⟨_, rfl⟩
  rw [← hH] at hP
  have hS : va_S A s.heap H locs := by rw [hH, hlc]; exact hS
  suffices hgo : W p l e R s m [.ref a0, .ref a2, .int p2, .int p3].toArray below meth c H locs 0 0 Q (F0 m 0 ls []) by rw [hH, hlc] at hgo; exact hgo
  refine lv_aload_n hx hb d_Co_tell_0 rfl (lv_at hl 0 rfl) ?_
  refine va_get (D := G.1) (ci := 7) (v := .ref a1) (C := R_Co) (T := F_Co) (N := 3) hx hb hts i_Co hown hK hP 0 rfl rfl 0 (by decide) (hts _ q83) (fun _ h9 => h9) rfl d_Co_tell_1 ?_
  refine lv_iconst (v := 0) hx hb d_Co_tell_4 (by decide) ?_
  obtain ⟨r1, hc1, h⟩ := Bd_e h
  refine xS_v0 (wr := [(a0, .inr (7, [.ref a1, .ref a3, .ref a4])), (a2, .inl (G.2.1 1, n2, .inl f2)), (a3, .inl (G.2.1 1, n3, .inl f3)), (a4, .inl (G.2.1 1, n4, .inl f4))]) (rest := []) C0 hK hT hA hP hD hS hl.1 (c_JA_fill l G a1 _ n1 f1 0 N r1 hc1) (goodS q90 q91 q92 q93) 2 rfl hd_JA_fill (Nat.le_trans (by decide) hRf) (Nat.le_trans (by decide) hRl) [1] [0, 2, 3, 4] rfl rfl (by decide) (by decide) (by decide) rfl (Nat.le_of_ble_eq_true rfl) d_Co_tell_5 hkc hks (fun w1 H locs hE hP hD hS => ?_)
  subst hE
  have hP : va_P G.1 classes [(a0, .inr (7, [.ref a1, .ref a3, .ref a4])), (a2, .inl (G.2.1 1, n2, .inl f2)), (a3, .inl (G.2.1 1, n3, .inl f3)), (a4, .inl (G.2.1 1, n4, .inl f4)), (a1, .inl (G.2.1 1, n1, .inl r1))] H := hP
  have hD : va_D A [(a0, .inr (7, [.ref a1, .ref a3, .ref a4])), (a2, .inl (G.2.1 1, n2, .inl f2)), (a3, .inl (G.2.1 1, n3, .inl f3)), (a4, .inl (G.2.1 1, n4, .inl f4)), (a1, .inl (G.2.1 1, n1, .inl r1))] := hD
  refine lv_iconst (v := 0) hx hb d_Co_tell_8 (by decide) ?_
  refine lv_istore (lv' := [(4, .int 0), (0, .ref a0), (1, .ref a2), (2, .int p2), (3, .int p3)]) hx hb d_Co_tell_9 hl (by decide) rfl (fun ls hl => ?_)
  obtain ⟨r14, hc14, h⟩ := Bd_e h
  refine w_Co_tell_11 C0 hRf hRl hA hK hT N p2 p3 n1 n3 f3 n4 f4 n2 f2 a0 a1 a3 a4 a2 r14 (kc := 0) (ks := 0) hkc hks ?_ N 0 r1  _ _ _ hc14 (hP.sub (ws' := [(a0, .inr (7, [.ref a1, .ref a3, .ref a4])), (a1, .inl (G.2.1 1, n1, .inl r1)), (a3, .inl (G.2.1 1, n3, .inl f3)), (a4, .inl (G.2.1 1, n4, .inl f4)), (a2, .inl (G.2.1 1, n2, .inl f2))]) [0, 4, 2, 3, 1] rfl) (hD.sub (ws' := [(a0, .inr (7, [.ref a1, .ref a3, .ref a4])), (a1, .inl (G.2.1 1, n1, .inl r1)), (a3, .inl (G.2.1 1, n3, .inl f3)), (a4, .inl (G.2.1 1, n4, .inl f4)), (a2, .inl (G.2.1 1, n2, .inl f2))]) [0, 4, 2, 3, 1] (by decide) rfl) hS (lv_sub hl [1, 2, 3, 4, 0] rfl)
  · intro H locs ls hP hD hS hl
    refine lv_aload_n hx hb d_Co_tell_38 rfl (lv_at hl 0 rfl) ?_
    refine va_get (D := G.1) (ci := 7) (v := .ref a1) (C := R_Co) (T := F_Co) (N := 3) hx hb hts i_Co hown hK hP 0 rfl rfl 0 (by decide) (hts _ q83) (fun _ h9 => h9) rfl d_Co_tell_39 ?_
    refine lv_iconst (v := 0) hx hb d_Co_tell_42 (by decide) ?_
    refine lv_iconst (v := 0) hx hb d_Co_tell_43 (by decide) ?_
    obtain ⟨hi15, h⟩ := Ix_e h
    refine y_iast hx hb hK hP hD hS 1 1 rfl rfl hi15 d_Co_tell_44 (fun g16 H locs eg16 hP hD hS => ?_)
    replace h := Lt_e h eg16
    have hP : va_P G.1 classes [(a0, .inr (7, [.ref a1, .ref a3, .ref a4])), (a1, .inl (G.2.1 1, n1, .inl g16)), (a3, .inl (G.2.1 1, n3, .inl f3)), (a4, .inl (G.2.1 1, n4, .inl f4)), (a2, .inl (G.2.1 1, n2, .inl f2))] H := hP
    have hD : va_D A [(a0, .inr (7, [.ref a1, .ref a3, .ref a4])), (a1, .inl (G.2.1 1, n1, .inl g16)), (a3, .inl (G.2.1 1, n3, .inl f3)), (a4, .inl (G.2.1 1, n4, .inl f4)), (a2, .inl (G.2.1 1, n2, .inl f2))] := hD
    refine lv_aload_n hx hb d_Co_tell_45 rfl (lv_at hl 0 rfl) ?_
    refine va_get (D := G.1) (ci := 7) (v := .ref a3) (C := R_Co) (T := F_Co) (N := 3) hx hb hts i_Co hown hK hP 0 rfl rfl 1 (by decide) (hts _ q84) (fun _ h9 => h9) rfl d_Co_tell_46 ?_
    refine lv_iconst (v := 0) hx hb d_Co_tell_49 (by decide) ?_
    refine lv_iconst (v := 0) hx hb d_Co_tell_50 (by decide) ?_
    obtain ⟨hi17, h⟩ := Ix_e h
    refine y_iast hx hb hK hP hD hS 2 1 rfl rfl hi17 d_Co_tell_51 (fun g18 H locs eg18 hP hD hS => ?_)
    replace h := Lt_e h eg18
    have hP : va_P G.1 classes [(a0, .inr (7, [.ref a1, .ref a3, .ref a4])), (a1, .inl (G.2.1 1, n1, .inl g16)), (a3, .inl (G.2.1 1, n3, .inl g18)), (a4, .inl (G.2.1 1, n4, .inl f4)), (a2, .inl (G.2.1 1, n2, .inl f2))] H := hP
    have hD : va_D A [(a0, .inr (7, [.ref a1, .ref a3, .ref a4])), (a1, .inl (G.2.1 1, n1, .inl g16)), (a3, .inl (G.2.1 1, n3, .inl g18)), (a4, .inl (G.2.1 1, n4, .inl f4)), (a2, .inl (G.2.1 1, n2, .inl f2))] := hD
    refine lv_iconst (v := 1) hx hb d_Co_tell_52 (by decide) ?_
    refine lv_istore (lv' := [(4, .int 1), (0, .ref a0), (1, .ref a2), (2, .int p2), (3, .int p3)]) hx hb d_Co_tell_53 hl (by decide) rfl (fun ls hl => ?_)
    obtain ⟨r31, hc31, h⟩ := Bd_e h
    refine w_Co_tell_55 C0 hRf hRl hA hK hT N p2 p3 n1 g16 n3 n4 f4 n2 f2 a0 a1 a3 a4 a2 r31 (kc := 0) (ks := 0) hkc hks ?_ N 1 g18  _ _ _ hc31 hP hD hS (lv_sub hl [1, 2, 3, 4, 0] rfl)
    · intro H locs ls hP hD hS hl
      refine lv_iconst (v := 0) hx hb d_Co_tell_94 (by decide) ?_
      refine lv_istore (lv' := [(4, .int 0), (0, .ref a0), (1, .ref a2), (2, .int p2), (3, .int p3)]) hx hb d_Co_tell_95 hl (by decide) rfl (fun ls hl => ?_)
      obtain ⟨r56, hc56, h⟩ := Bd_e h
      refine w_Co_tell_97 C0 hRf hRl hA hK hT N p2 p3 n1 g16 n3 n4 n2 f2 a0 a1 a3 a4 a2 r56 (kc := 0) (ks := 0) hkc hks ?_ N 0 r31 f4  _ _ _ hc56 hP hD hS (lv_sub hl [1, 2, 3, 4, 0] rfl)
      · intro H locs ls hP hD hS hl
        have eV := so1 h
        subst eV
        exact x_vret C0 hQ (hP.sub (ws' := [(a0, .inr (7, [.ref a1, .ref a3, .ref a4])), (a1, .inl (G.2.1 1, n1, .inl g16)), (a2, .inl (G.2.1 1, n2, .inl f2)), (a3, .inl (G.2.1 1, n3, .inl r56.1)), (a4, .inl (G.2.1 1, n4, .inl r56.2))]) [0, 1, 4, 2, 3] rfl) (hD.sub (ws' := [(a0, .inr (7, [.ref a1, .ref a3, .ref a4])), (a1, .inl (G.2.1 1, n1, .inl g16)), (a2, .inl (G.2.1 1, n2, .inl f2)), (a3, .inl (G.2.1 1, n3, .inl r56.1)), (a4, .inl (G.2.1 1, n4, .inl r56.2))]) [0, 1, 4, 2, 3] (by decide) rfl) hS rfl (Nat.zero_le _) (Nat.zero_le _) d_Co_tell_147
set_option maxHeartbeats 4000000 in
set_option maxRecDepth 100000 in
theorem w_Un_init_40 {p : Program} {l : Launch} {e : Env} {R : Room} {s : State} {m : MethodId} {args : Array Value} {below : List Frame} {meth : Method} {c : Code} {Q : State → Prop} {G : GX} {A : Nat → Prop} (C0 : Cx p s m args meth c b_Un_init 2 y_Un_init none) (hRf : 2 ≤ R.frames) (hRl : 48 ≤ R.locals) (hA : ∀ q, s.heap.size ≤ q → A q) (hK : KX G s) (hT : TX G A s) (N : Nat) (y0_7 : Int32) (y0_8 : Int32) (y1_1 : Int32) (y1_2 : Int32) (y1_3 : Int32) (m2 : Nat) (g_2 : (Nat → Int32)) (m3 : Nat) (m5 : Nat) (g_5 : (Nat → Int32)) (m6 : Nat) (g_6 : (Nat → Int32)) (m7 : Nat) (g_7 : (Nat → Int32)) (c0 c1 c2 c3 c4 c5 c6 c7 : Nat) (out : (Nat → Int32)) {kc ks : Nat} (hkc : kc ≤ R.cells) (hks : ks ≤ R.slots)
    (kx97 : ∀ (H : Heap) (locs : List Loc) (ls : Array Slot), va_P G.1 classes [(c0, .inr (8, [.ref c1, .ref c3, .ref c4, .null, .null, .null, .null, .int y0_7, .int y0_8])), (c1, .inr (6, [.ref c2, .int y1_1, .int y1_2, .int y1_3])), (c2, .inl (G.2.1 0, m2, .inl g_2)), (c3, .inl (G.2.1 1, m3, .inl out)), (c4, .inr (7, [.ref c5, .ref c6, .ref c7])), (c5, .inl (G.2.1 1, m5, .inl g_5)), (c6, .inl (G.2.1 1, m6, .inl g_6)), (c7, .inl (G.2.1 1, m7, .inl g_7))] H → va_D A [(c0, .inr (8, [.ref c1, .ref c3, .ref c4, .null, .null, .null, .null, .int y0_7, .int y0_8])), (c1, .inr (6, [.ref c2, .int y1_1, .int y1_2, .int y1_3])), (c2, .inl (G.2.1 0, m2, .inl g_2)), (c3, .inl (G.2.1 1, m3, .inl out)), (c4, .inr (7, [.ref c5, .ref c6, .ref c7])), (c5, .inl (G.2.1 1, m5, .inl g_5)), (c6, .inl (G.2.1 1, m6, .inl g_6)), (c7, .inl (G.2.1 1, m7, .inl g_7))] → va_S A s.heap H locs → lv_has ls 2 [(0, .ref c0)] → W p l e R s m args below meth c H locs kc ks Q (F0 m 97 ls [])) :
    ∀ (n : Nat) (i1 : Int32) (g_3 : (Nat → Int32)) (H : Heap) (locs : List Loc) (ls : Array Slot), lp_Un_init_40 N m3 n i1 g_3 = some out → va_P G.1 classes [(c0, .inr (8, [.ref c1, .ref c3, .ref c4, .null, .null, .null, .null, .int y0_7, .int y0_8])), (c1, .inr (6, [.ref c2, .int y1_1, .int y1_2, .int y1_3])), (c2, .inl (G.2.1 0, m2, .inl g_2)), (c3, .inl (G.2.1 1, m3, .inl g_3)), (c4, .inr (7, [.ref c5, .ref c6, .ref c7])), (c5, .inl (G.2.1 1, m5, .inl g_5)), (c6, .inl (G.2.1 1, m6, .inl g_6)), (c7, .inl (G.2.1 1, m7, .inl g_7))] H → va_D A [(c0, .inr (8, [.ref c1, .ref c3, .ref c4, .null, .null, .null, .null, .int y0_7, .int y0_8])), (c1, .inr (6, [.ref c2, .int y1_1, .int y1_2, .int y1_3])), (c2, .inl (G.2.1 0, m2, .inl g_2)), (c3, .inl (G.2.1 1, m3, .inl g_3)), (c4, .inr (7, [.ref c5, .ref c6, .ref c7])), (c5, .inl (G.2.1 1, m5, .inl g_5)), (c6, .inl (G.2.1 1, m6, .inl g_6)), (c7, .inl (G.2.1 1, m7, .inl g_7))] → va_S A s.heap H locs → lv_has ls 2 [(0, .ref c0), (1, .int i1)] → W p l e R s m args below meth c H locs kc ks Q (F0 m 40 ls []) := by
  obtain ⟨hx, hb, hml, hown, hts, hr, hlocks, hin⟩ := id C0
  have hown : s.vm.findClass R_Un = some m.cls := hown
  intro n
  induction n with
  | zero => intro i1 g_3 H locs ls h; cases h
  | succ n ih =>
    intro i1 g_3 H locs ls h hP hD hS hl
    replace h : lb_Un_init_40 N m3 (lp_Un_init_40 N m3 n) i1 g_3 = some out := h
    unfold lb_Un_init_40 at h
    refine lv_iload_n hx hb d_Un_init_40 rfl (lv_at hl 1 rfl) ?_
    refine lv_sipush (v := 288) hx hb d_Un_init_41 (by decide) ?_
    refine lv_icmp_ge (tgt := 97) hx hb d_Un_init_44 (by decide) (fun cq21 => ?_) (fun cq21 => ?_)
    · replace h := (if_pos cq21).symm.trans h
      have eV := so1 h
      subst eV
      exact kx97 _ _ _ hP hD hS (lv_sub hl [0] rfl)
    · replace h := (if_neg cq21).symm.trans h
      refine lv_aload_n hx hb d_Un_init_47 rfl (lv_at hl 0 rfl) ?_
      refine va_get (D := G.1) (ci := 8) (v := .ref c3) (C := R_Un) (T := F_Un) (N := 9) hx hb hts i_Un hown hK hP 0 rfl rfl 1 (by decide) (hts _ q78) (fun _ h9 => h9) rfl d_Un_init_48 ?_
      refine lv_iload_n hx hb d_Un_init_51 rfl (lv_at hl 1 rfl) ?_
      refine lv_iload_n hx hb d_Un_init_52 rfl (lv_at hl 1 rfl) ?_
      refine lv_sipush (v := 144) hx hb d_Un_init_53 (by decide) ?_
      obtain ⟨j25, ej25, h⟩ := Jn_e h
      have hj25 : ∀ (t25 : Int32) (H : Heap) (locs : List Loc) (ls : Array Slot), j25 t25 = some out → va_P G.1 classes [(c0, .inr (8, [.ref c1, .ref c3, .ref c4, .null, .null, .null, .null, .int y0_7, .int y0_8])), (c1, .inr (6, [.ref c2, .int y1_1, .int y1_2, .int y1_3])), (c2, .inl (G.2.1 0, m2, .inl g_2)), (c3, .inl (G.2.1 1, m3, .inl g_3)), (c4, .inr (7, [.ref c5, .ref c6, .ref c7])), (c5, .inl (G.2.1 1, m5, .inl g_5)), (c6, .inl (G.2.1 1, m6, .inl g_6)), (c7, .inl (G.2.1 1, m7, .inl g_7))] H → va_D A [(c0, .inr (8, [.ref c1, .ref c3, .ref c4, .null, .null, .null, .null, .int y0_7, .int y0_8])), (c1, .inr (6, [.ref c2, .int y1_1, .int y1_2, .int y1_3])), (c2, .inl (G.2.1 0, m2, .inl g_2)), (c3, .inl (G.2.1 1, m3, .inl g_3)), (c4, .inr (7, [.ref c5, .ref c6, .ref c7])), (c5, .inl (G.2.1 1, m5, .inl g_5)), (c6, .inl (G.2.1 1, m6, .inl g_6)), (c7, .inl (G.2.1 1, m7, .inl g_7))] → va_S A s.heap H locs → lv_has ls 2 [(0, .ref c0), (1, .int i1)] → W p l e R s m args below meth c H locs kc ks Q (F0 m 90 ls [.int t25, .int i1, .ref c3]) := by
        intro t25 H locs ls h hP hD hS hl
        replace h := ej25 _ _ h
        obtain ⟨hi26, h⟩ := Ix_e h
        refine y_iast hx hb hK hP hD hS 3 1 rfl rfl hi26 d_Un_init_90 (fun g27 H locs eg27 hP hD hS => ?_)
        replace h := Lt_e h eg27
        have hP : va_P G.1 classes [(c0, .inr (8, [.ref c1, .ref c3, .ref c4, .null, .null, .null, .null, .int y0_7, .int y0_8])), (c1, .inr (6, [.ref c2, .int y1_1, .int y1_2, .int y1_3])), (c2, .inl (G.2.1 0, m2, .inl g_2)), (c3, .inl (G.2.1 1, m3, .inl g27)), (c4, .inr (7, [.ref c5, .ref c6, .ref c7])), (c5, .inl (G.2.1 1, m5, .inl g_5)), (c6, .inl (G.2.1 1, m6, .inl g_6)), (c7, .inl (G.2.1 1, m7, .inl g_7))] H := hP
        have hD : va_D A [(c0, .inr (8, [.ref c1, .ref c3, .ref c4, .null, .null, .null, .null, .int y0_7, .int y0_8])), (c1, .inr (6, [.ref c2, .int y1_1, .int y1_2, .int y1_3])), (c2, .inl (G.2.1 0, m2, .inl g_2)), (c3, .inl (G.2.1 1, m3, .inl g27)), (c4, .inr (7, [.ref c5, .ref c6, .ref c7])), (c5, .inl (G.2.1 1, m5, .inl g_5)), (c6, .inl (G.2.1 1, m6, .inl g_6)), (c7, .inl (G.2.1 1, m7, .inl g_7))] := hD
        obtain ⟨v28, ev28⟩ : ∃ y : Int32, y = i1 + 1 := ⟨_, rfl⟩
        replace h := Lt_e h ev28
        refine lv_iinc (v := v28) (lv' := [(1, .int v28), (0, .ref c0)]) hx hb d_Un_init_91 hl (k := 1) rfl (by rw [ev28]; rfl) (by decide) rfl (fun ls hl => ?_)
        refine lv_goto (tgt := 40) hx hb d_Un_init_94 (by decide) ?_
        exact ih v28 g27  _ _ _ h hP hD hS (lv_sub hl [1, 0] rfl)
      refine lv_icmp_ge (tgt := 64) hx hb d_Un_init_56 (by decide) (fun cq29 => ?_) (fun cq29 => ?_)
      · replace h := (if_pos cq29).symm.trans h
        refine lv_iload_n hx hb d_Un_init_64 rfl (lv_at hl 1 rfl) ?_
        refine lv_sipush (v := 256) hx hb d_Un_init_65 (by decide) ?_
        refine lv_icmp_ge (tgt := 76) hx hb d_Un_init_68 (by decide) (fun cq30 => ?_) (fun cq30 => ?_)
        · replace h := (if_pos cq30).symm.trans h
          refine lv_iload_n hx hb d_Un_init_76 rfl (lv_at hl 1 rfl) ?_
          refine lv_sipush (v := 280) hx hb d_Un_init_77 (by decide) ?_
          refine lv_icmp_ge (tgt := 88) hx hb d_Un_init_80 (by decide) (fun cq31 => ?_) (fun cq31 => ?_)
          · replace h := (if_pos cq31).symm.trans h
            refine lv_bipush (v := 8) hx hb d_Un_init_88 (by decide) ?_
            exact hj25 8 _ _ _ h hP hD hS hl
          · replace h := (if_neg cq31).symm.trans h
            refine lv_bipush (v := 7) hx hb d_Un_init_83 (by decide) ?_
            refine lv_goto (tgt := 90) hx hb d_Un_init_85 (by decide) ?_
            exact hj25 7 _ _ _ h hP hD hS hl
        · replace h := (if_neg cq30).symm.trans h
          refine lv_bipush (v := 9) hx hb d_Un_init_71 (by decide) ?_
          refine lv_goto (tgt := 90) hx hb d_Un_init_73 (by decide) ?_
          exact hj25 9 _ _ _ h hP hD hS hl
      · replace h := (if_neg cq29).symm.trans h
        refine lv_bipush (v := 8) hx hb d_Un_init_59 (by decide) ?_
        refine lv_goto (tgt := 90) hx hb d_Un_init_61 (by decide) ?_
        exact hj25 8 _ _ _ h hP hD hS hl
set_option maxHeartbeats 4000000 in
set_option maxRecDepth 100000 in
theorem c_Un_init (l : Launch) (G : GX) (a0 : Nat) (sz : Nat)   (N : Nat) (V : (Nat → Int32) × (Nat → Int32) × (Nat → Int32) × Nat × (Nat → Int32) × (Nat → Int32) × (Nat → Int32) × Nat × (Nat → Int32) × Nat × Nat × Nat) (K Z : Nat) (h : f_Un_init N  = some (V, K, Z)) :
    Met l y_Un_init (wd y_Un_init b_Un_init 2 none) { frames := 2, cells := K, slots := Z, locals := 48 } (PX G [.ref a0] sz [(a0, .inr (8, [.null, .null, .null, .null, .null, .null, .null, .int 0, .int 0]))])
      (QXv G (fun w => ∃ e0 e1 e2 e3 e4 e5 e6 e7 e8 e9 e10 e11 e12 e13 e14 e15 e16 e17 e18 e19 e20 e21 e22 : Nat, w = [(a0, .inr (8, [.ref e0, .ref e1, .ref e2, .ref e3, .ref e4, .ref e5, .ref e6, .int 0, .int 0])), (e0, .inr (6, [.ref e7, .int 0, .int 0, .int 0])), (e7, .inl (G.2.1 0, 0, .inl ((fun _ => 0)))), (e1, .inl (G.2.1 1, 316, .inl V.1)), (e2, .inr (7, [.ref e8, .ref e9, .ref e10])), (e8, .inl (G.2.1 1, 16, .inl V.2.1)), (e9, .inl (G.2.1 1, 16, .inl V.2.2.1)), (e10, .inl (G.2.1 1, V.2.2.2.1, .inl V.2.2.2.2.1)), (e3, .inr (7, [.ref e11, .ref e12, .ref e13])), (e11, .inl (G.2.1 1, 16, .inl V.2.2.2.2.2.1)), (e12, .inl (G.2.1 1, 16, .inl V.2.2.2.2.2.2.1)), (e13, .inl (G.2.1 1, V.2.2.2.2.2.2.2.1, .inl V.2.2.2.2.2.2.2.2.1)), (e4, .inr (7, [.ref e14, .ref e15, .ref e16])), (e14, .inl (G.2.1 1, 16, .inl ((fun _ => 0)))), (e15, .inl (G.2.1 1, 16, .inl ((fun _ => 0)))), (e16, .inl (G.2.1 1, V.2.2.2.2.2.2.2.2.2.1, .inl ((fun _ => 0)))), (e5, .inr (7, [.ref e17, .ref e18, .ref e19])), (e17, .inl (G.2.1 1, 16, .inl ((fun _ => 0)))), (e18, .inl (G.2.1 1, 16, .inl ((fun _ => 0)))), (e19, .inl (G.2.1 1, V.2.2.2.2.2.2.2.2.2.2.1, .inl ((fun _ => 0)))), (e6, .inr (7, [.ref e20, .ref e21, .ref e22])), (e20, .inl (G.2.1 1, 16, .inl ((fun _ => 0)))), (e21, .inl (G.2.1 1, 16, .inl ((fun _ => 0)))), (e22, .inl (G.2.1 1, V.2.2.2.2.2.2.2.2.2.2.2, .inl ((fun _ => 0))))]) (va_A [(a0, .inr (8, [.null, .null, .null, .null, .null, .null, .null, .int 0, .int 0]))] sz)) K Z (va_A [(a0, .inr (8, [.null, .null, .null, .null, .null, .null, .null, .int 0, .int 0]))] sz) := by
  refine Met_in (QQ := fun A => QXv G (fun w => ∃ e0 e1 e2 e3 e4 e5 e6 e7 e8 e9 e10 e11 e12 e13 e14 e15 e16 e17 e18 e19 e20 e21 e22 : Nat, w = [(a0, .inr (8, [.ref e0, .ref e1, .ref e2, .ref e3, .ref e4, .ref e5, .ref e6, .int 0, .int 0])), (e0, .inr (6, [.ref e7, .int 0, .int 0, .int 0])), (e7, .inl (G.2.1 0, 0, .inl ((fun _ => 0)))), (e1, .inl (G.2.1 1, 316, .inl V.1)), (e2, .inr (7, [.ref e8, .ref e9, .ref e10])), (e8, .inl (G.2.1 1, 16, .inl V.2.1)), (e9, .inl (G.2.1 1, 16, .inl V.2.2.1)), (e10, .inl (G.2.1 1, V.2.2.2.1, .inl V.2.2.2.2.1)), (e3, .inr (7, [.ref e11, .ref e12, .ref e13])), (e11, .inl (G.2.1 1, 16, .inl V.2.2.2.2.2.1)), (e12, .inl (G.2.1 1, 16, .inl V.2.2.2.2.2.2.1)), (e13, .inl (G.2.1 1, V.2.2.2.2.2.2.2.1, .inl V.2.2.2.2.2.2.2.2.1)), (e4, .inr (7, [.ref e14, .ref e15, .ref e16])), (e14, .inl (G.2.1 1, 16, .inl ((fun _ => 0)))), (e15, .inl (G.2.1 1, 16, .inl ((fun _ => 0)))), (e16, .inl (G.2.1 1, V.2.2.2.2.2.2.2.2.2.1, .inl ((fun _ => 0)))), (e5, .inr (7, [.ref e17, .ref e18, .ref e19])), (e17, .inl (G.2.1 1, 16, .inl ((fun _ => 0)))), (e18, .inl (G.2.1 1, 16, .inl ((fun _ => 0)))), (e19, .inl (G.2.1 1, V.2.2.2.2.2.2.2.2.2.2.1, .inl ((fun _ => 0)))), (e6, .inr (7, [.ref e20, .ref e21, .ref e22])), (e20, .inl (G.2.1 1, 16, .inl ((fun _ => 0)))), (e21, .inl (G.2.1 1, 16, .inl ((fun _ => 0)))), (e22, .inl (G.2.1 1, V.2.2.2.2.2.2.2.2.2.2.2, .inl ((fun _ => 0))))]) A) (by decide) (Nat.le_of_ble_eq_true rfl) (fun p e s m below meth c R Q A ls C0 hRf hRl hRc hRs hP hK hD hT hA hS hl hQ => ?_)
  obtain ⟨hx, hb, hml, hown, hts, hr, hlocks, hin⟩ := id C0
  have hown : s.vm.findClass R_Un = some m.cls := hown
  have hl : lv_has ls 2 [(0, .ref a0)] := hl
  unfold f_Un_init at h
  have hKT : K ≤ R.cells := Nat.le_of_eq hRc.symm
  have hZT : Z ≤ R.slots := Nat.le_of_eq hRs.symm
  have ekc : 0 + K = K := by omega
  have ezc : 0 + Z = Z := by omega
  obtain ⟨H, hH⟩ : ∃ H, H = s.heap := ⟨_, rfl⟩
  obtain ⟨locs, hlc⟩ : ∃ x : List Loc, x = [] := ⟨_, rfl⟩
  rw [← hH] at hP
  have hS : va_S A s.heap H locs := by rw [hH, hlc]; exact hS
  suffices hgo : W p l e R s m [.ref a0].toArray below meth c H locs 0 0 Q (F0 m 0 ls []) by rw [hH, hlc] at hgo; exact hgo
  refine lv_aload_n hx hb d_Un_init_0 rfl (lv_at hl 0 rfl) ?_
  refine W.objInit hx hb hown (hts _ q65) (hts _ q1) (hts _ q2) rfl (by rw [hml]; exact hl.1) rfl d_Un_init_1 (Nat.le_trans (by decide) hRf) (Nat.le_trans (Nat.le_of_ble_eq_true rfl) hRl) ?_
  refine W.eq (g2 := F0 m 4 ls []) rfl ?_
  refine lv_aload_n hx hb d_Un_init_4 rfl (lv_at hl 0 rfl) ?_
  obtain ⟨k2, z2, h, ek2, ez2⟩ := Ak_e h
  have ekc : 0 + 1 + k2 = K := by omega
  have ezc : 0 + 4 + z2 = Z := by omega
  refine va_new (ci := 6) (fs := [.null, .int 0, .int 0, .int 0]) (C := R_BR) (T := F_BR) (N := 4) hx hb hts i_BR t_BR t_BR_ok hown (hts _ q66) (hts _ q67) (hts _ q68) hK hP hD hS hA rfl df_BR (by omega) (by omega) d_Un_init_5 (fun nq1 H hP hD hS => ?_)
  have hP : va_P G.1 classes [(a0, .inr (8, [.null, .null, .null, .null, .null, .null, .null, .int 0, .int 0])), (nq1, .inr (6, [.null, .int 0, .int 0, .int 0]))] H := hP
  have hD : va_D A [(a0, .inr (8, [.null, .null, .null, .null, .null, .null, .null, .int 0, .int 0])), (nq1, .inr (6, [.null, .int 0, .int 0, .int 0]))] := hD
  refine lv_dup hx hb d_Un_init_8 rfl ?_
  obtain ⟨r3, k3, z3, kk3, zz3, hc3, h, ek3, ez3⟩ := Bk_e h
  have ekc : 0 + 1 + k3 + kk3 = K := by omega
  have ezc : 0 + 4 + z3 + zz3 = Z := by omega
  refine xI_v (wr := [(a0, .inr (8, [.null, .null, .null, .null, .null, .null, .null, .int 0, .int 0]))]) (rest := [.ref nq1, .ref a0]) C0 hK hT hA hP hD hS hl.1 (c_BR_init l G nq1 _   N r3 k3 z3 hc3) (goodI q74 q75 q68 q76) 0 rfl hd_BR_init rfl (Nat.le_trans (by decide) hRf) (Nat.le_trans (by decide) hRl) [1] [0] rfl rfl (by decide) (by decide) (by decide) rfl (Nat.le_of_ble_eq_true rfl) d_Un_init_9 (by omega) (by omega) (fun w1 H locs hE hP hD hS => ?_)
  obtain ⟨b4, rfl⟩ := hE
  have hP : va_P G.1 classes [(a0, .inr (8, [.null, .null, .null, .null, .null, .null, .null, .int 0, .int 0])), (nq1, .inr (6, [.ref b4, .int 0, .int 0, .int 0])), (b4, .inl (G.2.1 0, 0, .inl ((fun _ => 0))))] H := hP
  have hD : va_D A [(a0, .inr (8, [.null, .null, .null, .null, .null, .null, .null, .int 0, .int 0])), (nq1, .inr (6, [.ref b4, .int 0, .int 0, .int 0])), (b4, .inl (G.2.1 0, 0, .inl ((fun _ => 0))))] := hD
  refine va_putF (D := G.1) (ci := 8) (v := .ref nq1) (ty := .object "TextPress$BitReader") (C := R_Un) (T := F_Un) (N := 9) hx hb hts i_Un t_Un t_Un_ok n_Un hown hK hP hD hS 0 rfl rfl 0 (by decide) (hts _ q77) (fun _ h9 => h9) rfl (hin rfl) rfl (by decide +kernel) rfl rfl (Nat.le_of_ble_eq_true rfl) d_Un_init_12 (fun H locs hP hD hS => ?_)
  have hP : va_P G.1 classes [(a0, .inr (8, [.ref nq1, .null, .null, .null, .null, .null, .null, .int 0, .int 0])), (nq1, .inr (6, [.ref b4, .int 0, .int 0, .int 0])), (b4, .inl (G.2.1 0, 0, .inl ((fun _ => 0))))] H := hP
  have hD : va_D A [(a0, .inr (8, [.ref nq1, .null, .null, .null, .null, .null, .null, .int 0, .int 0])), (nq1, .inr (6, [.ref b4, .int 0, .int 0, .int 0])), (b4, .inl (G.2.1 0, 0, .inl ((fun _ => 0))))] := hD
  refine lv_aload_n hx hb d_Un_init_15 rfl (lv_at hl 0 rfl) ?_
  refine lv_sipush (v := 316) hx hb d_Un_init_16 (by decide) ?_
  obtain ⟨k6, z6, h, ek6, ez6⟩ := Ak_e h
  have ekc : 0 + 1 + k3 + 1 + k6 = K := by omega
  have ezc : 0 + 4 + z3 + 316 + z6 = Z := by omega
  refine y_newaI (N' := 316) hx hb (hts _ q20) hK hP hD hS hA (by decide) (by decide) (by decide) (by omega) (by omega) d_Un_init_19 (fun nq5 H hP hD hS => ?_)
  have hP : va_P G.1 classes [(a0, .inr (8, [.ref nq1, .null, .null, .null, .null, .null, .null, .int 0, .int 0])), (nq1, .inr (6, [.ref b4, .int 0, .int 0, .int 0])), (b4, .inl (G.2.1 0, 0, .inl ((fun _ => 0)))), (nq5, .inl (G.2.1 1, 316, .inl ((fun _ => 0))))] H := hP
  have hD : va_D A [(a0, .inr (8, [.ref nq1, .null, .null, .null, .null, .null, .null, .int 0, .int 0])), (nq1, .inr (6, [.ref b4, .int 0, .int 0, .int 0])), (b4, .inl (G.2.1 0, 0, .inl ((fun _ => 0)))), (nq5, .inl (G.2.1 1, 316, .inl ((fun _ => 0))))] := hD
  refine va_putF (D := G.1) (ci := 8) (v := .ref nq5) (ty := .array .int) (C := R_Un) (T := F_Un) (N := 9) hx hb hts i_Un t_Un t_Un_ok n_Un hown hK hP hD hS 0 rfl rfl 1 (by decide) (hts _ q78) (fun _ h9 => h9) rfl (hin rfl) rfl (by decide +kernel) rfl rfl (Nat.le_of_ble_eq_true rfl) d_Un_init_21 (fun H locs hP hD hS => ?_)
  have hP : va_P G.1 classes [(a0, .inr (8, [.ref nq1, .ref nq5, .null, .null, .null, .null, .null, .int 0, .int 0])), (nq1, .inr (6, [.ref b4, .int 0, .int 0, .int 0])), (b4, .inl (G.2.1 0, 0, .inl ((fun _ => 0)))), (nq5, .inl (G.2.1 1, 316, .inl ((fun _ => 0))))] H := hP
  have hD : va_D A [(a0, .inr (8, [.ref nq1, .ref nq5, .null, .null, .null, .null, .null, .int 0, .int 0])), (nq1, .inr (6, [.ref b4, .int 0, .int 0, .int 0])), (b4, .inl (G.2.1 0, 0, .inl ((fun _ => 0)))), (nq5, .inl (G.2.1 1, 316, .inl ((fun _ => 0))))] := hD
  refine lv_aload_n hx hb d_Un_init_24 rfl (lv_at hl 0 rfl) ?_
  obtain ⟨k8, z8, h, ek8, ez8⟩ := Ak_e h
  have ekc : 0 + 1 + k3 + 1 + 1 + k8 = K := by omega
  have ezc : 0 + 4 + z3 + 316 + 3 + z8 = Z := by omega
  refine va_new (ci := 7) (fs := [.null, .null, .null]) (C := R_Co) (T := F_Co) (N := 3) hx hb hts i_Co t_Co t_Co_ok hown (hts _ q79) (hts _ q80) (hts _ q81) hK hP hD hS hA rfl df_Co (by omega) (by omega) d_Un_init_25 (fun nq7 H hP hD hS => ?_)
  have hP : va_P G.1 classes [(a0, .inr (8, [.ref nq1, .ref nq5, .null, .null, .null, .null, .null, .int 0, .int 0])), (nq1, .inr (6, [.ref b4, .int 0, .int 0, .int 0])), (b4, .inl (G.2.1 0, 0, .inl ((fun _ => 0)))), (nq5, .inl (G.2.1 1, 316, .inl ((fun _ => 0)))), (nq7, .inr (7, [.null, .null, .null]))] H := hP
  have hD : va_D A [(a0, .inr (8, [.ref nq1, .ref nq5, .null, .null, .null, .null, .null, .int 0, .int 0])), (nq1, .inr (6, [.ref b4, .int 0, .int 0, .int 0])), (b4, .inl (G.2.1 0, 0, .inl ((fun _ => 0)))), (nq5, .inl (G.2.1 1, 316, .inl ((fun _ => 0)))), (nq7, .inr (7, [.null, .null, .null]))] := hD
  refine lv_dup hx hb d_Un_init_28 rfl ?_
  refine lv_sipush (v := 288) hx hb d_Un_init_29 (by decide) ?_
  obtain ⟨r9, k9, z9, kk9, zz9, hc9, h, ek9, ez9⟩ := Bk_e h
  have ekc : 0 + 1 + k3 + 1 + 1 + k9 + kk9 = K := by omega
  have ezc : 0 + 4 + z3 + 316 + 3 + z9 + zz9 = Z := by omega
  refine xI_v (wr := [(a0, .inr (8, [.ref nq1, .ref nq5, .null, .null, .null, .null, .null, .int 0, .int 0])), (nq1, .inr (6, [.ref b4, .int 0, .int 0, .int 0])), (b4, .inl (G.2.1 0, 0, .inl ((fun _ => 0)))), (nq5, .inl (G.2.1 1, 316, .inl ((fun _ => 0))))]) (rest := [.ref nq7, .ref a0]) C0 hK hT hA hP hD hS hl.1 (c_Co_init l G nq7 _  288 N r9 k9 z9 hc9) (goodI q86 q87 q81 q88) 1 rfl hd_Co_init rfl (Nat.le_trans (by decide) hRf) (Nat.le_trans (by decide) hRl) [4] [0, 1, 2, 3] rfl rfl (by decide) (by decide) (by decide) rfl (Nat.le_of_ble_eq_true rfl) d_Un_init_32 (by omega) (by omega) (fun w1 H locs hE hP hD hS => ?_)
  obtain ⟨b10, b11, b12, rfl⟩ := hE
  have hP : va_P G.1 classes [(a0, .inr (8, [.ref nq1, .ref nq5, .null, .null, .null, .null, .null, .int 0, .int 0])), (nq1, .inr (6, [.ref b4, .int 0, .int 0, .int 0])), (b4, .inl (G.2.1 0, 0, .inl ((fun _ => 0)))), (nq5, .inl (G.2.1 1, 316, .inl ((fun _ => 0)))), (nq7, .inr (7, [.ref b10, .ref b11, .ref b12])), (b10, .inl (G.2.1 1, 16, .inl ((fun _ => 0)))), (b11, .inl (G.2.1 1, 16, .inl ((fun _ => 0)))), (b12, .inl (G.2.1 1, r9, .inl ((fun _ => 0))))] H := hP
  have hD : va_D A [(a0, .inr (8, [.ref nq1, .ref nq5, .null, .null, .null, .null, .null, .int 0, .int 0])), (nq1, .inr (6, [.ref b4, .int 0, .int 0, .int 0])), (b4, .inl (G.2.1 0, 0, .inl ((fun _ => 0)))), (nq5, .inl (G.2.1 1, 316, .inl ((fun _ => 0)))), (nq7, .inr (7, [.ref b10, .ref b11, .ref b12])), (b10, .inl (G.2.1 1, 16, .inl ((fun _ => 0)))), (b11, .inl (G.2.1 1, 16, .inl ((fun _ => 0)))), (b12, .inl (G.2.1 1, r9, .inl ((fun _ => 0))))] := hD
  refine va_putF (D := G.1) (ci := 8) (v := .ref nq7) (ty := .object "TextPress$Code") (C := R_Un) (T := F_Un) (N := 9) hx hb hts i_Un t_Un t_Un_ok n_Un hown hK hP hD hS 0 rfl rfl 2 (by decide) (hts _ q89) (fun _ h9 => h9) rfl (hin rfl) rfl (by decide +kernel) rfl rfl (Nat.le_of_ble_eq_true rfl) d_Un_init_35 (fun H locs hP hD hS => ?_)
  have hP : va_P G.1 classes [(a0, .inr (8, [.ref nq1, .ref nq5, .ref nq7, .null, .null, .null, .null, .int 0, .int 0])), (nq1, .inr (6, [.ref b4, .int 0, .int 0, .int 0])), (b4, .inl (G.2.1 0, 0, .inl ((fun _ => 0)))), (nq5, .inl (G.2.1 1, 316, .inl ((fun _ => 0)))), (nq7, .inr (7, [.ref b10, .ref b11, .ref b12])), (b10, .inl (G.2.1 1, 16, .inl ((fun _ => 0)))), (b11, .inl (G.2.1 1, 16, .inl ((fun _ => 0)))), (b12, .inl (G.2.1 1, r9, .inl ((fun _ => 0))))] H := hP
  have hD : va_D A [(a0, .inr (8, [.ref nq1, .ref nq5, .ref nq7, .null, .null, .null, .null, .int 0, .int 0])), (nq1, .inr (6, [.ref b4, .int 0, .int 0, .int 0])), (b4, .inl (G.2.1 0, 0, .inl ((fun _ => 0)))), (nq5, .inl (G.2.1 1, 316, .inl ((fun _ => 0)))), (nq7, .inr (7, [.ref b10, .ref b11, .ref b12])), (b10, .inl (G.2.1 1, 16, .inl ((fun _ => 0)))), (b11, .inl (G.2.1 1, 16, .inl ((fun _ => 0)))), (b12, .inl (G.2.1 1, r9, .inl ((fun _ => 0))))] := hD
  refine lv_iconst (v := 0) hx hb d_Un_init_38 (by decide) ?_
  refine lv_istore_n (lv' := [(1, .int 0), (0, .ref a0)]) hx hb d_Un_init_39 rfl hl (by decide) rfl (fun ls hl => ?_)
  obtain ⟨r32, hc32, h⟩ := Bd_e h
  refine w_Un_init_40 C0 hRf hRl hA hK hT N 0 0 0 0 0 0 ((fun _ => 0)) 316 16 ((fun _ => 0)) 16 ((fun _ => 0)) r9 ((fun _ => 0)) a0 nq1 b4 nq5 nq7 b10 b11 b12 r32 (kc := 0 + 1 + k3 + 1 + 1 + k9) (ks := 0 + 4 + z3 + 316 + 3 + z9) (by omega) (by omega) ?_ N 0 ((fun _ => 0))  _ _ _ hc32 hP hD hS (lv_sub hl [1, 0] rfl)
  · intro H locs ls hP hD hS hl
    refine lv_aload_n hx hb d_Un_init_97 rfl (lv_at hl 0 rfl) ?_
    refine va_get (D := G.1) (ci := 8) (v := .ref nq7) (C := R_Un) (T := F_Un) (N := 9) hx hb hts i_Un hown hK hP 0 rfl rfl 2 (by decide) (hts _ q89) (fun _ h9 => h9) rfl d_Un_init_98 ?_
    refine lv_aload_n hx hb d_Un_init_101 rfl (lv_at hl 0 rfl) ?_
    refine va_get (D := G.1) (ci := 8) (v := .ref nq5) (C := R_Un) (T := F_Un) (N := 9) hx hb hts i_Un hown hK hP 0 rfl rfl 1 (by decide) (hts _ q78) (fun _ h9 => h9) rfl d_Un_init_102 ?_
    refine lv_iconst (v := 0) hx hb d_Un_init_105 (by decide) ?_
    refine lv_sipush (v := 288) hx hb d_Un_init_106 (by decide) ?_
    obtain ⟨r33, hc33, h⟩ := Bd_e h
    refine xV_v0 (wr := [(a0, .inr (8, [.ref nq1, .ref nq5, .ref nq7, .null, .null, .null, .null, .int 0, .int 0])), (nq1, .inr (6, [.ref b4, .int 0, .int 0, .int 0])), (b4, .inl (G.2.1 0, 0, .inl ((fun _ => 0))))]) (rest := []) C0 hK hT hA hP hD hS hl.1 (c_Co_tell l G nq7 b10 nq5 b11 b12 _ 16 ((fun _ => 0)) 316 r32 16 ((fun _ => 0)) r9 ((fun _ => 0)) 0 288 N r33 hc33) (goodV q94 q95 q96 q81 q97) 3 rfl hd_Co_tell (Nat.le_trans (by decide) hRf) (Nat.le_trans (by decide) hRl) [4, 5, 3, 6, 7] [0, 1, 2] rfl rfl (by decide) (by decide) (by decide) 7 4 rfl rfl rfl (Nat.le_of_ble_eq_true rfl) d_Un_init_109 (by omega) (by omega) (fun w1 H locs hE hP hD hS => ?_)
    subst hE
    have hP : va_P G.1 classes [(a0, .inr (8, [.ref nq1, .ref nq5, .ref nq7, .null, .null, .null, .null, .int 0, .int 0])), (nq1, .inr (6, [.ref b4, .int 0, .int 0, .int 0])), (b4, .inl (G.2.1 0, 0, .inl ((fun _ => 0)))), (nq7, .inr (7, [.ref b10, .ref b11, .ref b12])), (b10, .inl (G.2.1 1, 16, .inl r33.1)), (nq5, .inl (G.2.1 1, 316, .inl r32)), (b11, .inl (G.2.1 1, 16, .inl r33.2.1)), (b12, .inl (G.2.1 1, r9, .inl r33.2.2))] H := hP
    have hD : va_D A [(a0, .inr (8, [.ref nq1, .ref nq5, .ref nq7, .null, .null, .null, .null, .int 0, .int 0])), (nq1, .inr (6, [.ref b4, .int 0, .int 0, .int 0])), (b4, .inl (G.2.1 0, 0, .inl ((fun _ => 0)))), (nq7, .inr (7, [.ref b10, .ref b11, .ref b12])), (b10, .inl (G.2.1 1, 16, .inl r33.1)), (nq5, .inl (G.2.1 1, 316, .inl r32)), (b11, .inl (G.2.1 1, 16, .inl r33.2.1)), (b12, .inl (G.2.1 1, r9, .inl r33.2.2))] := hD
    refine lv_aload_n hx hb d_Un_init_112 rfl (lv_at hl 0 rfl) ?_
    obtain ⟨k35, z35, h, ek35, ez35⟩ := Ak_e h
    have ekc : 0 + 1 + k3 + 1 + 1 + k9 + 1 + k35 = K := by omega
    have ezc : 0 + 4 + z3 + 316 + 3 + z9 + 3 + z35 = Z := by omega
    refine va_new (ci := 7) (fs := [.null, .null, .null]) (C := R_Co) (T := F_Co) (N := 3) hx hb hts i_Co t_Co t_Co_ok hown (hts _ q79) (hts _ q80) (hts _ q81) hK hP hD hS hA rfl df_Co (by omega) (by omega) d_Un_init_113 (fun nq34 H hP hD hS => ?_)
    have hP : va_P G.1 classes [(a0, .inr (8, [.ref nq1, .ref nq5, .ref nq7, .null, .null, .null, .null, .int 0, .int 0])), (nq1, .inr (6, [.ref b4, .int 0, .int 0, .int 0])), (b4, .inl (G.2.1 0, 0, .inl ((fun _ => 0)))), (nq7, .inr (7, [.ref b10, .ref b11, .ref b12])), (b10, .inl (G.2.1 1, 16, .inl r33.1)), (nq5, .inl (G.2.1 1, 316, .inl r32)), (b11, .inl (G.2.1 1, 16, .inl r33.2.1)), (b12, .inl (G.2.1 1, r9, .inl r33.2.2)), (nq34, .inr (7, [.null, .null, .null]))] H := hP
    have hD : va_D A [(a0, .inr (8, [.ref nq1, .ref nq5, .ref nq7, .null, .null, .null, .null, .int 0, .int 0])), (nq1, .inr (6, [.ref b4, .int 0, .int 0, .int 0])), (b4, .inl (G.2.1 0, 0, .inl ((fun _ => 0)))), (nq7, .inr (7, [.ref b10, .ref b11, .ref b12])), (b10, .inl (G.2.1 1, 16, .inl r33.1)), (nq5, .inl (G.2.1 1, 316, .inl r32)), (b11, .inl (G.2.1 1, 16, .inl r33.2.1)), (b12, .inl (G.2.1 1, r9, .inl r33.2.2)), (nq34, .inr (7, [.null, .null, .null]))] := hD
    refine lv_dup hx hb d_Un_init_116 rfl ?_
    refine lv_bipush (v := 32) hx hb d_Un_init_117 (by decide) ?_
    obtain ⟨r36, k36, z36, kk36, zz36, hc36, h, ek36, ez36⟩ := Bk_e h
    have ekc : 0 + 1 + k3 + 1 + 1 + k9 + 1 + k36 + kk36 = K := by omega
    have ezc : 0 + 4 + z3 + 316 + 3 + z9 + 3 + z36 + zz36 = Z := by omega
    refine xI_v (wr := [(a0, .inr (8, [.ref nq1, .ref nq5, .ref nq7, .null, .null, .null, .null, .int 0, .int 0])), (nq1, .inr (6, [.ref b4, .int 0, .int 0, .int 0])), (b4, .inl (G.2.1 0, 0, .inl ((fun _ => 0)))), (nq7, .inr (7, [.ref b10, .ref b11, .ref b12])), (b10, .inl (G.2.1 1, 16, .inl r33.1)), (nq5, .inl (G.2.1 1, 316, .inl r32)), (b11, .inl (G.2.1 1, 16, .inl r33.2.1)), (b12, .inl (G.2.1 1, r9, .inl r33.2.2))]) (rest := [.ref nq34, .ref a0]) C0 hK hT hA hP hD hS hl.1 (c_Co_init l G nq34 _  32 N r36 k36 z36 hc36) (goodI q86 q87 q81 q88) 1 rfl hd_Co_init rfl (Nat.le_trans (by decide) hRf) (Nat.le_trans (by decide) hRl) [8] [0, 1, 2, 3, 4, 5, 6, 7] rfl rfl (by decide) (by decide) (by decide) rfl (Nat.le_of_ble_eq_true rfl) d_Un_init_119 (by omega) (by omega) (fun w1 H locs hE hP hD hS => ?_)
    obtain ⟨b37, b38, b39, rfl⟩ := hE
    have hP : va_P G.1 classes [(a0, .inr (8, [.ref nq1, .ref nq5, .ref nq7, .null, .null, .null, .null, .int 0, .int 0])), (nq1, .inr (6, [.ref b4, .int 0, .int 0, .int 0])), (b4, .inl (G.2.1 0, 0, .inl ((fun _ => 0)))), (nq7, .inr (7, [.ref b10, .ref b11, .ref b12])), (b10, .inl (G.2.1 1, 16, .inl r33.1)), (nq5, .inl (G.2.1 1, 316, .inl r32)), (b11, .inl (G.2.1 1, 16, .inl r33.2.1)), (b12, .inl (G.2.1 1, r9, .inl r33.2.2)), (nq34, .inr (7, [.ref b37, .ref b38, .ref b39])), (b37, .inl (G.2.1 1, 16, .inl ((fun _ => 0)))), (b38, .inl (G.2.1 1, 16, .inl ((fun _ => 0)))), (b39, .inl (G.2.1 1, r36, .inl ((fun _ => 0))))] H := hP
    have hD : va_D A [(a0, .inr (8, [.ref nq1, .ref nq5, .ref nq7, .null, .null, .null, .null, .int 0, .int 0])), (nq1, .inr (6, [.ref b4, .int 0, .int 0, .int 0])), (b4, .inl (G.2.1 0, 0, .inl ((fun _ => 0)))), (nq7, .inr (7, [.ref b10, .ref b11, .ref b12])), (b10, .inl (G.2.1 1, 16, .inl r33.1)), (nq5, .inl (G.2.1 1, 316, .inl r32)), (b11, .inl (G.2.1 1, 16, .inl r33.2.1)), (b12, .inl (G.2.1 1, r9, .inl r33.2.2)), (nq34, .inr (7, [.ref b37, .ref b38, .ref b39])), (b37, .inl (G.2.1 1, 16, .inl ((fun _ => 0)))), (b38, .inl (G.2.1 1, 16, .inl ((fun _ => 0)))), (b39, .inl (G.2.1 1, r36, .inl ((fun _ => 0))))] := hD
    refine va_putF (D := G.1) (ci := 8) (v := .ref nq34) (ty := .object "TextPress$Code") (C := R_Un) (T := F_Un) (N := 9) hx hb hts i_Un t_Un t_Un_ok n_Un hown hK hP hD hS 0 rfl rfl 3 (by decide) (hts _ q98) (fun _ h9 => h9) rfl (hin rfl) rfl (by decide +kernel) rfl rfl (Nat.le_of_ble_eq_true rfl) d_Un_init_122 (fun H locs hP hD hS => ?_)
    have hP : va_P G.1 classes [(a0, .inr (8, [.ref nq1, .ref nq5, .ref nq7, .ref nq34, .null, .null, .null, .int 0, .int 0])), (nq1, .inr (6, [.ref b4, .int 0, .int 0, .int 0])), (b4, .inl (G.2.1 0, 0, .inl ((fun _ => 0)))), (nq7, .inr (7, [.ref b10, .ref b11, .ref b12])), (b10, .inl (G.2.1 1, 16, .inl r33.1)), (nq5, .inl (G.2.1 1, 316, .inl r32)), (b11, .inl (G.2.1 1, 16, .inl r33.2.1)), (b12, .inl (G.2.1 1, r9, .inl r33.2.2)), (nq34, .inr (7, [.ref b37, .ref b38, .ref b39])), (b37, .inl (G.2.1 1, 16, .inl ((fun _ => 0)))), (b38, .inl (G.2.1 1, 16, .inl ((fun _ => 0)))), (b39, .inl (G.2.1 1, r36, .inl ((fun _ => 0))))] H := hP
    have hD : va_D A [(a0, .inr (8, [.ref nq1, .ref nq5, .ref nq7, .ref nq34, .null, .null, .null, .int 0, .int 0])), (nq1, .inr (6, [.ref b4, .int 0, .int 0, .int 0])), (b4, .inl (G.2.1 0, 0, .inl ((fun _ => 0)))), (nq7, .inr (7, [.ref b10, .ref b11, .ref b12])), (b10, .inl (G.2.1 1, 16, .inl r33.1)), (nq5, .inl (G.2.1 1, 316, .inl r32)), (b11, .inl (G.2.1 1, 16, .inl r33.2.1)), (b12, .inl (G.2.1 1, r9, .inl r33.2.2)), (nq34, .inr (7, [.ref b37, .ref b38, .ref b39])), (b37, .inl (G.2.1 1, 16, .inl ((fun _ => 0)))), (b38, .inl (G.2.1 1, 16, .inl ((fun _ => 0)))), (b39, .inl (G.2.1 1, r36, .inl ((fun _ => 0))))] := hD
    refine lv_aload_n hx hb d_Un_init_125 rfl (lv_at hl 0 rfl) ?_
    refine va_get (D := G.1) (ci := 8) (v := .ref nq5) (C := R_Un) (T := F_Un) (N := 9) hx hb hts i_Un hown hK hP 0 rfl rfl 1 (by decide) (hts _ q78) (fun _ h9 => h9) rfl d_Un_init_126 ?_
    refine lv_iconst (v := 5) hx hb d_Un_init_129 (by decide) ?_
    obtain ⟨r40, hc40, h⟩ := Bd_e h
    refine xS_v0 (wr := [(a0, .inr (8, [.ref nq1, .ref nq5, .ref nq7, .ref nq34, .null, .null, .null, .int 0, .int 0])), (nq1, .inr (6, [.ref b4, .int 0, .int 0, .int 0])), (b4, .inl (G.2.1 0, 0, .inl ((fun _ => 0)))), (nq7, .inr (7, [.ref b10, .ref b11, .ref b12])), (b10, .inl (G.2.1 1, 16, .inl r33.1)), (b11, .inl (G.2.1 1, 16, .inl r33.2.1)), (b12, .inl (G.2.1 1, r9, .inl r33.2.2)), (nq34, .inr (7, [.ref b37, .ref b38, .ref b39])), (b37, .inl (G.2.1 1, 16, .inl ((fun _ => 0)))), (b38, .inl (G.2.1 1, 16, .inl ((fun _ => 0)))), (b39, .inl (G.2.1 1, r36, .inl ((fun _ => 0))))]) (rest := []) C0 hK hT hA hP hD hS hl.1 (c_JA_fill l G nq5 _ 316 r32 5 N r40 hc40) (goodS q99 q91 q92 q93) 2 rfl hd_JA_fill (Nat.le_trans (by decide) hRf) (Nat.le_trans (by decide) hRl) [5] [0, 1, 2, 3, 4, 6, 7, 8, 9, 10, 11] rfl rfl (by decide) (by decide) (by decide) rfl (Nat.le_of_ble_eq_true rfl) d_Un_init_130 (by omega) (by omega) (fun w1 H locs hE hP hD hS => ?_)
    subst hE
    have hP : va_P G.1 classes [(a0, .inr (8, [.ref nq1, .ref nq5, .ref nq7, .ref nq34, .null, .null, .null, .int 0, .int 0])), (nq1, .inr (6, [.ref b4, .int 0, .int 0, .int 0])), (b4, .inl (G.2.1 0, 0, .inl ((fun _ => 0)))), (nq7, .inr (7, [.ref b10, .ref b11, .ref b12])), (b10, .inl (G.2.1 1, 16, .inl r33.1)), (b11, .inl (G.2.1 1, 16, .inl r33.2.1)), (b12, .inl (G.2.1 1, r9, .inl r33.2.2)), (nq34, .inr (7, [.ref b37, .ref b38, .ref b39])), (b37, .inl (G.2.1 1, 16, .inl ((fun _ => 0)))), (b38, .inl (G.2.1 1, 16, .inl ((fun _ => 0)))), (b39, .inl (G.2.1 1, r36, .inl ((fun _ => 0)))), (nq5, .inl (G.2.1 1, 316, .inl r40))] H := hP
    have hD : va_D A [(a0, .inr (8, [.ref nq1, .ref nq5, .ref nq7, .ref nq34, .null, .null, .null, .int 0, .int 0])), (nq1, .inr (6, [.ref b4, .int 0, .int 0, .int 0])), (b4, .inl (G.2.1 0, 0, .inl ((fun _ => 0)))), (nq7, .inr (7, [.ref b10, .ref b11, .ref b12])), (b10, .inl (G.2.1 1, 16, .inl r33.1)), (b11, .inl (G.2.1 1, 16, .inl r33.2.1)), (b12, .inl (G.2.1 1, r9, .inl r33.2.2)), (nq34, .inr (7, [.ref b37, .ref b38, .ref b39])), (b37, .inl (G.2.1 1, 16, .inl ((fun _ => 0)))), (b38, .inl (G.2.1 1, 16, .inl ((fun _ => 0)))), (b39, .inl (G.2.1 1, r36, .inl ((fun _ => 0)))), (nq5, .inl (G.2.1 1, 316, .inl r40))] := hD
    refine lv_aload_n hx hb d_Un_init_133 rfl (lv_at hl 0 rfl) ?_
    refine va_get (D := G.1) (ci := 8) (v := .ref nq34) (C := R_Un) (T := F_Un) (N := 9) hx hb hts i_Un hown hK hP 0 rfl rfl 3 (by decide) (hts _ q98) (fun _ h9 => h9) rfl d_Un_init_134 ?_
    refine lv_aload_n hx hb d_Un_init_137 rfl (lv_at hl 0 rfl) ?_
    refine va_get (D := G.1) (ci := 8) (v := .ref nq5) (C := R_Un) (T := F_Un) (N := 9) hx hb hts i_Un hown hK hP 0 rfl rfl 1 (by decide) (hts _ q78) (fun _ h9 => h9) rfl d_Un_init_138 ?_
    refine lv_iconst (v := 0) hx hb d_Un_init_141 (by decide) ?_
    refine lv_bipush (v := 32) hx hb d_Un_init_142 (by decide) ?_
    obtain ⟨r41, hc41, h⟩ := Bd_e h
    refine xV_v0 (wr := [(a0, .inr (8, [.ref nq1, .ref nq5, .ref nq7, .ref nq34, .null, .null, .null, .int 0, .int 0])), (nq1, .inr (6, [.ref b4, .int 0, .int 0, .int 0])), (b4, .inl (G.2.1 0, 0, .inl ((fun _ => 0)))), (nq7, .inr (7, [.ref b10, .ref b11, .ref b12])), (b10, .inl (G.2.1 1, 16, .inl r33.1)), (b11, .inl (G.2.1 1, 16, .inl r33.2.1)), (b12, .inl (G.2.1 1, r9, .inl r33.2.2))]) (rest := []) C0 hK hT hA hP hD hS hl.1 (c_Co_tell l G nq34 b37 nq5 b38 b39 _ 16 ((fun _ => 0)) 316 r40 16 ((fun _ => 0)) r36 ((fun _ => 0)) 0 32 N r41 hc41) (goodV q94 q95 q96 q81 q97) 3 rfl hd_Co_tell (Nat.le_trans (by decide) hRf) (Nat.le_trans (by decide) hRl) [7, 8, 11, 9, 10] [0, 1, 2, 3, 4, 5, 6] rfl rfl (by decide) (by decide) (by decide) 7 7 rfl rfl rfl (Nat.le_of_ble_eq_true rfl) d_Un_init_144 (by omega) (by omega) (fun w1 H locs hE hP hD hS => ?_)
    subst hE
    have hP : va_P G.1 classes [(a0, .inr (8, [.ref nq1, .ref nq5, .ref nq7, .ref nq34, .null, .null, .null, .int 0, .int 0])), (nq1, .inr (6, [.ref b4, .int 0, .int 0, .int 0])), (b4, .inl (G.2.1 0, 0, .inl ((fun _ => 0)))), (nq7, .inr (7, [.ref b10, .ref b11, .ref b12])), (b10, .inl (G.2.1 1, 16, .inl r33.1)), (b11, .inl (G.2.1 1, 16, .inl r33.2.1)), (b12, .inl (G.2.1 1, r9, .inl r33.2.2)), (nq34, .inr (7, [.ref b37, .ref b38, .ref b39])), (b37, .inl (G.2.1 1, 16, .inl r41.1)), (nq5, .inl (G.2.1 1, 316, .inl r40)), (b38, .inl (G.2.1 1, 16, .inl r41.2.1)), (b39, .inl (G.2.1 1, r36, .inl r41.2.2))] H := hP
    have hD : va_D A [(a0, .inr (8, [.ref nq1, .ref nq5, .ref nq7, .ref nq34, .null, .null, .null, .int 0, .int 0])), (nq1, .inr (6, [.ref b4, .int 0, .int 0, .int 0])), (b4, .inl (G.2.1 0, 0, .inl ((fun _ => 0)))), (nq7, .inr (7, [.ref b10, .ref b11, .ref b12])), (b10, .inl (G.2.1 1, 16, .inl r33.1)), (b11, .inl (G.2.1 1, 16, .inl r33.2.1)), (b12, .inl (G.2.1 1, r9, .inl r33.2.2)), (nq34, .inr (7, [.ref b37, .ref b38, .ref b39])), (b37, .inl (G.2.1 1, 16, .inl r41.1)), (nq5, .inl (G.2.1 1, 316, .inl r40)), (b38, .inl (G.2.1 1, 16, .inl r41.2.1)), (b39, .inl (G.2.1 1, r36, .inl r41.2.2))] := hD
    refine lv_aload_n hx hb d_Un_init_147 rfl (lv_at hl 0 rfl) ?_
    obtain ⟨k43, z43, h, ek43, ez43⟩ := Ak_e h
    have ekc : 0 + 1 + k3 + 1 + 1 + k9 + 1 + k36 + 1 + k43 = K := by omega
    have ezc : 0 + 4 + z3 + 316 + 3 + z9 + 3 + z36 + 3 + z43 = Z := by omega
    refine va_new (ci := 7) (fs := [.null, .null, .null]) (C := R_Co) (T := F_Co) (N := 3) hx hb hts i_Co t_Co t_Co_ok hown (hts _ q79) (hts _ q80) (hts _ q81) hK hP hD hS hA rfl df_Co (by omega) (by omega) d_Un_init_148 (fun nq42 H hP hD hS => ?_)
    have hP : va_P G.1 classes [(a0, .inr (8, [.ref nq1, .ref nq5, .ref nq7, .ref nq34, .null, .null, .null, .int 0, .int 0])), (nq1, .inr (6, [.ref b4, .int 0, .int 0, .int 0])), (b4, .inl (G.2.1 0, 0, .inl ((fun _ => 0)))), (nq7, .inr (7, [.ref b10, .ref b11, .ref b12])), (b10, .inl (G.2.1 1, 16, .inl r33.1)), (b11, .inl (G.2.1 1, 16, .inl r33.2.1)), (b12, .inl (G.2.1 1, r9, .inl r33.2.2)), (nq34, .inr (7, [.ref b37, .ref b38, .ref b39])), (b37, .inl (G.2.1 1, 16, .inl r41.1)), (nq5, .inl (G.2.1 1, 316, .inl r40)), (b38, .inl (G.2.1 1, 16, .inl r41.2.1)), (b39, .inl (G.2.1 1, r36, .inl r41.2.2)), (nq42, .inr (7, [.null, .null, .null]))] H := hP
    have hD : va_D A [(a0, .inr (8, [.ref nq1, .ref nq5, .ref nq7, .ref nq34, .null, .null, .null, .int 0, .int 0])), (nq1, .inr (6, [.ref b4, .int 0, .int 0, .int 0])), (b4, .inl (G.2.1 0, 0, .inl ((fun _ => 0)))), (nq7, .inr (7, [.ref b10, .ref b11, .ref b12])), (b10, .inl (G.2.1 1, 16, .inl r33.1)), (b11, .inl (G.2.1 1, 16, .inl r33.2.1)), (b12, .inl (G.2.1 1, r9, .inl r33.2.2)), (nq34, .inr (7, [.ref b37, .ref b38, .ref b39])), (b37, .inl (G.2.1 1, 16, .inl r41.1)), (nq5, .inl (G.2.1 1, 316, .inl r40)), (b38, .inl (G.2.1 1, 16, .inl r41.2.1)), (b39, .inl (G.2.1 1, r36, .inl r41.2.2)), (nq42, .inr (7, [.null, .null, .null]))] := hD
    refine lv_dup hx hb d_Un_init_151 rfl ?_
    refine lv_bipush (v := 19) hx hb d_Un_init_152 (by decide) ?_
    obtain ⟨r44, k44, z44, kk44, zz44, hc44, h, ek44, ez44⟩ := Bk_e h
    have ekc : 0 + 1 + k3 + 1 + 1 + k9 + 1 + k36 + 1 + k44 + kk44 = K := by omega
    have ezc : 0 + 4 + z3 + 316 + 3 + z9 + 3 + z36 + 3 + z44 + zz44 = Z := by omega
    refine xI_v (wr := [(a0, .inr (8, [.ref nq1, .ref nq5, .ref nq7, .ref nq34, .null, .null, .null, .int 0, .int 0])), (nq1, .inr (6, [.ref b4, .int 0, .int 0, .int 0])), (b4, .inl (G.2.1 0, 0, .inl ((fun _ => 0)))), (nq7, .inr (7, [.ref b10, .ref b11, .ref b12])), (b10, .inl (G.2.1 1, 16, .inl r33.1)), (b11, .inl (G.2.1 1, 16, .inl r33.2.1)), (b12, .inl (G.2.1 1, r9, .inl r33.2.2)), (nq34, .inr (7, [.ref b37, .ref b38, .ref b39])), (b37, .inl (G.2.1 1, 16, .inl r41.1)), (nq5, .inl (G.2.1 1, 316, .inl r40)), (b38, .inl (G.2.1 1, 16, .inl r41.2.1)), (b39, .inl (G.2.1 1, r36, .inl r41.2.2))]) (rest := [.ref nq42, .ref a0]) C0 hK hT hA hP hD hS hl.1 (c_Co_init l G nq42 _  19 N r44 k44 z44 hc44) (goodI q86 q87 q81 q88) 1 rfl hd_Co_init rfl (Nat.le_trans (by decide) hRf) (Nat.le_trans (by decide) hRl) [12] [0, 1, 2, 3, 4, 5, 6, 7, 8, 9, 10, 11] rfl rfl (by decide) (by decide) (by decide) rfl (Nat.le_of_ble_eq_true rfl) d_Un_init_154 (by omega) (by omega) (fun w1 H locs hE hP hD hS => ?_)
    obtain ⟨b45, b46, b47, rfl⟩ := hE
    have hP : va_P G.1 classes [(a0, .inr (8, [.ref nq1, .ref nq5, .ref nq7, .ref nq34, .null, .null, .null, .int 0, .int 0])), (nq1, .inr (6, [.ref b4, .int 0, .int 0, .int 0])), (b4, .inl (G.2.1 0, 0, .inl ((fun _ => 0)))), (nq7, .inr (7, [.ref b10, .ref b11, .ref b12])), (b10, .inl (G.2.1 1, 16, .inl r33.1)), (b11, .inl (G.2.1 1, 16, .inl r33.2.1)), (b12, .inl (G.2.1 1, r9, .inl r33.2.2)), (nq34, .inr (7, [.ref b37, .ref b38, .ref b39])), (b37, .inl (G.2.1 1, 16, .inl r41.1)), (nq5, .inl (G.2.1 1, 316, .inl r40)), (b38, .inl (G.2.1 1, 16, .inl r41.2.1)), (b39, .inl (G.2.1 1, r36, .inl r41.2.2)), (nq42, .inr (7, [.ref b45, .ref b46, .ref b47])), (b45, .inl (G.2.1 1, 16, .inl ((fun _ => 0)))), (b46, .inl (G.2.1 1, 16, .inl ((fun _ => 0)))), (b47, .inl (G.2.1 1, r44, .inl ((fun _ => 0))))] H := hP
    have hD : va_D A [(a0, .inr (8, [.ref nq1, .ref nq5, .ref nq7, .ref nq34, .null, .null, .null, .int 0, .int 0])), (nq1, .inr (6, [.ref b4, .int 0, .int 0, .int 0])), (b4, .inl (G.2.1 0, 0, .inl ((fun _ => 0)))), (nq7, .inr (7, [.ref b10, .ref b11, .ref b12])), (b10, .inl (G.2.1 1, 16, .inl r33.1)), (b11, .inl (G.2.1 1, 16, .inl r33.2.1)), (b12, .inl (G.2.1 1, r9, .inl r33.2.2)), (nq34, .inr (7, [.ref b37, .ref b38, .ref b39])), (b37, .inl (G.2.1 1, 16, .inl r41.1)), (nq5, .inl (G.2.1 1, 316, .inl r40)), (b38, .inl (G.2.1 1, 16, .inl r41.2.1)), (b39, .inl (G.2.1 1, r36, .inl r41.2.2)), (nq42, .inr (7, [.ref b45, .ref b46, .ref b47])), (b45, .inl (G.2.1 1, 16, .inl ((fun _ => 0)))), (b46, .inl (G.2.1 1, 16, .inl ((fun _ => 0)))), (b47, .inl (G.2.1 1, r44, .inl ((fun _ => 0))))] := hD
    refine va_putF (D := G.1) (ci := 8) (v := .ref nq42) (ty := .object "TextPress$Code") (C := R_Un) (T := F_Un) (N := 9) hx hb hts i_Un t_Un t_Un_ok n_Un hown hK hP hD hS 0 rfl rfl 4 (by decide) (hts _ q100) (fun _ h9 => h9) rfl (hin rfl) rfl (by decide +kernel) rfl rfl (Nat.le_of_ble_eq_true rfl) d_Un_init_157 (fun H locs hP hD hS => ?_)
    have hP : va_P G.1 classes [(a0, .inr (8, [.ref nq1, .ref nq5, .ref nq7, .ref nq34, .ref nq42, .null, .null, .int 0, .int 0])), (nq1, .inr (6, [.ref b4, .int 0, .int 0, .int 0])), (b4, .inl (G.2.1 0, 0, .inl ((fun _ => 0)))), (nq7, .inr (7, [.ref b10, .ref b11, .ref b12])), (b10, .inl (G.2.1 1, 16, .inl r33.1)), (b11, .inl (G.2.1 1, 16, .inl r33.2.1)), (b12, .inl (G.2.1 1, r9, .inl r33.2.2)), (nq34, .inr (7, [.ref b37, .ref b38, .ref b39])), (b37, .inl (G.2.1 1, 16, .inl r41.1)), (nq5, .inl (G.2.1 1, 316, .inl r40)), (b38, .inl (G.2.1 1, 16, .inl r41.2.1)), (b39, .inl (G.2.1 1, r36, .inl r41.2.2)), (nq42, .inr (7, [.ref b45, .ref b46, .ref b47])), (b45, .inl (G.2.1 1, 16, .inl ((fun _ => 0)))), (b46, .inl (G.2.1 1, 16, .inl ((fun _ => 0)))), (b47, .inl (G.2.1 1, r44, .inl ((fun _ => 0))))] H := hP
    have hD : va_D A [(a0, .inr (8, [.ref nq1, .ref nq5, .ref nq7, .ref nq34, .ref nq42, .null, .null, .int 0, .int 0])), (nq1, .inr (6, [.ref b4, .int 0, .int 0, .int 0])), (b4, .inl (G.2.1 0, 0, .inl ((fun _ => 0)))), (nq7, .inr (7, [.ref b10, .ref b11, .ref b12])), (b10, .inl (G.2.1 1, 16, .inl r33.1)), (b11, .inl (G.2.1 1, 16, .inl r33.2.1)), (b12, .inl (G.2.1 1, r9, .inl r33.2.2)), (nq34, .inr (7, [.ref b37, .ref b38, .ref b39])), (b37, .inl (G.2.1 1, 16, .inl r41.1)), (nq5, .inl (G.2.1 1, 316, .inl r40)), (b38, .inl (G.2.1 1, 16, .inl r41.2.1)), (b39, .inl (G.2.1 1, r36, .inl r41.2.2)), (nq42, .inr (7, [.ref b45, .ref b46, .ref b47])), (b45, .inl (G.2.1 1, 16, .inl ((fun _ => 0)))), (b46, .inl (G.2.1 1, 16, .inl ((fun _ => 0)))), (b47, .inl (G.2.1 1, r44, .inl ((fun _ => 0))))] := hD
    refine lv_aload_n hx hb d_Un_init_160 rfl (lv_at hl 0 rfl) ?_
    obtain ⟨k49, z49, h, ek49, ez49⟩ := Ak_e h
    have ekc : 0 + 1 + k3 + 1 + 1 + k9 + 1 + k36 + 1 + k44 + 1 + k49 = K := by omega
    have ezc : 0 + 4 + z3 + 316 + 3 + z9 + 3 + z36 + 3 + z44 + 3 + z49 = Z := by omega
    refine va_new (ci := 7) (fs := [.null, .null, .null]) (C := R_Co) (T := F_Co) (N := 3) hx hb hts i_Co t_Co t_Co_ok hown (hts _ q79) (hts _ q80) (hts _ q81) hK hP hD hS hA rfl df_Co (by omega) (by omega) d_Un_init_161 (fun nq48 H hP hD hS => ?_)
    have hP : va_P G.1 classes [(a0, .inr (8, [.ref nq1, .ref nq5, .ref nq7, .ref nq34, .ref nq42, .null, .null, .int 0, .int 0])), (nq1, .inr (6, [.ref b4, .int 0, .int 0, .int 0])), (b4, .inl (G.2.1 0, 0, .inl ((fun _ => 0)))), (nq7, .inr (7, [.ref b10, .ref b11, .ref b12])), (b10, .inl (G.2.1 1, 16, .inl r33.1)), (b11, .inl (G.2.1 1, 16, .inl r33.2.1)), (b12, .inl (G.2.1 1, r9, .inl r33.2.2)), (nq34, .inr (7, [.ref b37, .ref b38, .ref b39])), (b37, .inl (G.2.1 1, 16, .inl r41.1)), (nq5, .inl (G.2.1 1, 316, .inl r40)), (b38, .inl (G.2.1 1, 16, .inl r41.2.1)), (b39, .inl (G.2.1 1, r36, .inl r41.2.2)), (nq42, .inr (7, [.ref b45, .ref b46, .ref b47])), (b45, .inl (G.2.1 1, 16, .inl ((fun _ => 0)))), (b46, .inl (G.2.1 1, 16, .inl ((fun _ => 0)))), (b47, .inl (G.2.1 1, r44, .inl ((fun _ => 0)))), (nq48, .inr (7, [.null, .null, .null]))] H := hP
    have hD : va_D A [(a0, .inr (8, [.ref nq1, .ref nq5, .ref nq7, .ref nq34, .ref nq42, .null, .null, .int 0, .int 0])), (nq1, .inr (6, [.ref b4, .int 0, .int 0, .int 0])), (b4, .inl (G.2.1 0, 0, .inl ((fun _ => 0)))), (nq7, .inr (7, [.ref b10, .ref b11, .ref b12])), (b10, .inl (G.2.1 1, 16, .inl r33.1)), (b11, .inl (G.2.1 1, 16, .inl r33.2.1)), (b12, .inl (G.2.1 1, r9, .inl r33.2.2)), (nq34, .inr (7, [.ref b37, .ref b38, .ref b39])), (b37, .inl (G.2.1 1, 16, .inl r41.1)), (nq5, .inl (G.2.1 1, 316, .inl r40)), (b38, .inl (G.2.1 1, 16, .inl r41.2.1)), (b39, .inl (G.2.1 1, r36, .inl r41.2.2)), (nq42, .inr (7, [.ref b45, .ref b46, .ref b47])), (b45, .inl (G.2.1 1, 16, .inl ((fun _ => 0)))), (b46, .inl (G.2.1 1, 16, .inl ((fun _ => 0)))), (b47, .inl (G.2.1 1, r44, .inl ((fun _ => 0)))), (nq48, .inr (7, [.null, .null, .null]))] := hD
    refine lv_dup hx hb d_Un_init_164 rfl ?_
    refine lv_sipush (v := 286) hx hb d_Un_init_165 (by decide) ?_
    obtain ⟨r50, k50, z50, kk50, zz50, hc50, h, ek50, ez50⟩ := Bk_e h
    have ekc : 0 + 1 + k3 + 1 + 1 + k9 + 1 + k36 + 1 + k44 + 1 + k50 + kk50 = K := by omega
    have ezc : 0 + 4 + z3 + 316 + 3 + z9 + 3 + z36 + 3 + z44 + 3 + z50 + zz50 = Z := by omega
    refine xI_v (wr := [(a0, .inr (8, [.ref nq1, .ref nq5, .ref nq7, .ref nq34, .ref nq42, .null, .null, .int 0, .int 0])), (nq1, .inr (6, [.ref b4, .int 0, .int 0, .int 0])), (b4, .inl (G.2.1 0, 0, .inl ((fun _ => 0)))), (nq7, .inr (7, [.ref b10, .ref b11, .ref b12])), (b10, .inl (G.2.1 1, 16, .inl r33.1)), (b11, .inl (G.2.1 1, 16, .inl r33.2.1)), (b12, .inl (G.2.1 1, r9, .inl r33.2.2)), (nq34, .inr (7, [.ref b37, .ref b38, .ref b39])), (b37, .inl (G.2.1 1, 16, .inl r41.1)), (nq5, .inl (G.2.1 1, 316, .inl r40)), (b38, .inl (G.2.1 1, 16, .inl r41.2.1)), (b39, .inl (G.2.1 1, r36, .inl r41.2.2)), (nq42, .inr (7, [.ref b45, .ref b46, .ref b47])), (b45, .inl (G.2.1 1, 16, .inl ((fun _ => 0)))), (b46, .inl (G.2.1 1, 16, .inl ((fun _ => 0)))), (b47, .inl (G.2.1 1, r44, .inl ((fun _ => 0))))]) (rest := [.ref nq48, .ref a0]) C0 hK hT hA hP hD hS hl.1 (c_Co_init l G nq48 _  286 N r50 k50 z50 hc50) (goodI q86 q87 q81 q88) 1 rfl hd_Co_init rfl (Nat.le_trans (by decide) hRf) (Nat.le_trans (by decide) hRl) [16] [0, 1, 2, 3, 4, 5, 6, 7, 8, 9, 10, 11, 12, 13, 14, 15] rfl rfl (by decide) (by decide) (by decide) rfl (Nat.le_of_ble_eq_true rfl) d_Un_init_168 (by omega) (by omega) (fun w1 H locs hE hP hD hS => ?_)
    obtain ⟨b51, b52, b53, rfl⟩ := hE
    have hP : va_P G.1 classes [(a0, .inr (8, [.ref nq1, .ref nq5, .ref nq7, .ref nq34, .ref nq42, .null, .null, .int 0, .int 0])), (nq1, .inr (6, [.ref b4, .int 0, .int 0, .int 0])), (b4, .inl (G.2.1 0, 0, .inl ((fun _ => 0)))), (nq7, .inr (7, [.ref b10, .ref b11, .ref b12])), (b10, .inl (G.2.1 1, 16, .inl r33.1)), (b11, .inl (G.2.1 1, 16, .inl r33.2.1)), (b12, .inl (G.2.1 1, r9, .inl r33.2.2)), (nq34, .inr (7, [.ref b37, .ref b38, .ref b39])), (b37, .inl (G.2.1 1, 16, .inl r41.1)), (nq5, .inl (G.2.1 1, 316, .inl r40)), (b38, .inl (G.2.1 1, 16, .inl r41.2.1)), (b39, .inl (G.2.1 1, r36, .inl r41.2.2)), (nq42, .inr (7, [.ref b45, .ref b46, .ref b47])), (b45, .inl (G.2.1 1, 16, .inl ((fun _ => 0)))), (b46, .inl (G.2.1 1, 16, .inl ((fun _ => 0)))), (b47, .inl (G.2.1 1, r44, .inl ((fun _ => 0)))), (nq48, .inr (7, [.ref b51, .ref b52, .ref b53])), (b51, .inl (G.2.1 1, 16, .inl ((fun _ => 0)))), (b52, .inl (G.2.1 1, 16, .inl ((fun _ => 0)))), (b53, .inl (G.2.1 1, r50, .inl ((fun _ => 0))))] H := hP
    have hD : va_D A [(a0, .inr (8, [.ref nq1, .ref nq5, .ref nq7, .ref nq34, .ref nq42, .null, .null, .int 0, .int 0])), (nq1, .inr (6, [.ref b4, .int 0, .int 0, .int 0])), (b4, .inl (G.2.1 0, 0, .inl ((fun _ => 0)))), (nq7, .inr (7, [.ref b10, .ref b11, .ref b12])), (b10, .inl (G.2.1 1, 16, .inl r33.1)), (b11, .inl (G.2.1 1, 16, .inl r33.2.1)), (b12, .inl (G.2.1 1, r9, .inl r33.2.2)), (nq34, .inr (7, [.ref b37, .ref b38, .ref b39])), (b37, .inl (G.2.1 1, 16, .inl r41.1)), (nq5, .inl (G.2.1 1, 316, .inl r40)), (b38, .inl (G.2.1 1, 16, .inl r41.2.1)), (b39, .inl (G.2.1 1, r36, .inl r41.2.2)), (nq42, .inr (7, [.ref b45, .ref b46, .ref b47])), (b45, .inl (G.2.1 1, 16, .inl ((fun _ => 0)))), (b46, .inl (G.2.1 1, 16, .inl ((fun _ => 0)))), (b47, .inl (G.2.1 1, r44, .inl ((fun _ => 0)))), (nq48, .inr (7, [.ref b51, .ref b52, .ref b53])), (b51, .inl (G.2.1 1, 16, .inl ((fun _ => 0)))), (b52, .inl (G.2.1 1, 16, .inl ((fun _ => 0)))), (b53, .inl (G.2.1 1, r50, .inl ((fun _ => 0))))] := hD
    refine va_putF (D := G.1) (ci := 8) (v := .ref nq48) (ty := .object "TextPress$Code") (C := R_Un) (T := F_Un) (N := 9) hx hb hts i_Un t_Un t_Un_ok n_Un hown hK hP hD hS 0 rfl rfl 5 (by decide) (hts _ q101) (fun _ h9 => h9) rfl (hin rfl) rfl (by decide +kernel) rfl rfl (Nat.le_of_ble_eq_true rfl) d_Un_init_171 (fun H locs hP hD hS => ?_)
    have hP : va_P G.1 classes [(a0, .inr (8, [.ref nq1, .ref nq5, .ref nq7, .ref nq34, .ref nq42, .ref nq48, .null, .int 0, .int 0])), (nq1, .inr (6, [.ref b4, .int 0, .int 0, .int 0])), (b4, .inl (G.2.1 0, 0, .inl ((fun _ => 0)))), (nq7, .inr (7, [.ref b10, .ref b11, .ref b12])), (b10, .inl (G.2.1 1, 16, .inl r33.1)), (b11, .inl (G.2.1 1, 16, .inl r33.2.1)), (b12, .inl (G.2.1 1, r9, .inl r33.2.2)), (nq34, .inr (7, [.ref b37, .ref b38, .ref b39])), (b37, .inl (G.2.1 1, 16, .inl r41.1)), (nq5, .inl (G.2.1 1, 316, .inl r40)), (b38, .inl (G.2.1 1, 16, .inl r41.2.1)), (b39, .inl (G.2.1 1, r36, .inl r41.2.2)), (nq42, .inr (7, [.ref b45, .ref b46, .ref b47])), (b45, .inl (G.2.1 1, 16, .inl ((fun _ => 0)))), (b46, .inl (G.2.1 1, 16, .inl ((fun _ => 0)))), (b47, .inl (G.2.1 1, r44, .inl ((fun _ => 0)))), (nq48, .inr (7, [.ref b51, .ref b52, .ref b53])), (b51, .inl (G.2.1 1, 16, .inl ((fun _ => 0)))), (b52, .inl (G.2.1 1, 16, .inl ((fun _ => 0)))), (b53, .inl (G.2.1 1, r50, .inl ((fun _ => 0))))] H := hP
    have hD : va_D A [(a0, .inr (8, [.ref nq1, .ref nq5, .ref nq7, .ref nq34, .ref nq42, .ref nq48, .null, .int 0, .int 0])), (nq1, .inr (6, [.ref b4, .int 0, .int 0, .int 0])), (b4, .inl (G.2.1 0, 0, .inl ((fun _ => 0)))), (nq7, .inr (7, [.ref b10, .ref b11, .ref b12])), (b10, .inl (G.2.1 1, 16, .inl r33.1)), (b11, .inl (G.2.1 1, 16, .inl r33.2.1)), (b12, .inl (G.2.1 1, r9, .inl r33.2.2)), (nq34, .inr (7, [.ref b37, .ref b38, .ref b39])), (b37, .inl (G.2.1 1, 16, .inl r41.1)), (nq5, .inl (G.2.1 1, 316, .inl r40)), (b38, .inl (G.2.1 1, 16, .inl r41.2.1)), (b39, .inl (G.2.1 1, r36, .inl r41.2.2)), (nq42, .inr (7, [.ref b45, .ref b46, .ref b47])), (b45, .inl (G.2.1 1, 16, .inl ((fun _ => 0)))), (b46, .inl (G.2.1 1, 16, .inl ((fun _ => 0)))), (b47, .inl (G.2.1 1, r44, .inl ((fun _ => 0)))), (nq48, .inr (7, [.ref b51, .ref b52, .ref b53])), (b51, .inl (G.2.1 1, 16, .inl ((fun _ => 0)))), (b52, .inl (G.2.1 1, 16, .inl ((fun _ => 0)))), (b53, .inl (G.2.1 1, r50, .inl ((fun _ => 0))))] := hD
    refine lv_aload_n hx hb d_Un_init_174 rfl (lv_at hl 0 rfl) ?_
    obtain ⟨k55, z55, h, ek55, ez55⟩ := Ak_e h
    have ekc : 0 + 1 + k3 + 1 + 1 + k9 + 1 + k36 + 1 + k44 + 1 + k50 + 1 + k55 = K := by omega
    have ezc : 0 + 4 + z3 + 316 + 3 + z9 + 3 + z36 + 3 + z44 + 3 + z50 + 3 + z55 = Z := by omega
    refine va_new (ci := 7) (fs := [.null, .null, .null]) (C := R_Co) (T := F_Co) (N := 3) hx hb hts i_Co t_Co t_Co_ok hown (hts _ q79) (hts _ q80) (hts _ q81) hK hP hD hS hA rfl df_Co (by omega) (by omega) d_Un_init_175 (fun nq54 H hP hD hS => ?_)
    have hP : va_P G.1 classes [(a0, .inr (8, [.ref nq1, .ref nq5, .ref nq7, .ref nq34, .ref nq42, .ref nq48, .null, .int 0, .int 0])), (nq1, .inr (6, [.ref b4, .int 0, .int 0, .int 0])), (b4, .inl (G.2.1 0, 0, .inl ((fun _ => 0)))), (nq7, .inr (7, [.ref b10, .ref b11, .ref b12])), (b10, .inl (G.2.1 1, 16, .inl r33.1)), (b11, .inl (G.2.1 1, 16, .inl r33.2.1)), (b12, .inl (G.2.1 1, r9, .inl r33.2.2)), (nq34, .inr (7, [.ref b37, .ref b38, .ref b39])), (b37, .inl (G.2.1 1, 16, .inl r41.1)), (nq5, .inl (G.2.1 1, 316, .inl r40)), (b38, .inl (G.2.1 1, 16, .inl r41.2.1)), (b39, .inl (G.2.1 1, r36, .inl r41.2.2)), (nq42, .inr (7, [.ref b45, .ref b46, .ref b47])), (b45, .inl (G.2.1 1, 16, .inl ((fun _ => 0)))), (b46, .inl (G.2.1 1, 16, .inl ((fun _ => 0)))), (b47, .inl (G.2.1 1, r44, .inl ((fun _ => 0)))), (nq48, .inr (7, [.ref b51, .ref b52, .ref b53])), (b51, .inl (G.2.1 1, 16, .inl ((fun _ => 0)))), (b52, .inl (G.2.1 1, 16, .inl ((fun _ => 0)))), (b53, .inl (G.2.1 1, r50, .inl ((fun _ => 0)))), (nq54, .inr (7, [.null, .null, .null]))] H := hP
    have hD : va_D A [(a0, .inr (8, [.ref nq1, .ref nq5, .ref nq7, .ref nq34, .ref nq42, .ref nq48, .null, .int 0, .int 0])), (nq1, .inr (6, [.ref b4, .int 0, .int 0, .int 0])), (b4, .inl (G.2.1 0, 0, .inl ((fun _ => 0)))), (nq7, .inr (7, [.ref b10, .ref b11, .ref b12])), (b10, .inl (G.2.1 1, 16, .inl r33.1)), (b11, .inl (G.2.1 1, 16, .inl r33.2.1)), (b12, .inl (G.2.1 1, r9, .inl r33.2.2)), (nq34, .inr (7, [.ref b37, .ref b38, .ref b39])), (b37, .inl (G.2.1 1, 16, .inl r41.1)), (nq5, .inl (G.2.1 1, 316, .inl r40)), (b38, .inl (G.2.1 1, 16, .inl r41.2.1)), (b39, .inl (G.2.1 1, r36, .inl r41.2.2)), (nq42, .inr (7, [.ref b45, .ref b46, .ref b47])), (b45, .inl (G.2.1 1, 16, .inl ((fun _ => 0)))), (b46, .inl (G.2.1 1, 16, .inl ((fun _ => 0)))), (b47, .inl (G.2.1 1, r44, .inl ((fun _ => 0)))), (nq48, .inr (7, [.ref b51, .ref b52, .ref b53])), (b51, .inl (G.2.1 1, 16, .inl ((fun _ => 0)))), (b52, .inl (G.2.1 1, 16, .inl ((fun _ => 0)))), (b53, .inl (G.2.1 1, r50, .inl ((fun _ => 0)))), (nq54, .inr (7, [.null, .null, .null]))] := hD
    refine lv_dup hx hb d_Un_init_178 rfl ?_
    refine lv_bipush (v := 30) hx hb d_Un_init_179 (by decide) ?_
    obtain ⟨r56, k56, z56, kk56, zz56, hc56, h, ek56, ez56⟩ := Bk_e h
    have ekc : 0 + 1 + k3 + 1 + 1 + k9 + 1 + k36 + 1 + k44 + 1 + k50 + 1 + k56 + kk56 = K := by omega
    have ezc : 0 + 4 + z3 + 316 + 3 + z9 + 3 + z36 + 3 + z44 + 3 + z50 + 3 + z56 + zz56 = Z := by omega
    refine xI_v (wr := [(a0, .inr (8, [.ref nq1, .ref nq5, .ref nq7, .ref nq34, .ref nq42, .ref nq48, .null, .int 0, .int 0])), (nq1, .inr (6, [.ref b4, .int 0, .int 0, .int 0])), (b4, .inl (G.2.1 0, 0, .inl ((fun _ => 0)))), (nq7, .inr (7, [.ref b10, .ref b11, .ref b12])), (b10, .inl (G.2.1 1, 16, .inl r33.1)), (b11, .inl (G.2.1 1, 16, .inl r33.2.1)), (b12, .inl (G.2.1 1, r9, .inl r33.2.2)), (nq34, .inr (7, [.ref b37, .ref b38, .ref b39])), (b37, .inl (G.2.1 1, 16, .inl r41.1)), (nq5, .inl (G.2.1 1, 316, .inl r40)), (b38, .inl (G.2.1 1, 16, .inl r41.2.1)), (b39, .inl (G.2.1 1, r36, .inl r41.2.2)), (nq42, .inr (7, [.ref b45, .ref b46, .ref b47])), (b45, .inl (G.2.1 1, 16, .inl ((fun _ => 0)))), (b46, .inl (G.2.1 1, 16, .inl ((fun _ => 0)))), (b47, .inl (G.2.1 1, r44, .inl ((fun _ => 0)))), (nq48, .inr (7, [.ref b51, .ref b52, .ref b53])), (b51, .inl (G.2.1 1, 16, .inl ((fun _ => 0)))), (b52, .inl (G.2.1 1, 16, .inl ((fun _ => 0)))), (b53, .inl (G.2.1 1, r50, .inl ((fun _ => 0))))]) (rest := [.ref nq54, .ref a0]) C0 hK hT hA hP hD hS hl.1 (c_Co_init l G nq54 _  30 N r56 k56 z56 hc56) (goodI q86 q87 q81 q88) 1 rfl hd_Co_init rfl (Nat.le_trans (by decide) hRf) (Nat.le_trans (by decide) hRl) [20] [0, 1, 2, 3, 4, 5, 6, 7, 8, 9, 10, 11, 12, 13, 14, 15, 16, 17, 18, 19] rfl rfl (by decide) (by decide) (by decide) rfl (Nat.le_of_ble_eq_true rfl) d_Un_init_181 (by omega) (by omega) (fun w1 H locs hE hP hD hS => ?_)
    obtain ⟨b57, b58, b59, rfl⟩ := hE
    have hP : va_P G.1 classes [(a0, .inr (8, [.ref nq1, .ref nq5, .ref nq7, .ref nq34, .ref nq42, .ref nq48, .null, .int 0, .int 0])), (nq1, .inr (6, [.ref b4, .int 0, .int 0, .int 0])), (b4, .inl (G.2.1 0, 0, .inl ((fun _ => 0)))), (nq7, .inr (7, [.ref b10, .ref b11, .ref b12])), (b10, .inl (G.2.1 1, 16, .inl r33.1)), (b11, .inl (G.2.1 1, 16, .inl r33.2.1)), (b12, .inl (G.2.1 1, r9, .inl r33.2.2)), (nq34, .inr (7, [.ref b37, .ref b38, .ref b39])), (b37, .inl (G.2.1 1, 16, .inl r41.1)), (nq5, .inl (G.2.1 1, 316, .inl r40)), (b38, .inl (G.2.1 1, 16, .inl r41.2.1)), (b39, .inl (G.2.1 1, r36, .inl r41.2.2)), (nq42, .inr (7, [.ref b45, .ref b46, .ref b47])), (b45, .inl (G.2.1 1, 16, .inl ((fun _ => 0)))), (b46, .inl (G.2.1 1, 16, .inl ((fun _ => 0)))), (b47, .inl (G.2.1 1, r44, .inl ((fun _ => 0)))), (nq48, .inr (7, [.ref b51, .ref b52, .ref b53])), (b51, .inl (G.2.1 1, 16, .inl ((fun _ => 0)))), (b52, .inl (G.2.1 1, 16, .inl ((fun _ => 0)))), (b53, .inl (G.2.1 1, r50, .inl ((fun _ => 0)))), (nq54, .inr (7, [.ref b57, .ref b58, .ref b59])), (b57, .inl (G.2.1 1, 16, .inl ((fun _ => 0)))), (b58, .inl (G.2.1 1, 16, .inl ((fun _ => 0)))), (b59, .inl (G.2.1 1, r56, .inl ((fun _ => 0))))] H := hP
    have hD : va_D A [(a0, .inr (8, [.ref nq1, .ref nq5, .ref nq7, .ref nq34, .ref nq42, .ref nq48, .null, .int 0, .int 0])), (nq1, .inr (6, [.ref b4, .int 0, .int 0, .int 0])), (b4, .inl (G.2.1 0, 0, .inl ((fun _ => 0)))), (nq7, .inr (7, [.ref b10, .ref b11, .ref b12])), (b10, .inl (G.2.1 1, 16, .inl r33.1)), (b11, .inl (G.2.1 1, 16, .inl r33.2.1)), (b12, .inl (G.2.1 1, r9, .inl r33.2.2)), (nq34, .inr (7, [.ref b37, .ref b38, .ref b39])), (b37, .inl (G.2.1 1, 16, .inl r41.1)), (nq5, .inl (G.2.1 1, 316, .inl r40)), (b38, .inl (G.2.1 1, 16, .inl r41.2.1)), (b39, .inl (G.2.1 1, r36, .inl r41.2.2)), (nq42, .inr (7, [.ref b45, .ref b46, .ref b47])), (b45, .inl (G.2.1 1, 16, .inl ((fun _ => 0)))), (b46, .inl (G.2.1 1, 16, .inl ((fun _ => 0)))), (b47, .inl (G.2.1 1, r44, .inl ((fun _ => 0)))), (nq48, .inr (7, [.ref b51, .ref b52, .ref b53])), (b51, .inl (G.2.1 1, 16, .inl ((fun _ => 0)))), (b52, .inl (G.2.1 1, 16, .inl ((fun _ => 0)))), (b53, .inl (G.2.1 1, r50, .inl ((fun _ => 0)))), (nq54, .inr (7, [.ref b57, .ref b58, .ref b59])), (b57, .inl (G.2.1 1, 16, .inl ((fun _ => 0)))), (b58, .inl (G.2.1 1, 16, .inl ((fun _ => 0)))), (b59, .inl (G.2.1 1, r56, .inl ((fun _ => 0))))] := hD
    refine va_putF (D := G.1) (ci := 8) (v := .ref nq54) (ty := .object "TextPress$Code") (C := R_Un) (T := F_Un) (N := 9) hx hb hts i_Un t_Un t_Un_ok n_Un hown hK hP hD hS 0 rfl rfl 6 (by decide) (hts _ q102) (fun _ h9 => h9) rfl (hin rfl) rfl (by decide +kernel) rfl rfl (Nat.le_of_ble_eq_true rfl) d_Un_init_184 (fun H locs hP hD hS => ?_)
    have hP : va_P G.1 classes [(a0, .inr (8, [.ref nq1, .ref nq5, .ref nq7, .ref nq34, .ref nq42, .ref nq48, .ref nq54, .int 0, .int 0])), (nq1, .inr (6, [.ref b4, .int 0, .int 0, .int 0])), (b4, .inl (G.2.1 0, 0, .inl ((fun _ => 0)))), (nq7, .inr (7, [.ref b10, .ref b11, .ref b12])), (b10, .inl (G.2.1 1, 16, .inl r33.1)), (b11, .inl (G.2.1 1, 16, .inl r33.2.1)), (b12, .inl (G.2.1 1, r9, .inl r33.2.2)), (nq34, .inr (7, [.ref b37, .ref b38, .ref b39])), (b37, .inl (G.2.1 1, 16, .inl r41.1)), (nq5, .inl (G.2.1 1, 316, .inl r40)), (b38, .inl (G.2.1 1, 16, .inl r41.2.1)), (b39, .inl (G.2.1 1, r36, .inl r41.2.2)), (nq42, .inr (7, [.ref b45, .ref b46, .ref b47])), (b45, .inl (G.2.1 1, 16, .inl ((fun _ => 0)))), (b46, .inl (G.2.1 1, 16, .inl ((fun _ => 0)))), (b47, .inl (G.2.1 1, r44, .inl ((fun _ => 0)))), (nq48, .inr (7, [.ref b51, .ref b52, .ref b53])), (b51, .inl (G.2.1 1, 16, .inl ((fun _ => 0)))), (b52, .inl (G.2.1 1, 16, .inl ((fun _ => 0)))), (b53, .inl (G.2.1 1, r50, .inl ((fun _ => 0)))), (nq54, .inr (7, [.ref b57, .ref b58, .ref b59])), (b57, .inl (G.2.1 1, 16, .inl ((fun _ => 0)))), (b58, .inl (G.2.1 1, 16, .inl ((fun _ => 0)))), (b59, .inl (G.2.1 1, r56, .inl ((fun _ => 0))))] H := hP
    have hD : va_D A [(a0, .inr (8, [.ref nq1, .ref nq5, .ref nq7, .ref nq34, .ref nq42, .ref nq48, .ref nq54, .int 0, .int 0])), (nq1, .inr (6, [.ref b4, .int 0, .int 0, .int 0])), (b4, .inl (G.2.1 0, 0, .inl ((fun _ => 0)))), (nq7, .inr (7, [.ref b10, .ref b11, .ref b12])), (b10, .inl (G.2.1 1, 16, .inl r33.1)), (b11, .inl (G.2.1 1, 16, .inl r33.2.1)), (b12, .inl (G.2.1 1, r9, .inl r33.2.2)), (nq34, .inr (7, [.ref b37, .ref b38, .ref b39])), (b37, .inl (G.2.1 1, 16, .inl r41.1)), (nq5, .inl (G.2.1 1, 316, .inl r40)), (b38, .inl (G.2.1 1, 16, .inl r41.2.1)), (b39, .inl (G.2.1 1, r36, .inl r41.2.2)), (nq42, .inr (7, [.ref b45, .ref b46, .ref b47])), (b45, .inl (G.2.1 1, 16, .inl ((fun _ => 0)))), (b46, .inl (G.2.1 1, 16, .inl ((fun _ => 0)))), (b47, .inl (G.2.1 1, r44, .inl ((fun _ => 0)))), (nq48, .inr (7, [.ref b51, .ref b52, .ref b53])), (b51, .inl (G.2.1 1, 16, .inl ((fun _ => 0)))), (b52, .inl (G.2.1 1, 16, .inl ((fun _ => 0)))), (b53, .inl (G.2.1 1, r50, .inl ((fun _ => 0)))), (nq54, .inr (7, [.ref b57, .ref b58, .ref b59])), (b57, .inl (G.2.1 1, 16, .inl ((fun _ => 0)))), (b58, .inl (G.2.1 1, 16, .inl ((fun _ => 0)))), (b59, .inl (G.2.1 1, r56, .inl ((fun _ => 0))))] := hD
    refine lv_aload_n hx hb d_Un_init_187 rfl (lv_at hl 0 rfl) ?_
    refine lv_iconst (v := 0) hx hb d_Un_init_188 (by decide) ?_
    refine va_put (D := G.1) (ci := 8) (v := .int 0) (ty := .int) (C := R_Un) (T := F_Un) (N := 9) hx hb hts i_Un t_Un t_Un_ok n_Un hown hK hP hD hS 0 rfl rfl 7 (by decide) (hts _ q103) (fun _ h9 => h9) rfl (by decide +kernel) rfl rfl (Nat.le_of_ble_eq_true rfl) d_Un_init_189 (fun H locs hP hD hS => ?_)
    have hP : va_P G.1 classes [(a0, .inr (8, [.ref nq1, .ref nq5, .ref nq7, .ref nq34, .ref nq42, .ref nq48, .ref nq54, .int 0, .int 0])), (nq1, .inr (6, [.ref b4, .int 0, .int 0, .int 0])), (b4, .inl (G.2.1 0, 0, .inl ((fun _ => 0)))), (nq7, .inr (7, [.ref b10, .ref b11, .ref b12])), (b10, .inl (G.2.1 1, 16, .inl r33.1)), (b11, .inl (G.2.1 1, 16, .inl r33.2.1)), (b12, .inl (G.2.1 1, r9, .inl r33.2.2)), (nq34, .inr (7, [.ref b37, .ref b38, .ref b39])), (b37, .inl (G.2.1 1, 16, .inl r41.1)), (nq5, .inl (G.2.1 1, 316, .inl r40)), (b38, .inl (G.2.1 1, 16, .inl r41.2.1)), (b39, .inl (G.2.1 1, r36, .inl r41.2.2)), (nq42, .inr (7, [.ref b45, .ref b46, .ref b47])), (b45, .inl (G.2.1 1, 16, .inl ((fun _ => 0)))), (b46, .inl (G.2.1 1, 16, .inl ((fun _ => 0)))), (b47, .inl (G.2.1 1, r44, .inl ((fun _ => 0)))), (nq48, .inr (7, [.ref b51, .ref b52, .ref b53])), (b51, .inl (G.2.1 1, 16, .inl ((fun _ => 0)))), (b52, .inl (G.2.1 1, 16, .inl ((fun _ => 0)))), (b53, .inl (G.2.1 1, r50, .inl ((fun _ => 0)))), (nq54, .inr (7, [.ref b57, .ref b58, .ref b59])), (b57, .inl (G.2.1 1, 16, .inl ((fun _ => 0)))), (b58, .inl (G.2.1 1, 16, .inl ((fun _ => 0)))), (b59, .inl (G.2.1 1, r56, .inl ((fun _ => 0))))] H := hP
    have hD : va_D A [(a0, .inr (8, [.ref nq1, .ref nq5, .ref nq7, .ref nq34, .ref nq42, .ref nq48, .ref nq54, .int 0, .int 0])), (nq1, .inr (6, [.ref b4, .int 0, .int 0, .int 0])), (b4, .inl (G.2.1 0, 0, .inl ((fun _ => 0)))), (nq7, .inr (7, [.ref b10, .ref b11, .ref b12])), (b10, .inl (G.2.1 1, 16, .inl r33.1)), (b11, .inl (G.2.1 1, 16, .inl r33.2.1)), (b12, .inl (G.2.1 1, r9, .inl r33.2.2)), (nq34, .inr (7, [.ref b37, .ref b38, .ref b39])), (b37, .inl (G.2.1 1, 16, .inl r41.1)), (nq5, .inl (G.2.1 1, 316, .inl r40)), (b38, .inl (G.2.1 1, 16, .inl r41.2.1)), (b39, .inl (G.2.1 1, r36, .inl r41.2.2)), (nq42, .inr (7, [.ref b45, .ref b46, .ref b47])), (b45, .inl (G.2.1 1, 16, .inl ((fun _ => 0)))), (b46, .inl (G.2.1 1, 16, .inl ((fun _ => 0)))), (b47, .inl (G.2.1 1, r44, .inl ((fun _ => 0)))), (nq48, .inr (7, [.ref b51, .ref b52, .ref b53])), (b51, .inl (G.2.1 1, 16, .inl ((fun _ => 0)))), (b52, .inl (G.2.1 1, 16, .inl ((fun _ => 0)))), (b53, .inl (G.2.1 1, r50, .inl ((fun _ => 0)))), (nq54, .inr (7, [.ref b57, .ref b58, .ref b59])), (b57, .inl (G.2.1 1, 16, .inl ((fun _ => 0)))), (b58, .inl (G.2.1 1, 16, .inl ((fun _ => 0)))), (b59, .inl (G.2.1 1, r56, .inl ((fun _ => 0))))] := hD
    refine lv_aload_n hx hb d_Un_init_192 rfl (lv_at hl 0 rfl) ?_
    refine lv_iconst (v := 0) hx hb d_Un_init_193 (by decide) ?_
    refine va_put (D := G.1) (ci := 8) (v := .int 0) (ty := .int) (C := R_Un) (T := F_Un) (N := 9) hx hb hts i_Un t_Un t_Un_ok n_Un hown hK hP hD hS 0 rfl rfl 8 (by decide) (hts _ q104) (fun _ h9 => h9) rfl (by decide +kernel) rfl rfl (Nat.le_of_ble_eq_true rfl) d_Un_init_194 (fun H locs hP hD hS => ?_)
    have hP : va_P G.1 classes [(a0, .inr (8, [.ref nq1, .ref nq5, .ref nq7, .ref nq34, .ref nq42, .ref nq48, .ref nq54, .int 0, .int 0])), (nq1, .inr (6, [.ref b4, .int 0, .int 0, .int 0])), (b4, .inl (G.2.1 0, 0, .inl ((fun _ => 0)))), (nq7, .inr (7, [.ref b10, .ref b11, .ref b12])), (b10, .inl (G.2.1 1, 16, .inl r33.1)), (b11, .inl (G.2.1 1, 16, .inl r33.2.1)), (b12, .inl (G.2.1 1, r9, .inl r33.2.2)), (nq34, .inr (7, [.ref b37, .ref b38, .ref b39])), (b37, .inl (G.2.1 1, 16, .inl r41.1)), (nq5, .inl (G.2.1 1, 316, .inl r40)), (b38, .inl (G.2.1 1, 16, .inl r41.2.1)), (b39, .inl (G.2.1 1, r36, .inl r41.2.2)), (nq42, .inr (7, [.ref b45, .ref b46, .ref b47])), (b45, .inl (G.2.1 1, 16, .inl ((fun _ => 0)))), (b46, .inl (G.2.1 1, 16, .inl ((fun _ => 0)))), (b47, .inl (G.2.1 1, r44, .inl ((fun _ => 0)))), (nq48, .inr (7, [.ref b51, .ref b52, .ref b53])), (b51, .inl (G.2.1 1, 16, .inl ((fun _ => 0)))), (b52, .inl (G.2.1 1, 16, .inl ((fun _ => 0)))), (b53, .inl (G.2.1 1, r50, .inl ((fun _ => 0)))), (nq54, .inr (7, [.ref b57, .ref b58, .ref b59])), (b57, .inl (G.2.1 1, 16, .inl ((fun _ => 0)))), (b58, .inl (G.2.1 1, 16, .inl ((fun _ => 0)))), (b59, .inl (G.2.1 1, r56, .inl ((fun _ => 0))))] H := hP
    have hD : va_D A [(a0, .inr (8, [.ref nq1, .ref nq5, .ref nq7, .ref nq34, .ref nq42, .ref nq48, .ref nq54, .int 0, .int 0])), (nq1, .inr (6, [.ref b4, .int 0, .int 0, .int 0])), (b4, .inl (G.2.1 0, 0, .inl ((fun _ => 0)))), (nq7, .inr (7, [.ref b10, .ref b11, .ref b12])), (b10, .inl (G.2.1 1, 16, .inl r33.1)), (b11, .inl (G.2.1 1, 16, .inl r33.2.1)), (b12, .inl (G.2.1 1, r9, .inl r33.2.2)), (nq34, .inr (7, [.ref b37, .ref b38, .ref b39])), (b37, .inl (G.2.1 1, 16, .inl r41.1)), (nq5, .inl (G.2.1 1, 316, .inl r40)), (b38, .inl (G.2.1 1, 16, .inl r41.2.1)), (b39, .inl (G.2.1 1, r36, .inl r41.2.2)), (nq42, .inr (7, [.ref b45, .ref b46, .ref b47])), (b45, .inl (G.2.1 1, 16, .inl ((fun _ => 0)))), (b46, .inl (G.2.1 1, 16, .inl ((fun _ => 0)))), (b47, .inl (G.2.1 1, r44, .inl ((fun _ => 0)))), (nq48, .inr (7, [.ref b51, .ref b52, .ref b53])), (b51, .inl (G.2.1 1, 16, .inl ((fun _ => 0)))), (b52, .inl (G.2.1 1, 16, .inl ((fun _ => 0)))), (b53, .inl (G.2.1 1, r50, .inl ((fun _ => 0)))), (nq54, .inr (7, [.ref b57, .ref b58, .ref b59])), (b57, .inl (G.2.1 1, 16, .inl ((fun _ => 0)))), (b58, .inl (G.2.1 1, 16, .inl ((fun _ => 0)))), (b59, .inl (G.2.1 1, r56, .inl ((fun _ => 0))))] := hD
    obtain ⟨eV, ek, ez⟩ := so3 h
    subst eV
    exact x_vret C0 hQ (hP.sub (ws' := [(a0, .inr (8, [.ref nq1, .ref nq5, .ref nq7, .ref nq34, .ref nq42, .ref nq48, .ref nq54, .int 0, .int 0])), (nq1, .inr (6, [.ref b4, .int 0, .int 0, .int 0])), (b4, .inl (G.2.1 0, 0, .inl ((fun _ => 0)))), (nq5, .inl (G.2.1 1, 316, .inl r40)), (nq7, .inr (7, [.ref b10, .ref b11, .ref b12])), (b10, .inl (G.2.1 1, 16, .inl r33.1)), (b11, .inl (G.2.1 1, 16, .inl r33.2.1)), (b12, .inl (G.2.1 1, r9, .inl r33.2.2)), (nq34, .inr (7, [.ref b37, .ref b38, .ref b39])), (b37, .inl (G.2.1 1, 16, .inl r41.1)), (b38, .inl (G.2.1 1, 16, .inl r41.2.1)), (b39, .inl (G.2.1 1, r36, .inl r41.2.2)), (nq42, .inr (7, [.ref b45, .ref b46, .ref b47])), (b45, .inl (G.2.1 1, 16, .inl ((fun _ => 0)))), (b46, .inl (G.2.1 1, 16, .inl ((fun _ => 0)))), (b47, .inl (G.2.1 1, r44, .inl ((fun _ => 0)))), (nq48, .inr (7, [.ref b51, .ref b52, .ref b53])), (b51, .inl (G.2.1 1, 16, .inl ((fun _ => 0)))), (b52, .inl (G.2.1 1, 16, .inl ((fun _ => 0)))), (b53, .inl (G.2.1 1, r50, .inl ((fun _ => 0)))), (nq54, .inr (7, [.ref b57, .ref b58, .ref b59])), (b57, .inl (G.2.1 1, 16, .inl ((fun _ => 0)))), (b58, .inl (G.2.1 1, 16, .inl ((fun _ => 0)))), (b59, .inl (G.2.1 1, r56, .inl ((fun _ => 0))))]) [0, 1, 2, 9, 3, 4, 5, 6, 7, 8, 10, 11, 12, 13, 14, 15, 16, 17, 18, 19, 20, 21, 22, 23] rfl) (hD.sub (ws' := [(a0, .inr (8, [.ref nq1, .ref nq5, .ref nq7, .ref nq34, .ref nq42, .ref nq48, .ref nq54, .int 0, .int 0])), (nq1, .inr (6, [.ref b4, .int 0, .int 0, .int 0])), (b4, .inl (G.2.1 0, 0, .inl ((fun _ => 0)))), (nq5, .inl (G.2.1 1, 316, .inl r40)), (nq7, .inr (7, [.ref b10, .ref b11, .ref b12])), (b10, .inl (G.2.1 1, 16, .inl r33.1)), (b11, .inl (G.2.1 1, 16, .inl r33.2.1)), (b12, .inl (G.2.1 1, r9, .inl r33.2.2)), (nq34, .inr (7, [.ref b37, .ref b38, .ref b39])), (b37, .inl (G.2.1 1, 16, .inl r41.1)), (b38, .inl (G.2.1 1, 16, .inl r41.2.1)), (b39, .inl (G.2.1 1, r36, .inl r41.2.2)), (nq42, .inr (7, [.ref b45, .ref b46, .ref b47])), (b45, .inl (G.2.1 1, 16, .inl ((fun _ => 0)))), (b46, .inl (G.2.1 1, 16, .inl ((fun _ => 0)))), (b47, .inl (G.2.1 1, r44, .inl ((fun _ => 0)))), (nq48, .inr (7, [.ref b51, .ref b52, .ref b53])), (b51, .inl (G.2.1 1, 16, .inl ((fun _ => 0)))), (b52, .inl (G.2.1 1, 16, .inl ((fun _ => 0)))), (b53, .inl (G.2.1 1, r50, .inl ((fun _ => 0)))), (nq54, .inr (7, [.ref b57, .ref b58, .ref b59])), (b57, .inl (G.2.1 1, 16, .inl ((fun _ => 0)))), (b58, .inl (G.2.1 1, 16, .inl ((fun _ => 0)))), (b59, .inl (G.2.1 1, r56, .inl ((fun _ => 0))))]) [0, 1, 2, 9, 3, 4, 5, 6, 7, 8, 10, 11, 12, 13, 14, 15, 16, 17, 18, 19, 20, 21, 22, 23] (by decide) rfl) hS ⟨nq1, nq5, nq7, nq34, nq42, nq48, nq54, b4, b10, b11, b12, b37, b38, b39, b45, b46, b47, b51, b52, b53, b57, b58, b59, rfl⟩ (by omega) (by omega) d_Un_init_197
