set_option maxHeartbeats 4000000 in
set_option maxRecDepth 100000 in
theorem c_TP_press (l : Launch) (G : GX) (a0 a1 a2 a3 a4 a5 a6 a7 a8 a9 o0_2 o0_3 o0_5 o5_0 : Nat) (sz : Nat) (x0_6 : Int32) (x0_7 : Int32) (x0_8 : Int32) (x1_1 : Int32) (x2_1 : Int32) (n3 : Nat) (f3 : (Nat → Int32)) (x4_2 : Int32) (x4_3 : Int32) (x5_1 : Int32) (x5_2 : Int32) (x6_2 : Int32) (x6_3 : Int32) (n7 : Nat) (f7 : (Nat → Int32)) (n8 : Nat) (f8 : (Nat → Int32)) (n9 : Nat) (f9 : (Nat → Int32))  (N : Nat) (V : Int32 × Int32 × Nat × (Nat → Int32) × Int32 × Int32 × Int32 × Int32 × Int32 × Int32 × (Nat → Int32) × Nat × (Nat → Int32)) (K Z : Nat) (h : f_TP_press N x1_1 x2_1 n3 f3 x6_2 x6_3 n7 f7 n8 f8 n9 f9 = some (V, K, Z)) :
    Met l y_TP_press (wd y_TP_press b_TP_press 1 (some .int)) { frames := 8, cells := K, slots := Z, locals := 218 } (PX G [.ref a0] sz [(a0, .inr (0, [.ref a1, .ref a2, .ref o0_2, .ref o0_3, .ref a4, .ref o0_5, .int x0_6, .int x0_7, .int x0_8])), (a1, .inr (1, [.ref a9, .int x1_1])), (a2, .inr (1, [.ref a3, .int x2_1])), (a3, .inl (G.2.1 0, n3, .inl f3)), (a4, .inr (5, [.ref a5, .ref a6, .int x4_2, .int x4_3])), (a5, .inr (3, [.ref o5_0, .int x5_1, .int x5_2])), (a6, .inr (4, [.ref a7, .ref a8, .int x6_2, .int x6_3])), (a7, .inl (G.2.1 1, n7, .inl f7)), (a8, .inl (G.2.1 1, n8, .inl f8)), (a9, .inl (G.2.1 0, n9, .inl f9))])
      (QXi G V.1 (fun w => ∃ e0 e1 : Nat, w = [(a0, .inr (0, [.ref a1, .ref a2, .ref o0_2, .ref o0_3, .ref a4, .ref o0_5, .int x0_6, .int x0_7, .int x0_8])), (a1, .inr (1, [.ref a9, .int x1_1])), (a2, .inr (1, [.ref e0, .int V.2.1])), (e0, .inl (G.2.1 0, V.2.2.1, .inl V.2.2.2.1)), (a4, .inr (5, [.ref a5, .ref a6, .int V.2.2.2.2.1, .int V.2.2.2.2.2.1])), (a5, .inr (3, [.ref a2, .int V.2.2.2.2.2.2.1, .int V.2.2.2.2.2.2.2.1])), (a6, .inr (4, [.ref a7, .ref e1, .int V.2.2.2.2.2.2.2.2.1, .int V.2.2.2.2.2.2.2.2.2.1])), (a7, .inl (G.2.1 1, n7, .inl V.2.2.2.2.2.2.2.2.2.2.1)), (e1, .inl (G.2.1 1, V.2.2.2.2.2.2.2.2.2.2.2.1, .inl V.2.2.2.2.2.2.2.2.2.2.2.2)), (a9, .inl (G.2.1 0, n9, .inl f9))]) (va_A [(a0, .inr (0, [.ref a1, .ref a2, .ref o0_2, .ref o0_3, .ref a4, .ref o0_5, .int x0_6, .int x0_7, .int x0_8])), (a1, .inr (1, [.ref a9, .int x1_1])), (a2, .inr (1, [.ref a3, .int x2_1])), (a3, .inl (G.2.1 0, n3, .inl f3)), (a4, .inr (5, [.ref a5, .ref a6, .int x4_2, .int x4_3])), (a5, .inr (3, [.ref o5_0, .int x5_1, .int x5_2])), (a6, .inr (4, [.ref a7, .ref a8, .int x6_2, .int x6_3])), (a7, .inl (G.2.1 1, n7, .inl f7)), (a8, .inl (G.2.1 1, n8, .inl f8)), (a9, .inl (G.2.1 0, n9, .inl f9))] sz)) K Z (va_A [(a0, .inr (0, [.ref a1, .ref a2, .ref o0_2, .ref o0_3, .ref a4, .ref o0_5, .int x0_6, .int x0_7, .int x0_8])), (a1, .inr (1, [.ref a9, .int x1_1])), (a2, .inr (1, [.ref a3, .int x2_1])), (a3, .inl (G.2.1 0, n3, .inl f3)), (a4, .inr (5, [.ref a5, .ref a6, .int x4_2, .int x4_3])), (a5, .inr (3, [.ref o5_0, .int x5_1, .int x5_2])), (a6, .inr (4, [.ref a7, .ref a8, .int x6_2, .int x6_3])), (a7, .inl (G.2.1 1, n7, .inl f7)), (a8, .inl (G.2.1 1, n8, .inl f8)), (a9, .inl (G.2.1 0, n9, .inl f9))] sz) := by
  refine Met_in (QQ := fun A => QXi G V.1 (fun w => ∃ e0 e1 : Nat, w = [(a0, .inr (0, [.ref a1, .ref a2, .ref o0_2, .ref o0_3, .ref a4, .ref o0_5, .int x0_6, .int x0_7, .int x0_8])), (a1, .inr (1, [.ref a9, .int x1_1])), (a2, .inr (1, [.ref e0, .int V.2.1])), (e0, .inl (G.2.1 0, V.2.2.1, .inl V.2.2.2.1)), (a4, .inr (5, [.ref a5, .ref a6, .int V.2.2.2.2.1, .int V.2.2.2.2.2.1])), (a5, .inr (3, [.ref a2, .int V.2.2.2.2.2.2.1, .int V.2.2.2.2.2.2.2.1])), (a6, .inr (4, [.ref a7, .ref e1, .int V.2.2.2.2.2.2.2.2.1, .int V.2.2.2.2.2.2.2.2.2.1])), (a7, .inl (G.2.1 1, n7, .inl V.2.2.2.2.2.2.2.2.2.2.1)), (e1, .inl (G.2.1 1, V.2.2.2.2.2.2.2.2.2.2.2.1, .inl V.2.2.2.2.2.2.2.2.2.2.2.2)), (a9, .inl (G.2.1 0, n9, .inl f9))]) A) (by decide) (Nat.le_of_ble_eq_true rfl) (fun p e s m below meth c R Q A ls C0 hRf hRl hRc hRs hP hK hD hT hA hS hl hQ => ?_)
  obtain ⟨hx, hb, hml, hown, hts, hr, hlocks, hin⟩ := id C0
  have hown : s.vm.findClass R_TP = some m.cls := hown
  have hl : lv_has ls 1 [(0, .ref a0)] := hl
  unfold f_TP_press at h
  have hKT : K ≤ R.cells := Nat.le_of_eq hRc.symm
  have hZT : Z ≤ R.slots := Nat.le_of_eq hRs.symm
  have ekc : 0 + K = K := by omega
  have ezc : 0 + Z = Z := by omega
  obtain ⟨H, hH⟩ : ∃ H, H = s.heap := ⟨_, rfl⟩
  obtain ⟨locs, hlc⟩ : ∃ x : List Loc, x = [] := ⟨_, rfl⟩
  rw [← hH] at hP
  have hS : va_S A s.heap H locs := by rw [hH, hlc]; exact hS
  suffices hgo : W p l e R s m [.ref a0].toArray below meth c H locs 0 0 Q (F0 m 0 ls []) by rw [hH, hlc] at hgo; exact hgo
  refine lv_aload_n hx hb d_TP_press_0 rfl (lv_at hl 0 rfl) ?_
  refine va_get (D := G.1) (ci := 0) (v := .ref a4) (C := R_TP) (T := F_TP) (N := 9) hx hb hts i_TP hown hK hP 0 rfl rfl 4 (by decide) (hts _ q61) (fun _ h9 => h9) rfl d_TP_press_1 ?_
  refine lv_aload_n hx hb d_TP_press_4 rfl (lv_at hl 0 rfl) ?_
  refine va_get (D := G.1) (ci := 0) (v := .ref a1) (C := R_TP) (T := F_TP) (N := 9) hx hb hts i_TP hown hK hP 0 rfl rfl 0 (by decide) (hts _ q13) (fun _ h9 => h9) rfl d_TP_press_5 ?_
  refine lv_aload_n hx hb d_TP_press_8 rfl (lv_at hl 0 rfl) ?_
  refine va_get (D := G.1) (ci := 0) (v := .ref a2) (C := R_TP) (T := F_TP) (N := 9) hx hb hts i_TP hown hK hP 0 rfl rfl 1 (by decide) (hts _ q14) (fun _ h9 => h9) rfl d_TP_press_9 ?_
  obtain ⟨r1, k1, z1, kk1, zz1, hc1, h, ek1, ez1⟩ := Bk_e h
  have ekc : 0 + k1 + kk1 = K := by omega
  have ezc : 0 + z1 + zz1 = Z := by omega
  refine xV_v (wr := [(a0, .inr (0, [.ref a1, .ref a2, .ref o0_2, .ref o0_3, .ref a4, .ref o0_5, .int x0_6, .int x0_7, .int x0_8]))]) (rest := []) C0 hK hT hA hP hD hS hl.1 (c_Pr_run l G a1 a2 a3 a4 a5 a6 a7 a8 a9 o5_0 _ x1_1 x2_1 n3 f3 x4_2 x4_3 x5_1 x5_2 x6_2 x6_3 n7 f7 n8 f8 n9 f9  N r1 k1 z1 hc1) (goodV q254 q255 q256 q29 q257) 2 rfl hd_Pr_run (Nat.le_trans (by decide) hRf) (Nat.le_trans (by decide) hRl) [1, 2, 3, 4, 5, 6, 7, 8, 9] [0] rfl rfl (by decide) (by decide) (by decide) 5 4 rfl rfl rfl (Nat.le_of_ble_eq_true rfl) d_TP_press_12 (by omega) (by omega) (fun w1 H locs hE hP hD hS => ?_)
  obtain ⟨b2, b3, rfl⟩ := hE
  have hP : va_P G.1 classes [(a0, .inr (0, [.ref a1, .ref a2, .ref o0_2, .ref o0_3, .ref a4, .ref o0_5, .int x0_6, .int x0_7, .int x0_8])), (a1, .inr (1, [.ref a9, .int x1_1])), (a2, .inr (1, [.ref b2, .int r1.1])), (b2, .inl (G.2.1 0, r1.2.1, .inl r1.2.2.1)), (a4, .inr (5, [.ref a5, .ref a6, .int r1.2.2.2.1, .int r1.2.2.2.2.1])), (a5, .inr (3, [.ref a2, .int r1.2.2.2.2.2.1, .int r1.2.2.2.2.2.2.1])), (a6, .inr (4, [.ref a7, .ref b3, .int r1.2.2.2.2.2.2.2.1, .int r1.2.2.2.2.2.2.2.2.1])), (a7, .inl (G.2.1 1, n7, .inl r1.2.2.2.2.2.2.2.2.2.1)), (b3, .inl (G.2.1 1, r1.2.2.2.2.2.2.2.2.2.2.1, .inl r1.2.2.2.2.2.2.2.2.2.2.2)), (a9, .inl (G.2.1 0, n9, .inl f9))] H := hP
  have hD : va_D A [(a0, .inr (0, [.ref a1, .ref a2, .ref o0_2, .ref o0_3, .ref a4, .ref o0_5, .int x0_6, .int x0_7, .int x0_8])), (a1, .inr (1, [.ref a9, .int x1_1])), (a2, .inr (1, [.ref b2, .int r1.1])), (b2, .inl (G.2.1 0, r1.2.1, .inl r1.2.2.1)), (a4, .inr (5, [.ref a5, .ref a6, .int r1.2.2.2.1, .int r1.2.2.2.2.1])), (a5, .inr (3, [.ref a2, .int r1.2.2.2.2.2.1, .int r1.2.2.2.2.2.2.1])), (a6, .inr (4, [.ref a7, .ref b3, .int r1.2.2.2.2.2.2.2.1, .int r1.2.2.2.2.2.2.2.2.1])), (a7, .inl (G.2.1 1, n7, .inl r1.2.2.2.2.2.2.2.2.2.1)), (b3, .inl (G.2.1 1, r1.2.2.2.2.2.2.2.2.2.2.1, .inl r1.2.2.2.2.2.2.2.2.2.2.2)), (a9, .inl (G.2.1 0, n9, .inl f9))] := hD
  refine lv_aload_n hx hb d_TP_press_15 rfl (lv_at hl 0 rfl) ?_
  refine va_get (D := G.1) (ci := 0) (v := .ref a2) (C := R_TP) (T := F_TP) (N := 9) hx hb hts i_TP hown hK hP 0 rfl rfl 1 (by decide) (hts _ q14) (fun _ h9 => h9) rfl d_TP_press_16 ?_
  obtain ⟨r4, hc4, h⟩ := Bd_e h
  refine xV_i0 (wr := [(a0, .inr (0, [.ref a1, .ref a2, .ref o0_2, .ref o0_3, .ref a4, .ref o0_5, .int x0_6, .int x0_7, .int x0_8])), (a1, .inr (1, [.ref a9, .int x1_1])), (b2, .inl (G.2.1 0, r1.2.1, .inl r1.2.2.1)), (a4, .inr (5, [.ref a5, .ref a6, .int r1.2.2.2.1, .int r1.2.2.2.2.1])), (a5, .inr (3, [.ref a2, .int r1.2.2.2.2.2.1, .int r1.2.2.2.2.2.2.1])), (a6, .inr (4, [.ref a7, .ref b3, .int r1.2.2.2.2.2.2.2.1, .int r1.2.2.2.2.2.2.2.2.1])), (a7, .inl (G.2.1 1, n7, .inl r1.2.2.2.2.2.2.2.2.2.1)), (b3, .inl (G.2.1 1, r1.2.2.2.2.2.2.2.2.2.2.1, .inl r1.2.2.2.2.2.2.2.2.2.2.2)), (a9, .inl (G.2.1 0, n9, .inl f9))]) (rest := []) C0 hK hT hA hP hD hS hl.1 (c_Row_length l G a2 b2 _ r1.1  N r4 hc4) (goodV q109 q110 q111 q5 q112) 0 rfl hd_Row_length (Nat.le_trans (by decide) hRf) (Nat.le_trans (by decide) hRl) [2] [0, 1, 3, 4, 5, 6, 7, 8, 9] rfl rfl (by decide) (by decide) (by decide) 1 2 rfl rfl rfl (Nat.le_of_ble_eq_true rfl) d_TP_press_19 (by omega) (by omega) (fun w1 H locs hE hP hD hS => ?_)
  subst hE
  have hP : va_P G.1 classes [(a0, .inr (0, [.ref a1, .ref a2, .ref o0_2, .ref o0_3, .ref a4, .ref o0_5, .int x0_6, .int x0_7, .int x0_8])), (a1, .inr (1, [.ref a9, .int x1_1])), (b2, .inl (G.2.1 0, r1.2.1, .inl r1.2.2.1)), (a4, .inr (5, [.ref a5, .ref a6, .int r1.2.2.2.1, .int r1.2.2.2.2.1])), (a5, .inr (3, [.ref a2, .int r1.2.2.2.2.2.1, .int r1.2.2.2.2.2.2.1])), (a6, .inr (4, [.ref a7, .ref b3, .int r1.2.2.2.2.2.2.2.1, .int r1.2.2.2.2.2.2.2.2.1])), (a7, .inl (G.2.1 1, n7, .inl r1.2.2.2.2.2.2.2.2.2.1)), (b3, .inl (G.2.1 1, r1.2.2.2.2.2.2.2.2.2.2.1, .inl r1.2.2.2.2.2.2.2.2.2.2.2)), (a9, .inl (G.2.1 0, n9, .inl f9)), (a2, .inr (1, [.ref b2, .int r1.1]))] H := hP
  have hD : va_D A [(a0, .inr (0, [.ref a1, .ref a2, .ref o0_2, .ref o0_3, .ref a4, .ref o0_5, .int x0_6, .int x0_7, .int x0_8])), (a1, .inr (1, [.ref a9, .int x1_1])), (b2, .inl (G.2.1 0, r1.2.1, .inl r1.2.2.1)), (a4, .inr (5, [.ref a5, .ref a6, .int r1.2.2.2.1, .int r1.2.2.2.2.1])), (a5, .inr (3, [.ref a2, .int r1.2.2.2.2.2.1, .int r1.2.2.2.2.2.2.1])), (a6, .inr (4, [.ref a7, .ref b3, .int r1.2.2.2.2.2.2.2.1, .int r1.2.2.2.2.2.2.2.2.1])), (a7, .inl (G.2.1 1, n7, .inl r1.2.2.2.2.2.2.2.2.2.1)), (b3, .inl (G.2.1 1, r1.2.2.2.2.2.2.2.2.2.2.1, .inl r1.2.2.2.2.2.2.2.2.2.2.2)), (a9, .inl (G.2.1 0, n9, .inl f9)), (a2, .inr (1, [.ref b2, .int r1.1]))] := hD
  obtain ⟨eV, ek, ez⟩ := so3 h
  subst eV
  exact x_iret C0 hQ (hP.sub (ws' := [(a0, .inr (0, [.ref a1, .ref a2, .ref o0_2, .ref o0_3, .ref a4, .ref o0_5, .int x0_6, .int x0_7, .int x0_8])), (a1, .inr (1, [.ref a9, .int x1_1])), (a2, .inr (1, [.ref b2, .int r1.1])), (b2, .inl (G.2.1 0, r1.2.1, .inl r1.2.2.1)), (a4, .inr (5, [.ref a5, .ref a6, .int r1.2.2.2.1, .int r1.2.2.2.2.1])), (a5, .inr (3, [.ref a2, .int r1.2.2.2.2.2.1, .int r1.2.2.2.2.2.2.1])), (a6, .inr (4, [.ref a7, .ref b3, .int r1.2.2.2.2.2.2.2.1, .int r1.2.2.2.2.2.2.2.2.1])), (a7, .inl (G.2.1 1, n7, .inl r1.2.2.2.2.2.2.2.2.2.1)), (b3, .inl (G.2.1 1, r1.2.2.2.2.2.2.2.2.2.2.1, .inl r1.2.2.2.2.2.2.2.2.2.2.2)), (a9, .inl (G.2.1 0, n9, .inl f9))]) [0, 1, 9, 2, 3, 4, 5, 6, 7, 8] rfl) (hD.sub (ws' := [(a0, .inr (0, [.ref a1, .ref a2, .ref o0_2, .ref o0_3, .ref a4, .ref o0_5, .int x0_6, .int x0_7, .int x0_8])), (a1, .inr (1, [.ref a9, .int x1_1])), (a2, .inr (1, [.ref b2, .int r1.1])), (b2, .inl (G.2.1 0, r1.2.1, .inl r1.2.2.1)), (a4, .inr (5, [.ref a5, .ref a6, .int r1.2.2.2.1, .int r1.2.2.2.2.1])), (a5, .inr (3, [.ref a2, .int r1.2.2.2.2.2.1, .int r1.2.2.2.2.2.2.1])), (a6, .inr (4, [.ref a7, .ref b3, .int r1.2.2.2.2.2.2.2.1, .int r1.2.2.2.2.2.2.2.2.1])), (a7, .inl (G.2.1 1, n7, .inl r1.2.2.2.2.2.2.2.2.2.1)), (b3, .inl (G.2.1 1, r1.2.2.2.2.2.2.2.2.2.2.1, .inl r1.2.2.2.2.2.2.2.2.2.2.2)), (a9, .inl (G.2.1 0, n9, .inl f9))]) [0, 1, 9, 2, 3, 4, 5, 6, 7, 8] (by decide) rfl) hS ⟨b2, b3, rfl⟩ (by omega) (by omega) d_TP_press_22
set_option maxHeartbeats 4000000 in
set_option maxRecDepth 100000 in
theorem c_BR_start (l : Launch) (G : GX) (a0 a1 o0_0 o1_0 : Nat) (sz : Nat) (x0_1 : Int32) (x1_1 : Int32) (x1_2 : Int32) (x1_3 : Int32)  (N : Nat) (V : Int32) (h : f_BR_start N x0_1 = some V) :
    Met l y_BR_start (wd y_BR_start b_BR_start 2 none) { frames := 1, cells := 0, slots := 0, locals := 20 } (PX G [.ref a1, .ref a0] sz [(a0, .inr (1, [.ref o0_0, .int x0_1])), (a1, .inr (6, [.ref o1_0, .int x1_1, .int x1_2, .int x1_3]))])
      (QXv G (fun w => w = [(a0, .inr (1, [.ref o0_0, .int x0_1])), (a1, .inr (6, [.ref o0_0, .int V, .int 0, .int 0]))]) (va_A [(a0, .inr (1, [.ref o0_0, .int x0_1])), (a1, .inr (6, [.ref o1_0, .int x1_1, .int x1_2, .int x1_3]))] sz)) 0 0 (va_A [(a0, .inr (1, [.ref o0_0, .int x0_1])), (a1, .inr (6, [.ref o1_0, .int x1_1, .int x1_2, .int x1_3]))] sz) := by
  refine Met_in (QQ := fun A => QXv G (fun w => w = [(a0, .inr (1, [.ref o0_0, .int x0_1])), (a1, .inr (6, [.ref o0_0, .int V, .int 0, .int 0]))]) A) (by decide) (Nat.le_of_ble_eq_true rfl) (fun p e s m below meth c R Q A ls C0 hRf hRl hRc hRs hP hK hD hT hA hS hl hQ => ?_)
  obtain ⟨hx, hb, hml, hown, hts, hr, hlocks, hin⟩ := id C0
  have hown : s.vm.findClass R_BR = some m.cls := hown
  have hl : lv_has ls 2 [(0, .ref a1), (1, .ref a0)] := hl
  unfold f_BR_start at h
  have hkc : 0 ≤ R.cells := Nat.zero_le _
  have hks : 0 ≤ R.slots := Nat.zero_le _
  obtain ⟨H, hH⟩ : ∃ H, H = s.heap := ⟨_, rfl⟩
  obtain ⟨locs, hlc⟩ : ∃ x : List Loc, x = [] := ⟨_, rfl⟩
  rw [← hH] at hP
  have hS : va_S A s.heap H locs := by rw [hH, hlc]; exact hS
  suffices hgo : W p l e R s m [.ref a1, .ref a0].toArray below meth c H locs 0 0 Q (F0 m 0 ls []) by rw [hH, hlc] at hgo; exact hgo
  refine lv_aload_n hx hb d_BR_start_0 rfl (lv_at hl 0 rfl) ?_
  refine lv_aload_n hx hb d_BR_start_1 rfl (lv_at hl 1 rfl) ?_
  obtain ⟨r1, hc1, h⟩ := Bd_e h
  refine xV_r0 (wr := [(a1, .inr (6, [.ref o1_0, .int x1_1, .int x1_2, .int x1_3]))]) (rest := [.ref a1]) C0 hK hT hA hP hD hS hl.1 (c_Row_bytes l G a0 o0_0 _ x0_1  N r1 hc1) (goodV q258 q170 q171 q5 q172) 0 rfl hd_Row_bytes (Nat.le_trans (by decide) hRf) (Nat.le_trans (by decide) hRl) [0] [1] rfl rfl (by decide) (by decide) (by decide) 1 0 rfl rfl rfl (Nat.le_of_ble_eq_true rfl) d_BR_start_2 hkc hks (fun ra w1 H locs hE hP hD hS => ?_)
  obtain ⟨hra, rfl⟩ := hE
  rw [hra]
  have hP : va_P G.1 classes [(a1, .inr (6, [.ref o1_0, .int x1_1, .int x1_2, .int x1_3])), (a0, .inr (1, [.ref o0_0, .int x0_1]))] H := hP
  have hD : va_D A [(a1, .inr (6, [.ref o1_0, .int x1_1, .int x1_2, .int x1_3])), (a0, .inr (1, [.ref o0_0, .int x0_1]))] := hD
  refine va_put (D := G.1) (ci := 6) (v := .ref o0_0) (ty := .array .byte) (C := R_BR) (T := F_BR) (N := 4) hx hb hts i_BR t_BR t_BR_ok n_BR hown hK hP hD hS 0 rfl rfl 0 (by decide) (hts _ q70) (fun _ h9 => h9) rfl (by decide +kernel) rfl rfl (Nat.le_of_ble_eq_true rfl) d_BR_start_5 (fun H locs hP hD hS => ?_)
  have hP : va_P G.1 classes [(a1, .inr (6, [.ref o0_0, .int x1_1, .int x1_2, .int x1_3])), (a0, .inr (1, [.ref o0_0, .int x0_1]))] H := hP
  have hD : va_D A [(a1, .inr (6, [.ref o0_0, .int x1_1, .int x1_2, .int x1_3])), (a0, .inr (1, [.ref o0_0, .int x0_1]))] := hD
  refine lv_aload_n hx hb d_BR_start_8 rfl (lv_at hl 0 rfl) ?_
  refine lv_bipush (v := 8) hx hb d_BR_start_9 (by decide) ?_
  refine lv_aload_n hx hb d_BR_start_11 rfl (lv_at hl 1 rfl) ?_
  obtain ⟨r2, hc2, h⟩ := Bd_e h
  refine xV_i0 (wr := [(a1, .inr (6, [.ref o0_0, .int x1_1, .int x1_2, .int x1_3]))]) (rest := [.int 8, .ref a1]) C0 hK hT hA hP hD hS hl.1 (c_Row_length l G a0 o0_0 _ x0_1  N r2 hc2) (goodV q259 q110 q111 q5 q112) 0 rfl hd_Row_length (Nat.le_trans (by decide) hRf) (Nat.le_trans (by decide) hRl) [1] [0] rfl rfl (by decide) (by decide) (by decide) 1 1 rfl rfl rfl (Nat.le_of_ble_eq_true rfl) d_BR_start_12 hkc hks (fun w1 H locs hE hP hD hS => ?_)
  subst hE
  have hP : va_P G.1 classes [(a1, .inr (6, [.ref o0_0, .int x1_1, .int x1_2, .int x1_3])), (a0, .inr (1, [.ref o0_0, .int x0_1]))] H := hP
  have hD : va_D A [(a1, .inr (6, [.ref o0_0, .int x1_1, .int x1_2, .int x1_3])), (a0, .inr (1, [.ref o0_0, .int x0_1]))] := hD
  refine lv_imul hx hb d_BR_start_15 ?_
  refine lv_topi (fun v3 ev3 => ?_)
  replace h := Lt_e h ev3
  refine va_put (D := G.1) (ci := 6) (v := .int v3) (ty := .int) (C := R_BR) (T := F_BR) (N := 4) hx hb hts i_BR t_BR t_BR_ok n_BR hown hK hP hD hS 0 rfl rfl 1 (by decide) (hts _ q71) (fun _ h9 => h9) rfl (by decide +kernel) rfl rfl (Nat.le_of_ble_eq_true rfl) d_BR_start_16 (fun H locs hP hD hS => ?_)
  have hP : va_P G.1 classes [(a1, .inr (6, [.ref o0_0, .int v3, .int x1_2, .int x1_3])), (a0, .inr (1, [.ref o0_0, .int x0_1]))] H := hP
  have hD : va_D A [(a1, .inr (6, [.ref o0_0, .int v3, .int x1_2, .int x1_3])), (a0, .inr (1, [.ref o0_0, .int x0_1]))] := hD
  refine lv_aload_n hx hb d_BR_start_19 rfl (lv_at hl 0 rfl) ?_
  refine lv_iconst (v := 0) hx hb d_BR_start_20 (by decide) ?_
  refine va_put (D := G.1) (ci := 6) (v := .int 0) (ty := .int) (C := R_BR) (T := F_BR) (N := 4) hx hb hts i_BR t_BR t_BR_ok n_BR hown hK hP hD hS 0 rfl rfl 2 (by decide) (hts _ q72) (fun _ h9 => h9) rfl (by decide +kernel) rfl rfl (Nat.le_of_ble_eq_true rfl) d_BR_start_21 (fun H locs hP hD hS => ?_)
  have hP : va_P G.1 classes [(a1, .inr (6, [.ref o0_0, .int v3, .int 0, .int x1_3])), (a0, .inr (1, [.ref o0_0, .int x0_1]))] H := hP
  have hD : va_D A [(a1, .inr (6, [.ref o0_0, .int v3, .int 0, .int x1_3])), (a0, .inr (1, [.ref o0_0, .int x0_1]))] := hD
  refine lv_aload_n hx hb d_BR_start_24 rfl (lv_at hl 0 rfl) ?_
  refine lv_iconst (v := 0) hx hb d_BR_start_25 (by decide) ?_
  refine va_put (D := G.1) (ci := 6) (v := .int 0) (ty := .boolean) (C := R_BR) (T := F_BR) (N := 4) hx hb hts i_BR t_BR t_BR_ok n_BR hown hK hP hD hS 0 rfl rfl 3 (by decide) (hts _ q73) (fun _ h9 => h9) rfl (by decide +kernel) rfl rfl (Nat.le_of_ble_eq_true rfl) d_BR_start_26 (fun H locs hP hD hS => ?_)
  have hP : va_P G.1 classes [(a1, .inr (6, [.ref o0_0, .int v3, .int 0, .int 0])), (a0, .inr (1, [.ref o0_0, .int x0_1]))] H := hP
  have hD : va_D A [(a1, .inr (6, [.ref o0_0, .int v3, .int 0, .int 0])), (a0, .inr (1, [.ref o0_0, .int x0_1]))] := hD
  have eV := so1 h
  subst eV
  exact x_vret C0 hQ (hP.sub (ws' := [(a0, .inr (1, [.ref o0_0, .int x0_1])), (a1, .inr (6, [.ref o0_0, .int v3, .int 0, .int 0]))]) [1, 0] rfl) (hD.sub (ws' := [(a0, .inr (1, [.ref o0_0, .int x0_1])), (a1, .inr (6, [.ref o0_0, .int v3, .int 0, .int 0]))]) [1, 0] (by decide) rfl) hS rfl (Nat.zero_le _) (Nat.zero_le _) d_BR_start_29
set_option maxHeartbeats 4000000 in
set_option maxRecDepth 100000 in
theorem w_BR_take_4 {p : Program} {l : Launch} {e : Env} {R : Room} {s : State} {m : MethodId} {args : Array Value} {below : List Frame} {meth : Method} {c : Code} {Q : State → Prop} {G : GX} {A : Nat → Prop} (C0 : Cx p s m args meth c b_BR_take 4 y_BR_take (some .int)) (hRf : 0 ≤ R.frames) (hRl : 0 ≤ R.locals) (hA : ∀ q, s.heap.size ≤ q → A q) (hK : KX G s) (hT : TX G A s) (N : Nat) (i1 : Int32) (y0_1 : Int32) (y0_3 : Int32) (m1 : Nat) (g_1 : (Nat → Int32)) (c0 c1 : Nat) (out : Nat × Int32 × Int32) {kc ks : Nat} (hkc : kc ≤ R.cells) (hks : ks ≤ R.slots)
    (kx20 : ∀ (H : Heap) (locs : List Loc) (ls : Array Slot), out.1 = 0 → va_P G.1 classes [(c0, .inr (6, [.ref c1, .int y0_1, .int out.2.2, .int y0_3])), (c1, .inl (G.2.1 0, m1, .inl g_1))] H → va_D A [(c0, .inr (6, [.ref c1, .int y0_1, .int out.2.2, .int y0_3])), (c1, .inl (G.2.1 0, m1, .inl g_1))] → va_S A s.heap H locs → lv_has ls 4 [(0, .ref c0), (2, .int out.2.1)] → W p l e R s m args below meth c H locs kc ks Q (F0 m 20 ls []))
    (kx69 : ∀ (H : Heap) (locs : List Loc) (ls : Array Slot), out.1 = 1 → va_P G.1 classes [(c0, .inr (6, [.ref c1, .int y0_1, .int out.2.2, .int y0_3])), (c1, .inl (G.2.1 0, m1, .inl g_1))] H → va_D A [(c0, .inr (6, [.ref c1, .int y0_1, .int out.2.2, .int y0_3])), (c1, .inl (G.2.1 0, m1, .inl g_1))] → va_S A s.heap H locs → lv_has ls 4 [(2, .int out.2.1)] → W p l e R s m args below meth c H locs kc ks Q (F0 m 69 ls [])) :
    ∀ (n : Nat) (i2 : Int32) (i3 : Int32) (y0_2 : Int32) (H : Heap) (locs : List Loc) (ls : Array Slot), lp_BR_take_4 N i1 y0_1 m1 g_1 n i2 i3 y0_2 = some out → va_P G.1 classes [(c0, .inr (6, [.ref c1, .int y0_1, .int y0_2, .int y0_3])), (c1, .inl (G.2.1 0, m1, .inl g_1))] H → va_D A [(c0, .inr (6, [.ref c1, .int y0_1, .int y0_2, .int y0_3])), (c1, .inl (G.2.1 0, m1, .inl g_1))] → va_S A s.heap H locs → lv_has ls 4 [(0, .ref c0), (1, .int i1), (2, .int i2), (3, .int i3)] → W p l e R s m args below meth c H locs kc ks Q (F0 m 4 ls []) := by
  obtain ⟨hx, hb, hml, hown, hts, hr, hlocks, hin⟩ := id C0
  have hown : s.vm.findClass R_BR = some m.cls := hown
  intro n
  induction n with
  | zero => intro i2 i3 y0_2 H locs ls h; cases h
  | succ n ih =>
    intro i2 i3 y0_2 H locs ls h hP hD hS hl
    replace h : lb_BR_take_4 N i1 y0_1 m1 g_1 (lp_BR_take_4 N i1 y0_1 m1 g_1 n) i2 i3 y0_2 = some out := h
    unfold lb_BR_take_4 at h
    refine lv_iload_n hx hb d_BR_take_4 rfl (lv_at hl 3 rfl) ?_
    refine lv_iload_n hx hb d_BR_take_5 rfl (lv_at hl 1 rfl) ?_
    refine lv_icmp_ge (tgt := 69) hx hb d_BR_take_6 (by decide) (fun cq7 => ?_) (fun cq7 => ?_)
    · replace h := (if_pos cq7).symm.trans h
      have eV := so1 h
      subst eV
      exact kx69 _ _ _ rfl hP hD hS (lv_sub hl [2] rfl)
    · replace h := (if_neg cq7).symm.trans h
      refine lv_aload_n hx hb d_BR_take_9 rfl (lv_at hl 0 rfl) ?_
      refine va_get (D := G.1) (ci := 6) (v := .int y0_2) (C := R_BR) (T := F_BR) (N := 4) hx hb hts i_BR hown hK hP 0 rfl rfl 2 (by decide) (hts _ q72) (fun _ h9 => h9) rfl d_BR_take_10 ?_
      refine lv_aload_n hx hb d_BR_take_13 rfl (lv_at hl 0 rfl) ?_
      refine va_get (D := G.1) (ci := 6) (v := .int y0_1) (C := R_BR) (T := F_BR) (N := 4) hx hb hts i_BR hown hK hP 0 rfl rfl 1 (by decide) (hts _ q71) (fun _ h9 => h9) rfl d_BR_take_14 ?_
      refine lv_icmp_lt (tgt := 27) hx hb d_BR_take_17 (by decide) (fun cq8 => ?_) (fun cq8 => ?_)
      · replace h := (if_pos cq8).symm.trans h
        refine lv_iload_n hx hb d_BR_take_27 rfl (lv_at hl 2 rfl) ?_
        refine lv_aload_n hx hb d_BR_take_28 rfl (lv_at hl 0 rfl) ?_
        refine va_get (D := G.1) (ci := 6) (v := .ref c1) (C := R_BR) (T := F_BR) (N := 4) hx hb hts i_BR hown hK hP 0 rfl rfl 0 (by decide) (hts _ q70) (fun _ h9 => h9) rfl d_BR_take_29 ?_
        refine lv_aload_n hx hb d_BR_take_32 rfl (lv_at hl 0 rfl) ?_
        refine va_get (D := G.1) (ci := 6) (v := .int y0_2) (C := R_BR) (T := F_BR) (N := 4) hx hb hts i_BR hown hK hP 0 rfl rfl 2 (by decide) (hts _ q72) (fun _ h9 => h9) rfl d_BR_take_33 ?_
        refine lv_iconst (v := 3) hx hb d_BR_take_36 (by decide) ?_
        refine lv_ishr hx hb d_BR_take_37 ?_
        obtain ⟨hi9, h⟩ := Ix_e h
        refine va_bald hx hb hK hP 1 0 rfl rfl hi9 d_BR_take_38 ?_
        refine lv_aload_n hx hb d_BR_take_39 rfl (lv_at hl 0 rfl) ?_
        refine va_get (D := G.1) (ci := 6) (v := .int y0_2) (C := R_BR) (T := F_BR) (N := 4) hx hb hts i_BR hown hK hP 0 rfl rfl 2 (by decide) (hts _ q72) (fun _ h9 => h9) rfl d_BR_take_40 ?_
        refine lv_bipush (v := 7) hx hb d_BR_take_43 (by decide) ?_
        refine lv_iand hx hb d_BR_take_45 ?_
        refine lv_ishr hx hb d_BR_take_46 ?_
        refine lv_iconst (v := 1) hx hb d_BR_take_47 (by decide) ?_
        refine lv_iand hx hb d_BR_take_48 ?_
        refine lv_iload_n hx hb d_BR_take_49 rfl (lv_at hl 3 rfl) ?_
        refine lv_ishl hx hb d_BR_take_50 ?_
        refine lv_ior hx hb d_BR_take_51 ?_
        refine lv_topi (fun v10 ev10 => ?_)
        replace h := Lt_e h ev10
        refine lv_istore_n (lv' := [(2, .int v10), (0, .ref c0), (1, .int i1), (3, .int i3)]) hx hb d_BR_take_52 rfl hl (by decide) rfl (fun ls hl => ?_)
        refine lv_aload_n hx hb d_BR_take_53 rfl (lv_at hl 1 rfl) ?_
        refine lv_dup hx hb d_BR_take_54 rfl ?_
        refine va_get (D := G.1) (ci := 6) (v := .int y0_2) (C := R_BR) (T := F_BR) (N := 4) hx hb hts i_BR hown hK hP 0 rfl rfl 2 (by decide) (hts _ q72) (fun _ h9 => h9) rfl d_BR_take_55 ?_
        refine lv_iconst (v := 1) hx hb d_BR_take_58 (by decide) ?_
        refine lv_iadd hx hb d_BR_take_59 ?_
        refine lv_topi (fun v11 ev11 => ?_)
        replace h := Lt_e h ev11
        refine va_put (D := G.1) (ci := 6) (v := .int v11) (ty := .int) (C := R_BR) (T := F_BR) (N := 4) hx hb hts i_BR t_BR t_BR_ok n_BR hown hK hP hD hS 0 rfl rfl 2 (by decide) (hts _ q72) (fun _ h9 => h9) rfl (by decide +kernel) rfl rfl (Nat.le_of_ble_eq_true rfl) d_BR_take_60 (fun H locs hP hD hS => ?_)
        have hP : va_P G.1 classes [(c0, .inr (6, [.ref c1, .int y0_1, .int v11, .int y0_3])), (c1, .inl (G.2.1 0, m1, .inl g_1))] H := hP
        have hD : va_D A [(c0, .inr (6, [.ref c1, .int y0_1, .int v11, .int y0_3])), (c1, .inl (G.2.1 0, m1, .inl g_1))] := hD
        obtain ⟨v12, ev12⟩ : ∃ y : Int32, y = i3 + 1 := ⟨_, rfl⟩
        replace h := Lt_e h ev12
        refine lv_iinc (v := v12) (lv' := [(3, .int v12), (2, .int v10), (0, .ref c0), (1, .int i1)]) hx hb d_BR_take_63 hl (k := 3) rfl (by rw [ev12]; rfl) (by decide) rfl (fun ls hl => ?_)
        refine lv_goto (tgt := 4) hx hb d_BR_take_66 (by decide) ?_
        exact ih v10 v12 v11  _ _ _ h hP hD hS (lv_sub hl [2, 3, 1, 0] rfl)
      · replace h := (if_neg cq8).symm.trans h
        have eV := so1 h
        subst eV
        exact kx20 _ _ _ rfl hP hD hS (lv_sub hl [0, 2] rfl)
set_option maxHeartbeats 4000000 in
set_option maxRecDepth 100000 in
theorem c_BR_take (l : Launch) (G : GX) (a0 a1 : Nat) (sz : Nat) (x0_1 : Int32) (x0_2 : Int32) (x0_3 : Int32) (n1 : Nat) (f1 : (Nat → Int32)) (p1 : Int32) (N : Nat) (V : Int32 × Int32 × Int32) (h : f_BR_take N x0_1 x0_2 x0_3 n1 f1 p1 = some V) :
    Met l y_BR_take (wd y_BR_take b_BR_take 4 (some .int)) { frames := 0, cells := 0, slots := 0, locals := 0 } (PX G [.ref a0, .int p1] sz [(a0, .inr (6, [.ref a1, .int x0_1, .int x0_2, .int x0_3])), (a1, .inl (G.2.1 0, n1, .inl f1))])
      (QXi G V.1 (fun w => w = [(a0, .inr (6, [.ref a1, .int x0_1, .int V.2.1, .int V.2.2])), (a1, .inl (G.2.1 0, n1, .inl f1))]) (va_A [(a0, .inr (6, [.ref a1, .int x0_1, .int x0_2, .int x0_3])), (a1, .inl (G.2.1 0, n1, .inl f1))] sz)) 0 0 (va_A [(a0, .inr (6, [.ref a1, .int x0_1, .int x0_2, .int x0_3])), (a1, .inl (G.2.1 0, n1, .inl f1))] sz) := by
  refine Met_in (QQ := fun A => QXi G V.1 (fun w => w = [(a0, .inr (6, [.ref a1, .int x0_1, .int V.2.1, .int V.2.2])), (a1, .inl (G.2.1 0, n1, .inl f1))]) A) (by decide) (Nat.le_of_ble_eq_true rfl) (fun p e s m below meth c R Q A ls C0 hRf hRl hRc hRs hP hK hD hT hA hS hl hQ => ?_)
  obtain ⟨hx, hb, hml, hown, hts, hr, hlocks, hin⟩ := id C0
  have hown : s.vm.findClass R_BR = some m.cls := hown
  have hl : lv_has ls 4 [(0, .ref a0), (1, .int p1)] := hl
  unfold f_BR_take at h
  have hkc : 0 ≤ R.cells := Nat.zero_le _
  have hks : 0 ≤ R.slots := Nat.zero_le _
  obtain ⟨H, hH⟩ : ∃ H, H = s.heap := ⟨_, rfl⟩
  obtain ⟨locs, hlc⟩ : ∃ x : List Loc, x = [] := ⟨_, rfl⟩
  rw [← hH] at hP
  have hS : va_S A s.heap H locs := by rw [hH, hlc]; exact hS
  suffices hgo : W p l e R s m [.ref a0, .int p1].toArray below meth c H locs 0 0 Q (F0 m 0 ls []) by rw [hH, hlc] at hgo; exact hgo
  refine lv_iconst (v := 0) hx hb d_BR_take_0 (by decide) ?_
  refine lv_istore_n (lv' := [(2, .int 0), (0, .ref a0), (1, .int p1)]) hx hb d_BR_take_1 rfl hl (by decide) rfl (fun ls hl => ?_)
  refine lv_iconst (v := 0) hx hb d_BR_take_2 (by decide) ?_
  refine lv_istore_n (lv' := [(3, .int 0), (2, .int 0), (0, .ref a0), (1, .int p1)]) hx hb d_BR_take_3 rfl hl (by decide) rfl (fun ls hl => ?_)
  obtain ⟨r13, hc13, h⟩ := Bd_e h
  refine w_BR_take_4 C0 hRf hRl hA hK hT N p1 x0_1 x0_3 n1 f1 a0 a1 r13 (kc := 0) (ks := 0) hkc hks ?_ ?_ N 0 0 x0_2  _ _ _ hc13 hP hD hS (lv_sub hl [2, 3, 1, 0] rfl)
  · intro H locs ls et hP hD hS hl
    replace h := (if_pos et).symm.trans h
    refine lv_aload_n hx hb d_BR_take_20 rfl (lv_at hl 0 rfl) ?_
    refine lv_iconst (v := 1) hx hb d_BR_take_21 (by decide) ?_
    refine va_put (D := G.1) (ci := 6) (v := .int 1) (ty := .boolean) (C := R_BR) (T := F_BR) (N := 4) hx hb hts i_BR t_BR t_BR_ok n_BR hown hK hP hD hS 0 rfl rfl 3 (by decide) (hts _ q73) (fun _ h9 => h9) rfl (by decide +kernel) rfl rfl (Nat.le_of_ble_eq_true rfl) d_BR_take_22 (fun H locs hP hD hS => ?_)
    have hP : va_P G.1 classes [(a0, .inr (6, [.ref a1, .int x0_1, .int r13.2.2, .int 1])), (a1, .inl (G.2.1 0, n1, .inl f1))] H := hP
    have hD : va_D A [(a0, .inr (6, [.ref a1, .int x0_1, .int r13.2.2, .int 1])), (a1, .inl (G.2.1 0, n1, .inl f1))] := hD
    refine lv_iload_n hx hb d_BR_take_25 rfl (lv_at hl 1 rfl) ?_
    have eV := so1 h
    subst eV
    exact x_iret C0 hQ hP hD hS rfl (Nat.zero_le _) (Nat.zero_le _) d_BR_take_26
  · intro H locs ls et hP hD hS hl
    replace h := (if_neg (show ¬ r13.1 = 0 by rw [et]; decide)).symm.trans h
    refine lv_iload_n hx hb d_BR_take_69 rfl (lv_at hl 0 rfl) ?_
    have eV := so1 h
    subst eV
    exact x_iret C0 hQ hP hD hS rfl (Nat.zero_le _) (Nat.zero_le _) d_BR_take_70
set_option maxHeartbeats 4000000 in
set_option maxRecDepth 100000 in
theorem c_Un_headIsRight (l : Launch) (G : GX) (a0 a1 a2 o0_1 o0_2 o0_3 o0_4 o0_5 o0_6 : Nat) (sz : Nat) (x0_7 : Int32) (x0_8 : Int32) (x1_1 : Int32) (x1_2 : Int32) (x1_3 : Int32) (n2 : Nat) (f2 : (Nat → Int32))  (N : Nat) (V : Int32 × Int32 × Int32) (h : f_Un_headIsRight N x1_1 x1_2 x1_3 n2 f2 = some V) :
    Met l y_Un_headIsRight (wd y_Un_headIsRight b_Un_headIsRight 5 (some .boolean)) { frames := 1, cells := 0, slots := 0, locals := 23 } (PX G [.ref a0] sz [(a0, .inr (8, [.ref a1, .ref o0_1, .ref o0_2, .ref o0_3, .ref o0_4, .ref o0_5, .ref o0_6, .int x0_7, .int x0_8])), (a1, .inr (6, [.ref a2, .int x1_1, .int x1_2, .int x1_3])), (a2, .inl (G.2.1 0, n2, .inl f2))])
      (QXi G V.1 (fun w => w = [(a0, .inr (8, [.ref a1, .ref o0_1, .ref o0_2, .ref o0_3, .ref o0_4, .ref o0_5, .ref o0_6, .int x0_7, .int x0_8])), (a1, .inr (6, [.ref a2, .int x1_1, .int V.2.1, .int V.2.2])), (a2, .inl (G.2.1 0, n2, .inl f2))]) (va_A [(a0, .inr (8, [.ref a1, .ref o0_1, .ref o0_2, .ref o0_3, .ref o0_4, .ref o0_5, .ref o0_6, .int x0_7, .int x0_8])), (a1, .inr (6, [.ref a2, .int x1_1, .int x1_2, .int x1_3])), (a2, .inl (G.2.1 0, n2, .inl f2))] sz)) 0 0 (va_A [(a0, .inr (8, [.ref a1, .ref o0_1, .ref o0_2, .ref o0_3, .ref o0_4, .ref o0_5, .ref o0_6, .int x0_7, .int x0_8])), (a1, .inr (6, [.ref a2, .int x1_1, .int x1_2, .int x1_3])), (a2, .inl (G.2.1 0, n2, .inl f2))] sz) := by
  refine Met_in (QQ := fun A => QXi G V.1 (fun w => w = [(a0, .inr (8, [.ref a1, .ref o0_1, .ref o0_2, .ref o0_3, .ref o0_4, .ref o0_5, .ref o0_6, .int x0_7, .int x0_8])), (a1, .inr (6, [.ref a2, .int x1_1, .int V.2.1, .int V.2.2])), (a2, .inl (G.2.1 0, n2, .inl f2))]) A) (by decide) (Nat.le_of_ble_eq_true rfl) (fun p e s m below meth c R Q A ls C0 hRf hRl hRc hRs hP hK hD hT hA hS hl hQ => ?_)
  obtain ⟨hx, hb, hml, hown, hts, hr, hlocks, hin⟩ := id C0
  have hown : s.vm.findClass R_Un = some m.cls := hown
  have hl : lv_has ls 5 [(0, .ref a0)] := hl
  unfold f_Un_headIsRight at h
  have hkc : 0 ≤ R.cells := Nat.zero_le _
  have hks : 0 ≤ R.slots := Nat.zero_le _
  obtain ⟨H, hH⟩ : ∃ H, H = s.heap := ⟨_, rfl⟩
  obtain ⟨locs, hlc⟩ : ∃ x : List Loc, x = [] := ⟨_, rfl⟩
  rw [← hH] at hP
  have hS : va_S A s.heap H locs := by rw [hH, hlc]; exact hS
  suffices hgo : W p l e R s m [.ref a0].toArray below meth c H locs 0 0 Q (F0 m 0 ls []) by rw [hH, hlc] at hgo; exact hgo
  refine lv_aload_n hx hb d_Un_headIsRight_0 rfl (lv_at hl 0 rfl) ?_
  refine va_get (D := G.1) (ci := 8) (v := .ref a1) (C := R_Un) (T := F_Un) (N := 9) hx hb hts i_Un hown hK hP 0 rfl rfl 0 (by decide) (hts _ q77) (fun _ h9 => h9) rfl d_Un_headIsRight_1 ?_
  refine lv_bipush (v := 8) hx hb d_Un_headIsRight_4 (by decide) ?_
  obtain ⟨r1, hc1, h⟩ := Bd_e h
  refine xV_i0 (wr := [(a0, .inr (8, [.ref a1, .ref o0_1, .ref o0_2, .ref o0_3, .ref o0_4, .ref o0_5, .ref o0_6, .int x0_7, .int x0_8]))]) (rest := []) C0 hK hT hA hP hD hS hl.1 (c_BR_take l G a1 a2 _ x1_1 x1_2 x1_3 n2 f2 8 N r1 hc1) (goodV q265 q266 q267 q68 q268) 1 rfl hd_BR_take (Nat.le_trans (by decide) hRf) (Nat.le_trans (by decide) hRl) [1, 2] [0] rfl rfl (by decide) (by decide) (by decide) 6 1 rfl rfl rfl (Nat.le_of_ble_eq_true rfl) d_Un_headIsRight_6 hkc hks (fun w1 H locs hE hP hD hS => ?_)
  subst hE
  have hP : va_P G.1 classes [(a0, .inr (8, [.ref a1, .ref o0_1, .ref o0_2, .ref o0_3, .ref o0_4, .ref o0_5, .ref o0_6, .int x0_7, .int x0_8])), (a1, .inr (6, [.ref a2, .int x1_1, .int r1.2.1, .int r1.2.2])), (a2, .inl (G.2.1 0, n2, .inl f2))] H := hP
  have hD : va_D A [(a0, .inr (8, [.ref a1, .ref o0_1, .ref o0_2, .ref o0_3, .ref o0_4, .ref o0_5, .ref o0_6, .int x0_7, .int x0_8])), (a1, .inr (6, [.ref a2, .int x1_1, .int r1.2.1, .int r1.2.2])), (a2, .inl (G.2.1 0, n2, .inl f2))] := hD
  refine lv_istore_n (lv' := [(1, .int r1.1), (0, .ref a0)]) hx hb d_Un_headIsRight_9 rfl hl (by decide) rfl (fun ls hl => ?_)
  refine lv_aload_n hx hb d_Un_headIsRight_10 rfl (lv_at hl 1 rfl) ?_
  refine va_get (D := G.1) (ci := 8) (v := .ref a1) (C := R_Un) (T := F_Un) (N := 9) hx hb hts i_Un hown hK hP 0 rfl rfl 0 (by decide) (hts _ q77) (fun _ h9 => h9) rfl d_Un_headIsRight_11 ?_
  refine lv_bipush (v := 8) hx hb d_Un_headIsRight_14 (by decide) ?_
  obtain ⟨r2, hc2, h⟩ := Bd_e h
  refine xV_i0 (wr := [(a0, .inr (8, [.ref a1, .ref o0_1, .ref o0_2, .ref o0_3, .ref o0_4, .ref o0_5, .ref o0_6, .int x0_7, .int x0_8]))]) (rest := []) C0 hK hT hA hP hD hS hl.1 (c_BR_take l G a1 a2 _ x1_1 r1.2.1 r1.2.2 n2 f2 8 N r2 hc2) (goodV q265 q266 q267 q68 q268) 1 rfl hd_BR_take (Nat.le_trans (by decide) hRf) (Nat.le_trans (by decide) hRl) [1, 2] [0] rfl rfl (by decide) (by decide) (by decide) 6 1 rfl rfl rfl (Nat.le_of_ble_eq_true rfl) d_Un_headIsRight_16 hkc hks (fun w1 H locs hE hP hD hS => ?_)
  subst hE
  have hP : va_P G.1 classes [(a0, .inr (8, [.ref a1, .ref o0_1, .ref o0_2, .ref o0_3, .ref o0_4, .ref o0_5, .ref o0_6, .int x0_7, .int x0_8])), (a1, .inr (6, [.ref a2, .int x1_1, .int r2.2.1, .int r2.2.2])), (a2, .inl (G.2.1 0, n2, .inl f2))] H := hP
  have hD : va_D A [(a0, .inr (8, [.ref a1, .ref o0_1, .ref o0_2, .ref o0_3, .ref o0_4, .ref o0_5, .ref o0_6, .int x0_7, .int x0_8])), (a1, .inr (6, [.ref a2, .int x1_1, .int r2.2.1, .int r2.2.2])), (a2, .inl (G.2.1 0, n2, .inl f2))] := hD
  refine lv_istore_n (lv' := [(2, .int r2.1), (1, .int r1.1), (0, .ref a0)]) hx hb d_Un_headIsRight_19 rfl hl (by decide) rfl (fun ls hl => ?_)
  refine lv_iload_n hx hb d_Un_headIsRight_20 rfl (lv_at hl 1 rfl) ?_
  refine lv_bipush (v := 15) hx hb d_Un_headIsRight_21 (by decide) ?_
  refine lv_iand hx hb d_Un_headIsRight_23 ?_
  refine lv_bipush (v := 8) hx hb d_Un_headIsRight_24 (by decide) ?_
  obtain ⟨j6, ej6, h⟩ := Jn_e h
  have hj6 : ∀ (t6 : Int32) (H : Heap) (locs : List Loc) (ls : Array Slot), j6 t6 = some V → va_P G.1 classes [(a0, .inr (8, [.ref a1, .ref o0_1, .ref o0_2, .ref o0_3, .ref o0_4, .ref o0_5, .ref o0_6, .int x0_7, .int x0_8])), (a1, .inr (6, [.ref a2, .int x1_1, .int r2.2.1, .int r2.2.2])), (a2, .inl (G.2.1 0, n2, .inl f2))] H → va_D A [(a0, .inr (8, [.ref a1, .ref o0_1, .ref o0_2, .ref o0_3, .ref o0_4, .ref o0_5, .ref o0_6, .int x0_7, .int x0_8])), (a1, .inr (6, [.ref a2, .int x1_1, .int r2.2.1, .int r2.2.2])), (a2, .inl (G.2.1 0, n2, .inl f2))] → va_S A s.heap H locs → lv_has ls 5 [(1, .int r1.1), (2, .int r2.1)] → W p l e R s m [.ref a0].toArray below meth c H locs 0 0 Q (F0 m 42 ls [.int t6]) := by
    intro t6 H locs ls h hP hD hS hl
    replace h := ej6 _ _ h
    refine lv_istore_n (lv' := [(3, .int t6), (1, .int r1.1), (2, .int r2.1)]) hx hb d_Un_headIsRight_42 rfl hl (by decide) rfl (fun ls hl => ?_)
    refine lv_iload_n hx hb d_Un_headIsRight_43 rfl (lv_at hl 2 rfl) ?_
    refine lv_bipush (v := 32) hx hb d_Un_headIsRight_44 (by decide) ?_
    refine lv_iand hx hb d_Un_headIsRight_46 ?_
    obtain ⟨j8, ej8, h⟩ := Jn_e h
    have hj8 : ∀ (t8 : Int32) (H : Heap) (locs : List Loc) (ls : Array Slot), j8 t8 = some V → va_P G.1 classes [(a0, .inr (8, [.ref a1, .ref o0_1, .ref o0_2, .ref o0_3, .ref o0_4, .ref o0_5, .ref o0_6, .int x0_7, .int x0_8])), (a1, .inr (6, [.ref a2, .int x1_1, .int r2.2.1, .int r2.2.2])), (a2, .inl (G.2.1 0, n2, .inl f2))] H → va_D A [(a0, .inr (8, [.ref a1, .ref o0_1, .ref o0_2, .ref o0_3, .ref o0_4, .ref o0_5, .ref o0_6, .int x0_7, .int x0_8])), (a1, .inr (6, [.ref a2, .int x1_1, .int r2.2.1, .int r2.2.2])), (a2, .inl (G.2.1 0, n2, .inl f2))] → va_S A s.heap H locs → lv_has ls 5 [(1, .int r1.1), (2, .int r2.1), (3, .int t6)] → W p l e R s m [.ref a0].toArray below meth c H locs 0 0 Q (F0 m 55 ls [.int t8]) := by
      intro t8 H locs ls h hP hD hS hl
      replace h := ej8 _ _ h
      refine lv_istore (lv' := [(4, .int t8), (1, .int r1.1), (2, .int r2.1), (3, .int t6)]) hx hb d_Un_headIsRight_55 hl (by decide) rfl (fun ls hl => ?_)
      refine lv_iload_n hx hb d_Un_headIsRight_57 rfl (lv_at hl 3 rfl) ?_
      refine lv_if_eq (tgt := 83) hx hb d_Un_headIsRight_58 (by decide) (fun cq9 => ?_) (fun cq9 => ?_)
      · replace h := (if_pos cq9).symm.trans h
        refine lv_iconst (v := 0) hx hb d_Un_headIsRight_83 (by decide) ?_
        have eV := so1 h
        subst eV
        exact x_zret C0 hQ rfl hP hD hS rfl (Nat.zero_le _) (Nat.zero_le _) d_Un_headIsRight_84
      · replace h := (if_neg cq9).symm.trans h
        refine lv_iload hx hb d_Un_headIsRight_61 (lv_at hl 0 rfl) ?_
        refine lv_if_ne (tgt := 83) hx hb d_Un_headIsRight_63 (by decide) (fun cq10 => ?_) (fun cq10 => ?_)
        · replace h := (if_neg cq10).symm.trans h
          refine lv_iconst (v := 0) hx hb d_Un_headIsRight_83 (by decide) ?_
          have eV := so1 h
          subst eV
          exact x_zret C0 hQ rfl hP hD hS rfl (Nat.zero_le _) (Nat.zero_le _) d_Un_headIsRight_84
        · replace h := (if_pos cq10).symm.trans h
          refine lv_sipush (v := 256) hx hb d_Un_headIsRight_66 (by decide) ?_
          refine lv_iload_n hx hb d_Un_headIsRight_69 rfl (lv_at hl 1 rfl) ?_
          refine lv_imul hx hb d_Un_headIsRight_70 ?_
          refine lv_iload_n hx hb d_Un_headIsRight_71 rfl (lv_at hl 2 rfl) ?_
          refine lv_iadd hx hb d_Un_headIsRight_72 ?_
          refine lv_bipush (v := 31) hx hb d_Un_headIsRight_73 (by decide) ?_
          refine lv_irem hx hb d_Un_headIsRight_75 (by decide) ?_
          refine lv_if_ne (tgt := 83) hx hb d_Un_headIsRight_76 (by decide) (fun cq11 => ?_) (fun cq11 => ?_)
          · replace h := (if_neg cq11).symm.trans h
            refine lv_iconst (v := 0) hx hb d_Un_headIsRight_83 (by decide) ?_
            have eV := so1 h
            subst eV
            exact x_zret C0 hQ rfl hP hD hS rfl (Nat.zero_le _) (Nat.zero_le _) d_Un_headIsRight_84
          · replace h := (if_pos cq11).symm.trans h
            refine lv_iconst (v := 1) hx hb d_Un_headIsRight_79 (by decide) ?_
            refine lv_goto (tgt := 84) hx hb d_Un_headIsRight_80 (by decide) ?_
            have eV := so1 h
            subst eV
            exact x_zret C0 hQ rfl hP hD hS rfl (Nat.zero_le _) (Nat.zero_le _) d_Un_headIsRight_84
    refine lv_if_eq (tgt := 54) hx hb d_Un_headIsRight_47 (by decide) (fun cq12 => ?_) (fun cq12 => ?_)
    · replace h := (if_pos cq12).symm.trans h
      refine lv_iconst (v := 0) hx hb d_Un_headIsRight_54 (by decide) ?_
      exact hj8 0 _ _ _ h hP hD hS (lv_sub hl [1, 2, 0] rfl)
    · replace h := (if_neg cq12).symm.trans h
      refine lv_iconst (v := 1) hx hb d_Un_headIsRight_50 (by decide) ?_
      refine lv_goto (tgt := 55) hx hb d_Un_headIsRight_51 (by decide) ?_
      exact hj8 1 _ _ _ h hP hD hS (lv_sub hl [1, 2, 0] rfl)
  obtain ⟨j15, ej15, h⟩ := Jn_e h
  have hj15 : ∀ (t15 : Unit) (H : Heap) (locs : List Loc) (ls : Array Slot), j15 t15 = some V → va_P G.1 classes [(a0, .inr (8, [.ref a1, .ref o0_1, .ref o0_2, .ref o0_3, .ref o0_4, .ref o0_5, .ref o0_6, .int x0_7, .int x0_8])), (a1, .inr (6, [.ref a2, .int x1_1, .int r2.2.1, .int r2.2.2])), (a2, .inl (G.2.1 0, n2, .inl f2))] H → va_D A [(a0, .inr (8, [.ref a1, .ref o0_1, .ref o0_2, .ref o0_3, .ref o0_4, .ref o0_5, .ref o0_6, .int x0_7, .int x0_8])), (a1, .inr (6, [.ref a2, .int x1_1, .int r2.2.1, .int r2.2.2])), (a2, .inl (G.2.1 0, n2, .inl f2))] → va_S A s.heap H locs → lv_has ls 5 [(1, .int r1.1), (2, .int r2.1)] → W p l e R s m [.ref a0].toArray below meth c H locs 0 0 Q (F0 m 41 ls []) := by
    intro t15 H locs ls h hP hD hS hl
    replace h := ej15 _ _ h
    refine lv_iconst (v := 0) hx hb d_Un_headIsRight_41 (by decide) ?_
    exact hj6 0 _ _ _ h hP hD hS hl
  refine lv_icmp_ne (tgt := 41) hx hb d_Un_headIsRight_26 (by decide) (fun cq16 => ?_) (fun cq16 => ?_)
  · replace h := (if_neg cq16).symm.trans h
    exact hj15 () _ _ _ h hP hD hS (lv_sub hl [1, 0] rfl)
  · replace h := (if_pos cq16).symm.trans h
    refine lv_iload_n hx hb d_Un_headIsRight_29 rfl (lv_at hl 1 rfl) ?_
    refine lv_iconst (v := 4) hx hb d_Un_headIsRight_30 (by decide) ?_
    refine lv_ishr hx hb d_Un_headIsRight_31 ?_
    refine lv_bipush (v := 7) hx hb d_Un_headIsRight_32 (by decide) ?_
    refine lv_icmp_gt (tgt := 41) hx hb d_Un_headIsRight_34 (by decide) (fun cq17 => ?_) (fun cq17 => ?_)
    · replace h := (if_pos cq17).symm.trans h
      exact hj15 () _ _ _ h hP hD hS (lv_sub hl [1, 0] rfl)
    · replace h := (if_neg cq17).symm.trans h
      refine lv_iconst (v := 1) hx hb d_Un_headIsRight_37 (by decide) ?_
      refine lv_goto (tgt := 42) hx hb d_Un_headIsRight_38 (by decide) ?_
      exact hj6 1 _ _ _ h hP hD hS (lv_sub hl [1, 0] rfl)
set_option maxHeartbeats 4000000 in
set_option maxRecDepth 100000 in
theorem c_BR_skipToByte (l : Launch) (G : GX) (a0 o0_0 : Nat) (sz : Nat) (x0_1 : Int32) (x0_2 : Int32) (x0_3 : Int32)  (N : Nat) (V : Int32) (h : f_BR_skipToByte N x0_2 = some V) :
    Met l y_BR_skipToByte (wd y_BR_skipToByte b_BR_skipToByte 1 none) { frames := 0, cells := 0, slots := 0, locals := 0 } (PX G [.ref a0] sz [(a0, .inr (6, [.ref o0_0, .int x0_1, .int x0_2, .int x0_3]))])
      (QXv G (fun w => w = [(a0, .inr (6, [.ref o0_0, .int x0_1, .int V, .int x0_3]))]) (va_A [(a0, .inr (6, [.ref o0_0, .int x0_1, .int x0_2, .int x0_3]))] sz)) 0 0 (va_A [(a0, .inr (6, [.ref o0_0, .int x0_1, .int x0_2, .int x0_3]))] sz) := by
  refine Met_in (QQ := fun A => QXv G (fun w => w = [(a0, .inr (6, [.ref o0_0, .int x0_1, .int V, .int x0_3]))]) A) (by decide) (Nat.le_of_ble_eq_true rfl) (fun p e s m below meth c R Q A ls C0 hRf hRl hRc hRs hP hK hD hT hA hS hl hQ => ?_)
  obtain ⟨hx, hb, hml, hown, hts, hr, hlocks, hin⟩ := id C0
  have hown : s.vm.findClass R_BR = some m.cls := hown
  have hl : lv_has ls 1 [(0, .ref a0)] := hl
  unfold f_BR_skipToByte at h
  have hkc : 0 ≤ R.cells := Nat.zero_le _
  have hks : 0 ≤ R.slots := Nat.zero_le _
  obtain ⟨H, hH⟩ : ∃ H, H = s.heap := ⟨_, rfl⟩
  obtain ⟨locs, hlc⟩ : ∃ x : List Loc, x = [] := ⟨_, rfl⟩
  rw [← hH] at hP
  have hS : va_S A s.heap H locs := by rw [hH, hlc]; exact hS
  suffices hgo : W p l e R s m [.ref a0].toArray below meth c H locs 0 0 Q (F0 m 0 ls []) by rw [hH, hlc] at hgo; exact hgo
  refine lv_aload_n hx hb d_BR_skipToByte_0 rfl (lv_at hl 0 rfl) ?_
  refine lv_aload_n hx hb d_BR_skipToByte_1 rfl (lv_at hl 0 rfl) ?_
  refine va_get (D := G.1) (ci := 6) (v := .int x0_2) (C := R_BR) (T := F_BR) (N := 4) hx hb hts i_BR hown hK hP 0 rfl rfl 2 (by decide) (hts _ q72) (fun _ h9 => h9) rfl d_BR_skipToByte_2 ?_
  refine lv_bipush (v := 7) hx hb d_BR_skipToByte_5 (by decide) ?_
  refine lv_iadd hx hb d_BR_skipToByte_7 ?_
  refine lv_bipush (v := (-8)) hx hb d_BR_skipToByte_8 (by decide) ?_
  refine lv_iand hx hb d_BR_skipToByte_10 ?_
  refine lv_topi (fun v1 ev1 => ?_)
  replace h := Lt_e h ev1
  refine va_put (D := G.1) (ci := 6) (v := .int v1) (ty := .int) (C := R_BR) (T := F_BR) (N := 4) hx hb hts i_BR t_BR t_BR_ok n_BR hown hK hP hD hS 0 rfl rfl 2 (by decide) (hts _ q72) (fun _ h9 => h9) rfl (by decide +kernel) rfl rfl (Nat.le_of_ble_eq_true rfl) d_BR_skipToByte_11 (fun H locs hP hD hS => ?_)
  have hP : va_P G.1 classes [(a0, .inr (6, [.ref o0_0, .int x0_1, .int v1, .int x0_3]))] H := hP
  have hD : va_D A [(a0, .inr (6, [.ref o0_0, .int x0_1, .int v1, .int x0_3]))] := hD
  have eV := so1 h
  subst eV
  exact x_vret C0 hQ hP hD hS rfl (Nat.zero_le _) (Nat.zero_le _) d_BR_skipToByte_14
set_option maxHeartbeats 4000000 in
set_option maxRecDepth 100000 in
theorem c_BR_ranOut (l : Launch) (G : GX) (a0 o0_0 : Nat) (sz : Nat) (x0_1 : Int32) (x0_2 : Int32) (x0_3 : Int32)  (N : Nat) (V : Int32) (h : f_BR_ranOut N x0_3 = some V) :
    Met l y_BR_ranOut (wd y_BR_ranOut b_BR_ranOut 1 (some .boolean)) { frames := 0, cells := 0, slots := 0, locals := 0 } (PX G [.ref a0] sz [(a0, .inr (6, [.ref o0_0, .int x0_1, .int x0_2, .int x0_3]))])
      (QXi G V (fun w => w = [(a0, .inr (6, [.ref o0_0, .int x0_1, .int x0_2, .int x0_3]))]) (va_A [(a0, .inr (6, [.ref o0_0, .int x0_1, .int x0_2, .int x0_3]))] sz)) 0 0 (va_A [(a0, .inr (6, [.ref o0_0, .int x0_1, .int x0_2, .int x0_3]))] sz) := by
  refine Met_in (QQ := fun A => QXi G V (fun w => w = [(a0, .inr (6, [.ref o0_0, .int x0_1, .int x0_2, .int x0_3]))]) A) (by decide) (Nat.le_of_ble_eq_true rfl) (fun p e s m below meth c R Q A ls C0 hRf hRl hRc hRs hP hK hD hT hA hS hl hQ => ?_)
  obtain ⟨hx, hb, hml, hown, hts, hr, hlocks, hin⟩ := id C0
  have hown : s.vm.findClass R_BR = some m.cls := hown
  have hl : lv_has ls 1 [(0, .ref a0)] := hl
  unfold f_BR_ranOut at h
  have hkc : 0 ≤ R.cells := Nat.zero_le _
  have hks : 0 ≤ R.slots := Nat.zero_le _
  obtain ⟨H, hH⟩ : ∃ H, H = s.heap := ⟨_, rfl⟩
  obtain ⟨locs, hlc⟩ : ∃ x : List Loc, x = [] := ⟨_, rfl⟩
  rw [← hH] at hP
  have hS : va_S A s.heap H locs := by rw [hH, hlc]; exact hS
  suffices hgo : W p l e R s m [.ref a0].toArray below meth c H locs 0 0 Q (F0 m 0 ls []) by rw [hH, hlc] at hgo; exact hgo
  refine lv_aload_n hx hb d_BR_ranOut_0 rfl (lv_at hl 0 rfl) ?_
  refine va_get (D := G.1) (ci := 6) (v := .int x0_3) (C := R_BR) (T := F_BR) (N := 4) hx hb hts i_BR hown hK hP 0 rfl rfl 3 (by decide) (hts _ q73) (fun _ h9 => h9) rfl d_BR_ranOut_1 ?_
  obtain ⟨hz, h⟩ := Gb_e h
  have eV := so1 h
  subst eV
  exact x_zret C0 hQ (Gb_n hz) hP hD hS rfl (Nat.zero_le _) (Nat.zero_le _) d_BR_ranOut_4
set_option maxHeartbeats 4000000 in
set_option maxRecDepth 100000 in
theorem w_Un_readStored_51 {p : Program} {l : Launch} {e : Env} {R : Room} {s : State} {m : MethodId} {args : Array Value} {below : List Frame} {meth : Method} {c : Code} {Q : State → Prop} {G : GX} {A : Nat → Prop} (C0 : Cx p s m args meth c b_Un_readStored 5 y_Un_readStored (some .boolean)) (hRf : 4 ≤ R.frames) (hRl : 125 ≤ R.locals) (hA : ∀ q, s.heap.size ≤ q → A q) (hK : KX G s) (hT : TX G A s) (N : Nat) (i2 : Int32) (y0_7 : Int32) (y0_8 : Int32) (y1_1 : Int32) (m2 : Nat) (g_2 : (Nat → Int32)) (c0 c1 c2 c3 u0_1 u0_2 u0_3 u0_4 u0_5 u0_6 : Nat) (out : Int32 × Int32 × Int32 × Nat × (Nat → Int32)) {KT ZT : Nat} (hKT : KT ≤ R.cells) (hZT : ZT ≤ R.slots)
    (kx86 : ∀ (c4' : Nat) (H : Heap) (locs : List Loc) (ls : Array Slot), va_P G.1 classes [(c0, .inr (8, [.ref c1, .ref u0_1, .ref u0_2, .ref u0_3, .ref u0_4, .ref u0_5, .ref u0_6, .int y0_7, .int y0_8])), (c1, .inr (6, [.ref c2, .int y1_1, .int out.1, .int out.2.1])), (c2, .inl (G.2.1 0, m2, .inl g_2)), (c3, .inr (1, [.ref c4', .int out.2.2.1])), (c4', .inl (G.2.1 0, out.2.2.2.1, .inl out.2.2.2.2))] H → va_D A [(c0, .inr (8, [.ref c1, .ref u0_1, .ref u0_2, .ref u0_3, .ref u0_4, .ref u0_5, .ref u0_6, .int y0_7, .int y0_8])), (c1, .inr (6, [.ref c2, .int y1_1, .int out.1, .int out.2.1])), (c2, .inl (G.2.1 0, m2, .inl g_2)), (c3, .inr (1, [.ref c4', .int out.2.2.1])), (c4', .inl (G.2.1 0, out.2.2.2.1, .inl out.2.2.2.2))] → va_S A s.heap H locs → lv_has ls 5 [] → W p l e R s m args below meth c H locs KT ZT Q (F0 m 86 ls [])) :
    ∀ (n : Nat) (i4 : Int32) (y1_2 : Int32) (y1_3 : Int32) (y3_1 : Int32) (m4 : Nat) (g_4 : (Nat → Int32)) (c4 : Nat) (kc ks k z : Nat) (H : Heap) (locs : List Loc) (ls : Array Slot), lp_Un_readStored_51 N i2 y1_1 m2 g_2 n i4 y1_2 y1_3 y3_1 m4 g_4 = some (out, k, z) → kc + k = KT → ks + z = ZT → va_P G.1 classes [(c0, .inr (8, [.ref c1, .ref u0_1, .ref u0_2, .ref u0_3, .ref u0_4, .ref u0_5, .ref u0_6, .int y0_7, .int y0_8])), (c1, .inr (6, [.ref c2, .int y1_1, .int y1_2, .int y1_3])), (c2, .inl (G.2.1 0, m2, .inl g_2)), (c3, .inr (1, [.ref c4, .int y3_1])), (c4, .inl (G.2.1 0, m4, .inl g_4))] H → va_D A [(c0, .inr (8, [.ref c1, .ref u0_1, .ref u0_2, .ref u0_3, .ref u0_4, .ref u0_5, .ref u0_6, .int y0_7, .int y0_8])), (c1, .inr (6, [.ref c2, .int y1_1, .int y1_2, .int y1_3])), (c2, .inl (G.2.1 0, m2, .inl g_2)), (c3, .inr (1, [.ref c4, .int y3_1])), (c4, .inl (G.2.1 0, m4, .inl g_4))] → va_S A s.heap H locs → lv_has ls 5 [(0, .ref c0), (1, .ref c3), (2, .int i2), (4, .int i4)] → W p l e R s m args below meth c H locs kc ks Q (F0 m 51 ls []) := by
  obtain ⟨hx, hb, hml, hown, hts, hr, hlocks, hin⟩ := id C0
  have hown : s.vm.findClass R_Un = some m.cls := hown
  intro n
  induction n with
  | zero => intro i4 y1_2 y1_3 y3_1 m4 g_4 c4 kc ks k z H locs ls h; cases h
  | succ n ih =>
    intro i4 y1_2 y1_3 y3_1 m4 g_4 c4 kc ks k z H locs ls h ekc ezc hP hD hS hl
    replace h : lb_Un_readStored_51 N i2 y1_1 m2 g_2 (lp_Un_readStored_51 N i2 y1_1 m2 g_2 n) i4 y1_2 y1_3 y3_1 m4 g_4 = some (out, k, z) := h
    unfold lb_Un_readStored_51 at h
    refine lv_iload hx hb d_Un_readStored_51 (lv_at hl 3 rfl) ?_
    refine lv_iload_n hx hb d_Un_readStored_53 rfl (lv_at hl 2 rfl) ?_
    refine lv_icmp_ge (tgt := 86) hx hb d_Un_readStored_54 (by decide) (fun cq14 => ?_) (fun cq14 => ?_)
    · replace h := (if_pos cq14).symm.trans h
      obtain ⟨eV, ek, ez⟩ := so3 h
      subst eV
      refine W.widen (k := KT) (n := ZT) (by omega) (by omega) ?_
      exact kx86 c4 _ _ _ hP hD hS (lv_sub hl [] rfl)
    · replace h := (if_neg cq14).symm.trans h
      refine lv_aload_n hx hb d_Un_readStored_57 rfl (lv_at hl 0 rfl) ?_
      refine va_get (D := G.1) (ci := 8) (v := .ref c1) (C := R_Un) (T := F_Un) (N := 9) hx hb hts i_Un hown hK hP 0 rfl rfl 0 (by decide) (hts _ q77) (fun _ h9 => h9) rfl d_Un_readStored_58 ?_
      obtain ⟨r15, hc15, h⟩ := Bd_e h
      refine xV_i0 (wr := [(c0, .inr (8, [.ref c1, .ref u0_1, .ref u0_2, .ref u0_3, .ref u0_4, .ref u0_5, .ref u0_6, .int y0_7, .int y0_8])), (c2, .inl (G.2.1 0, m2, .inl g_2)), (c3, .inr (1, [.ref c4, .int y3_1])), (c4, .inl (G.2.1 0, m4, .inl g_4))]) (rest := []) C0 hK hT hA hP hD hS hl.1 (c_BR_ranOut l G c1 c2 _ y1_1 y1_2 y1_3  N r15 hc15) (goodV q281 q282 q283 q68 q284) 0 rfl hd_BR_ranOut (Nat.le_trans (by decide) hRf) (Nat.le_trans (by decide) hRl) [1] [0, 2, 3, 4] rfl rfl (by decide) (by decide) (by decide) 6 1 rfl rfl rfl (Nat.le_of_ble_eq_true rfl) d_Un_readStored_61 (by omega) (by omega) (fun w1 H locs hE hP hD hS => ?_)
      subst hE
      have hP : va_P G.1 classes [(c0, .inr (8, [.ref c1, .ref u0_1, .ref u0_2, .ref u0_3, .ref u0_4, .ref u0_5, .ref u0_6, .int y0_7, .int y0_8])), (c2, .inl (G.2.1 0, m2, .inl g_2)), (c3, .inr (1, [.ref c4, .int y3_1])), (c4, .inl (G.2.1 0, m4, .inl g_4)), (c1, .inr (6, [.ref c2, .int y1_1, .int y1_2, .int y1_3]))] H := hP
      have hD : va_D A [(c0, .inr (8, [.ref c1, .ref u0_1, .ref u0_2, .ref u0_3, .ref u0_4, .ref u0_5, .ref u0_6, .int y0_7, .int y0_8])), (c2, .inl (G.2.1 0, m2, .inl g_2)), (c3, .inr (1, [.ref c4, .int y3_1])), (c4, .inl (G.2.1 0, m4, .inl g_4)), (c1, .inr (6, [.ref c2, .int y1_1, .int y1_2, .int y1_3]))] := hD
      refine lv_if_ne (tgt := 86) hx hb d_Un_readStored_64 (by decide) (fun cq16 => ?_) (fun cq16 => ?_)
      · replace h := (if_neg cq16).symm.trans h
        obtain ⟨eV, ek, ez⟩ := so3 h
        subst eV
        refine W.widen (k := KT) (n := ZT) (by omega) (by omega) ?_
        exact kx86 c4 _ _ _ (hP.sub (ws' := [(c0, .inr (8, [.ref c1, .ref u0_1, .ref u0_2, .ref u0_3, .ref u0_4, .ref u0_5, .ref u0_6, .int y0_7, .int y0_8])), (c1, .inr (6, [.ref c2, .int y1_1, .int y1_2, .int y1_3])), (c2, .inl (G.2.1 0, m2, .inl g_2)), (c3, .inr (1, [.ref c4, .int y3_1])), (c4, .inl (G.2.1 0, m4, .inl g_4))]) [0, 4, 1, 2, 3] rfl) (hD.sub (ws' := [(c0, .inr (8, [.ref c1, .ref u0_1, .ref u0_2, .ref u0_3, .ref u0_4, .ref u0_5, .ref u0_6, .int y0_7, .int y0_8])), (c1, .inr (6, [.ref c2, .int y1_1, .int y1_2, .int y1_3])), (c2, .inl (G.2.1 0, m2, .inl g_2)), (c3, .inr (1, [.ref c4, .int y3_1])), (c4, .inl (G.2.1 0, m4, .inl g_4))]) [0, 4, 1, 2, 3] (by decide) rfl) hS (lv_sub hl [] rfl)
      · replace h := (if_pos cq16).symm.trans h
        refine lv_aload_n hx hb d_Un_readStored_67 rfl (lv_at hl 1 rfl) ?_
        refine lv_aload_n hx hb d_Un_readStored_68 rfl (lv_at hl 0 rfl) ?_
        refine va_get (D := G.1) (ci := 8) (v := .ref c1) (C := R_Un) (T := F_Un) (N := 9) hx hb hts i_Un hown hK hP 0 rfl rfl 0 (by decide) (hts _ q77) (fun _ h9 => h9) rfl d_Un_readStored_69 ?_
        refine lv_bipush (v := 8) hx hb d_Un_readStored_72 (by decide) ?_
        obtain ⟨r17, hc17, h⟩ := Bd_e h
        refine xV_i0 (wr := [(c0, .inr (8, [.ref c1, .ref u0_1, .ref u0_2, .ref u0_3, .ref u0_4, .ref u0_5, .ref u0_6, .int y0_7, .int y0_8])), (c3, .inr (1, [.ref c4, .int y3_1])), (c4, .inl (G.2.1 0, m4, .inl g_4))]) (rest := [.ref c3]) C0 hK hT hA hP hD hS hl.1 (c_BR_take l G c1 c2 _ y1_1 y1_2 y1_3 m2 g_2 8 N r17 hc17) (goodV q265 q266 q267 q68 q268) 1 rfl hd_BR_take (Nat.le_trans (by decide) hRf) (Nat.le_trans (by decide) hRl) [4, 1] [0, 2, 3] rfl rfl (by decide) (by decide) (by decide) 6 4 rfl rfl rfl (Nat.le_of_ble_eq_true rfl) d_Un_readStored_74 (by omega) (by omega) (fun w1 H locs hE hP hD hS => ?_)
        subst hE
        have hP : va_P G.1 classes [(c0, .inr (8, [.ref c1, .ref u0_1, .ref u0_2, .ref u0_3, .ref u0_4, .ref u0_5, .ref u0_6, .int y0_7, .int y0_8])), (c3, .inr (1, [.ref c4, .int y3_1])), (c4, .inl (G.2.1 0, m4, .inl g_4)), (c1, .inr (6, [.ref c2, .int y1_1, .int r17.2.1, .int r17.2.2])), (c2, .inl (G.2.1 0, m2, .inl g_2))] H := hP
        have hD : va_D A [(c0, .inr (8, [.ref c1, .ref u0_1, .ref u0_2, .ref u0_3, .ref u0_4, .ref u0_5, .ref u0_6, .int y0_7, .int y0_8])), (c3, .inr (1, [.ref c4, .int y3_1])), (c4, .inl (G.2.1 0, m4, .inl g_4)), (c1, .inr (6, [.ref c2, .int y1_1, .int r17.2.1, .int r17.2.2])), (c2, .inl (G.2.1 0, m2, .inl g_2))] := hD
        obtain ⟨r18, k18, z18, kk18, zz18, hc18, h, ek18, ez18⟩ := Bk_e h
        have ekc : kc + k18 + kk18 = KT := by omega
        have ezc : ks + z18 + zz18 = ZT := by omega
        refine xV_v (wr := [(c0, .inr (8, [.ref c1, .ref u0_1, .ref u0_2, .ref u0_3, .ref u0_4, .ref u0_5, .ref u0_6, .int y0_7, .int y0_8])), (c1, .inr (6, [.ref c2, .int y1_1, .int r17.2.1, .int r17.2.2])), (c2, .inl (G.2.1 0, m2, .inl g_2))]) (rest := []) C0 hK hT hA hP hD hS hl.1 (c_Row_add l G c3 c4 _ y3_1 m4 g_4 r17.1 N r18 k18 z18 hc18) (goodV q285 q135 q136 q5 q137) 1 rfl hd_Row_add (Nat.le_trans (by decide) hRf) (Nat.le_trans (by decide) hRl) [1, 2] [0, 3, 4] rfl rfl (by decide) (by decide) (by decide) 1 1 rfl rfl rfl (Nat.le_of_ble_eq_true rfl) d_Un_readStored_77 (by omega) (by omega) (fun w1 H locs hE hP hD hS => ?_)
        obtain ⟨b19, rfl⟩ := hE
        have hP : va_P G.1 classes [(c0, .inr (8, [.ref c1, .ref u0_1, .ref u0_2, .ref u0_3, .ref u0_4, .ref u0_5, .ref u0_6, .int y0_7, .int y0_8])), (c1, .inr (6, [.ref c2, .int y1_1, .int r17.2.1, .int r17.2.2])), (c2, .inl (G.2.1 0, m2, .inl g_2)), (c3, .inr (1, [.ref b19, .int r18.1])), (b19, .inl (G.2.1 0, r18.2.1, .inl r18.2.2))] H := hP
        have hD : va_D A [(c0, .inr (8, [.ref c1, .ref u0_1, .ref u0_2, .ref u0_3, .ref u0_4, .ref u0_5, .ref u0_6, .int y0_7, .int y0_8])), (c1, .inr (6, [.ref c2, .int y1_1, .int r17.2.1, .int r17.2.2])), (c2, .inl (G.2.1 0, m2, .inl g_2)), (c3, .inr (1, [.ref b19, .int r18.1])), (b19, .inl (G.2.1 0, r18.2.1, .inl r18.2.2))] := hD
        obtain ⟨v20, ev20⟩ : ∃ y : Int32, y = i4 + 1 := ⟨_, rfl⟩
        replace h := Lt_e h ev20
        refine lv_iinc (v := v20) (lv' := [(4, .int v20), (0, .ref c0), (1, .ref c3), (2, .int i2)]) hx hb d_Un_readStored_80 hl (k := 3) rfl (by rw [ev20]; rfl) (by decide) rfl (fun ls hl => ?_)
        refine lv_goto (tgt := 51) hx hb d_Un_readStored_83 (by decide) ?_
        exact ih v20 r17.2.1 r17.2.2 r18.1 r18.2.1 r18.2.2 b19 _ _ _ _ _ _ _ h (by omega) (by omega) hP hD hS (lv_sub hl [1, 2, 3, 0] rfl)
set_option maxHeartbeats 4000000 in
set_option maxRecDepth 100000 in
theorem c_Un_readStored (l : Launch) (G : GX) (a0 a1 a2 a3 a4 o0_1 o0_2 o0_3 o0_4 o0_5 o0_6 : Nat) (sz : Nat) (x0_7 : Int32) (x0_8 : Int32) (x1_1 : Int32) (x1_2 : Int32) (x1_3 : Int32) (n2 : Nat) (f2 : (Nat → Int32)) (x3_1 : Int32) (n4 : Nat) (f4 : (Nat → Int32))  (N : Nat) (V : Int32 × Int32 × Int32 × Int32 × Nat × (Nat → Int32)) (K Z : Nat) (h : f_Un_readStored N x1_1 x1_2 x1_3 n2 f2 x3_1 n4 f4 = some (V, K, Z)) :
    Met l y_Un_readStored (wd y_Un_readStored b_Un_readStored 5 (some .boolean)) { frames := 4, cells := K, slots := Z, locals := 125 } (PX G [.ref a0, .ref a3] sz [(a0, .inr (8, [.ref a1, .ref o0_1, .ref o0_2, .ref o0_3, .ref o0_4, .ref o0_5, .ref o0_6, .int x0_7, .int x0_8])), (a1, .inr (6, [.ref a2, .int x1_1, .int x1_2, .int x1_3])), (a2, .inl (G.2.1 0, n2, .inl f2)), (a3, .inr (1, [.ref a4, .int x3_1])), (a4, .inl (G.2.1 0, n4, .inl f4))])
      (QXi G V.1 (fun w => ∃ e0 : Nat, w = [(a0, .inr (8, [.ref a1, .ref o0_1, .ref o0_2, .ref o0_3, .ref o0_4, .ref o0_5, .ref o0_6, .int x0_7, .int x0_8])), (a1, .inr (6, [.ref a2, .int x1_1, .int V.2.1, .int V.2.2.1])), (a2, .inl (G.2.1 0, n2, .inl f2)), (a3, .inr (1, [.ref e0, .int V.2.2.2.1])), (e0, .inl (G.2.1 0, V.2.2.2.2.1, .inl V.2.2.2.2.2))]) (va_A [(a0, .inr (8, [.ref a1, .ref o0_1, .ref o0_2, .ref o0_3, .ref o0_4, .ref o0_5, .ref o0_6, .int x0_7, .int x0_8])), (a1, .inr (6, [.ref a2, .int x1_1, .int x1_2, .int x1_3])), (a2, .inl (G.2.1 0, n2, .inl f2)), (a3, .inr (1, [.ref a4, .int x3_1])), (a4, .inl (G.2.1 0, n4, .inl f4))] sz)) K Z (va_A [(a0, .inr (8, [.ref a1, .ref o0_1, .ref o0_2, .ref o0_3, .ref o0_4, .ref o0_5, .ref o0_6, .int x0_7, .int x0_8])), (a1, .inr (6, [.ref a2, .int x1_1, .int x1_2, .int x1_3])), (a2, .inl (G.2.1 0, n2, .inl f2)), (a3, .inr (1, [.ref a4, .int x3_1])), (a4, .inl (G.2.1 0, n4, .inl f4))] sz) := by
  refine Met_in (QQ := fun A => QXi G V.1 (fun w => ∃ e0 : Nat, w = [(a0, .inr (8, [.ref a1, .ref o0_1, .ref o0_2, .ref o0_3, .ref o0_4, .ref o0_5, .ref o0_6, .int x0_7, .int x0_8])), (a1, .inr (6, [.ref a2, .int x1_1, .int V.2.1, .int V.2.2.1])), (a2, .inl (G.2.1 0, n2, .inl f2)), (a3, .inr (1, [.ref e0, .int V.2.2.2.1])), (e0, .inl (G.2.1 0, V.2.2.2.2.1, .inl V.2.2.2.2.2))]) A) (by decide) (Nat.le_of_ble_eq_true rfl) (fun p e s m below meth c R Q A ls C0 hRf hRl hRc hRs hP hK hD hT hA hS hl hQ => ?_)
  obtain ⟨hx, hb, hml, hown, hts, hr, hlocks, hin⟩ := id C0
  have hown : s.vm.findClass R_Un = some m.cls := hown
  have hl : lv_has ls 5 [(0, .ref a0), (1, .ref a3)] := hl
  unfold f_Un_readStored at h
  have hKT : K ≤ R.cells := Nat.le_of_eq hRc.symm
  have hZT : Z ≤ R.slots := Nat.le_of_eq hRs.symm
  have ekc : 0 + K = K := by omega
  have ezc : 0 + Z = Z := by omega
  obtain ⟨H, hH⟩ : ∃ H, H = s.heap := ⟨_, rfl⟩
  obtain ⟨locs, hlc⟩ : ∃ x : List Loc, x = [] := ⟨_, rfl⟩
  rw [← hH] at hP
  have hS : va_S A s.heap H locs := by rw [hH, hlc]; exact hS
  suffices hgo : W p l e R s m [.ref a0, .ref a3].toArray below meth c H locs 0 0 Q (F0 m 0 ls []) by rw [hH, hlc] at hgo; exact hgo
  refine lv_aload_n hx hb d_Un_readStored_0 rfl (lv_at hl 0 rfl) ?_
  refine va_get (D := G.1) (ci := 8) (v := .ref a1) (C := R_Un) (T := F_Un) (N := 9) hx hb hts i_Un hown hK hP 0 rfl rfl 0 (by decide) (hts _ q77) (fun _ h9 => h9) rfl d_Un_readStored_1 ?_
  obtain ⟨r1, hc1, h⟩ := Bd_e h
  refine xV_v0 (wr := [(a0, .inr (8, [.ref a1, .ref o0_1, .ref o0_2, .ref o0_3, .ref o0_4, .ref o0_5, .ref o0_6, .int x0_7, .int x0_8])), (a2, .inl (G.2.1 0, n2, .inl f2)), (a3, .inr (1, [.ref a4, .int x3_1])), (a4, .inl (G.2.1 0, n4, .inl f4))]) (rest := []) C0 hK hT hA hP hD hS hl.1 (c_BR_skipToByte l G a1 a2 _ x1_1 x1_2 x1_3  N r1 hc1) (goodV q274 q275 q276 q68 q277) 0 rfl hd_BR_skipToByte (Nat.le_trans (by decide) hRf) (Nat.le_trans (by decide) hRl) [1] [0, 2, 3, 4] rfl rfl (by decide) (by decide) (by decide) 6 1 rfl rfl rfl (Nat.le_of_ble_eq_true rfl) d_Un_readStored_4 (by omega) (by omega) (fun w1 H locs hE hP hD hS => ?_)
  subst hE
  have hP : va_P G.1 classes [(a0, .inr (8, [.ref a1, .ref o0_1, .ref o0_2, .ref o0_3, .ref o0_4, .ref o0_5, .ref o0_6, .int x0_7, .int x0_8])), (a2, .inl (G.2.1 0, n2, .inl f2)), (a3, .inr (1, [.ref a4, .int x3_1])), (a4, .inl (G.2.1 0, n4, .inl f4)), (a1, .inr (6, [.ref a2, .int x1_1, .int r1, .int x1_3]))] H := hP
  have hD : va_D A [(a0, .inr (8, [.ref a1, .ref o0_1, .ref o0_2, .ref o0_3, .ref o0_4, .ref o0_5, .ref o0_6, .int x0_7, .int x0_8])), (a2, .inl (G.2.1 0, n2, .inl f2)), (a3, .inr (1, [.ref a4, .int x3_1])), (a4, .inl (G.2.1 0, n4, .inl f4)), (a1, .inr (6, [.ref a2, .int x1_1, .int r1, .int x1_3]))] := hD
  refine lv_aload_n hx hb d_Un_readStored_7 rfl (lv_at hl 0 rfl) ?_
  refine va_get (D := G.1) (ci := 8) (v := .ref a1) (C := R_Un) (T := F_Un) (N := 9) hx hb hts i_Un hown hK hP 0 rfl rfl 0 (by decide) (hts _ q77) (fun _ h9 => h9) rfl d_Un_readStored_8 ?_
  refine lv_bipush (v := 16) hx hb d_Un_readStored_11 (by decide) ?_
  obtain ⟨r2, hc2, h⟩ := Bd_e h
  refine xV_i0 (wr := [(a0, .inr (8, [.ref a1, .ref o0_1, .ref o0_2, .ref o0_3, .ref o0_4, .ref o0_5, .ref o0_6, .int x0_7, .int x0_8])), (a3, .inr (1, [.ref a4, .int x3_1])), (a4, .inl (G.2.1 0, n4, .inl f4))]) (rest := []) C0 hK hT hA hP hD hS hl.1 (c_BR_take l G a1 a2 _ x1_1 r1 x1_3 n2 f2 16 N r2 hc2) (goodV q265 q266 q267 q68 q268) 1 rfl hd_BR_take (Nat.le_trans (by decide) hRf) (Nat.le_trans (by decide) hRl) [4, 1] [0, 2, 3] rfl rfl (by decide) (by decide) (by decide) 6 4 rfl rfl rfl (Nat.le_of_ble_eq_true rfl) d_Un_readStored_13 (by omega) (by omega) (fun w1 H locs hE hP hD hS => ?_)
  subst hE
  have hP : va_P G.1 classes [(a0, .inr (8, [.ref a1, .ref o0_1, .ref o0_2, .ref o0_3, .ref o0_4, .ref o0_5, .ref o0_6, .int x0_7, .int x0_8])), (a3, .inr (1, [.ref a4, .int x3_1])), (a4, .inl (G.2.1 0, n4, .inl f4)), (a1, .inr (6, [.ref a2, .int x1_1, .int r2.2.1, .int r2.2.2])), (a2, .inl (G.2.1 0, n2, .inl f2))] H := hP
  have hD : va_D A [(a0, .inr (8, [.ref a1, .ref o0_1, .ref o0_2, .ref o0_3, .ref o0_4, .ref o0_5, .ref o0_6, .int x0_7, .int x0_8])), (a3, .inr (1, [.ref a4, .int x3_1])), (a4, .inl (G.2.1 0, n4, .inl f4)), (a1, .inr (6, [.ref a2, .int x1_1, .int r2.2.1, .int r2.2.2])), (a2, .inl (G.2.1 0, n2, .inl f2))] := hD
  refine lv_istore_n (lv' := [(2, .int r2.1), (0, .ref a0), (1, .ref a3)]) hx hb d_Un_readStored_16 rfl hl (by decide) rfl (fun ls hl => ?_)
  refine lv_aload_n hx hb d_Un_readStored_17 rfl (lv_at hl 1 rfl) ?_
  refine va_get (D := G.1) (ci := 8) (v := .ref a1) (C := R_Un) (T := F_Un) (N := 9) hx hb hts i_Un hown hK hP 0 rfl rfl 0 (by decide) (hts _ q77) (fun _ h9 => h9) rfl d_Un_readStored_18 ?_
  refine lv_bipush (v := 16) hx hb d_Un_readStored_21 (by decide) ?_
  obtain ⟨r3, hc3, h⟩ := Bd_e h
  refine xV_i0 (wr := [(a0, .inr (8, [.ref a1, .ref o0_1, .ref o0_2, .ref o0_3, .ref o0_4, .ref o0_5, .ref o0_6, .int x0_7, .int x0_8])), (a3, .inr (1, [.ref a4, .int x3_1])), (a4, .inl (G.2.1 0, n4, .inl f4))]) (rest := []) C0 hK hT hA hP hD hS hl.1 (c_BR_take l G a1 a2 _ x1_1 r2.2.1 r2.2.2 n2 f2 16 N r3 hc3) (goodV q265 q266 q267 q68 q268) 1 rfl hd_BR_take (Nat.le_trans (by decide) hRf) (Nat.le_trans (by decide) hRl) [3, 4] [0, 1, 2] rfl rfl (by decide) (by decide) (by decide) 6 3 rfl rfl rfl (Nat.le_of_ble_eq_true rfl) d_Un_readStored_23 (by omega) (by omega) (fun w1 H locs hE hP hD hS => ?_)
  subst hE
  have hP : va_P G.1 classes [(a0, .inr (8, [.ref a1, .ref o0_1, .ref o0_2, .ref o0_3, .ref o0_4, .ref o0_5, .ref o0_6, .int x0_7, .int x0_8])), (a3, .inr (1, [.ref a4, .int x3_1])), (a4, .inl (G.2.1 0, n4, .inl f4)), (a1, .inr (6, [.ref a2, .int x1_1, .int r3.2.1, .int r3.2.2])), (a2, .inl (G.2.1 0, n2, .inl f2))] H := hP
  have hD : va_D A [(a0, .inr (8, [.ref a1, .ref o0_1, .ref o0_2, .ref o0_3, .ref o0_4, .ref o0_5, .ref o0_6, .int x0_7, .int x0_8])), (a3, .inr (1, [.ref a4, .int x3_1])), (a4, .inl (G.2.1 0, n4, .inl f4)), (a1, .inr (6, [.ref a2, .int x1_1, .int r3.2.1, .int r3.2.2])), (a2, .inl (G.2.1 0, n2, .inl f2))] := hD
  refine lv_istore_n (lv' := [(3, .int r3.1), (2, .int r2.1), (0, .ref a0), (1, .ref a3)]) hx hb d_Un_readStored_26 rfl hl (by decide) rfl (fun ls hl => ?_)
  refine lv_iload_n hx hb d_Un_readStored_27 rfl (lv_at hl 1 rfl) ?_
  refine lv_ldc (v := 65535) hx hb hown (hts _ q278) d_Un_readStored_28 ?_
  refine lv_ixor hx hb d_Un_readStored_30 ?_
  refine lv_iload_n hx hb d_Un_readStored_31 rfl (lv_at hl 0 rfl) ?_
  refine lv_icmp_ne (tgt := 46) hx hb d_Un_readStored_32 (by decide) (fun cq4 => ?_) (fun cq4 => ?_)
  · replace h := (if_neg cq4).symm.trans h
    refine lv_iconst (v := 0) hx hb d_Un_readStored_46 (by decide) ?_
    obtain ⟨eV, ek, ez⟩ := so3 h
    subst eV
    exact x_zret C0 hQ rfl (hP.sub (ws' := [(a0, .inr (8, [.ref a1, .ref o0_1, .ref o0_2, .ref o0_3, .ref o0_4, .ref o0_5, .ref o0_6, .int x0_7, .int x0_8])), (a1, .inr (6, [.ref a2, .int x1_1, .int r3.2.1, .int r3.2.2])), (a2, .inl (G.2.1 0, n2, .inl f2)), (a3, .inr (1, [.ref a4, .int x3_1])), (a4, .inl (G.2.1 0, n4, .inl f4))]) [0, 3, 4, 1, 2] rfl) (hD.sub (ws' := [(a0, .inr (8, [.ref a1, .ref o0_1, .ref o0_2, .ref o0_3, .ref o0_4, .ref o0_5, .ref o0_6, .int x0_7, .int x0_8])), (a1, .inr (6, [.ref a2, .int x1_1, .int r3.2.1, .int r3.2.2])), (a2, .inl (G.2.1 0, n2, .inl f2)), (a3, .inr (1, [.ref a4, .int x3_1])), (a4, .inl (G.2.1 0, n4, .inl f4))]) [0, 3, 4, 1, 2] (by decide) rfl) hS ⟨a4, rfl⟩ (by omega) (by omega) d_Un_readStored_47
  · replace h := (if_pos cq4).symm.trans h
    refine lv_aload_n hx hb d_Un_readStored_35 rfl (lv_at hl 3 rfl) ?_
    obtain ⟨r5, hc5, h⟩ := Bd_e h
    refine xV_i0 (wr := [(a0, .inr (8, [.ref a1, .ref o0_1, .ref o0_2, .ref o0_3, .ref o0_4, .ref o0_5, .ref o0_6, .int x0_7, .int x0_8])), (a4, .inl (G.2.1 0, n4, .inl f4)), (a1, .inr (6, [.ref a2, .int x1_1, .int r3.2.1, .int r3.2.2])), (a2, .inl (G.2.1 0, n2, .inl f2))]) (rest := []) C0 hK hT hA hP hD hS hl.1 (c_Row_length l G a3 a4 _ x3_1  N r5 hc5) (goodV q279 q110 q111 q5 q112) 0 rfl hd_Row_length (Nat.le_trans (by decide) hRf) (Nat.le_trans (by decide) hRl) [1] [0, 2, 3, 4] rfl rfl (by decide) (by decide) (by decide) 1 1 rfl rfl rfl (Nat.le_of_ble_eq_true rfl) d_Un_readStored_36 (by omega) (by omega) (fun w1 H locs hE hP hD hS => ?_)
    subst hE
    have hP : va_P G.1 classes [(a0, .inr (8, [.ref a1, .ref o0_1, .ref o0_2, .ref o0_3, .ref o0_4, .ref o0_5, .ref o0_6, .int x0_7, .int x0_8])), (a4, .inl (G.2.1 0, n4, .inl f4)), (a1, .inr (6, [.ref a2, .int x1_1, .int r3.2.1, .int r3.2.2])), (a2, .inl (G.2.1 0, n2, .inl f2)), (a3, .inr (1, [.ref a4, .int x3_1]))] H := hP
    have hD : va_D A [(a0, .inr (8, [.ref a1, .ref o0_1, .ref o0_2, .ref o0_3, .ref o0_4, .ref o0_5, .ref o0_6, .int x0_7, .int x0_8])), (a4, .inl (G.2.1 0, n4, .inl f4)), (a1, .inr (6, [.ref a2, .int x1_1, .int r3.2.1, .int r3.2.2])), (a2, .inl (G.2.1 0, n2, .inl f2)), (a3, .inr (1, [.ref a4, .int x3_1]))] := hD
    refine lv_iload_n hx hb d_Un_readStored_39 rfl (lv_at hl 1 rfl) ?_
    refine lv_iadd hx hb d_Un_readStored_40 ?_
    refine lv_ldc (v := 65536) hx hb hown (hts _ q280) d_Un_readStored_41 ?_
    refine lv_icmp_le (tgt := 48) hx hb d_Un_readStored_43 (by decide) (fun cq6 => ?_) (fun cq6 => ?_)
    · replace h := (if_pos cq6).symm.trans h
      refine lv_iconst (v := 0) hx hb d_Un_readStored_48 (by decide) ?_
      refine lv_istore (lv' := [(4, .int 0), (3, .int r3.1), (2, .int r2.1), (0, .ref a0), (1, .ref a3)]) hx hb d_Un_readStored_49 hl (by decide) rfl (fun ls hl => ?_)
      obtain ⟨r21, k21, z21, kk21, zz21, hc21, h, ek21, ez21⟩ := Bk_e h
      refine w_Un_readStored_51 C0 hRf hRl hA hK hT N r2.1 x0_7 x0_8 x1_1 n2 f2 a0 a1 a2 a3 o0_1 o0_2 o0_3 o0_4 o0_5 o0_6 r21 (KT := 0 + k21) (ZT := 0 + z21) (by omega) (by omega) ?_ N 0 r3.2.1 r3.2.2 x3_1 n4 f4 a4 0 0 _ _ _ _ _ hc21 rfl rfl (hP.sub (ws' := [(a0, .inr (8, [.ref a1, .ref o0_1, .ref o0_2, .ref o0_3, .ref o0_4, .ref o0_5, .ref o0_6, .int x0_7, .int x0_8])), (a1, .inr (6, [.ref a2, .int x1_1, .int r3.2.1, .int r3.2.2])), (a2, .inl (G.2.1 0, n2, .inl f2)), (a3, .inr (1, [.ref a4, .int x3_1])), (a4, .inl (G.2.1 0, n4, .inl f4))]) [0, 2, 3, 4, 1] rfl) (hD.sub (ws' := [(a0, .inr (8, [.ref a1, .ref o0_1, .ref o0_2, .ref o0_3, .ref o0_4, .ref o0_5, .ref o0_6, .int x0_7, .int x0_8])), (a1, .inr (6, [.ref a2, .int x1_1, .int r3.2.1, .int r3.2.2])), (a2, .inl (G.2.1 0, n2, .inl f2)), (a3, .inr (1, [.ref a4, .int x3_1])), (a4, .inl (G.2.1 0, n4, .inl f4))]) [0, 2, 3, 4, 1] (by decide) rfl) hS (lv_sub hl [3, 4, 2, 0] rfl)
      · intro b22 H locs ls hP hD hS hl
        have ekc : 0 + k21 + kk21 = K := by omega
        have ezc : 0 + z21 + zz21 = Z := by omega
        refine lv_iconst (v := 1) hx hb d_Un_readStored_86 (by decide) ?_
        obtain ⟨eV, ek, ez⟩ := so3 h
        subst eV
        exact x_zret C0 hQ rfl hP hD hS ⟨b22, rfl⟩ (by omega) (by omega) d_Un_readStored_87
    · replace h := (if_neg cq6).symm.trans h
      refine lv_iconst (v := 0) hx hb d_Un_readStored_46 (by decide) ?_
      obtain ⟨eV, ek, ez⟩ := so3 h
      subst eV
      exact x_zret C0 hQ rfl (hP.sub (ws' := [(a0, .inr (8, [.ref a1, .ref o0_1, .ref o0_2, .ref o0_3, .ref o0_4, .ref o0_5, .ref o0_6, .int x0_7, .int x0_8])), (a1, .inr (6, [.ref a2, .int x1_1, .int r3.2.1, .int r3.2.2])), (a2, .inl (G.2.1 0, n2, .inl f2)), (a3, .inr (1, [.ref a4, .int x3_1])), (a4, .inl (G.2.1 0, n4, .inl f4))]) [0, 2, 3, 4, 1] rfl) (hD.sub (ws' := [(a0, .inr (8, [.ref a1, .ref o0_1, .ref o0_2, .ref o0_3, .ref o0_4, .ref o0_5, .ref o0_6, .int x0_7, .int x0_8])), (a1, .inr (6, [.ref a2, .int x1_1, .int r3.2.1, .int r3.2.2])), (a2, .inl (G.2.1 0, n2, .inl f2)), (a3, .inr (1, [.ref a4, .int x3_1])), (a4, .inl (G.2.1 0, n4, .inl f4))]) [0, 2, 3, 4, 1] (by decide) rfl) hS ⟨a4, rfl⟩ (by omega) (by omega) d_Un_readStored_47
set_option maxHeartbeats 4000000 in
set_option maxRecDepth 100000 in
theorem w_Co_next_10 {p : Program} {l : Launch} {e : Env} {R : Room} {s : State} {m : MethodId} {args : Array Value} {below : List Frame} {meth : Method} {c : Code} {Q : State → Prop} {G : GX} {A : Nat → Prop} (C0 : Cx p s m args meth c b_Co_next 7 y_Co_next (some .int)) (hRf : 1 ≤ R.frames) (hRl : 23 ≤ R.locals) (hA : ∀ q, s.heap.size ≤ q → A q) (hK : KX G s) (hT : TX G A s) (N : Nat) (m1 : Nat) (g_1 : (Nat → Int32)) (m2 : Nat) (g_2 : (Nat → Int32)) (y3_1 : Int32) (m4 : Nat) (g_4 : (Nat → Int32)) (c0 c1 c2 c3 c4 u0_1 : Nat) (out : Nat × Int32 × Int32 × Int32 × Int32) {kc ks : Nat} (hkc : kc ≤ R.cells) (hks : ks ≤ R.slots)
    (kx48 : ∀ (H : Heap) (locs : List Loc) (ls : Array Slot), out.1 = 0 → va_P G.1 classes [(c0, .inr (7, [.ref c1, .ref u0_1, .ref c2])), (c1, .inl (G.2.1 1, m1, .inl g_1)), (c2, .inl (G.2.1 1, m2, .inl g_2)), (c3, .inr (6, [.ref c4, .int y3_1, .int out.2.2.2.1, .int out.2.2.2.2])), (c4, .inl (G.2.1 0, m4, .inl g_4))] H → va_D A [(c0, .inr (7, [.ref c1, .ref u0_1, .ref c2])), (c1, .inl (G.2.1 1, m1, .inl g_1)), (c2, .inl (G.2.1 1, m2, .inl g_2)), (c3, .inr (6, [.ref c4, .int y3_1, .int out.2.2.2.1, .int out.2.2.2.2])), (c4, .inl (G.2.1 0, m4, .inl g_4))] → va_S A s.heap H locs → lv_has ls 7 [(0, .ref c0), (4, .int out.2.1), (6, .int out.2.2.1)] → W p l e R s m args below meth c H locs kc ks Q (F0 m 48 ls []))
    (kx87 : ∀ (H : Heap) (locs : List Loc) (ls : Array Slot), out.1 = 1 → va_P G.1 classes [(c0, .inr (7, [.ref c1, .ref u0_1, .ref c2])), (c1, .inl (G.2.1 1, m1, .inl g_1)), (c2, .inl (G.2.1 1, m2, .inl g_2)), (c3, .inr (6, [.ref c4, .int y3_1, .int out.2.2.2.1, .int out.2.2.2.2])), (c4, .inl (G.2.1 0, m4, .inl g_4))] H → va_D A [(c0, .inr (7, [.ref c1, .ref u0_1, .ref c2])), (c1, .inl (G.2.1 1, m1, .inl g_1)), (c2, .inl (G.2.1 1, m2, .inl g_2)), (c3, .inr (6, [.ref c4, .int y3_1, .int out.2.2.2.1, .int out.2.2.2.2])), (c4, .inl (G.2.1 0, m4, .inl g_4))] → va_S A s.heap H locs → lv_has ls 7 [] → W p l e R s m args below meth c H locs kc ks Q (F0 m 87 ls [])) :
    ∀ (n : Nat) (i2 : Int32) (i3 : Int32) (i4 : Int32) (i5 : Int32) (y3_2 : Int32) (y3_3 : Int32) (H : Heap) (locs : List Loc) (ls : Array Slot), lp_Co_next_10 N m1 g_1 y3_1 m4 g_4 n i2 i3 i4 i5 y3_2 y3_3 = some out → va_P G.1 classes [(c0, .inr (7, [.ref c1, .ref u0_1, .ref c2])), (c1, .inl (G.2.1 1, m1, .inl g_1)), (c2, .inl (G.2.1 1, m2, .inl g_2)), (c3, .inr (6, [.ref c4, .int y3_1, .int y3_2, .int y3_3])), (c4, .inl (G.2.1 0, m4, .inl g_4))] H → va_D A [(c0, .inr (7, [.ref c1, .ref u0_1, .ref c2])), (c1, .inl (G.2.1 1, m1, .inl g_1)), (c2, .inl (G.2.1 1, m2, .inl g_2)), (c3, .inr (6, [.ref c4, .int y3_1, .int y3_2, .int y3_3])), (c4, .inl (G.2.1 0, m4, .inl g_4))] → va_S A s.heap H locs → lv_has ls 7 [(0, .ref c0), (1, .ref c3), (2, .int i2), (3, .int i3), (4, .int i4), (5, .int i5)] → W p l e R s m args below meth c H locs kc ks Q (F0 m 10 ls []) := by
  obtain ⟨hx, hb, hml, hown, hts, hr, hlocks, hin⟩ := id C0
  have hown : s.vm.findClass R_Co = some m.cls := hown
  intro n
  induction n with
  | zero => intro i2 i3 i4 i5 y3_2 y3_3 H locs ls h; cases h
  | succ n ih =>
    intro i2 i3 i4 i5 y3_2 y3_3 H locs ls h hP hD hS hl
    replace h : lb_Co_next_10 N m1 g_1 y3_1 m4 g_4 (lp_Co_next_10 N m1 g_1 y3_1 m4 g_4 n) i2 i3 i4 i5 y3_2 y3_3 = some out := h
    unfold lb_Co_next_10 at h
    refine lv_iload hx hb d_Co_next_10 (lv_at hl 5 rfl) ?_
    refine lv_bipush (v := 15) hx hb d_Co_next_12 (by decide) ?_
    refine lv_icmp_gt (tgt := 87) hx hb d_Co_next_14 (by decide) (fun cq13 => ?_) (fun cq13 => ?_)
    · replace h := (if_pos cq13).symm.trans h
      have eV := so1 h
      subst eV
      exact kx87 _ _ _ rfl hP hD hS (lv_sub hl [] rfl)
    · replace h := (if_neg cq13).symm.trans h
      refine lv_iload_n hx hb d_Co_next_17 rfl (lv_at hl 2 rfl) ?_
      refine lv_iconst (v := 1) hx hb d_Co_next_18 (by decide) ?_
      refine lv_ishl hx hb d_Co_next_19 ?_
      refine lv_aload_n hx hb d_Co_next_20 rfl (lv_at hl 1 rfl) ?_
      refine lv_iconst (v := 1) hx hb d_Co_next_21 (by decide) ?_
      obtain ⟨r14, hc14, h⟩ := Bd_e h
      refine xV_i0 (wr := [(c0, .inr (7, [.ref c1, .ref u0_1, .ref c2])), (c1, .inl (G.2.1 1, m1, .inl g_1)), (c2, .inl (G.2.1 1, m2, .inl g_2))]) (rest := [.int (i2 <<< ((1 : Int32) &&& 31))]) C0 hK hT hA hP hD hS hl.1 (c_BR_take l G c3 c4 _ y3_1 y3_2 y3_3 m4 g_4 1 N r14 hc14) (goodV q290 q266 q267 q68 q268) 1 rfl hd_BR_take (Nat.le_trans (by decide) hRf) (Nat.le_trans (by decide) hRl) [3, 4] [0, 1, 2] rfl rfl (by decide) (by decide) (by decide) 6 3 rfl rfl rfl (Nat.le_of_ble_eq_true rfl) d_Co_next_22 hkc hks (fun w1 H locs hE hP hD hS => ?_)
      subst hE
      have hP : va_P G.1 classes [(c0, .inr (7, [.ref c1, .ref u0_1, .ref c2])), (c1, .inl (G.2.1 1, m1, .inl g_1)), (c2, .inl (G.2.1 1, m2, .inl g_2)), (c3, .inr (6, [.ref c4, .int y3_1, .int r14.2.1, .int r14.2.2])), (c4, .inl (G.2.1 0, m4, .inl g_4))] H := hP
      have hD : va_D A [(c0, .inr (7, [.ref c1, .ref u0_1, .ref c2])), (c1, .inl (G.2.1 1, m1, .inl g_1)), (c2, .inl (G.2.1 1, m2, .inl g_2)), (c3, .inr (6, [.ref c4, .int y3_1, .int r14.2.1, .int r14.2.2])), (c4, .inl (G.2.1 0, m4, .inl g_4))] := hD
      refine lv_ior hx hb d_Co_next_25 ?_
      refine lv_topi (fun v15 ev15 => ?_)
      replace h := Lt_e h ev15
      refine lv_istore_n (lv' := [(2, .int v15), (0, .ref c0), (1, .ref c3), (3, .int i3), (4, .int i4), (5, .int i5)]) hx hb d_Co_next_26 rfl hl (by decide) rfl (fun ls hl => ?_)
      refine lv_iload_n hx hb d_Co_next_27 rfl (lv_at hl 3 rfl) ?_
      refine lv_iconst (v := 1) hx hb d_Co_next_28 (by decide) ?_
      refine lv_ishl hx hb d_Co_next_29 ?_
      refine lv_topi (fun v16 ev16 => ?_)
      replace h := Lt_e h ev16
      refine lv_istore_n (lv' := [(3, .int v16), (2, .int v15), (0, .ref c0), (1, .ref c3), (4, .int i4), (5, .int i5)]) hx hb d_Co_next_30 rfl hl (by decide) rfl (fun ls hl => ?_)
      refine lv_iload_n hx hb d_Co_next_31 rfl (lv_at hl 1 rfl) ?_
      refine lv_iload_n hx hb d_Co_next_32 rfl (lv_at hl 0 rfl) ?_
      refine lv_isub hx hb d_Co_next_33 ?_
      refine lv_topi (fun v17 ev17 => ?_)
      replace h := Lt_e h ev17
      refine lv_istore (lv' := [(6, .int v17), (3, .int v16), (2, .int v15), (0, .ref c0), (1, .ref c3), (4, .int i4), (5, .int i5)]) hx hb d_Co_next_34 hl (by decide) rfl (fun ls hl => ?_)
      refine lv_iload hx hb d_Co_next_36 (lv_at hl 0 rfl) ?_
      refine lv_aload_n hx hb d_Co_next_38 rfl (lv_at hl 3 rfl) ?_
      refine va_get (D := G.1) (ci := 7) (v := .ref c1) (C := R_Co) (T := F_Co) (N := 3) hx hb hts i_Co hown hK hP 0 rfl rfl 0 (by decide) (hts _ q83) (fun _ h9 => h9) rfl d_Co_next_39 ?_
      refine lv_iload hx hb d_Co_next_42 (lv_at hl 6 rfl) ?_
      obtain ⟨hi18, h⟩ := Ix_e h
      refine va_iald hx hb hK hP 1 1 rfl rfl hi18 d_Co_next_44 ?_
      refine lv_icmp_ge (tgt := 59) hx hb d_Co_next_45 (by decide) (fun cq19 => ?_) (fun cq19 => ?_)
      · replace h := (if_pos cq19).symm.trans h
        refine lv_iload hx hb d_Co_next_59 (lv_at hl 5 rfl) ?_
        refine lv_aload_n hx hb d_Co_next_61 rfl (lv_at hl 3 rfl) ?_
        refine va_get (D := G.1) (ci := 7) (v := .ref c1) (C := R_Co) (T := F_Co) (N := 3) hx hb hts i_Co hown hK hP 0 rfl rfl 0 (by decide) (hts _ q83) (fun _ h9 => h9) rfl d_Co_next_62 ?_
        refine lv_iload hx hb d_Co_next_65 (lv_at hl 6 rfl) ?_
        obtain ⟨hi20, h⟩ := Ix_e h
        refine va_iald hx hb hK hP 1 1 rfl rfl hi20 d_Co_next_67 ?_
        refine lv_iadd hx hb d_Co_next_68 ?_
        refine lv_topi (fun v21 ev21 => ?_)
        replace h := Lt_e h ev21
        refine lv_istore (lv' := [(4, .int v21), (6, .int v17), (3, .int v16), (2, .int v15), (0, .ref c0), (1, .ref c3), (5, .int i5)]) hx hb d_Co_next_69 hl (by decide) rfl (fun ls hl => ?_)
        refine lv_iload_n hx hb d_Co_next_71 rfl (lv_at hl 2 rfl) ?_
        refine lv_aload_n hx hb d_Co_next_72 rfl (lv_at hl 4 rfl) ?_
        refine va_get (D := G.1) (ci := 7) (v := .ref c1) (C := R_Co) (T := F_Co) (N := 3) hx hb hts i_Co hown hK hP 0 rfl rfl 0 (by decide) (hts _ q83) (fun _ h9 => h9) rfl d_Co_next_73 ?_
        refine lv_iload hx hb d_Co_next_76 (lv_at hl 6 rfl) ?_
        obtain ⟨hi22, h⟩ := Ix_e h
        refine va_iald hx hb hK hP 1 1 rfl rfl hi22 d_Co_next_78 ?_
        refine lv_iadd hx hb d_Co_next_79 ?_
        refine lv_topi (fun v23 ev23 => ?_)
        replace h := Lt_e h ev23
        refine lv_istore_n (lv' := [(3, .int v23), (4, .int v21), (6, .int v17), (2, .int v15), (0, .ref c0), (1, .ref c3), (5, .int i5)]) hx hb d_Co_next_80 rfl hl (by decide) rfl (fun ls hl => ?_)
        obtain ⟨v24, ev24⟩ : ∃ y : Int32, y = i5 + 1 := ⟨_, rfl⟩
        replace h := Lt_e h ev24
        refine lv_iinc (v := v24) (lv' := [(5, .int v24), (3, .int v23), (4, .int v21), (6, .int v17), (2, .int v15), (0, .ref c0), (1, .ref c3)]) hx hb d_Co_next_81 hl (k := 6) rfl (by rw [ev24]; rfl) (by decide) rfl (fun ls hl => ?_)
        refine lv_goto (tgt := 10) hx hb d_Co_next_84 (by decide) ?_
        exact ih v15 v23 v21 v24 r14.2.1 r14.2.2  _ _ _ h hP hD hS (lv_sub hl [5, 6, 4, 1, 2, 0] rfl)
      · replace h := (if_neg cq19).symm.trans h
        have eV := so1 h
        subst eV
        exact kx48 _ _ _ rfl hP hD hS (lv_sub hl [3, 5, 0] rfl)
set_option maxHeartbeats 4000000 in
set_option maxRecDepth 100000 in
theorem c_Co_next (l : Launch) (G : GX) (a0 a1 a2 a3 a4 o2_1 : Nat) (sz : Nat) (x0_1 : Int32) (x0_2 : Int32) (x0_3 : Int32) (n1 : Nat) (f1 : (Nat → Int32)) (n3 : Nat) (f3 : (Nat → Int32)) (n4 : Nat) (f4 : (Nat → Int32))  (N : Nat) (V : Int32 × Int32 × Int32) (h : f_Co_next N x0_1 x0_2 x0_3 n1 f1 n3 f3 n4 f4 = some V) :
    Met l y_Co_next (wd y_Co_next b_Co_next 7 (some .int)) { frames := 1, cells := 0, slots := 0, locals := 23 } (PX G [.ref a2, .ref a0] sz [(a0, .inr (6, [.ref a1, .int x0_1, .int x0_2, .int x0_3])), (a1, .inl (G.2.1 0, n1, .inl f1)), (a2, .inr (7, [.ref a3, .ref o2_1, .ref a4])), (a3, .inl (G.2.1 1, n3, .inl f3)), (a4, .inl (G.2.1 1, n4, .inl f4))])
      (QXi G V.1 (fun w => w = [(a0, .inr (6, [.ref a1, .int x0_1, .int V.2.1, .int V.2.2])), (a1, .inl (G.2.1 0, n1, .inl f1)), (a2, .inr (7, [.ref a3, .ref o2_1, .ref a4])), (a3, .inl (G.2.1 1, n3, .inl f3)), (a4, .inl (G.2.1 1, n4, .inl f4))]) (va_A [(a0, .inr (6, [.ref a1, .int x0_1, .int x0_2, .int x0_3])), (a1, .inl (G.2.1 0, n1, .inl f1)), (a2, .inr (7, [.ref a3, .ref o2_1, .ref a4])), (a3, .inl (G.2.1 1, n3, .inl f3)), (a4, .inl (G.2.1 1, n4, .inl f4))] sz)) 0 0 (va_A [(a0, .inr (6, [.ref a1, .int x0_1, .int x0_2, .int x0_3])), (a1, .inl (G.2.1 0, n1, .inl f1)), (a2, .inr (7, [.ref a3, .ref o2_1, .ref a4])), (a3, .inl (G.2.1 1, n3, .inl f3)), (a4, .inl (G.2.1 1, n4, .inl f4))] sz) := by
  refine Met_in (QQ := fun A => QXi G V.1 (fun w => w = [(a0, .inr (6, [.ref a1, .int x0_1, .int V.2.1, .int V.2.2])), (a1, .inl (G.2.1 0, n1, .inl f1)), (a2, .inr (7, [.ref a3, .ref o2_1, .ref a4])), (a3, .inl (G.2.1 1, n3, .inl f3)), (a4, .inl (G.2.1 1, n4, .inl f4))]) A) (by decide) (Nat.le_of_ble_eq_true rfl) (fun p e s m below meth c R Q A ls C0 hRf hRl hRc hRs hP hK hD hT hA hS hl hQ => ?_)
  obtain ⟨hx, hb, hml, hown, hts, hr, hlocks, hin⟩ := id C0
  have hown : s.vm.findClass R_Co = some m.cls := hown
  have hl : lv_has ls 7 [(0, .ref a2), (1, .ref a0)] := hl
  unfold f_Co_next at h
  have hkc : 0 ≤ R.cells := Nat.zero_le _
  have hks : 0 ≤ R.slots := Nat.zero_le _
  obtain ⟨H, hH⟩ : ∃ H, H = s.heap := ⟨_, rfl⟩
  obtain ⟨locs, hlc⟩ : ∃ x : List Loc, x = [] := ⟨_, rfl⟩
  rw [← hH] at hP
  have hS : va_S A s.heap H locs := by rw [hH, hlc]; exact hS
  suffices hgo : W p l e R s m [.ref a2, .ref a0].toArray below meth c H locs 0 0 Q (F0 m 0 ls []) by rw [hH, hlc] at hgo; exact hgo
  refine lv_iconst (v := 0) hx hb d_Co_next_0 (by decide) ?_
  refine lv_istore_n (lv' := [(2, .int 0), (0, .ref a2), (1, .ref a0)]) hx hb d_Co_next_1 rfl hl (by decide) rfl (fun ls hl => ?_)
  refine lv_iconst (v := 0) hx hb d_Co_next_2 (by decide) ?_
  refine lv_istore_n (lv' := [(3, .int 0), (2, .int 0), (0, .ref a2), (1, .ref a0)]) hx hb d_Co_next_3 rfl hl (by decide) rfl (fun ls hl => ?_)
  refine lv_iconst (v := 0) hx hb d_Co_next_4 (by decide) ?_
  refine lv_istore (lv' := [(4, .int 0), (3, .int 0), (2, .int 0), (0, .ref a2), (1, .ref a0)]) hx hb d_Co_next_5 hl (by decide) rfl (fun ls hl => ?_)
  refine lv_iconst (v := 1) hx hb d_Co_next_7 (by decide) ?_
  refine lv_istore (lv' := [(5, .int 1), (4, .int 0), (3, .int 0), (2, .int 0), (0, .ref a2), (1, .ref a0)]) hx hb d_Co_next_8 hl (by decide) rfl (fun ls hl => ?_)
  obtain ⟨r25, hc25, h⟩ := Bd_e h
  refine w_Co_next_10 C0 hRf hRl hA hK hT N n3 f3 n4 f4 x0_1 n1 f1 a2 a3 a4 a0 a1 o2_1 r25 (kc := 0) (ks := 0) hkc hks ?_ ?_ N 0 0 0 1 x0_2 x0_3  _ _ _ hc25 (hP.sub (ws' := [(a2, .inr (7, [.ref a3, .ref o2_1, .ref a4])), (a3, .inl (G.2.1 1, n3, .inl f3)), (a4, .inl (G.2.1 1, n4, .inl f4)), (a0, .inr (6, [.ref a1, .int x0_1, .int x0_2, .int x0_3])), (a1, .inl (G.2.1 0, n1, .inl f1))]) [2, 3, 4, 0, 1] rfl) (hD.sub (ws' := [(a2, .inr (7, [.ref a3, .ref o2_1, .ref a4])), (a3, .inl (G.2.1 1, n3, .inl f3)), (a4, .inl (G.2.1 1, n4, .inl f4)), (a0, .inr (6, [.ref a1, .int x0_1, .int x0_2, .int x0_3])), (a1, .inl (G.2.1 0, n1, .inl f1))]) [2, 3, 4, 0, 1] (by decide) rfl) hS (lv_sub hl [4, 5, 3, 2, 1, 0] rfl)
  · intro H locs ls et hP hD hS hl
    replace h := (if_pos et).symm.trans h
    refine lv_aload_n hx hb d_Co_next_48 rfl (lv_at hl 0 rfl) ?_
    refine va_get (D := G.1) (ci := 7) (v := .ref a4) (C := R_Co) (T := F_Co) (N := 3) hx hb hts i_Co hown hK hP 0 rfl rfl 2 (by decide) (hts _ q85) (fun _ h9 => h9) rfl d_Co_next_49 ?_
    refine lv_iload hx hb d_Co_next_52 (lv_at hl 1 rfl) ?_
    refine lv_iload hx hb d_Co_next_54 (lv_at hl 2 rfl) ?_
    refine lv_iadd hx hb d_Co_next_56 ?_
    obtain ⟨hi26, h⟩ := Ix_e h
    refine va_iald hx hb hK hP 2 1 rfl rfl hi26 d_Co_next_57 ?_
    have eV := so1 h
    subst eV
    exact x_iret C0 hQ (hP.sub (ws' := [(a0, .inr (6, [.ref a1, .int x0_1, .int r25.2.2.2.1, .int r25.2.2.2.2])), (a1, .inl (G.2.1 0, n1, .inl f1)), (a2, .inr (7, [.ref a3, .ref o2_1, .ref a4])), (a3, .inl (G.2.1 1, n3, .inl f3)), (a4, .inl (G.2.1 1, n4, .inl f4))]) [3, 4, 0, 1, 2] rfl) (hD.sub (ws' := [(a0, .inr (6, [.ref a1, .int x0_1, .int r25.2.2.2.1, .int r25.2.2.2.2])), (a1, .inl (G.2.1 0, n1, .inl f1)), (a2, .inr (7, [.ref a3, .ref o2_1, .ref a4])), (a3, .inl (G.2.1 1, n3, .inl f3)), (a4, .inl (G.2.1 1, n4, .inl f4))]) [3, 4, 0, 1, 2] (by decide) rfl) hS rfl (Nat.zero_le _) (Nat.zero_le _) d_Co_next_58
  · intro H locs ls et hP hD hS hl
    replace h := (if_neg (show ¬ r25.1 = 0 by rw [et]; decide)).symm.trans h
    refine lv_iconst (v := (-1)) hx hb d_Co_next_87 (by decide) ?_
    have eV := so1 h
    subst eV
    exact x_iret C0 hQ (hP.sub (ws' := [(a0, .inr (6, [.ref a1, .int x0_1, .int r25.2.2.2.1, .int r25.2.2.2.2])), (a1, .inl (G.2.1 0, n1, .inl f1)), (a2, .inr (7, [.ref a3, .ref o2_1, .ref a4])), (a3, .inl (G.2.1 1, n3, .inl f3)), (a4, .inl (G.2.1 1, n4, .inl f4))]) [3, 4, 0, 1, 2] rfl) (hD.sub (ws' := [(a0, .inr (6, [.ref a1, .int x0_1, .int r25.2.2.2.1, .int r25.2.2.2.2])), (a1, .inl (G.2.1 0, n1, .inl f1)), (a2, .inr (7, [.ref a3, .ref o2_1, .ref a4])), (a3, .inl (G.2.1 1, n3, .inl f3)), (a4, .inl (G.2.1 1, n4, .inl f4))]) [3, 4, 0, 1, 2] (by decide) rfl) hS rfl (Nat.zero_le _) (Nat.zero_le _) d_Co_next_88
set_option maxHeartbeats 4000000 in
set_option maxRecDepth 100000 in
theorem w_Un_readPair_104 {p : Program} {l : Launch} {e : Env} {R : Room} {s : State} {m : MethodId} {args : Array Value} {below : List Frame} {meth : Method} {c : Code} {Q : State → Prop} {G : GX} {A : Nat → Prop} (C0 : Cx p s m args meth c b_Un_readPair 8 y_Un_readPair (some .boolean)) (hRf : 4 ≤ R.frames) (hRl : 125 ≤ R.locals) (hA : ∀ q, s.heap.size ≤ q → A q) (hK : KX G s) (hT : TX G A s) (N : Nat) (i4 : Int32) (i6 : Int32) (y0_7 : Int32) (y0_8 : Int32) (y1_1 : Int32) (y1_2 : Int32) (y1_3 : Int32) (m2 : Nat) (g_2 : (Nat → Int32)) (m4 : Nat) (g_4 : (Nat → Int32)) (m5 : Nat) (g_5 : (Nat → Int32)) (c0 c1 c2 c3 c4 c5 c6 u0_1 u0_2 u0_3 u0_4 u0_5 u0_6 u3_1 : Nat) (out : Int32 × Nat × (Nat → Int32)) {KT ZT : Nat} (hKT : KT ≤ R.cells) (hZT : ZT ≤ R.slots)
    (kx132 : ∀ (c7' : Nat) (H : Heap) (locs : List Loc) (ls : Array Slot), va_P G.1 classes [(c0, .inr (8, [.ref c1, .ref u0_1, .ref u0_2, .ref u0_3, .ref u0_4, .ref u0_5, .ref u0_6, .int y0_7, .int y0_8])), (c1, .inr (6, [.ref c2, .int y1_1, .int y1_2, .int y1_3])), (c2, .inl (G.2.1 0, m2, .inl g_2)), (c3, .inr (7, [.ref c4, .ref u3_1, .ref c5])), (c4, .inl (G.2.1 1, m4, .inl g_4)), (c5, .inl (G.2.1 1, m5, .inl g_5)), (c6, .inr (1, [.ref c7', .int out.1])), (c7', .inl (G.2.1 0, out.2.1, .inl out.2.2))] H → va_D A [(c0, .inr (8, [.ref c1, .ref u0_1, .ref u0_2, .ref u0_3, .ref u0_4, .ref u0_5, .ref u0_6, .int y0_7, .int y0_8])), (c1, .inr (6, [.ref c2, .int y1_1, .int y1_2, .int y1_3])), (c2, .inl (G.2.1 0, m2, .inl g_2)), (c3, .inr (7, [.ref c4, .ref u3_1, .ref c5])), (c4, .inl (G.2.1 1, m4, .inl g_4)), (c5, .inl (G.2.1 1, m5, .inl g_5)), (c6, .inr (1, [.ref c7', .int out.1])), (c7', .inl (G.2.1 0, out.2.1, .inl out.2.2))] → va_S A s.heap H locs → lv_has ls 8 [] → W p l e R s m args below meth c H locs KT ZT Q (F0 m 132 ls [])) :
    ∀ (n : Nat) (i7 : Int32) (y6_1 : Int32) (m7 : Nat) (g_7 : (Nat → Int32)) (c7 : Nat) (kc ks k z : Nat) (H : Heap) (locs : List Loc) (ls : Array Slot), lp_Un_readPair_104 N i4 i6 n i7 y6_1 m7 g_7 = some (out, k, z) → kc + k = KT → ks + z = ZT → va_P G.1 classes [(c0, .inr (8, [.ref c1, .ref u0_1, .ref u0_2, .ref u0_3, .ref u0_4, .ref u0_5, .ref u0_6, .int y0_7, .int y0_8])), (c1, .inr (6, [.ref c2, .int y1_1, .int y1_2, .int y1_3])), (c2, .inl (G.2.1 0, m2, .inl g_2)), (c3, .inr (7, [.ref c4, .ref u3_1, .ref c5])), (c4, .inl (G.2.1 1, m4, .inl g_4)), (c5, .inl (G.2.1 1, m5, .inl g_5)), (c6, .inr (1, [.ref c7, .int y6_1])), (c7, .inl (G.2.1 0, m7, .inl g_7))] H → va_D A [(c0, .inr (8, [.ref c1, .ref u0_1, .ref u0_2, .ref u0_3, .ref u0_4, .ref u0_5, .ref u0_6, .int y0_7, .int y0_8])), (c1, .inr (6, [.ref c2, .int y1_1, .int y1_2, .int y1_3])), (c2, .inl (G.2.1 0, m2, .inl g_2)), (c3, .inr (7, [.ref c4, .ref u3_1, .ref c5])), (c4, .inl (G.2.1 1, m4, .inl g_4)), (c5, .inl (G.2.1 1, m5, .inl g_5)), (c6, .inr (1, [.ref c7, .int y6_1])), (c7, .inl (G.2.1 0, m7, .inl g_7))] → va_S A s.heap H locs → lv_has ls 8 [(3, .ref c6), (4, .int i4), (6, .int i6), (7, .int i7)] → W p l e R s m args below meth c H locs kc ks Q (F0 m 104 ls []) := by
  obtain ⟨hx, hb, hml, hown, hts, hr, hlocks, hin⟩ := id C0
  have hown : s.vm.findClass R_Un = some m.cls := hown
  intro n
  induction n with
  | zero => intro i7 y6_1 m7 g_7 c7 kc ks k z H locs ls h; cases h
  | succ n ih =>
    intro i7 y6_1 m7 g_7 c7 kc ks k z H locs ls h ekc ezc hP hD hS hl
    replace h : lb_Un_readPair_104 N i4 i6 (lp_Un_readPair_104 N i4 i6 n) i7 y6_1 m7 g_7 = some (out, k, z) := h
    unfold lb_Un_readPair_104 at h
    refine lv_iload hx hb d_Un_readPair_104 (lv_at hl 3 rfl) ?_
    refine lv_iload hx hb d_Un_readPair_106 (lv_at hl 1 rfl) ?_
    refine lv_icmp_ge (tgt := 132) hx hb d_Un_readPair_108 (by decide) (fun cq23 => ?_) (fun cq23 => ?_)
    · replace h := (if_pos cq23).symm.trans h
      obtain ⟨eV, ek, ez⟩ := so3 h
      subst eV
      refine W.widen (k := KT) (n := ZT) (by omega) (by omega) ?_
      exact kx132 c7 _ _ _ hP hD hS (lv_sub hl [] rfl)
    · replace h := (if_neg cq23).symm.trans h
      refine lv_aload_n hx hb d_Un_readPair_111 rfl (lv_at hl 0 rfl) ?_
      refine lv_aload_n hx hb d_Un_readPair_112 rfl (lv_at hl 0 rfl) ?_
      refine lv_aload_n hx hb d_Un_readPair_113 rfl (lv_at hl 0 rfl) ?_
      obtain ⟨r24, hc24, h⟩ := Bd_e h
      refine xV_i0 (wr := [(c0, .inr (8, [.ref c1, .ref u0_1, .ref u0_2, .ref u0_3, .ref u0_4, .ref u0_5, .ref u0_6, .int y0_7, .int y0_8])), (c1, .inr (6, [.ref c2, .int y1_1, .int y1_2, .int y1_3])), (c2, .inl (G.2.1 0, m2, .inl g_2)), (c3, .inr (7, [.ref c4, .ref u3_1, .ref c5])), (c4, .inl (G.2.1 1, m4, .inl g_4)), (c5, .inl (G.2.1 1, m5, .inl g_5)), (c7, .inl (G.2.1 0, m7, .inl g_7))]) (rest := [.ref c6, .ref c6]) C0 hK hT hA hP hD hS hl.1 (c_Row_length l G c6 c7 _ y6_1  N r24 hc24) (goodV q279 q110 q111 q5 q112) 0 rfl hd_Row_length (Nat.le_trans (by decide) hRf) (Nat.le_trans (by decide) hRl) [6] [0, 1, 2, 3, 4, 5, 7] rfl rfl (by decide) (by decide) (by decide) 1 6 rfl rfl rfl (Nat.le_of_ble_eq_true rfl) d_Un_readPair_114 (by omega) (by omega) (fun w1 H locs hE hP hD hS => ?_)
      subst hE
      have hP : va_P G.1 classes [(c0, .inr (8, [.ref c1, .ref u0_1, .ref u0_2, .ref u0_3, .ref u0_4, .ref u0_5, .ref u0_6, .int y0_7, .int y0_8])), (c1, .inr (6, [.ref c2, .int y1_1, .int y1_2, .int y1_3])), (c2, .inl (G.2.1 0, m2, .inl g_2)), (c3, .inr (7, [.ref c4, .ref u3_1, .ref c5])), (c4, .inl (G.2.1 1, m4, .inl g_4)), (c5, .inl (G.2.1 1, m5, .inl g_5)), (c7, .inl (G.2.1 0, m7, .inl g_7)), (c6, .inr (1, [.ref c7, .int y6_1]))] H := hP
      have hD : va_D A [(c0, .inr (8, [.ref c1, .ref u0_1, .ref u0_2, .ref u0_3, .ref u0_4, .ref u0_5, .ref u0_6, .int y0_7, .int y0_8])), (c1, .inr (6, [.ref c2, .int y1_1, .int y1_2, .int y1_3])), (c2, .inl (G.2.1 0, m2, .inl g_2)), (c3, .inr (7, [.ref c4, .ref u3_1, .ref c5])), (c4, .inl (G.2.1 1, m4, .inl g_4)), (c5, .inl (G.2.1 1, m5, .inl g_5)), (c7, .inl (G.2.1 0, m7, .inl g_7)), (c6, .inr (1, [.ref c7, .int y6_1]))] := hD
      refine lv_iload hx hb d_Un_readPair_117 (lv_at hl 2 rfl) ?_
      refine lv_isub hx hb d_Un_readPair_119 ?_
      obtain ⟨r25, hc25, h⟩ := Bd_e h
      refine xV_i0 (wr := [(c0, .inr (8, [.ref c1, .ref u0_1, .ref u0_2, .ref u0_3, .ref u0_4, .ref u0_5, .ref u0_6, .int y0_7, .int y0_8])), (c1, .inr (6, [.ref c2, .int y1_1, .int y1_2, .int y1_3])), (c2, .inl (G.2.1 0, m2, .inl g_2)), (c3, .inr (7, [.ref c4, .ref u3_1, .ref c5])), (c4, .inl (G.2.1 1, m4, .inl g_4)), (c5, .inl (G.2.1 1, m5, .inl g_5))]) (rest := [.ref c6]) C0 hK hT hA hP hD hS hl.1 (c_Row_at l G c6 c7 _ y6_1 m7 g_7 (r24 - i6) N r25 hc25) (goodV q299 q160 q161 q5 q162) 1 rfl hd_Row_at (Nat.le_trans (by decide) hRf) (Nat.le_trans (by decide) hRl) [7, 6] [0, 1, 2, 3, 4, 5] rfl rfl (by decide) (by decide) (by decide) 1 7 rfl rfl rfl (Nat.le_of_ble_eq_true rfl) d_Un_readPair_120 (by omega) (by omega) (fun w1 H locs hE hP hD hS => ?_)
      subst hE
      have hP : va_P G.1 classes [(c0, .inr (8, [.ref c1, .ref u0_1, .ref u0_2, .ref u0_3, .ref u0_4, .ref u0_5, .ref u0_6, .int y0_7, .int y0_8])), (c1, .inr (6, [.ref c2, .int y1_1, .int y1_2, .int y1_3])), (c2, .inl (G.2.1 0, m2, .inl g_2)), (c3, .inr (7, [.ref c4, .ref u3_1, .ref c5])), (c4, .inl (G.2.1 1, m4, .inl g_4)), (c5, .inl (G.2.1 1, m5, .inl g_5)), (c6, .inr (1, [.ref c7, .int y6_1])), (c7, .inl (G.2.1 0, m7, .inl g_7))] H := hP
      have hD : va_D A [(c0, .inr (8, [.ref c1, .ref u0_1, .ref u0_2, .ref u0_3, .ref u0_4, .ref u0_5, .ref u0_6, .int y0_7, .int y0_8])), (c1, .inr (6, [.ref c2, .int y1_1, .int y1_2, .int y1_3])), (c2, .inl (G.2.1 0, m2, .inl g_2)), (c3, .inr (7, [.ref c4, .ref u3_1, .ref c5])), (c4, .inl (G.2.1 1, m4, .inl g_4)), (c5, .inl (G.2.1 1, m5, .inl g_5)), (c6, .inr (1, [.ref c7, .int y6_1])), (c7, .inl (G.2.1 0, m7, .inl g_7))] := hD
      obtain ⟨r26, k26, z26, kk26, zz26, hc26, h, ek26, ez26⟩ := Bk_e h
      have ekc : kc + k26 + kk26 = KT := by omega
      have ezc : ks + z26 + zz26 = ZT := by omega
      refine xV_v (wr := [(c0, .inr (8, [.ref c1, .ref u0_1, .ref u0_2, .ref u0_3, .ref u0_4, .ref u0_5, .ref u0_6, .int y0_7, .int y0_8])), (c1, .inr (6, [.ref c2, .int y1_1, .int y1_2, .int y1_3])), (c2, .inl (G.2.1 0, m2, .inl g_2)), (c3, .inr (7, [.ref c4, .ref u3_1, .ref c5])), (c4, .inl (G.2.1 1, m4, .inl g_4)), (c5, .inl (G.2.1 1, m5, .inl g_5))]) (rest := []) C0 hK hT hA hP hD hS hl.1 (c_Row_add l G c6 c7 _ y6_1 m7 g_7 r25 N r26 k26 z26 hc26) (goodV q285 q135 q136 q5 q137) 1 rfl hd_Row_add (Nat.le_trans (by decide) hRf) (Nat.le_trans (by decide) hRl) [6, 7] [0, 1, 2, 3, 4, 5] rfl rfl (by decide) (by decide) (by decide) 1 6 rfl rfl rfl (Nat.le_of_ble_eq_true rfl) d_Un_readPair_123 (by omega) (by omega) (fun w1 H locs hE hP hD hS => ?_)
      obtain ⟨b27, rfl⟩ := hE
      have hP : va_P G.1 classes [(c0, .inr (8, [.ref c1, .ref u0_1, .ref u0_2, .ref u0_3, .ref u0_4, .ref u0_5, .ref u0_6, .int y0_7, .int y0_8])), (c1, .inr (6, [.ref c2, .int y1_1, .int y1_2, .int y1_3])), (c2, .inl (G.2.1 0, m2, .inl g_2)), (c3, .inr (7, [.ref c4, .ref u3_1, .ref c5])), (c4, .inl (G.2.1 1, m4, .inl g_4)), (c5, .inl (G.2.1 1, m5, .inl g_5)), (c6, .inr (1, [.ref b27, .int r26.1])), (b27, .inl (G.2.1 0, r26.2.1, .inl r26.2.2))] H := hP
      have hD : va_D A [(c0, .inr (8, [.ref c1, .ref u0_1, .ref u0_2, .ref u0_3, .ref u0_4, .ref u0_5, .ref u0_6, .int y0_7, .int y0_8])), (c1, .inr (6, [.ref c2, .int y1_1, .int y1_2, .int y1_3])), (c2, .inl (G.2.1 0, m2, .inl g_2)), (c3, .inr (7, [.ref c4, .ref u3_1, .ref c5])), (c4, .inl (G.2.1 1, m4, .inl g_4)), (c5, .inl (G.2.1 1, m5, .inl g_5)), (c6, .inr (1, [.ref b27, .int r26.1])), (b27, .inl (G.2.1 0, r26.2.1, .inl r26.2.2))] := hD
      obtain ⟨v28, ev28⟩ : ∃ y : Int32, y = i7 + 1 := ⟨_, rfl⟩
      replace h := Lt_e h ev28
      refine lv_iinc (v := v28) (lv' := [(7, .int v28), (3, .ref c6), (4, .int i4), (6, .int i6)]) hx hb d_Un_readPair_126 hl (k := 3) rfl (by rw [ev28]; rfl) (by decide) rfl (fun ls hl => ?_)
      refine lv_goto (tgt := 104) hx hb d_Un_readPair_129 (by decide) ?_
      exact ih v28 r26.1 r26.2.1 r26.2.2 b27 _ _ _ _ _ _ _ h (by omega) (by omega) hP hD hS (lv_sub hl [1, 2, 3, 0] rfl)
set_option maxHeartbeats 4000000 in
set_option maxRecDepth 100000 in
theorem c_Un_readPair (l : Launch) (G : GX) (a0 a1 a2 a3 a4 a5 a6 a7 o0_1 o0_2 o0_3 o0_4 o0_5 o0_6 o3_1 : Nat) (sz : Nat) (x0_7 : Int32) (x0_8 : Int32) (x1_1 : Int32) (x1_2 : Int32) (x1_3 : Int32) (n2 : Nat) (f2 : (Nat → Int32)) (n4 : Nat) (f4 : (Nat → Int32)) (n5 : Nat) (f5 : (Nat → Int32)) (x6_1 : Int32) (n7 : Nat) (f7 : (Nat → Int32)) (p1 : Int32) (N : Nat) (V : Int32 × Int32 × Int32 × Int32 × Nat × (Nat → Int32)) (K Z : Nat) (h : f_Un_readPair N x1_1 x1_2 x1_3 n2 f2 n4 f4 n5 f5 x6_1 n7 f7 p1 = some (V, K, Z)) :
    Met l y_Un_readPair (wd y_Un_readPair b_Un_readPair 8 (some .boolean)) { frames := 4, cells := K, slots := Z, locals := 125 } (PX G [.ref a0, .int p1, .ref a3, .ref a6] sz [(a0, .inr (8, [.ref a1, .ref o0_1, .ref o0_2, .ref o0_3, .ref o0_4, .ref o0_5, .ref o0_6, .int x0_7, .int x0_8])), (a1, .inr (6, [.ref a2, .int x1_1, .int x1_2, .int x1_3])), (a2, .inl (G.2.1 0, n2, .inl f2)), (a3, .inr (7, [.ref a4, .ref o3_1, .ref a5])), (a4, .inl (G.2.1 1, n4, .inl f4)), (a5, .inl (G.2.1 1, n5, .inl f5)), (a6, .inr (1, [.ref a7, .int x6_1])), (a7, .inl (G.2.1 0, n7, .inl f7))])
      (QXi G V.1 (fun w => ∃ e0 : Nat, w = [(a0, .inr (8, [.ref a1, .ref o0_1, .ref o0_2, .ref o0_3, .ref o0_4, .ref o0_5, .ref o0_6, .int x0_7, .int x0_8])), (a1, .inr (6, [.ref a2, .int x1_1, .int V.2.1, .int V.2.2.1])), (a2, .inl (G.2.1 0, n2, .inl f2)), (a3, .inr (7, [.ref a4, .ref o3_1, .ref a5])), (a4, .inl (G.2.1 1, n4, .inl f4)), (a5, .inl (G.2.1 1, n5, .inl f5)), (a6, .inr (1, [.ref e0, .int V.2.2.2.1])), (e0, .inl (G.2.1 0, V.2.2.2.2.1, .inl V.2.2.2.2.2))]) (va_A [(a0, .inr (8, [.ref a1, .ref o0_1, .ref o0_2, .ref o0_3, .ref o0_4, .ref o0_5, .ref o0_6, .int x0_7, .int x0_8])), (a1, .inr (6, [.ref a2, .int x1_1, .int x1_2, .int x1_3])), (a2, .inl (G.2.1 0, n2, .inl f2)), (a3, .inr (7, [.ref a4, .ref o3_1, .ref a5])), (a4, .inl (G.2.1 1, n4, .inl f4)), (a5, .inl (G.2.1 1, n5, .inl f5)), (a6, .inr (1, [.ref a7, .int x6_1])), (a7, .inl (G.2.1 0, n7, .inl f7))] sz)) K Z (va_A [(a0, .inr (8, [.ref a1, .ref o0_1, .ref o0_2, .ref o0_3, .ref o0_4, .ref o0_5, .ref o0_6, .int x0_7, .int x0_8])), (a1, .inr (6, [.ref a2, .int x1_1, .int x1_2, .int x1_3])), (a2, .inl (G.2.1 0, n2, .inl f2)), (a3, .inr (7, [.ref a4, .ref o3_1, .ref a5])), (a4, .inl (G.2.1 1, n4, .inl f4)), (a5, .inl (G.2.1 1, n5, .inl f5)), (a6, .inr (1, [.ref a7, .int x6_1])), (a7, .inl (G.2.1 0, n7, .inl f7))] sz) := by
  refine Met_in (QQ := fun A => QXi G V.1 (fun w => ∃ e0 : Nat, w = [(a0, .inr (8, [.ref a1, .ref o0_1, .ref o0_2, .ref o0_3, .ref o0_4, .ref o0_5, .ref o0_6, .int x0_7, .int x0_8])), (a1, .inr (6, [.ref a2, .int x1_1, .int V.2.1, .int V.2.2.1])), (a2, .inl (G.2.1 0, n2, .inl f2)), (a3, .inr (7, [.ref a4, .ref o3_1, .ref a5])), (a4, .inl (G.2.1 1, n4, .inl f4)), (a5, .inl (G.2.1 1, n5, .inl f5)), (a6, .inr (1, [.ref e0, .int V.2.2.2.1])), (e0, .inl (G.2.1 0, V.2.2.2.2.1, .inl V.2.2.2.2.2))]) A) (by decide) (Nat.le_of_ble_eq_true rfl) (fun p e s m below meth c R Q A ls C0 hRf hRl hRc hRs hP hK hD hT hA hS hl hQ => ?_)
  obtain ⟨hx, hb, hml, hown, hts, hr, hlocks, hin⟩ := id C0
  have hown : s.vm.findClass R_Un = some m.cls := hown
  have hl : lv_has ls 8 [(0, .ref a0), (1, .int p1), (2, .ref a3), (3, .ref a6)] := hl
  unfold f_Un_readPair at h
  have hKT : K ≤ R.cells := Nat.le_of_eq hRc.symm
  have hZT : Z ≤ R.slots := Nat.le_of_eq hRs.symm
  have ekc : 0 + K = K := by omega
  have ezc : 0 + Z = Z := by omega
  obtain ⟨H, hH⟩ : ∃ H, H = s.heap := ⟨_, rfl⟩
  obtain ⟨locs, hlc⟩ : ∃ x : List Loc, x = [] := ⟨_, rfl⟩
  rw [← hH] at hP
  have hS : va_S A s.heap H locs := by rw [hH, hlc]; exact hS
  suffices hgo : W p l e R s m [.ref a0, .int p1, .ref a3, .ref a6].toArray below meth c H locs 0 0 Q (F0 m 0 ls []) by rw [hH, hlc] at hgo; exact hgo
  refine lv_iload_n hx hb d_Un_readPair_0 rfl (lv_at hl 1 rfl) ?_
  refine va_getsN hx hb hT.1.1 hS hown (hts _ q295) (fun _ h9 => h9) d_Un_readPair_1 ?_
  refine va_tlen (v := 29) hx hb hT.1.2 hS (by decide) d_Un_readPair_4 ?_
  refine lv_icmp_lt (tgt := 10) hx hb d_Un_readPair_5 (by decide) (fun cq1 => ?_) (fun cq1 => ?_)
  · replace h := (if_pos cq1).symm.trans h
    refine va_getsN hx hb hT.1.1 hS hown (hts _ q295) (fun _ h9 => h9) d_Un_readPair_10 ?_
    refine lv_iload_n hx hb d_Un_readPair_13 rfl (lv_at hl 1 rfl) ?_
    obtain ⟨hi2, h⟩ := Ix_e h
    refine va_ti hx hb hT.1.2 hS hi2 (v := .int (tb 0 (p1).toNatClampNeg)) rfl d_Un_readPair_14 ?_
    refine lv_aload_n hx hb d_Un_readPair_15 rfl (lv_at hl 0 rfl) ?_
    refine va_get (D := G.1) (ci := 8) (v := .ref a1) (C := R_Un) (T := F_Un) (N := 9) hx hb hts i_Un hown hK hP 0 rfl rfl 0 (by decide) (hts _ q77) (fun _ h9 => h9) rfl d_Un_readPair_16 ?_
    refine va_getsN hx hb hT.2.1.1 hS hown (hts _ q296) (fun _ h9 => h9) d_Un_readPair_19 ?_
    refine lv_iload_n hx hb d_Un_readPair_22 rfl (lv_at hl 1 rfl) ?_
    obtain ⟨hi3, h⟩ := Ix_e h
    refine va_ti hx hb hT.2.1.2 hS hi3 (v := .int (tb 1 (p1).toNatClampNeg)) rfl d_Un_readPair_23 ?_
    obtain ⟨r4, hc4, h⟩ := Bd_e h
    refine xV_i0 (wr := [(a0, .inr (8, [.ref a1, .ref o0_1, .ref o0_2, .ref o0_3, .ref o0_4, .ref o0_5, .ref o0_6, .int x0_7, .int x0_8])), (a3, .inr (7, [.ref a4, .ref o3_1, .ref a5])), (a4, .inl (G.2.1 1, n4, .inl f4)), (a5, .inl (G.2.1 1, n5, .inl f5)), (a6, .inr (1, [.ref a7, .int x6_1])), (a7, .inl (G.2.1 0, n7, .inl f7))]) (rest := [.int (tb 0 (p1).toNatClampNeg)]) C0 hK hT hA hP hD hS hl.1 (c_BR_take l G a1 a2 _ x1_1 x1_2 x1_3 n2 f2 (tb 1 (p1).toNatClampNeg) N r4 hc4) (goodV q265 q266 q267 q68 q268) 1 rfl hd_BR_take (Nat.le_trans (by decide) hRf) (Nat.le_trans (by decide) hRl) [1, 2] [0, 3, 4, 5, 6, 7] rfl rfl (by decide) (by decide) (by decide) 6 1 rfl rfl rfl (Nat.le_of_ble_eq_true rfl) d_Un_readPair_24 (by omega) (by omega) (fun w1 H locs hE hP hD hS => ?_)
    subst hE
    have hP : va_P G.1 classes [(a0, .inr (8, [.ref a1, .ref o0_1, .ref o0_2, .ref o0_3, .ref o0_4, .ref o0_5, .ref o0_6, .int x0_7, .int x0_8])), (a3, .inr (7, [.ref a4, .ref o3_1, .ref a5])), (a4, .inl (G.2.1 1, n4, .inl f4)), (a5, .inl (G.2.1 1, n5, .inl f5)), (a6, .inr (1, [.ref a7, .int x6_1])), (a7, .inl (G.2.1 0, n7, .inl f7)), (a1, .inr (6, [.ref a2, .int x1_1, .int r4.2.1, .int r4.2.2])), (a2, .inl (G.2.1 0, n2, .inl f2))] H := hP
    have hD : va_D A [(a0, .inr (8, [.ref a1, .ref o0_1, .ref o0_2, .ref o0_3, .ref o0_4, .ref o0_5, .ref o0_6, .int x0_7, .int x0_8])), (a3, .inr (7, [.ref a4, .ref o3_1, .ref a5])), (a4, .inl (G.2.1 1, n4, .inl f4)), (a5, .inl (G.2.1 1, n5, .inl f5)), (a6, .inr (1, [.ref a7, .int x6_1])), (a7, .inl (G.2.1 0, n7, .inl f7)), (a1, .inr (6, [.ref a2, .int x1_1, .int r4.2.1, .int r4.2.2])), (a2, .inl (G.2.1 0, n2, .inl f2))] := hD
    refine lv_iadd hx hb d_Un_readPair_27 ?_
    refine lv_topi (fun v5 ev5 => ?_)
    replace h := Lt_e h ev5
    refine lv_istore (lv' := [(4, .int v5), (0, .ref a0), (1, .int p1), (2, .ref a3), (3, .ref a6)]) hx hb d_Un_readPair_28 hl (by decide) rfl (fun ls hl => ?_)
    refine lv_aload_n hx hb d_Un_readPair_30 rfl (lv_at hl 3 rfl) ?_
    refine lv_aload_n hx hb d_Un_readPair_31 rfl (lv_at hl 1 rfl) ?_
    refine va_get (D := G.1) (ci := 8) (v := .ref a1) (C := R_Un) (T := F_Un) (N := 9) hx hb hts i_Un hown hK hP 0 rfl rfl 0 (by decide) (hts _ q77) (fun _ h9 => h9) rfl d_Un_readPair_32 ?_
    obtain ⟨r6, hc6, h⟩ := Bd_e h
    refine xV_i0 (wr := [(a0, .inr (8, [.ref a1, .ref o0_1, .ref o0_2, .ref o0_3, .ref o0_4, .ref o0_5, .ref o0_6, .int x0_7, .int x0_8])), (a6, .inr (1, [.ref a7, .int x6_1])), (a7, .inl (G.2.1 0, n7, .inl f7))]) (rest := []) C0 hK hT hA hP hD hS hl.1 (c_Co_next l G a1 a2 a3 a4 a5 o3_1 _ x1_1 r4.2.1 r4.2.2 n2 f2 n4 f4 n5 f5  N r6 hc6) (goodV q291 q292 q293 q81 q294) 1 rfl hd_Co_next (Nat.le_trans (by decide) hRf) (Nat.le_trans (by decide) hRl) [6, 7, 1, 2, 3] [0, 4, 5] rfl rfl (by decide) (by decide) (by decide) 7 1 rfl rfl rfl (Nat.le_of_ble_eq_true rfl) d_Un_readPair_35 (by omega) (by omega) (fun w1 H locs hE hP hD hS => ?_)
    subst hE
    have hP : va_P G.1 classes [(a0, .inr (8, [.ref a1, .ref o0_1, .ref o0_2, .ref o0_3, .ref o0_4, .ref o0_5, .ref o0_6, .int x0_7, .int x0_8])), (a6, .inr (1, [.ref a7, .int x6_1])), (a7, .inl (G.2.1 0, n7, .inl f7)), (a1, .inr (6, [.ref a2, .int x1_1, .int r6.2.1, .int r6.2.2])), (a2, .inl (G.2.1 0, n2, .inl f2)), (a3, .inr (7, [.ref a4, .ref o3_1, .ref a5])), (a4, .inl (G.2.1 1, n4, .inl f4)), (a5, .inl (G.2.1 1, n5, .inl f5))] H := hP
    have hD : va_D A [(a0, .inr (8, [.ref a1, .ref o0_1, .ref o0_2, .ref o0_3, .ref o0_4, .ref o0_5, .ref o0_6, .int x0_7, .int x0_8])), (a6, .inr (1, [.ref a7, .int x6_1])), (a7, .inl (G.2.1 0, n7, .inl f7)), (a1, .inr (6, [.ref a2, .int x1_1, .int r6.2.1, .int r6.2.2])), (a2, .inl (G.2.1 0, n2, .inl f2)), (a3, .inr (7, [.ref a4, .ref o3_1, .ref a5])), (a4, .inl (G.2.1 1, n4, .inl f4)), (a5, .inl (G.2.1 1, n5, .inl f5))] := hD
    refine lv_istore (lv' := [(5, .int r6.1), (4, .int v5), (0, .ref a0), (1, .int p1), (2, .ref a3), (3, .ref a6)]) hx hb d_Un_readPair_38 hl (by decide) rfl (fun ls hl => ?_)
    refine lv_iload hx hb d_Un_readPair_40 (lv_at hl 0 rfl) ?_
    refine lv_if_lt (tgt := 54) hx hb d_Un_readPair_42 (by decide) (fun cq7 => ?_) (fun cq7 => ?_)
    · replace h := (if_pos cq7).symm.trans h
      refine lv_iconst (v := 0) hx hb d_Un_readPair_54 (by decide) ?_
      obtain ⟨eV, ek, ez⟩ := so3 h
      subst eV
      exact x_zret C0 hQ rfl (hP.sub (ws' := [(a0, .inr (8, [.ref a1, .ref o0_1, .ref o0_2, .ref o0_3, .ref o0_4, .ref o0_5, .ref o0_6, .int x0_7, .int x0_8])), (a1, .inr (6, [.ref a2, .int x1_1, .int r6.2.1, .int r6.2.2])), (a2, .inl (G.2.1 0, n2, .inl f2)), (a3, .inr (7, [.ref a4, .ref o3_1, .ref a5])), (a4, .inl (G.2.1 1, n4, .inl f4)), (a5, .inl (G.2.1 1, n5, .inl f5)), (a6, .inr (1, [.ref a7, .int x6_1])), (a7, .inl (G.2.1 0, n7, .inl f7))]) [0, 3, 4, 5, 6, 7, 1, 2] rfl) (hD.sub (ws' := [(a0, .inr (8, [.ref a1, .ref o0_1, .ref o0_2, .ref o0_3, .ref o0_4, .ref o0_5, .ref o0_6, .int x0_7, .int x0_8])), (a1, .inr (6, [.ref a2, .int x1_1, .int r6.2.1, .int r6.2.2])), (a2, .inl (G.2.1 0, n2, .inl f2)), (a3, .inr (7, [.ref a4, .ref o3_1, .ref a5])), (a4, .inl (G.2.1 1, n4, .inl f4)), (a5, .inl (G.2.1 1, n5, .inl f5)), (a6, .inr (1, [.ref a7, .int x6_1])), (a7, .inl (G.2.1 0, n7, .inl f7))]) [0, 3, 4, 5, 6, 7, 1, 2] (by decide) rfl) hS ⟨a7, rfl⟩ (by omega) (by omega) d_Un_readPair_55
    · replace h := (if_neg cq7).symm.trans h
      refine lv_iload hx hb d_Un_readPair_45 (lv_at hl 0 rfl) ?_
      refine va_getsN hx hb hT.2.2.1.1 hS hown (hts _ q297) (fun _ h9 => h9) d_Un_readPair_47 ?_
      refine va_tlen (v := 30) hx hb hT.2.2.1.2 hS (by decide) d_Un_readPair_50 ?_
      refine lv_icmp_lt (tgt := 56) hx hb d_Un_readPair_51 (by decide) (fun cq8 => ?_) (fun cq8 => ?_)
      · replace h := (if_pos cq8).symm.trans h
        refine va_getsN hx hb hT.2.2.1.1 hS hown (hts _ q297) (fun _ h9 => h9) d_Un_readPair_56 ?_
        refine lv_iload hx hb d_Un_readPair_59 (lv_at hl 0 rfl) ?_
        obtain ⟨hi9, h⟩ := Ix_e h
        refine va_ti hx hb hT.2.2.1.2 hS hi9 (v := .int (tb 2 (r6.1).toNatClampNeg)) rfl d_Un_readPair_61 ?_
        refine lv_aload_n hx hb d_Un_readPair_62 rfl (lv_at hl 2 rfl) ?_
        refine va_get (D := G.1) (ci := 8) (v := .ref a1) (C := R_Un) (T := F_Un) (N := 9) hx hb hts i_Un hown hK hP 0 rfl rfl 0 (by decide) (hts _ q77) (fun _ h9 => h9) rfl d_Un_readPair_63 ?_
        refine va_getsN hx hb hT.2.2.2.1.1 hS hown (hts _ q298) (fun _ h9 => h9) d_Un_readPair_66 ?_
        refine lv_iload hx hb d_Un_readPair_69 (lv_at hl 0 rfl) ?_
        obtain ⟨hi10, h⟩ := Ix_e h
        refine va_ti hx hb hT.2.2.2.1.2 hS hi10 (v := .int (tb 3 (r6.1).toNatClampNeg)) rfl d_Un_readPair_71 ?_
        obtain ⟨r11, hc11, h⟩ := Bd_e h
        refine xV_i0 (wr := [(a0, .inr (8, [.ref a1, .ref o0_1, .ref o0_2, .ref o0_3, .ref o0_4, .ref o0_5, .ref o0_6, .int x0_7, .int x0_8])), (a6, .inr (1, [.ref a7, .int x6_1])), (a7, .inl (G.2.1 0, n7, .inl f7)), (a3, .inr (7, [.ref a4, .ref o3_1, .ref a5])), (a4, .inl (G.2.1 1, n4, .inl f4)), (a5, .inl (G.2.1 1, n5, .inl f5))]) (rest := [.int (tb 2 (r6.1).toNatClampNeg)]) C0 hK hT hA hP hD hS hl.1 (c_BR_take l G a1 a2 _ x1_1 r6.2.1 r6.2.2 n2 f2 (tb 3 (r6.1).toNatClampNeg) N r11 hc11) (goodV q265 q266 q267 q68 q268) 1 rfl hd_BR_take (Nat.le_trans (by decide) hRf) (Nat.le_trans (by decide) hRl) [3, 4] [0, 1, 2, 5, 6, 7] rfl rfl (by decide) (by decide) (by decide) 6 3 rfl rfl rfl (Nat.le_of_ble_eq_true rfl) d_Un_readPair_72 (by omega) (by omega) (fun w1 H locs hE hP hD hS => ?_)
        subst hE
        have hP : va_P G.1 classes [(a0, .inr (8, [.ref a1, .ref o0_1, .ref o0_2, .ref o0_3, .ref o0_4, .ref o0_5, .ref o0_6, .int x0_7, .int x0_8])), (a6, .inr (1, [.ref a7, .int x6_1])), (a7, .inl (G.2.1 0, n7, .inl f7)), (a3, .inr (7, [.ref a4, .ref o3_1, .ref a5])), (a4, .inl (G.2.1 1, n4, .inl f4)), (a5, .inl (G.2.1 1, n5, .inl f5)), (a1, .inr (6, [.ref a2, .int x1_1, .int r11.2.1, .int r11.2.2])), (a2, .inl (G.2.1 0, n2, .inl f2))] H := hP
        have hD : va_D A [(a0, .inr (8, [.ref a1, .ref o0_1, .ref o0_2, .ref o0_3, .ref o0_4, .ref o0_5, .ref o0_6, .int x0_7, .int x0_8])), (a6, .inr (1, [.ref a7, .int x6_1])), (a7, .inl (G.2.1 0, n7, .inl f7)), (a3, .inr (7, [.ref a4, .ref o3_1, .ref a5])), (a4, .inl (G.2.1 1, n4, .inl f4)), (a5, .inl (G.2.1 1, n5, .inl f5)), (a1, .inr (6, [.ref a2, .int x1_1, .int r11.2.1, .int r11.2.2])), (a2, .inl (G.2.1 0, n2, .inl f2))] := hD
        refine lv_iadd hx hb d_Un_readPair_75 ?_
        refine lv_topi (fun v12 ev12 => ?_)
        replace h := Lt_e h ev12
        refine lv_istore (lv' := [(6, .int v12), (5, .int r6.1), (4, .int v5), (0, .ref a0), (1, .int p1), (2, .ref a3), (3, .ref a6)]) hx hb d_Un_readPair_76 hl (by decide) rfl (fun ls hl => ?_)
        refine lv_iload hx hb d_Un_readPair_78 (lv_at hl 0 rfl) ?_
        refine lv_aload_n hx hb d_Un_readPair_80 rfl (lv_at hl 6 rfl) ?_
        obtain ⟨r13, hc13, h⟩ := Bd_e h
        refine xV_i0 (wr := [(a0, .inr (8, [.ref a1, .ref o0_1, .ref o0_2, .ref o0_3, .ref o0_4, .ref o0_5, .ref o0_6, .int x0_7, .int x0_8])), (a7, .inl (G.2.1 0, n7, .inl f7)), (a3, .inr (7, [.ref a4, .ref o3_1, .ref a5])), (a4, .inl (G.2.1 1, n4, .inl f4)), (a5, .inl (G.2.1 1, n5, .inl f5)), (a1, .inr (6, [.ref a2, .int x1_1, .int r11.2.1, .int r11.2.2])), (a2, .inl (G.2.1 0, n2, .inl f2))]) (rest := [.int v12]) C0 hK hT hA hP hD hS hl.1 (c_Row_length l G a6 a7 _ x6_1  N r13 hc13) (goodV q279 q110 q111 q5 q112) 0 rfl hd_Row_length (Nat.le_trans (by decide) hRf) (Nat.le_trans (by decide) hRl) [1] [0, 2, 3, 4, 5, 6, 7] rfl rfl (by decide) (by decide) (by decide) 1 1 rfl rfl rfl (Nat.le_of_ble_eq_true rfl) d_Un_readPair_81 (by omega) (by omega) (fun w1 H locs hE hP hD hS => ?_)
        subst hE
        have hP : va_P G.1 classes [(a0, .inr (8, [.ref a1, .ref o0_1, .ref o0_2, .ref o0_3, .ref o0_4, .ref o0_5, .ref o0_6, .int x0_7, .int x0_8])), (a7, .inl (G.2.1 0, n7, .inl f7)), (a3, .inr (7, [.ref a4, .ref o3_1, .ref a5])), (a4, .inl (G.2.1 1, n4, .inl f4)), (a5, .inl (G.2.1 1, n5, .inl f5)), (a1, .inr (6, [.ref a2, .int x1_1, .int r11.2.1, .int r11.2.2])), (a2, .inl (G.2.1 0, n2, .inl f2)), (a6, .inr (1, [.ref a7, .int x6_1]))] H := hP
        have hD : va_D A [(a0, .inr (8, [.ref a1, .ref o0_1, .ref o0_2, .ref o0_3, .ref o0_4, .ref o0_5, .ref o0_6, .int x0_7, .int x0_8])), (a7, .inl (G.2.1 0, n7, .inl f7)), (a3, .inr (7, [.ref a4, .ref o3_1, .ref a5])), (a4, .inl (G.2.1 1, n4, .inl f4)), (a5, .inl (G.2.1 1, n5, .inl f5)), (a1, .inr (6, [.ref a2, .int x1_1, .int r11.2.1, .int r11.2.2])), (a2, .inl (G.2.1 0, n2, .inl f2)), (a6, .inr (1, [.ref a7, .int x6_1]))] := hD
        refine lv_icmp_gt (tgt := 99) hx hb d_Un_readPair_84 (by decide) (fun cq14 => ?_) (fun cq14 => ?_)
        · replace h := (if_pos cq14).symm.trans h
          refine lv_iconst (v := 0) hx hb d_Un_readPair_99 (by decide) ?_
          obtain ⟨eV, ek, ez⟩ := so3 h
          subst eV
          exact x_zret C0 hQ rfl (hP.sub (ws' := [(a0, .inr (8, [.ref a1, .ref o0_1, .ref o0_2, .ref o0_3, .ref o0_4, .ref o0_5, .ref o0_6, .int x0_7, .int x0_8])), (a1, .inr (6, [.ref a2, .int x1_1, .int r11.2.1, .int r11.2.2])), (a2, .inl (G.2.1 0, n2, .inl f2)), (a3, .inr (7, [.ref a4, .ref o3_1, .ref a5])), (a4, .inl (G.2.1 1, n4, .inl f4)), (a5, .inl (G.2.1 1, n5, .inl f5)), (a6, .inr (1, [.ref a7, .int x6_1])), (a7, .inl (G.2.1 0, n7, .inl f7))]) [0, 5, 6, 2, 3, 4, 7, 1] rfl) (hD.sub (ws' := [(a0, .inr (8, [.ref a1, .ref o0_1, .ref o0_2, .ref o0_3, .ref o0_4, .ref o0_5, .ref o0_6, .int x0_7, .int x0_8])), (a1, .inr (6, [.ref a2, .int x1_1, .int r11.2.1, .int r11.2.2])), (a2, .inl (G.2.1 0, n2, .inl f2)), (a3, .inr (7, [.ref a4, .ref o3_1, .ref a5])), (a4, .inl (G.2.1 1, n4, .inl f4)), (a5, .inl (G.2.1 1, n5, .inl f5)), (a6, .inr (1, [.ref a7, .int x6_1])), (a7, .inl (G.2.1 0, n7, .inl f7))]) [0, 5, 6, 2, 3, 4, 7, 1] (by decide) rfl) hS ⟨a7, rfl⟩ (by omega) (by omega) d_Un_readPair_100
        · replace h := (if_neg cq14).symm.trans h
          refine lv_aload_n hx hb d_Un_readPair_87 rfl (lv_at hl 6 rfl) ?_
          obtain ⟨r15, hc15, h⟩ := Bd_e h
          refine xV_i0 (wr := [(a0, .inr (8, [.ref a1, .ref o0_1, .ref o0_2, .ref o0_3, .ref o0_4, .ref o0_5, .ref o0_6, .int x0_7, .int x0_8])), (a7, .inl (G.2.1 0, n7, .inl f7)), (a3, .inr (7, [.ref a4, .ref o3_1, .ref a5])), (a4, .inl (G.2.1 1, n4, .inl f4)), (a5, .inl (G.2.1 1, n5, .inl f5)), (a1, .inr (6, [.ref a2, .int x1_1, .int r11.2.1, .int r11.2.2])), (a2, .inl (G.2.1 0, n2, .inl f2))]) (rest := []) C0 hK hT hA hP hD hS hl.1 (c_Row_length l G a6 a7 _ x6_1  N r15 hc15) (goodV q279 q110 q111 q5 q112) 0 rfl hd_Row_length (Nat.le_trans (by decide) hRf) (Nat.le_trans (by decide) hRl) [7] [0, 1, 2, 3, 4, 5, 6] rfl rfl (by decide) (by decide) (by decide) 1 7 rfl rfl rfl (Nat.le_of_ble_eq_true rfl) d_Un_readPair_88 (by omega) (by omega) (fun w1 H locs hE hP hD hS => ?_)
          subst hE
          have hP : va_P G.1 classes [(a0, .inr (8, [.ref a1, .ref o0_1, .ref o0_2, .ref o0_3, .ref o0_4, .ref o0_5, .ref o0_6, .int x0_7, .int x0_8])), (a7, .inl (G.2.1 0, n7, .inl f7)), (a3, .inr (7, [.ref a4, .ref o3_1, .ref a5])), (a4, .inl (G.2.1 1, n4, .inl f4)), (a5, .inl (G.2.1 1, n5, .inl f5)), (a1, .inr (6, [.ref a2, .int x1_1, .int r11.2.1, .int r11.2.2])), (a2, .inl (G.2.1 0, n2, .inl f2)), (a6, .inr (1, [.ref a7, .int x6_1]))] H := hP
          have hD : va_D A [(a0, .inr (8, [.ref a1, .ref o0_1, .ref o0_2, .ref o0_3, .ref o0_4, .ref o0_5, .ref o0_6, .int x0_7, .int x0_8])), (a7, .inl (G.2.1 0, n7, .inl f7)), (a3, .inr (7, [.ref a4, .ref o3_1, .ref a5])), (a4, .inl (G.2.1 1, n4, .inl f4)), (a5, .inl (G.2.1 1, n5, .inl f5)), (a1, .inr (6, [.ref a2, .int x1_1, .int r11.2.1, .int r11.2.2])), (a2, .inl (G.2.1 0, n2, .inl f2)), (a6, .inr (1, [.ref a7, .int x6_1]))] := hD
          refine lv_iload hx hb d_Un_readPair_91 (lv_at hl 2 rfl) ?_
          refine lv_iadd hx hb d_Un_readPair_93 ?_
          refine lv_ldc (v := 65536) hx hb hown (hts _ q280) d_Un_readPair_94 ?_
          refine lv_icmp_le (tgt := 101) hx hb d_Un_readPair_96 (by decide) (fun cq16 => ?_) (fun cq16 => ?_)
          · replace h := (if_pos cq16).symm.trans h
            refine lv_iconst (v := 0) hx hb d_Un_readPair_101 (by decide) ?_
            refine lv_istore (lv' := [(7, .int 0), (6, .int v12), (5, .int r6.1), (4, .int v5), (0, .ref a0), (1, .int p1), (2, .ref a3), (3, .ref a6)]) hx hb d_Un_readPair_102 hl (by decide) rfl (fun ls hl => ?_)
            obtain ⟨r29, k29, z29, kk29, zz29, hc29, h, ek29, ez29⟩ := Bk_e h
            refine w_Un_readPair_104 C0 hRf hRl hA hK hT N v5 v12 x0_7 x0_8 x1_1 r11.2.1 r11.2.2 n2 f2 n4 f4 n5 f5 a0 a1 a2 a3 a4 a5 a6 o0_1 o0_2 o0_3 o0_4 o0_5 o0_6 o3_1 r29 (KT := 0 + k29) (ZT := 0 + z29) (by omega) (by omega) ?_ N 0 x6_1 n7 f7 a7 0 0 _ _ _ _ _ hc29 rfl rfl (hP.sub (ws' := [(a0, .inr (8, [.ref a1, .ref o0_1, .ref o0_2, .ref o0_3, .ref o0_4, .ref o0_5, .ref o0_6, .int x0_7, .int x0_8])), (a1, .inr (6, [.ref a2, .int x1_1, .int r11.2.1, .int r11.2.2])), (a2, .inl (G.2.1 0, n2, .inl f2)), (a3, .inr (7, [.ref a4, .ref o3_1, .ref a5])), (a4, .inl (G.2.1 1, n4, .inl f4)), (a5, .inl (G.2.1 1, n5, .inl f5)), (a6, .inr (1, [.ref a7, .int x6_1])), (a7, .inl (G.2.1 0, n7, .inl f7))]) [0, 5, 6, 2, 3, 4, 7, 1] rfl) (hD.sub (ws' := [(a0, .inr (8, [.ref a1, .ref o0_1, .ref o0_2, .ref o0_3, .ref o0_4, .ref o0_5, .ref o0_6, .int x0_7, .int x0_8])), (a1, .inr (6, [.ref a2, .int x1_1, .int r11.2.1, .int r11.2.2])), (a2, .inl (G.2.1 0, n2, .inl f2)), (a3, .inr (7, [.ref a4, .ref o3_1, .ref a5])), (a4, .inl (G.2.1 1, n4, .inl f4)), (a5, .inl (G.2.1 1, n5, .inl f5)), (a6, .inr (1, [.ref a7, .int x6_1])), (a7, .inl (G.2.1 0, n7, .inl f7))]) [0, 5, 6, 2, 3, 4, 7, 1] (by decide) rfl) hS (lv_sub hl [7, 3, 1, 0] rfl)
            · intro b30 H locs ls hP hD hS hl
              have ekc : 0 + k29 + kk29 = K := by omega
              have ezc : 0 + z29 + zz29 = Z := by omega
              refine lv_iconst (v := 1) hx hb d_Un_readPair_132 (by decide) ?_
              obtain ⟨eV, ek, ez⟩ := so3 h
              subst eV
              exact x_zret C0 hQ rfl hP hD hS ⟨b30, rfl⟩ (by omega) (by omega) d_Un_readPair_133
          · replace h := (if_neg cq16).symm.trans h
            refine lv_iconst (v := 0) hx hb d_Un_readPair_99 (by decide) ?_
            obtain ⟨eV, ek, ez⟩ := so3 h
            subst eV
            exact x_zret C0 hQ rfl (hP.sub (ws' := [(a0, .inr (8, [.ref a1, .ref o0_1, .ref o0_2, .ref o0_3, .ref o0_4, .ref o0_5, .ref o0_6, .int x0_7, .int x0_8])), (a1, .inr (6, [.ref a2, .int x1_1, .int r11.2.1, .int r11.2.2])), (a2, .inl (G.2.1 0, n2, .inl f2)), (a3, .inr (7, [.ref a4, .ref o3_1, .ref a5])), (a4, .inl (G.2.1 1, n4, .inl f4)), (a5, .inl (G.2.1 1, n5, .inl f5)), (a6, .inr (1, [.ref a7, .int x6_1])), (a7, .inl (G.2.1 0, n7, .inl f7))]) [0, 5, 6, 2, 3, 4, 7, 1] rfl) (hD.sub (ws' := [(a0, .inr (8, [.ref a1, .ref o0_1, .ref o0_2, .ref o0_3, .ref o0_4, .ref o0_5, .ref o0_6, .int x0_7, .int x0_8])), (a1, .inr (6, [.ref a2, .int x1_1, .int r11.2.1, .int r11.2.2])), (a2, .inl (G.2.1 0, n2, .inl f2)), (a3, .inr (7, [.ref a4, .ref o3_1, .ref a5])), (a4, .inl (G.2.1 1, n4, .inl f4)), (a5, .inl (G.2.1 1, n5, .inl f5)), (a6, .inr (1, [.ref a7, .int x6_1])), (a7, .inl (G.2.1 0, n7, .inl f7))]) [0, 5, 6, 2, 3, 4, 7, 1] (by decide) rfl) hS ⟨a7, rfl⟩ (by omega) (by omega) d_Un_readPair_100
      · replace h := (if_neg cq8).symm.trans h
        refine lv_iconst (v := 0) hx hb d_Un_readPair_54 (by decide) ?_
        obtain ⟨eV, ek, ez⟩ := so3 h
        subst eV
        exact x_zret C0 hQ rfl (hP.sub (ws' := [(a0, .inr (8, [.ref a1, .ref o0_1, .ref o0_2, .ref o0_3, .ref o0_4, .ref o0_5, .ref o0_6, .int x0_7, .int x0_8])), (a1, .inr (6, [.ref a2, .int x1_1, .int r6.2.1, .int r6.2.2])), (a2, .inl (G.2.1 0, n2, .inl f2)), (a3, .inr (7, [.ref a4, .ref o3_1, .ref a5])), (a4, .inl (G.2.1 1, n4, .inl f4)), (a5, .inl (G.2.1 1, n5, .inl f5)), (a6, .inr (1, [.ref a7, .int x6_1])), (a7, .inl (G.2.1 0, n7, .inl f7))]) [0, 3, 4, 5, 6, 7, 1, 2] rfl) (hD.sub (ws' := [(a0, .inr (8, [.ref a1, .ref o0_1, .ref o0_2, .ref o0_3, .ref o0_4, .ref o0_5, .ref o0_6, .int x0_7, .int x0_8])), (a1, .inr (6, [.ref a2, .int x1_1, .int r6.2.1, .int r6.2.2])), (a2, .inl (G.2.1 0, n2, .inl f2)), (a3, .inr (7, [.ref a4, .ref o3_1, .ref a5])), (a4, .inl (G.2.1 1, n4, .inl f4)), (a5, .inl (G.2.1 1, n5, .inl f5)), (a6, .inr (1, [.ref a7, .int x6_1])), (a7, .inl (G.2.1 0, n7, .inl f7))]) [0, 3, 4, 5, 6, 7, 1, 2] (by decide) rfl) hS ⟨a7, rfl⟩ (by omega) (by omega) d_Un_readPair_55
  · replace h := (if_neg cq1).symm.trans h
    refine lv_iconst (v := 0) hx hb d_Un_readPair_8 (by decide) ?_
    obtain ⟨eV, ek, ez⟩ := so3 h
    subst eV
    exact x_zret C0 hQ rfl hP hD hS ⟨a7, rfl⟩ (by omega) (by omega) d_Un_readPair_9
