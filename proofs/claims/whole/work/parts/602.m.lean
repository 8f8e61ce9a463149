set_option maxHeartbeats 4000000 in
set_option maxRecDepth 100000 in
theorem c_Row_has (l : Launch) (G : GX) (a0 o0_0 : Nat) (sz : Nat) (x0_1 : Int32) (p1 : Int32) (N : Nat) (V : Int32) (h : f_Row_has N x0_1 p1 = some V) :
    Met l y_Row_has (wd y_Row_has b_Row_has 2 (some .boolean)) { frames := 0, cells := 0, slots := 0, locals := 0 } (PX G [.ref a0, .int p1] sz [(a0, .inr (1, [.ref o0_0, .int x0_1]))])
      (QXi G V (fun w => w = [(a0, .inr (1, [.ref o0_0, .int x0_1]))]) (va_A [(a0, .inr (1, [.ref o0_0, .int x0_1]))] sz)) 0 0 (va_A [(a0, .inr (1, [.ref o0_0, .int x0_1]))] sz) := by
  refine Met_in (QQ := fun A => QXi G V (fun w => w = [(a0, .inr (1, [.ref o0_0, .int x0_1]))]) A) (by decide) (Nat.le_of_ble_eq_true rfl) (fun p e s m below meth c R Q A ls C0 hRf hRl hRc hRs hP hK hD hT hA hS hl hQ => ?_)
  obtain ⟨hx, hb, hml, hown, hts, hr, hlocks, hin⟩ := id C0
  have hown : s.vm.findClass R_Row = some m.cls := hown
  have hl : lv_has ls 2 [(0, .ref a0), (1, .int p1)] := hl
  unfold f_Row_has at h
  have hkc : 0 ≤ R.cells := Nat.zero_le _
  have hks : 0 ≤ R.slots := Nat.zero_le _
  obtain ⟨H, hH⟩ : ∃ H, H = s.heap := ⟨_, rfl⟩
  obtain ⟨locs, hlc⟩ : ∃ x : List Loc, x = [] := ⟨_, rfl⟩
  rw [← hH] at hP
  have hS : va_S A s.heap H locs := by rw [hH, hlc]; exact hS
  suffices hgo : W p l e R s m [.ref a0, .int p1].toArray below meth c H locs 0 0 Q (F0 m 0 ls []) by rw [hH, hlc] at hgo; exact hgo
  refine lv_iload_n hx hb d_Row_has_0 rfl (lv_at hl 1 rfl) ?_
  refine lv_if_lt (tgt := 16) hx hb d_Row_has_1 (by decide) (fun cq1 => ?_) (fun cq1 => ?_)
  · replace h := (if_pos cq1).symm.trans h
    refine lv_iconst (v := 0) hx hb d_Row_has_16 (by decide) ?_
    have eV := so1 h
    subst eV
    exact x_zret C0 hQ rfl hP hD hS rfl (Nat.zero_le _) (Nat.zero_le _) d_Row_has_17
  · replace h := (if_neg cq1).symm.trans h
    refine lv_iload_n hx hb d_Row_has_4 rfl (lv_at hl 1 rfl) ?_
    refine lv_aload_n hx hb d_Row_has_5 rfl (lv_at hl 0 rfl) ?_
    refine va_get (D := G.1) (ci := 1) (v := .int x0_1) (C := R_Row) (T := F_Row) (N := 2) hx hb hts i_Row hown hK hP 0 rfl rfl 1 (by decide) (hts _ q9) (fun _ h9 => h9) rfl d_Row_has_6 ?_
    refine lv_icmp_ge (tgt := 16) hx hb d_Row_has_9 (by decide) (fun cq2 => ?_) (fun cq2 => ?_)
    · replace h := (if_pos cq2).symm.trans h
      refine lv_iconst (v := 0) hx hb d_Row_has_16 (by decide) ?_
      have eV := so1 h
      subst eV
      exact x_zret C0 hQ rfl hP hD hS rfl (Nat.zero_le _) (Nat.zero_le _) d_Row_has_17
    · replace h := (if_neg cq2).symm.trans h
      refine lv_iconst (v := 1) hx hb d_Row_has_12 (by decide) ?_
      refine lv_goto (tgt := 17) hx hb d_Row_has_13 (by decide) ?_
      have eV := so1 h
      subst eV
      exact x_zret C0 hQ rfl hP hD hS rfl (Nat.zero_le _) (Nat.zero_le _) d_Row_has_17
set_option maxHeartbeats 4000000 in
set_option maxRecDepth 100000 in
theorem c_Row_at (l : Launch) (G : GX) (a0 a1 : Nat) (sz : Nat) (x0_1 : Int32) (n1 : Nat) (f1 : (Nat → Int32)) (p1 : Int32) (N : Nat) (V : Int32) (h : f_Row_at N x0_1 n1 f1 p1 = some V) :
    Met l y_Row_at (wd y_Row_at b_Row_at 2 (some .int)) { frames := 1, cells := 0, slots := 0, locals := 21 } (PX G [.ref a0, .int p1] sz [(a0, .inr (1, [.ref a1, .int x0_1])), (a1, .inl (G.2.1 0, n1, .inl f1))])
      (QXi G V (fun w => w = [(a0, .inr (1, [.ref a1, .int x0_1])), (a1, .inl (G.2.1 0, n1, .inl f1))]) (va_A [(a0, .inr (1, [.ref a1, .int x0_1])), (a1, .inl (G.2.1 0, n1, .inl f1))] sz)) 0 0 (va_A [(a0, .inr (1, [.ref a1, .int x0_1])), (a1, .inl (G.2.1 0, n1, .inl f1))] sz) := by
  refine Met_in (QQ := fun A => QXi G V (fun w => w = [(a0, .inr (1, [.ref a1, .int x0_1])), (a1, .inl (G.2.1 0, n1, .inl f1))]) A) (by decide) (Nat.le_of_ble_eq_true rfl) (fun p e s m below meth c R Q A ls C0 hRf hRl hRc hRs hP hK hD hT hA hS hl hQ => ?_)
  obtain ⟨hx, hb, hml, hown, hts, hr, hlocks, hin⟩ := id C0
  have hown : s.vm.findClass R_Row = some m.cls := hown
  have hl : lv_has ls 2 [(0, .ref a0), (1, .int p1)] := hl
  unfold f_Row_at at h
  have hkc : 0 ≤ R.cells := Nat.zero_le _
  have hks : 0 ≤ R.slots := Nat.zero_le _
  obtain ⟨H, hH⟩ : ∃ H, H = s.heap := ⟨_, rfl⟩
  obtain ⟨locs, hlc⟩ : ∃ x : List Loc, x = [] := ⟨_, rfl⟩
  rw [← hH] at hP
  have hS : va_S A s.heap H locs := by rw [hH, hlc]; exact hS
  suffices hgo : W p l e R s m [.ref a0, .int p1].toArray below meth c H locs 0 0 Q (F0 m 0 ls []) by rw [hH, hlc] at hgo; exact hgo
  refine lv_aload_n hx hb d_Row_at_0 rfl (lv_at hl 0 rfl) ?_
  refine lv_iload_n hx hb d_Row_at_1 rfl (lv_at hl 1 rfl) ?_
  obtain ⟨r1, hc1, h⟩ := Bd_e h
  refine xV_i0 (wr := [(a1, .inl (G.2.1 0, n1, .inl f1))]) (rest := []) C0 hK hT hA hP hD hS hl.1 (c_Row_has l G a0 a1 _ x0_1 p1 N r1 hc1) (goodV q158 q155 q156 q5 q157) 1 rfl hd_Row_has (Nat.le_trans (by decide) hRf) (Nat.le_trans (by decide) hRl) [0] [1] rfl rfl (by decide) (by decide) (by decide) 1 0 rfl rfl rfl (Nat.le_of_ble_eq_true rfl) d_Row_at_2 hkc hks (fun w1 H locs hE hP hD hS => ?_)
  subst hE
  have hP : va_P G.1 classes [(a1, .inl (G.2.1 0, n1, .inl f1)), (a0, .inr (1, [.ref a1, .int x0_1]))] H := hP
  have hD : va_D A [(a1, .inl (G.2.1 0, n1, .inl f1)), (a0, .inr (1, [.ref a1, .int x0_1]))] := hD
  refine lv_if_eq (tgt := 21) hx hb d_Row_at_5 (by decide) (fun cq2 => ?_) (fun cq2 => ?_)
  · replace h := (if_pos cq2).symm.trans h
    refine lv_iconst (v := 0) hx hb d_Row_at_21 (by decide) ?_
    have eV := so1 h
    subst eV
    exact x_iret C0 hQ (hP.sub (ws' := [(a0, .inr (1, [.ref a1, .int x0_1])), (a1, .inl (G.2.1 0, n1, .inl f1))]) [1, 0] rfl) (hD.sub (ws' := [(a0, .inr (1, [.ref a1, .int x0_1])), (a1, .inl (G.2.1 0, n1, .inl f1))]) [1, 0] (by decide) rfl) hS rfl (Nat.zero_le _) (Nat.zero_le _) d_Row_at_22
  · replace h := (if_neg cq2).symm.trans h
    refine lv_aload_n hx hb d_Row_at_8 rfl (lv_at hl 0 rfl) ?_
    refine va_get (D := G.1) (ci := 1) (v := .ref a1) (C := R_Row) (T := F_Row) (N := 2) hx hb hts i_Row hown hK hP 1 rfl rfl 0 (by decide) (hts _ q8) (fun _ h9 => h9) rfl d_Row_at_9 ?_
    refine lv_iload_n hx hb d_Row_at_12 rfl (lv_at hl 1 rfl) ?_
    obtain ⟨hi3, h⟩ := Ix_e h
    refine va_bald hx hb hK hP 0 0 rfl rfl hi3 d_Row_at_13 ?_
    refine lv_sipush (v := 255) hx hb d_Row_at_14 (by decide) ?_
    refine lv_iand hx hb d_Row_at_17 ?_
    refine lv_goto (tgt := 22) hx hb d_Row_at_18 (by decide) ?_
    have eV := so1 h
    subst eV
    exact x_iret C0 hQ (hP.sub (ws' := [(a0, .inr (1, [.ref a1, .int x0_1])), (a1, .inl (G.2.1 0, n1, .inl f1))]) [1, 0] rfl) (hD.sub (ws' := [(a0, .inr (1, [.ref a1, .int x0_1])), (a1, .inl (G.2.1 0, n1, .inl f1))]) [1, 0] (by decide) rfl) hS rfl (Nat.zero_le _) (Nat.zero_le _) d_Row_at_22
set_option maxHeartbeats 4000000 in
set_option maxRecDepth 100000 in
theorem c_Row_put (l : Launch) (G : GX) (a0 a1 : Nat) (sz : Nat) (x0_1 : Int32) (n1 : Nat) (f1 : (Nat → Int32)) (p1 : Int32) (p2 : Int32) (N : Nat) (V : (Nat → Int32)) (h : f_Row_put N x0_1 n1 f1 p1 p2 = some V) :
    Met l y_Row_put (wd y_Row_put b_Row_put 3 none) { frames := 1, cells := 0, slots := 0, locals := 21 } (PX G [.ref a0, .int p1, .int p2] sz [(a0, .inr (1, [.ref a1, .int x0_1])), (a1, .inl (G.2.1 0, n1, .inl f1))])
      (QXv G (fun w => w = [(a0, .inr (1, [.ref a1, .int x0_1])), (a1, .inl (G.2.1 0, n1, .inl V))]) (va_A [(a0, .inr (1, [.ref a1, .int x0_1])), (a1, .inl (G.2.1 0, n1, .inl f1))] sz)) 0 0 (va_A [(a0, .inr (1, [.ref a1, .int x0_1])), (a1, .inl (G.2.1 0, n1, .inl f1))] sz) := by
  refine Met_in (QQ := fun A => QXv G (fun w => w = [(a0, .inr (1, [.ref a1, .int x0_1])), (a1, .inl (G.2.1 0, n1, .inl V))]) A) (by decide) (Nat.le_of_ble_eq_true rfl) (fun p e s m below meth c R Q A ls C0 hRf hRl hRc hRs hP hK hD hT hA hS hl hQ => ?_)
  obtain ⟨hx, hb, hml, hown, hts, hr, hlocks, hin⟩ := id C0
  have hown : s.vm.findClass R_Row = some m.cls := hown
  have hl : lv_has ls 3 [(0, .ref a0), (1, .int p1), (2, .int p2)] := hl
  unfold f_Row_put at h
  have hkc : 0 ≤ R.cells := Nat.zero_le _
  have hks : 0 ≤ R.slots := Nat.zero_le _
  obtain ⟨H, hH⟩ : ∃ H, H = s.heap := ⟨_, rfl⟩
  obtain ⟨locs, hlc⟩ : ∃ x : List Loc, x = [] := ⟨_, rfl⟩
  rw [← hH] at hP
  have hS : va_S A s.heap H locs := by rw [hH, hlc]; exact hS
  suffices hgo : W p l e R s m [.ref a0, .int p1, .int p2].toArray below meth c H locs 0 0 Q (F0 m 0 ls []) by rw [hH, hlc] at hgo; exact hgo
  refine lv_aload_n hx hb d_Row_put_0 rfl (lv_at hl 0 rfl) ?_
  refine lv_iload_n hx hb d_Row_put_1 rfl (lv_at hl 1 rfl) ?_
  obtain ⟨r1, hc1, h⟩ := Bd_e h
  refine xV_i0 (wr := [(a1, .inl (G.2.1 0, n1, .inl f1))]) (rest := []) C0 hK hT hA hP hD hS hl.1 (c_Row_has l G a0 a1 _ x0_1 p1 N r1 hc1) (goodV q158 q155 q156 q5 q157) 1 rfl hd_Row_has (Nat.le_trans (by decide) hRf) (Nat.le_trans (by decide) hRl) [0] [1] rfl rfl (by decide) (by decide) (by decide) 1 0 rfl rfl rfl (Nat.le_of_ble_eq_true rfl) d_Row_put_2 hkc hks (fun w1 H locs hE hP hD hS => ?_)
  subst hE
  have hP : va_P G.1 classes [(a1, .inl (G.2.1 0, n1, .inl f1)), (a0, .inr (1, [.ref a1, .int x0_1]))] H := hP
  have hD : va_D A [(a1, .inl (G.2.1 0, n1, .inl f1)), (a0, .inr (1, [.ref a1, .int x0_1]))] := hD
  refine lv_if_eq (tgt := 16) hx hb d_Row_put_5 (by decide) (fun cq2 => ?_) (fun cq2 => ?_)
  · replace h := (if_pos cq2).symm.trans h
    have eV := so1 h
    subst eV
    exact x_vret C0 hQ (hP.sub (ws' := [(a0, .inr (1, [.ref a1, .int x0_1])), (a1, .inl (G.2.1 0, n1, .inl f1))]) [1, 0] rfl) (hD.sub (ws' := [(a0, .inr (1, [.ref a1, .int x0_1])), (a1, .inl (G.2.1 0, n1, .inl f1))]) [1, 0] (by decide) rfl) hS rfl (Nat.zero_le _) (Nat.zero_le _) d_Row_put_16
  · replace h := (if_neg cq2).symm.trans h
    refine lv_aload_n hx hb d_Row_put_8 rfl (lv_at hl 0 rfl) ?_
    refine va_get (D := G.1) (ci := 1) (v := .ref a1) (C := R_Row) (T := F_Row) (N := 2) hx hb hts i_Row hown hK hP 1 rfl rfl 0 (by decide) (hts _ q8) (fun _ h9 => h9) rfl d_Row_put_9 ?_
    refine lv_iload_n hx hb d_Row_put_12 rfl (lv_at hl 1 rfl) ?_
    refine lv_iload_n hx hb d_Row_put_13 rfl (lv_at hl 2 rfl) ?_
    refine lv_i2b (v := p2.toInt8.toInt32) hx hb d_Row_put_14 rfl ?_
    obtain ⟨hi3, h⟩ := Ix_e h
    refine y_bast hx hb hK hP hD hS 0 0 rfl rfl hi3 d_Row_put_15 (fun g4 H locs eg4 hP hD hS => ?_)
    replace h := Lt_e h eg4
    have hP : va_P G.1 classes [(a1, .inl (G.2.1 0, n1, .inl g4)), (a0, .inr (1, [.ref a1, .int x0_1]))] H := hP
    have hD : va_D A [(a1, .inl (G.2.1 0, n1, .inl g4)), (a0, .inr (1, [.ref a1, .int x0_1]))] := hD
    have eV := so1 h
    subst eV
    exact x_vret C0 hQ (hP.sub (ws' := [(a0, .inr (1, [.ref a1, .int x0_1])), (a1, .inl (G.2.1 0, n1, .inl g4))]) [1, 0] rfl) (hD.sub (ws' := [(a0, .inr (1, [.ref a1, .int x0_1])), (a1, .inl (G.2.1 0, n1, .inl g4))]) [1, 0] (by decide) rfl) hS rfl (Nat.zero_le _) (Nat.zero_le _) d_Row_put_16
theorem own_TP_change : inT (Jvm.Bundle.ownAtoms R_TP 63 "java/lang/IllegalArgumentException" ["java/lang/RuntimeException", "java/lang/Exception"]) [50, 436, 445, 450, 453, 455, 437, 438, 65, 66, 439, 444, 451, 471, 426, 472, 428, 473, 430, 440, 441, 442, 443, 432, 467, 468, 470, 432, 502, 503, 504, 461, 418, 461, 462, 463, 464, 420, 464, 465, 466, 467, 422, 501, 492, 493, 494, 448, 495, 496, 497, 498, 0, 0, 435, 434, 499] = true := by decide +kernel
set_option maxHeartbeats 4000000 in
set_option maxRecDepth 100000 in
theorem c_TP_change (l : Launch) (htr : l.stackTraces = false) (G : GX) (a0 a1 a2 o0_1 o0_2 o0_3 o0_4 o0_5 : Nat) (sz : Nat) (x0_6 : Int32) (x0_7 : Int32) (x0_8 : Int32) (x1_1 : Int32) (n2 : Nat) (f2 : (Nat → Int32)) (p1 : Int32) (p2 : Int32) (N : Nat) (V : Nat × (Nat → Int32)) (K Z : Nat) (h : f_TP_change N x1_1 n2 f2 p1 p2 = some (V, K, Z)) :
    MetT l y_TP_change (wd y_TP_change b_TP_change 3 none) { frames := 6, cells := K, slots := Z, locals := 85 } (PX G [.ref a0, .int p1, .int p2] sz [(a0, .inr (0, [.ref a1, .ref o0_1, .ref o0_2, .ref o0_3, .ref o0_4, .ref o0_5, .int x0_6, .int x0_7, .int x0_8])), (a1, .inr (1, [.ref a2, .int x1_1])), (a2, .inl (G.2.1 0, n2, .inl f2))])
      (QT G V.1 none "java/lang/IllegalArgumentException" (fun w => w = [(a0, .inr (0, [.ref a1, .ref o0_1, .ref o0_2, .ref o0_3, .ref o0_4, .ref o0_5, .int x0_6, .int x0_7, .int x0_8])), (a1, .inr (1, [.ref a2, .int x1_1])), (a2, .inl (G.2.1 0, n2, .inl V.2))]) (va_A [(a0, .inr (0, [.ref a1, .ref o0_1, .ref o0_2, .ref o0_3, .ref o0_4, .ref o0_5, .int x0_6, .int x0_7, .int x0_8])), (a1, .inr (1, [.ref a2, .int x1_1])), (a2, .inl (G.2.1 0, n2, .inl f2))] sz)) K Z (va_A [(a0, .inr (0, [.ref a1, .ref o0_1, .ref o0_2, .ref o0_3, .ref o0_4, .ref o0_5, .int x0_6, .int x0_7, .int x0_8])), (a1, .inr (1, [.ref a2, .int x1_1])), (a2, .inl (G.2.1 0, n2, .inl f2))] sz) := by
  refine MetT_in (QQ := fun A => QT G V.1 none "java/lang/IllegalArgumentException" (fun w => w = [(a0, .inr (0, [.ref a1, .ref o0_1, .ref o0_2, .ref o0_3, .ref o0_4, .ref o0_5, .int x0_6, .int x0_7, .int x0_8])), (a1, .inr (1, [.ref a2, .int x1_1])), (a2, .inl (G.2.1 0, n2, .inl V.2))]) A) (by decide) (Nat.le_of_ble_eq_true rfl) (fun p e s m below meth c R Q A ls C0 hex hRf hRl hRc hRs hP hK hD hT hA hS hl hQ => ?_)
  obtain ⟨hx, hb, hml, hown, hts, hr, hlocks, hin⟩ := id C0
  have hown : s.vm.findClass R_TP = some m.cls := hown
  have hl : lv_has ls 3 [(0, .ref a0), (1, .int p1), (2, .int p2)] := hl
  unfold f_TP_change at h
  have hKT : K ≤ R.cells := Nat.le_of_eq hRc.symm
  have hZT : Z ≤ R.slots := Nat.le_of_eq hRs.symm
  have ekc : 0 + K = K := by omega
  have ezc : 0 + Z = Z := by omega
  obtain ⟨H, hH⟩ : ∃ H, H = s.heap := ⟨_, rfl⟩
  obtain ⟨locs, hlc⟩ : ∃ x : List Loc, x = [] := ⟨_, rfl⟩
  rw [← hH] at hP
  have hS : va_S A s.heap H locs := by rw [hH, hlc]; exact hS
  suffices hgo : W p l e R s m [.ref a0, .int p1, .int p2].toArray below meth c H locs 0 0 Q (F0 m 0 ls []) by rw [hH, hlc] at hgo; exact hgo
  refine lv_aload_n hx hb d_TP_change_0 rfl (lv_at hl 0 rfl) ?_
  refine va_get (D := G.1) (ci := 0) (v := .ref a1) (C := R_TP) (T := F_TP) (N := 9) hx hb hts i_TP hown hK hP 0 rfl rfl 0 (by decide) (hts _ q13) (fun _ h9 => h9) rfl d_TP_change_1 ?_
  refine lv_iload_n hx hb d_TP_change_4 rfl (lv_at hl 1 rfl) ?_
  obtain ⟨r1, hc1, h⟩ := Bd_e h
  refine xV_i0 (wr := [(a0, .inr (0, [.ref a1, .ref o0_1, .ref o0_2, .ref o0_3, .ref o0_4, .ref o0_5, .int x0_6, .int x0_7, .int x0_8])), (a2, .inl (G.2.1 0, n2, .inl f2))]) (rest := []) C0 hK hT hA hP hD hS hl.1 (c_Row_has l G a1 a2 _ x1_1 p1 N r1 hc1) (goodV q154 q155 q156 q5 q157) 1 rfl hd_Row_has (Nat.le_trans (by decide) hRf) (Nat.le_trans (by decide) hRl) [1] [0, 2] rfl rfl (by decide) (by decide) (by decide) 1 1 rfl rfl rfl (Nat.le_of_ble_eq_true rfl) d_TP_change_5 (by omega) (by omega) (fun w1 H locs hE hP hD hS => ?_)
  subst hE
  have hP : va_P G.1 classes [(a0, .inr (0, [.ref a1, .ref o0_1, .ref o0_2, .ref o0_3, .ref o0_4, .ref o0_5, .int x0_6, .int x0_7, .int x0_8])), (a2, .inl (G.2.1 0, n2, .inl f2)), (a1, .inr (1, [.ref a2, .int x1_1]))] H := hP
  have hD : va_D A [(a0, .inr (0, [.ref a1, .ref o0_1, .ref o0_2, .ref o0_3, .ref o0_4, .ref o0_5, .int x0_6, .int x0_7, .int x0_8])), (a2, .inl (G.2.1 0, n2, .inl f2)), (a1, .inr (1, [.ref a2, .int x1_1]))] := hD
  obtain ⟨j7, ej7, h⟩ := Jn_e h
  have hj7 : ∀ (t7 : Unit) (kc7 ks7 k7 z7 : Nat) (H : Heap) (locs : List Loc) (ls : Array Slot), j7 t7 = some (V, k7, z7) → kc7 + k7 = K → ks7 + z7 = Z → va_P G.1 classes [(a0, .inr (0, [.ref a1, .ref o0_1, .ref o0_2, .ref o0_3, .ref o0_4, .ref o0_5, .int x0_6, .int x0_7, .int x0_8])), (a1, .inr (1, [.ref a2, .int x1_1])), (a2, .inl (G.2.1 0, n2, .inl f2))] H → va_D A [(a0, .inr (0, [.ref a1, .ref o0_1, .ref o0_2, .ref o0_3, .ref o0_4, .ref o0_5, .int x0_6, .int x0_7, .int x0_8])), (a1, .inr (1, [.ref a2, .int x1_1])), (a2, .inl (G.2.1 0, n2, .inl f2))] → va_S A s.heap H locs → lv_has ls 3 [] → W p l e R s m [.ref a0, .int p1, .int p2].toArray below meth c H locs kc7 ks7 Q (F0 m 22 ls []) := by
    intro t7 kc7 ks7 k7 z7 H locs ls h ekc ezc hP hD hS hl
    replace h := ej7 _ _ h
    obtain ⟨k8, z8, h, ek8, ez8⟩ := Ak_e h
    have ekc : kc7 + 1 + k8 = K := by omega
    have ezc : ks7 + 6 + z8 = Z := by omega
    obtain ⟨eV, ek, ez⟩ := so3 h
    subst eV
    exact z_throw (names := ["java/lang/RuntimeException", "java/lang/Exception"]) C0 hex htr hQ hT hP hD hS rfl hl.1 (by decide +kernel) (by decide +kernel) own_TP_change q150 q151 q152 q167 d_TP_change_22 d_TP_change_25 d_TP_change_26 d_TP_change_28 d_TP_change_31 (Nat.le_trans (by decide) hRf) (Nat.le_trans (by decide) hRl) (by omega) (by omega) hKT hZT
  refine lv_if_eq (tgt := 22) hx hb d_TP_change_8 (by decide) (fun cq9 => ?_) (fun cq9 => ?_)
  · replace h := (if_pos cq9).symm.trans h
    exact hj7 () _ _ _ _ _ _ _ h (by omega) (by omega) (hP.sub (ws' := [(a0, .inr (0, [.ref a1, .ref o0_1, .ref o0_2, .ref o0_3, .ref o0_4, .ref o0_5, .int x0_6, .int x0_7, .int x0_8])), (a1, .inr (1, [.ref a2, .int x1_1])), (a2, .inl (G.2.1 0, n2, .inl f2))]) [0, 2, 1] rfl) (hD.sub (ws' := [(a0, .inr (0, [.ref a1, .ref o0_1, .ref o0_2, .ref o0_3, .ref o0_4, .ref o0_5, .int x0_6, .int x0_7, .int x0_8])), (a1, .inr (1, [.ref a2, .int x1_1])), (a2, .inl (G.2.1 0, n2, .inl f2))]) [0, 2, 1] (by decide) rfl) hS (lv_sub hl [] rfl)
  · replace h := (if_neg cq9).symm.trans h
    refine lv_iload_n hx hb d_TP_change_11 rfl (lv_at hl 2 rfl) ?_
    refine lv_if_lt (tgt := 22) hx hb d_TP_change_12 (by decide) (fun cq10 => ?_) (fun cq10 => ?_)
    · replace h := (if_pos cq10).symm.trans h
      exact hj7 () _ _ _ _ _ _ _ h (by omega) (by omega) (hP.sub (ws' := [(a0, .inr (0, [.ref a1, .ref o0_1, .ref o0_2, .ref o0_3, .ref o0_4, .ref o0_5, .int x0_6, .int x0_7, .int x0_8])), (a1, .inr (1, [.ref a2, .int x1_1])), (a2, .inl (G.2.1 0, n2, .inl f2))]) [0, 2, 1] rfl) (hD.sub (ws' := [(a0, .inr (0, [.ref a1, .ref o0_1, .ref o0_2, .ref o0_3, .ref o0_4, .ref o0_5, .int x0_6, .int x0_7, .int x0_8])), (a1, .inr (1, [.ref a2, .int x1_1])), (a2, .inl (G.2.1 0, n2, .inl f2))]) [0, 2, 1] (by decide) rfl) hS (lv_sub hl [] rfl)
    · replace h := (if_neg cq10).symm.trans h
      refine lv_iload_n hx hb d_TP_change_15 rfl (lv_at hl 2 rfl) ?_
      refine lv_sipush (v := 255) hx hb d_TP_change_16 (by decide) ?_
      refine lv_icmp_le (tgt := 32) hx hb d_TP_change_19 (by decide) (fun cq11 => ?_) (fun cq11 => ?_)
      · replace h := (if_pos cq11).symm.trans h
        refine lv_aload_n hx hb d_TP_change_32 rfl (lv_at hl 0 rfl) ?_
        refine va_get (D := G.1) (ci := 0) (v := .ref a1) (C := R_TP) (T := F_TP) (N := 9) hx hb hts i_TP hown hK hP 0 rfl rfl 0 (by decide) (hts _ q13) (fun _ h9 => h9) rfl d_TP_change_33 ?_
        refine lv_iload_n hx hb d_TP_change_36 rfl (lv_at hl 1 rfl) ?_
        refine lv_aload_n hx hb d_TP_change_37 rfl (lv_at hl 0 rfl) ?_
        refine va_get (D := G.1) (ci := 0) (v := .ref a1) (C := R_TP) (T := F_TP) (N := 9) hx hb hts i_TP hown hK hP 0 rfl rfl 0 (by decide) (hts _ q13) (fun _ h9 => h9) rfl d_TP_change_38 ?_
        refine lv_iload_n hx hb d_TP_change_41 rfl (lv_at hl 1 rfl) ?_
        obtain ⟨r12, hc12, h⟩ := Bd_e h
        refine xV_i0 (wr := [(a0, .inr (0, [.ref a1, .ref o0_1, .ref o0_2, .ref o0_3, .ref o0_4, .ref o0_5, .int x0_6, .int x0_7, .int x0_8]))]) (rest := [.int p1, .ref a1]) C0 hK hT hA hP hD hS hl.1 (c_Row_at l G a1 a2 _ x1_1 n2 f2 p1 N r12 hc12) (goodV q159 q160 q161 q5 q162) 1 rfl hd_Row_at (Nat.le_trans (by decide) hRf) (Nat.le_trans (by decide) hRl) [2, 1] [0] rfl rfl (by decide) (by decide) (by decide) 1 2 rfl rfl rfl (Nat.le_of_ble_eq_true rfl) d_TP_change_42 (by omega) (by omega) (fun w1 H locs hE hP hD hS => ?_)
        subst hE
        have hP : va_P G.1 classes [(a0, .inr (0, [.ref a1, .ref o0_1, .ref o0_2, .ref o0_3, .ref o0_4, .ref o0_5, .int x0_6, .int x0_7, .int x0_8])), (a1, .inr (1, [.ref a2, .int x1_1])), (a2, .inl (G.2.1 0, n2, .inl f2))] H := hP
        have hD : va_D A [(a0, .inr (0, [.ref a1, .ref o0_1, .ref o0_2, .ref o0_3, .ref o0_4, .ref o0_5, .int x0_6, .int x0_7, .int x0_8])), (a1, .inr (1, [.ref a2, .int x1_1])), (a2, .inl (G.2.1 0, n2, .inl f2))] := hD
        refine lv_iload_n hx hb d_TP_change_45 rfl (lv_at hl 2 rfl) ?_
        refine lv_ixor hx hb d_TP_change_46 ?_
        obtain ⟨r13, hc13, h⟩ := Bd_e h
        refine xV_v0 (wr := [(a0, .inr (0, [.ref a1, .ref o0_1, .ref o0_2, .ref o0_3, .ref o0_4, .ref o0_5, .int x0_6, .int x0_7, .int x0_8]))]) (rest := []) C0 hK hT hA hP hD hS hl.1 (c_Row_put l G a1 a2 _ x1_1 n2 f2 p1 (r12 ^^^ p2) N r13 hc13) (goodV q163 q164 q165 q5 q166) 2 rfl hd_Row_put (Nat.le_trans (by decide) hRf) (Nat.le_trans (by decide) hRl) [1, 2] [0] rfl rfl (by decide) (by decide) (by decide) 1 1 rfl rfl rfl (Nat.le_of_ble_eq_true rfl) d_TP_change_47 (by omega) (by omega) (fun w1 H locs hE hP hD hS => ?_)
        subst hE
        have hP : va_P G.1 classes [(a0, .inr (0, [.ref a1, .ref o0_1, .ref o0_2, .ref o0_3, .ref o0_4, .ref o0_5, .int x0_6, .int x0_7, .int x0_8])), (a1, .inr (1, [.ref a2, .int x1_1])), (a2, .inl (G.2.1 0, n2, .inl r13))] H := hP
        have hD : va_D A [(a0, .inr (0, [.ref a1, .ref o0_1, .ref o0_2, .ref o0_3, .ref o0_4, .ref o0_5, .int x0_6, .int x0_7, .int x0_8])), (a1, .inr (1, [.ref a2, .int x1_1])), (a2, .inl (G.2.1 0, n2, .inl r13))] := hD
        obtain ⟨eV, ek, ez⟩ := so3 h
        subst eV
        exact x_vretT C0 hQ hP hD hS rfl (by omega) (by omega) d_TP_change_50
      · replace h := (if_neg cq11).symm.trans h
        exact hj7 () _ _ _ _ _ _ _ h (by omega) (by omega) (hP.sub (ws' := [(a0, .inr (0, [.ref a1, .ref o0_1, .ref o0_2, .ref o0_3, .ref o0_4, .ref o0_5, .int x0_6, .int x0_7, .int x0_8])), (a1, .inr (1, [.ref a2, .int x1_1])), (a2, .inl (G.2.1 0, n2, .inl f2))]) [0, 2, 1] rfl) (hD.sub (ws' := [(a0, .inr (0, [.ref a1, .ref o0_1, .ref o0_2, .ref o0_3, .ref o0_4, .ref o0_5, .int x0_6, .int x0_7, .int x0_8])), (a1, .inr (1, [.ref a2, .int x1_1])), (a2, .inl (G.2.1 0, n2, .inl f2))]) [0, 2, 1] (by decide) rfl) hS (lv_sub hl [] rfl)
set_option maxHeartbeats 4000000 in
set_option maxRecDepth 100000 in
theorem c_Row_bytes (l : Launch) (G : GX) (a0 o0_0 : Nat) (sz : Nat) (x0_1 : Int32)  (N : Nat) (V : Unit) (h : f_Row_bytes N  = some V) :
    Met l y_Row_bytes (wd y_Row_bytes b_Row_bytes 1 (some (.array .byte))) { frames := 0, cells := 0, slots := 0, locals := 0 } (PX G [.ref a0] sz [(a0, .inr (1, [.ref o0_0, .int x0_1]))])
      (QXr G (fun ra w => ra = o0_0 ∧ w = [(a0, .inr (1, [.ref o0_0, .int x0_1]))]) (va_A [(a0, .inr (1, [.ref o0_0, .int x0_1]))] sz)) 0 0 (va_A [(a0, .inr (1, [.ref o0_0, .int x0_1]))] sz) := by
  refine Met_in (QQ := fun A => QXr G (fun ra w => ra = o0_0 ∧ w = [(a0, .inr (1, [.ref o0_0, .int x0_1]))]) A) (by decide) (Nat.le_of_ble_eq_true rfl) (fun p e s m below meth c R Q A ls C0 hRf hRl hRc hRs hP hK hD hT hA hS hl hQ => ?_)
  obtain ⟨hx, hb, hml, hown, hts, hr, hlocks, hin⟩ := id C0
  have hown : s.vm.findClass R_Row = some m.cls := hown
  have hl : lv_has ls 1 [(0, .ref a0)] := hl
  unfold f_Row_bytes at h
  have hkc : 0 ≤ R.cells := Nat.zero_le _
  have hks : 0 ≤ R.slots := Nat.zero_le _
  obtain ⟨H, hH⟩ : ∃ H, H = s.heap := ⟨_, rfl⟩
  obtain ⟨locs, hlc⟩ : ∃ x : List Loc, x = [] := ⟨_, rfl⟩
  rw [← hH] at hP
  have hS : va_S A s.heap H locs := by rw [hH, hlc]; exact hS
  suffices hgo : W p l e R s m [.ref a0].toArray below meth c H locs 0 0 Q (F0 m 0 ls []) by rw [hH, hlc] at hgo; exact hgo
  refine lv_aload_n hx hb d_Row_bytes_0 rfl (lv_at hl 0 rfl) ?_
  refine va_get (D := G.1) (ci := 1) (v := .ref o0_0) (C := R_Row) (T := F_Row) (N := 2) hx hb hts i_Row hown hK hP 0 rfl rfl 0 (by decide) (hts _ q8) (fun _ h9 => h9) rfl d_Row_bytes_1 ?_
  have eV := so1 h
  subst eV
  exact x_aret C0 hQ hP hD hS ⟨rfl, rfl⟩ (Nat.zero_le _) (Nat.zero_le _) d_Row_bytes_4
set_option maxHeartbeats 4000000 in
set_option maxRecDepth 100000 in
theorem c_BW_start (l : Launch) (G : GX) (a0 o_p1 o0_0 : Nat) (sz : Nat) (x0_1 : Int32) (x0_2 : Int32)  (N : Nat) (V : Unit) (h : f_BW_start N  = some V) :
    Met l y_BW_start (wd y_BW_start b_BW_start 2 none) { frames := 0, cells := 0, slots := 0, locals := 0 } (PX G [.ref a0, .ref o_p1] sz [(a0, .inr (3, [.ref o0_0, .int x0_1, .int x0_2]))])
      (QXv G (fun w => w = [(a0, .inr (3, [.ref o_p1, .int 0, .int 0]))]) (va_A [(a0, .inr (3, [.ref o0_0, .int x0_1, .int x0_2]))] sz)) 0 0 (va_A [(a0, .inr (3, [.ref o0_0, .int x0_1, .int x0_2]))] sz) := by
  refine Met_in (QQ := fun A => QXv G (fun w => w = [(a0, .inr (3, [.ref o_p1, .int 0, .int 0]))]) A) (by decide) (Nat.le_of_ble_eq_true rfl) (fun p e s m below meth c R Q A ls C0 hRf hRl hRc hRs hP hK hD hT hA hS hl hQ => ?_)
  obtain ⟨hx, hb, hml, hown, hts, hr, hlocks, hin⟩ := id C0
  have hown : s.vm.findClass R_BW = some m.cls := hown
  have hl : lv_has ls 2 [(0, .ref a0), (1, .ref o_p1)] := hl
  unfold f_BW_start at h
  have hkc : 0 ≤ R.cells := Nat.zero_le _
  have hks : 0 ≤ R.slots := Nat.zero_le _
  obtain ⟨H, hH⟩ : ∃ H, H = s.heap := ⟨_, rfl⟩
  obtain ⟨locs, hlc⟩ : ∃ x : List Loc, x = [] := ⟨_, rfl⟩
  rw [← hH] at hP
  have hS : va_S A s.heap H locs := by rw [hH, hlc]; exact hS
  suffices hgo : W p l e R s m [.ref a0, .ref o_p1].toArray below meth c H locs 0 0 Q (F0 m 0 ls []) by rw [hH, hlc] at hgo; exact hgo
  refine lv_aload_n hx hb d_BW_start_0 rfl (lv_at hl 0 rfl) ?_
  refine lv_aload_n hx hb d_BW_start_1 rfl (lv_at hl 1 rfl) ?_
  refine va_put (D := G.1) (ci := 3) (v := .ref o_p1) (ty := .object "TextPress$Row") (C := R_BW) (T := F_BW) (N := 3) hx hb hts i_BW t_BW t_BW_ok n_BW hown hK hP hD hS 0 rfl rfl 0 (by decide) (hts _ q37) (fun _ h9 => h9) rfl (by decide +kernel) rfl rfl (Nat.le_of_ble_eq_true rfl) d_BW_start_2 (fun H locs hP hD hS => ?_)
  have hP : va_P G.1 classes [(a0, .inr (3, [.ref o_p1, .int x0_1, .int x0_2]))] H := hP
  have hD : va_D A [(a0, .inr (3, [.ref o_p1, .int x0_1, .int x0_2]))] := hD
  refine lv_aload_n hx hb d_BW_start_5 rfl (lv_at hl 0 rfl) ?_
  refine lv_iconst (v := 0) hx hb d_BW_start_6 (by decide) ?_
  refine va_put (D := G.1) (ci := 3) (v := .int 0) (ty := .int) (C := R_BW) (T := F_BW) (N := 3) hx hb hts i_BW t_BW t_BW_ok n_BW hown hK hP hD hS 0 rfl rfl 1 (by decide) (hts _ q38) (fun _ h9 => h9) rfl (by decide +kernel) rfl rfl (Nat.le_of_ble_eq_true rfl) d_BW_start_7 (fun H locs hP hD hS => ?_)
  have hP : va_P G.1 classes [(a0, .inr (3, [.ref o_p1, .int 0, .int x0_2]))] H := hP
  have hD : va_D A [(a0, .inr (3, [.ref o_p1, .int 0, .int x0_2]))] := hD
  refine lv_aload_n hx hb d_BW_start_10 rfl (lv_at hl 0 rfl) ?_
  refine lv_iconst (v := 0) hx hb d_BW_start_11 (by decide) ?_
  refine va_put (D := G.1) (ci := 3) (v := .int 0) (ty := .int) (C := R_BW) (T := F_BW) (N := 3) hx hb hts i_BW t_BW t_BW_ok n_BW hown hK hP hD hS 0 rfl rfl 2 (by decide) (hts _ q39) (fun _ h9 => h9) rfl (by decide +kernel) rfl rfl (Nat.le_of_ble_eq_true rfl) d_BW_start_12 (fun H locs hP hD hS => ?_)
  have hP : va_P G.1 classes [(a0, .inr (3, [.ref o_p1, .int 0, .int 0]))] H := hP
  have hD : va_D A [(a0, .inr (3, [.ref o_p1, .int 0, .int 0]))] := hD
  have eV := so1 h
  subst eV
  exact x_vret C0 hQ hP hD hS rfl (Nat.zero_le _) (Nat.zero_le _) d_BW_start_15
set_option maxHeartbeats 4000000 in
set_option maxRecDepth 100000 in
theorem w_BW_put_25 {p : Program} {l : Launch} {e : Env} {R : Room} {s : State} {m : MethodId} {args : Array Value} {below : List Frame} {meth : Method} {c : Code} {Q : State → Prop} {G : GX} {A : Nat → Prop} (C0 : Cx p s m args meth c b_BW_put 3 y_BW_put none) (hRf : 4 ≤ R.frames) (hRl : 125 ≤ R.locals) (hA : ∀ q, s.heap.size ≤ q → A q) (hK : KX G s) (hT : TX G A s) (N : Nat)  (c0 c1 : Nat) (out : Int32 × Int32 × Int32 × Nat × (Nat → Int32)) {KT ZT : Nat} (hKT : KT ≤ R.cells) (hZT : ZT ≤ R.slots)
    (kx74 : ∀ (c2' : Nat) (H : Heap) (locs : List Loc) (ls : Array Slot), va_P G.1 classes [(c0, .inr (3, [.ref c1, .int out.1, .int out.2.1])), (c1, .inr (1, [.ref c2', .int out.2.2.1])), (c2', .inl (G.2.1 0, out.2.2.2.1, .inl out.2.2.2.2))] H → va_D A [(c0, .inr (3, [.ref c1, .int out.1, .int out.2.1])), (c1, .inr (1, [.ref c2', .int out.2.2.1])), (c2', .inl (G.2.1 0, out.2.2.2.1, .inl out.2.2.2.2))] → va_S A s.heap H locs → lv_has ls 3 [] → W p l e R s m args below meth c H locs KT ZT Q (F0 m 74 ls [])) :
    ∀ (n : Nat) (y0_1 : Int32) (y0_2 : Int32) (y1_1 : Int32) (m2 : Nat) (g_2 : (Nat → Int32)) (c2 : Nat) (kc ks k z : Nat) (H : Heap) (locs : List Loc) (ls : Array Slot), lp_BW_put_25 N  n y0_1 y0_2 y1_1 m2 g_2 = some (out, k, z) → kc + k = KT → ks + z = ZT → va_P G.1 classes [(c0, .inr (3, [.ref c1, .int y0_1, .int y0_2])), (c1, .inr (1, [.ref c2, .int y1_1])), (c2, .inl (G.2.1 0, m2, .inl g_2))] H → va_D A [(c0, .inr (3, [.ref c1, .int y0_1, .int y0_2])), (c1, .inr (1, [.ref c2, .int y1_1])), (c2, .inl (G.2.1 0, m2, .inl g_2))] → va_S A s.heap H locs → lv_has ls 3 [(0, .ref c0)] → W p l e R s m args below meth c H locs kc ks Q (F0 m 25 ls []) := by
  obtain ⟨hx, hb, hml, hown, hts, hr, hlocks, hin⟩ := id C0
  have hown : s.vm.findClass R_BW = some m.cls := hown
  intro n
  induction n with
  | zero => intro y0_1 y0_2 y1_1 m2 g_2 c2 kc ks k z H locs ls h; cases h
  | succ n ih =>
    intro y0_1 y0_2 y1_1 m2 g_2 c2 kc ks k z H locs ls h ekc ezc hP hD hS hl
    replace h : lb_BW_put_25 N  (lp_BW_put_25 N  n) y0_1 y0_2 y1_1 m2 g_2 = some (out, k, z) := h
    unfold lb_BW_put_25 at h
    refine lv_aload_n hx hb d_BW_put_25 rfl (lv_at hl 0 rfl) ?_
    refine va_get (D := G.1) (ci := 3) (v := .int y0_2) (C := R_BW) (T := F_BW) (N := 3) hx hb hts i_BW hown hK hP 0 rfl rfl 2 (by decide) (hts _ q39) (fun _ h9 => h9) rfl d_BW_put_26 ?_
    refine lv_bipush (v := 8) hx hb d_BW_put_29 (by decide) ?_
    refine lv_icmp_lt (tgt := 74) hx hb d_BW_put_31 (by decide) (fun cq8 => ?_) (fun cq8 => ?_)
    · replace h := (if_pos cq8).symm.trans h
      obtain ⟨eV, ek, ez⟩ := so3 h
      subst eV
      refine W.widen (k := KT) (n := ZT) (by omega) (by omega) ?_
      exact kx74 c2 _ _ _ hP hD hS (lv_sub hl [] rfl)
    · replace h := (if_neg cq8).symm.trans h
      refine lv_aload_n hx hb d_BW_put_34 rfl (lv_at hl 0 rfl) ?_
      refine va_get (D := G.1) (ci := 3) (v := .ref c1) (C := R_BW) (T := F_BW) (N := 3) hx hb hts i_BW hown hK hP 0 rfl rfl 0 (by decide) (hts _ q37) (fun _ h9 => h9) rfl d_BW_put_35 ?_
      refine lv_aload_n hx hb d_BW_put_38 rfl (lv_at hl 0 rfl) ?_
      refine va_get (D := G.1) (ci := 3) (v := .int y0_1) (C := R_BW) (T := F_BW) (N := 3) hx hb hts i_BW hown hK hP 0 rfl rfl 1 (by decide) (hts _ q38) (fun _ h9 => h9) rfl d_BW_put_39 ?_
      refine lv_sipush (v := 255) hx hb d_BW_put_42 (by decide) ?_
      refine lv_iand hx hb d_BW_put_45 ?_
      obtain ⟨r9, k9, z9, kk9, zz9, hc9, h, ek9, ez9⟩ := Bk_e h
      have ekc : kc + k9 + kk9 = KT := by omega
      have ezc : ks + z9 + zz9 = ZT := by omega
      refine xV_v (wr := [(c0, .inr (3, [.ref c1, .int y0_1, .int y0_2]))]) (rest := []) C0 hK hT hA hP hD hS hl.1 (c_Row_add l G c1 c2 _ y1_1 m2 g_2 (y0_1 &&& 255) N r9 k9 z9 hc9) (goodV q179 q135 q136 q5 q137) 1 rfl hd_Row_add (Nat.le_trans (by decide) hRf) (Nat.le_trans (by decide) hRl) [1, 2] [0] rfl rfl (by decide) (by decide) (by decide) 1 1 rfl rfl rfl (Nat.le_of_ble_eq_true rfl) d_BW_put_46 (by omega) (by omega) (fun w1 H locs hE hP hD hS => ?_)
      obtain ⟨b10, rfl⟩ := hE
      have hP : va_P G.1 classes [(c0, .inr (3, [.ref c1, .int y0_1, .int y0_2])), (c1, .inr (1, [.ref b10, .int r9.1])), (b10, .inl (G.2.1 0, r9.2.1, .inl r9.2.2))] H := hP
      have hD : va_D A [(c0, .inr (3, [.ref c1, .int y0_1, .int y0_2])), (c1, .inr (1, [.ref b10, .int r9.1])), (b10, .inl (G.2.1 0, r9.2.1, .inl r9.2.2))] := hD
      refine lv_aload_n hx hb d_BW_put_49 rfl (lv_at hl 0 rfl) ?_
      refine lv_dup hx hb d_BW_put_50 rfl ?_
      refine va_get (D := G.1) (ci := 3) (v := .int y0_1) (C := R_BW) (T := F_BW) (N := 3) hx hb hts i_BW hown hK hP 0 rfl rfl 1 (by decide) (hts _ q38) (fun _ h9 => h9) rfl d_BW_put_51 ?_
      refine lv_bipush (v := 8) hx hb d_BW_put_54 (by decide) ?_
      refine lv_iushr (v := us y0_1 8) hx hb d_BW_put_56 rfl ?_
      refine lv_topi (fun v11 ev11 => ?_)
      replace h := Lt_e h ev11
      refine va_put (D := G.1) (ci := 3) (v := .int v11) (ty := .int) (C := R_BW) (T := F_BW) (N := 3) hx hb hts i_BW t_BW t_BW_ok n_BW hown hK hP hD hS 0 rfl rfl 1 (by decide) (hts _ q38) (fun _ h9 => h9) rfl (by decide +kernel) rfl rfl (Nat.le_of_ble_eq_true rfl) d_BW_put_57 (fun H locs hP hD hS => ?_)
      have hP : va_P G.1 classes [(c0, .inr (3, [.ref c1, .int v11, .int y0_2])), (c1, .inr (1, [.ref b10, .int r9.1])), (b10, .inl (G.2.1 0, r9.2.1, .inl r9.2.2))] H := hP
      have hD : va_D A [(c0, .inr (3, [.ref c1, .int v11, .int y0_2])), (c1, .inr (1, [.ref b10, .int r9.1])), (b10, .inl (G.2.1 0, r9.2.1, .inl r9.2.2))] := hD
      refine lv_aload_n hx hb d_BW_put_60 rfl (lv_at hl 0 rfl) ?_
      refine lv_dup hx hb d_BW_put_61 rfl ?_
      refine va_get (D := G.1) (ci := 3) (v := .int y0_2) (C := R_BW) (T := F_BW) (N := 3) hx hb hts i_BW hown hK hP 0 rfl rfl 2 (by decide) (hts _ q39) (fun _ h9 => h9) rfl d_BW_put_62 ?_
      refine lv_bipush (v := 8) hx hb d_BW_put_65 (by decide) ?_
      refine lv_isub hx hb d_BW_put_67 ?_
      refine lv_topi (fun v12 ev12 => ?_)
      replace h := Lt_e h ev12
      refine va_put (D := G.1) (ci := 3) (v := .int v12) (ty := .int) (C := R_BW) (T := F_BW) (N := 3) hx hb hts i_BW t_BW t_BW_ok n_BW hown hK hP hD hS 0 rfl rfl 2 (by decide) (hts _ q39) (fun _ h9 => h9) rfl (by decide +kernel) rfl rfl (Nat.le_of_ble_eq_true rfl) d_BW_put_68 (fun H locs hP hD hS => ?_)
      have hP : va_P G.1 classes [(c0, .inr (3, [.ref c1, .int v11, .int v12])), (c1, .inr (1, [.ref b10, .int r9.1])), (b10, .inl (G.2.1 0, r9.2.1, .inl r9.2.2))] H := hP
      have hD : va_D A [(c0, .inr (3, [.ref c1, .int v11, .int v12])), (c1, .inr (1, [.ref b10, .int r9.1])), (b10, .inl (G.2.1 0, r9.2.1, .inl r9.2.2))] := hD
      refine lv_goto (tgt := 25) hx hb d_BW_put_71 (by decide) ?_
      exact ih v11 v12 r9.1 r9.2.1 r9.2.2 b10 _ _ _ _ _ _ _ h (by omega) (by omega) hP hD hS hl
set_option maxHeartbeats 4000000 in
set_option maxRecDepth 100000 in
theorem c_BW_put (l : Launch) (G : GX) (a0 a1 a2 : Nat) (sz : Nat) (x0_1 : Int32) (x0_2 : Int32) (x1_1 : Int32) (n2 : Nat) (f2 : (Nat → Int32)) (p1 : Int32) (p2 : Int32) (N : Nat) (V : Int32 × Int32 × Int32 × Nat × (Nat → Int32)) (K Z : Nat) (h : f_BW_put N x0_1 x0_2 x1_1 n2 f2 p1 p2 = some (V, K, Z)) :
    Met l y_BW_put (wd y_BW_put b_BW_put 3 none) { frames := 4, cells := K, slots := Z, locals := 125 } (PX G [.ref a0, .int p1, .int p2] sz [(a0, .inr (3, [.ref a1, .int x0_1, .int x0_2])), (a1, .inr (1, [.ref a2, .int x1_1])), (a2, .inl (G.2.1 0, n2, .inl f2))])
      (QXv G (fun w => ∃ e0 : Nat, w = [(a0, .inr (3, [.ref a1, .int V.1, .int V.2.1])), (a1, .inr (1, [.ref e0, .int V.2.2.1])), (e0, .inl (G.2.1 0, V.2.2.2.1, .inl V.2.2.2.2))]) (va_A [(a0, .inr (3, [.ref a1, .int x0_1, .int x0_2])), (a1, .inr (1, [.ref a2, .int x1_1])), (a2, .inl (G.2.1 0, n2, .inl f2))] sz)) K Z (va_A [(a0, .inr (3, [.ref a1, .int x0_1, .int x0_2])), (a1, .inr (1, [.ref a2, .int x1_1])), (a2, .inl (G.2.1 0, n2, .inl f2))] sz) := by
  refine Met_in (QQ := fun A => QXv G (fun w => ∃ e0 : Nat, w = [(a0, .inr (3, [.ref a1, .int V.1, .int V.2.1])), (a1, .inr (1, [.ref e0, .int V.2.2.1])), (e0, .inl (G.2.1 0, V.2.2.2.1, .inl V.2.2.2.2))]) A) (by decide) (Nat.le_of_ble_eq_true rfl) (fun p e s m below meth c R Q A ls C0 hRf hRl hRc hRs hP hK hD hT hA hS hl hQ => ?_)
  obtain ⟨hx, hb, hml, hown, hts, hr, hlocks, hin⟩ := id C0
  have hown : s.vm.findClass R_BW = some m.cls := hown
  have hl : lv_has ls 3 [(0, .ref a0), (1, .int p1), (2, .int p2)] := hl
  unfold f_BW_put at h
  have hKT : K ≤ R.cells := Nat.le_of_eq hRc.symm
  have hZT : Z ≤ R.slots := Nat.le_of_eq hRs.symm
  have ekc : 0 + K = K := by omega
  have ezc : 0 + Z = Z := by omega
  obtain ⟨H, hH⟩ : ∃ H, H = s.heap := ⟨_, rfl⟩
  obtain ⟨locs, hlc⟩ : ∃ x : List Loc, x = [] := ⟨_, rfl⟩
  rw [← hH] at hP
  have hS : va_S A s.heap H locs := by rw [hH, hlc]; exact hS
  suffices hgo : W p l e R s m [.ref a0, .int p1, .int p2].toArray below meth c H locs 0 0 Q (F0 m 0 ls []) by rw [hH, hlc] at hgo; exact hgo
  refine lv_aload_n hx hb d_BW_put_0 rfl (lv_at hl 0 rfl) ?_
  refine lv_dup hx hb d_BW_put_1 rfl ?_
  refine va_get (D := G.1) (ci := 3) (v := .int x0_1) (C := R_BW) (T := F_BW) (N := 3) hx hb hts i_BW hown hK hP 0 rfl rfl 1 (by decide) (hts _ q38) (fun _ h9 => h9) rfl d_BW_put_2 ?_
  refine lv_iload_n hx hb d_BW_put_5 rfl (lv_at hl 1 rfl) ?_
  refine lv_aload_n hx hb d_BW_put_6 rfl (lv_at hl 0 rfl) ?_
  refine va_get (D := G.1) (ci := 3) (v := .int x0_2) (C := R_BW) (T := F_BW) (N := 3) hx hb hts i_BW hown hK hP 0 rfl rfl 2 (by decide) (hts _ q39) (fun _ h9 => h9) rfl d_BW_put_7 ?_
  refine lv_ishl hx hb d_BW_put_10 ?_
  refine lv_ior hx hb d_BW_put_11 ?_
  refine lv_topi (fun v1 ev1 => ?_)
  replace h := Lt_e h ev1
  refine va_put (D := G.1) (ci := 3) (v := .int v1) (ty := .int) (C := R_BW) (T := F_BW) (N := 3) hx hb hts i_BW t_BW t_BW_ok n_BW hown hK hP hD hS 0 rfl rfl 1 (by decide) (hts _ q38) (fun _ h9 => h9) rfl (by decide +kernel) rfl rfl (Nat.le_of_ble_eq_true rfl) d_BW_put_12 (fun H locs hP hD hS => ?_)
  have hP : va_P G.1 classes [(a0, .inr (3, [.ref a1, .int v1, .int x0_2])), (a1, .inr (1, [.ref a2, .int x1_1])), (a2, .inl (G.2.1 0, n2, .inl f2))] H := hP
  have hD : va_D A [(a0, .inr (3, [.ref a1, .int v1, .int x0_2])), (a1, .inr (1, [.ref a2, .int x1_1])), (a2, .inl (G.2.1 0, n2, .inl f2))] := hD
  refine lv_aload_n hx hb d_BW_put_15 rfl (lv_at hl 0 rfl) ?_
  refine lv_dup hx hb d_BW_put_16 rfl ?_
  refine va_get (D := G.1) (ci := 3) (v := .int x0_2) (C := R_BW) (T := F_BW) (N := 3) hx hb hts i_BW hown hK hP 0 rfl rfl 2 (by decide) (hts _ q39) (fun _ h9 => h9) rfl d_BW_put_17 ?_
  refine lv_iload_n hx hb d_BW_put_20 rfl (lv_at hl 2 rfl) ?_
  refine lv_iadd hx hb d_BW_put_21 ?_
  refine lv_topi (fun v2 ev2 => ?_)
  replace h := Lt_e h ev2
  refine va_put (D := G.1) (ci := 3) (v := .int v2) (ty := .int) (C := R_BW) (T := F_BW) (N := 3) hx hb hts i_BW t_BW t_BW_ok n_BW hown hK hP hD hS 0 rfl rfl 2 (by decide) (hts _ q39) (fun _ h9 => h9) rfl (by decide +kernel) rfl rfl (Nat.le_of_ble_eq_true rfl) d_BW_put_22 (fun H locs hP hD hS => ?_)
  have hP : va_P G.1 classes [(a0, .inr (3, [.ref a1, .int v1, .int v2])), (a1, .inr (1, [.ref a2, .int x1_1])), (a2, .inl (G.2.1 0, n2, .inl f2))] H := hP
  have hD : va_D A [(a0, .inr (3, [.ref a1, .int v1, .int v2])), (a1, .inr (1, [.ref a2, .int x1_1])), (a2, .inl (G.2.1 0, n2, .inl f2))] := hD
  obtain ⟨r13, k13, z13, kk13, zz13, hc13, h, ek13, ez13⟩ := Bk_e h
  refine w_BW_put_25 C0 hRf hRl hA hK hT N  a0 a1 r13 (KT := 0 + k13) (ZT := 0 + z13) (by omega) (by omega) ?_ N v1 v2 x1_1 n2 f2 a2 0 0 _ _ _ _ _ hc13 rfl rfl hP hD hS (lv_sub hl [0] rfl)
  · intro b14 H locs ls hP hD hS hl
    have ekc : 0 + k13 + kk13 = K := by omega
    have ezc : 0 + z13 + zz13 = Z := by omega
    obtain ⟨eV, ek, ez⟩ := so3 h
    subst eV
    exact x_vret C0 hQ hP hD hS ⟨b14, rfl⟩ (by omega) (by omega) d_BW_put_74
set_option maxHeartbeats 4000000 in
set_option maxRecDepth 100000 in
theorem c_Pr_startForm (l : Launch) (G : GX) (a0 a1 a2 a3 o2_1 o3_0 : Nat) (sz : Nat) (x0_1 : Int32) (n1 : Nat) (f1 : (Nat → Int32)) (x2_2 : Int32) (x2_3 : Int32) (x3_1 : Int32) (x3_2 : Int32)  (N : Nat) (V : Int32 × Nat × (Nat → Int32) × Int32 × Int32) (K Z : Nat) (h : f_Pr_startForm N x0_1 n1 f1 = some (V, K, Z)) :
    Met l y_Pr_startForm (wd y_Pr_startForm b_Pr_startForm 2 none) { frames := 5, cells := K, slots := Z, locals := 147 } (PX G [.ref a2, .ref a0] sz [(a0, .inr (1, [.ref a1, .int x0_1])), (a1, .inl (G.2.1 0, n1, .inl f1)), (a2, .inr (5, [.ref a3, .ref o2_1, .int x2_2, .int x2_3])), (a3, .inr (3, [.ref o3_0, .int x3_1, .int x3_2]))])
      (QXv G (fun w => ∃ e0 : Nat, w = [(a0, .inr (1, [.ref e0, .int V.1])), (e0, .inl (G.2.1 0, V.2.1, .inl V.2.2.1)), (a2, .inr (5, [.ref a3, .ref o2_1, .int x2_2, .int x2_3])), (a3, .inr (3, [.ref a0, .int V.2.2.2.1, .int V.2.2.2.2]))]) (va_A [(a0, .inr (1, [.ref a1, .int x0_1])), (a1, .inl (G.2.1 0, n1, .inl f1)), (a2, .inr (5, [.ref a3, .ref o2_1, .int x2_2, .int x2_3])), (a3, .inr (3, [.ref o3_0, .int x3_1, .int x3_2]))] sz)) K Z (va_A [(a0, .inr (1, [.ref a1, .int x0_1])), (a1, .inl (G.2.1 0, n1, .inl f1)), (a2, .inr (5, [.ref a3, .ref o2_1, .int x2_2, .int x2_3])), (a3, .inr (3, [.ref o3_0, .int x3_1, .int x3_2]))] sz) := by
  refine Met_in (QQ := fun A => QXv G (fun w => ∃ e0 : Nat, w = [(a0, .inr (1, [.ref e0, .int V.1])), (e0, .inl (G.2.1 0, V.2.1, .inl V.2.2.1)), (a2, .inr (5, [.ref a3, .ref o2_1, .int x2_2, .int x2_3])), (a3, .inr (3, [.ref a0, .int V.2.2.2.1, .int V.2.2.2.2]))]) A) (by decide) (Nat.le_of_ble_eq_true rfl) (fun p e s m below meth c R Q A ls C0 hRf hRl hRc hRs hP hK hD hT hA hS hl hQ => ?_)
  obtain ⟨hx, hb, hml, hown, hts, hr, hlocks, hin⟩ := id C0
  have hown : s.vm.findClass R_Pr = some m.cls := hown
  have hl : lv_has ls 2 [(0, .ref a2), (1, .ref a0)] := hl
  unfold f_Pr_startForm at h
  have hKT : K ≤ R.cells := Nat.le_of_eq hRc.symm
  have hZT : Z ≤ R.slots := Nat.le_of_eq hRs.symm
  have ekc : 0 + K = K := by omega
  have ezc : 0 + Z = Z := by omega
  obtain ⟨H, hH⟩ : ∃ H, H = s.heap := ⟨_, rfl⟩
  obtain ⟨locs, hlc⟩ : ∃ x : List Loc, x = [] := ⟨_, rfl⟩
  rw [← hH] at hP
  have hS : va_S A s.heap H locs := by rw [hH, hlc]; exact hS
  suffices hgo : W p l e R s m [.ref a2, .ref a0].toArray below meth c H locs 0 0 Q (F0 m 0 ls []) by rw [hH, hlc] at hgo; exact hgo
  refine lv_aload_n hx hb d_Pr_startForm_0 rfl (lv_at hl 1 rfl) ?_
  refine lv_iconst (v := 0) hx hb d_Pr_startForm_1 (by decide) ?_
  obtain ⟨r1, hc1, h⟩ := Bd_e h
  refine xV_v0 (wr := [(a1, .inl (G.2.1 0, n1, .inl f1)), (a2, .inr (5, [.ref a3, .ref o2_1, .int x2_2, .int x2_3])), (a3, .inr (3, [.ref o3_0, .int x3_1, .int x3_2]))]) (rest := []) C0 hK hT hA hP hD hS hl.1 (c_Row_shorten l G a0 a1 _ x0_1 0 N r1 hc1) (goodV q173 q147 q148 q5 q149) 1 rfl hd_Row_shorten (Nat.le_trans (by decide) hRf) (Nat.le_trans (by decide) hRl) [0] [1, 2, 3] rfl rfl (by decide) (by decide) (by decide) 1 0 rfl rfl rfl (Nat.le_of_ble_eq_true rfl) d_Pr_startForm_2 (by omega) (by omega) (fun w1 H locs hE hP hD hS => ?_)
  subst hE
  have hP : va_P G.1 classes [(a1, .inl (G.2.1 0, n1, .inl f1)), (a2, .inr (5, [.ref a3, .ref o2_1, .int x2_2, .int x2_3])), (a3, .inr (3, [.ref o3_0, .int x3_1, .int x3_2])), (a0, .inr (1, [.ref a1, .int r1]))] H := hP
  have hD : va_D A [(a1, .inl (G.2.1 0, n1, .inl f1)), (a2, .inr (5, [.ref a3, .ref o2_1, .int x2_2, .int x2_3])), (a3, .inr (3, [.ref o3_0, .int x3_1, .int x3_2])), (a0, .inr (1, [.ref a1, .int r1]))] := hD
  refine lv_aload_n hx hb d_Pr_startForm_5 rfl (lv_at hl 1 rfl) ?_
  refine lv_bipush (v := 120) hx hb d_Pr_startForm_6 (by decide) ?_
  obtain ⟨r2, k2, z2, kk2, zz2, hc2, h, ek2, ez2⟩ := Bk_e h
  have ekc : 0 + k2 + kk2 = K := by omega
  have ezc : 0 + z2 + zz2 = Z := by omega
  refine xV_v (wr := [(a2, .inr (5, [.ref a3, .ref o2_1, .int x2_2, .int x2_3])), (a3, .inr (3, [.ref o3_0, .int x3_1, .int x3_2]))]) (rest := []) C0 hK hT hA hP hD hS hl.1 (c_Row_add l G a0 a1 _ r1 n1 f1 120 N r2 k2 z2 hc2) (goodV q174 q135 q136 q5 q137) 1 rfl hd_Row_add (Nat.le_trans (by decide) hRf) (Nat.le_trans (by decide) hRl) [3, 0] [1, 2] rfl rfl (by decide) (by decide) (by decide) 1 3 rfl rfl rfl (Nat.le_of_ble_eq_true rfl) d_Pr_startForm_8 (by omega) (by omega) (fun w1 H locs hE hP hD hS => ?_)
  obtain ⟨b3, rfl⟩ := hE
  have hP : va_P G.1 classes [(a2, .inr (5, [.ref a3, .ref o2_1, .int x2_2, .int x2_3])), (a3, .inr (3, [.ref o3_0, .int x3_1, .int x3_2])), (a0, .inr (1, [.ref b3, .int r2.1])), (b3, .inl (G.2.1 0, r2.2.1, .inl r2.2.2))] H := hP
  have hD : va_D A [(a2, .inr (5, [.ref a3, .ref o2_1, .int x2_2, .int x2_3])), (a3, .inr (3, [.ref o3_0, .int x3_1, .int x3_2])), (a0, .inr (1, [.ref b3, .int r2.1])), (b3, .inl (G.2.1 0, r2.2.1, .inl r2.2.2))] := hD
  refine lv_aload_n hx hb d_Pr_startForm_11 rfl (lv_at hl 1 rfl) ?_
  refine lv_iconst (v := 1) hx hb d_Pr_startForm_12 (by decide) ?_
  obtain ⟨r4, k4, z4, kk4, zz4, hc4, h, ek4, ez4⟩ := Bk_e h
  have ekc : 0 + k2 + k4 + kk4 = K := by omega
  have ezc : 0 + z2 + z4 + zz4 = Z := by omega
  refine xV_v (wr := [(a2, .inr (5, [.ref a3, .ref o2_1, .int x2_2, .int x2_3])), (a3, .inr (3, [.ref o3_0, .int x3_1, .int x3_2]))]) (rest := []) C0 hK hT hA hP hD hS hl.1 (c_Row_add l G a0 b3 _ r2.1 r2.2.1 r2.2.2 1 N r4 k4 z4 hc4) (goodV q174 q135 q136 q5 q137) 1 rfl hd_Row_add (Nat.le_trans (by decide) hRf) (Nat.le_trans (by decide) hRl) [2, 3] [0, 1] rfl rfl (by decide) (by decide) (by decide) 1 2 rfl rfl rfl (Nat.le_of_ble_eq_true rfl) d_Pr_startForm_13 (by omega) (by omega) (fun w1 H locs hE hP hD hS => ?_)
  obtain ⟨b5, rfl⟩ := hE
  have hP : va_P G.1 classes [(a2, .inr (5, [.ref a3, .ref o2_1, .int x2_2, .int x2_3])), (a3, .inr (3, [.ref o3_0, .int x3_1, .int x3_2])), (a0, .inr (1, [.ref b5, .int r4.1])), (b5, .inl (G.2.1 0, r4.2.1, .inl r4.2.2))] H := hP
  have hD : va_D A [(a2, .inr (5, [.ref a3, .ref o2_1, .int x2_2, .int x2_3])), (a3, .inr (3, [.ref o3_0, .int x3_1, .int x3_2])), (a0, .inr (1, [.ref b5, .int r4.1])), (b5, .inl (G.2.1 0, r4.2.1, .inl r4.2.2))] := hD
  refine lv_aload_n hx hb d_Pr_startForm_16 rfl (lv_at hl 0 rfl) ?_
  refine va_get (D := G.1) (ci := 5) (v := .ref a3) (C := R_Pr) (T := F_Pr) (N := 4) hx hb hts i_Pr hown hK hP 0 rfl rfl 0 (by decide) (hts _ q43) (fun _ h9 => h9) rfl d_Pr_startForm_17 ?_
  refine lv_aload_n hx hb d_Pr_startForm_20 rfl (lv_at hl 1 rfl) ?_
  obtain ⟨r6, hc6, h⟩ := Bd_e h
  refine xV_v0 (wr := [(a2, .inr (5, [.ref a3, .ref o2_1, .int x2_2, .int x2_3])), (a0, .inr (1, [.ref b5, .int r4.1])), (b5, .inl (G.2.1 0, r4.2.1, .inl r4.2.2))]) (rest := []) C0 hK hT hA hP hD hS hl.1 (c_BW_start l G a3 a0 o3_0 _ x3_1 x3_2  N r6 hc6) (goodV q175 q176 q177 q33 q178) 1 rfl hd_BW_start (Nat.le_trans (by decide) hRf) (Nat.le_trans (by decide) hRl) [1] [0, 2, 3] rfl rfl (by decide) (by decide) (by decide) 3 1 rfl rfl rfl (Nat.le_of_ble_eq_true rfl) d_Pr_startForm_21 (by omega) (by omega) (fun w1 H locs hE hP hD hS => ?_)
  subst hE
  have hP : va_P G.1 classes [(a2, .inr (5, [.ref a3, .ref o2_1, .int x2_2, .int x2_3])), (a0, .inr (1, [.ref b5, .int r4.1])), (b5, .inl (G.2.1 0, r4.2.1, .inl r4.2.2)), (a3, .inr (3, [.ref a0, .int 0, .int 0]))] H := hP
  have hD : va_D A [(a2, .inr (5, [.ref a3, .ref o2_1, .int x2_2, .int x2_3])), (a0, .inr (1, [.ref b5, .int r4.1])), (b5, .inl (G.2.1 0, r4.2.1, .inl r4.2.2)), (a3, .inr (3, [.ref a0, .int 0, .int 0]))] := hD
  refine lv_aload_n hx hb d_Pr_startForm_24 rfl (lv_at hl 0 rfl) ?_
  refine va_get (D := G.1) (ci := 5) (v := .ref a3) (C := R_Pr) (T := F_Pr) (N := 4) hx hb hts i_Pr hown hK hP 0 rfl rfl 0 (by decide) (hts _ q43) (fun _ h9 => h9) rfl d_Pr_startForm_25 ?_
  refine lv_iconst (v := 1) hx hb d_Pr_startForm_28 (by decide) ?_
  refine lv_iconst (v := 1) hx hb d_Pr_startForm_29 (by decide) ?_
  obtain ⟨r7, k7, z7, kk7, zz7, hc7, h, ek7, ez7⟩ := Bk_e h
  have ekc : 0 + k2 + k4 + k7 + kk7 = K := by omega
  have ezc : 0 + z2 + z4 + z7 + zz7 = Z := by omega
  refine xV_v (wr := [(a2, .inr (5, [.ref a3, .ref o2_1, .int x2_2, .int x2_3]))]) (rest := []) C0 hK hT hA hP hD hS hl.1 (c_BW_put l G a3 a0 b5 _ 0 0 r4.1 r4.2.1 r4.2.2 1 1 N r7 k7 z7 hc7) (goodV q180 q181 q182 q33 q183) 2 rfl hd_BW_put (Nat.le_trans (by decide) hRf) (Nat.le_trans (by decide) hRl) [3, 1, 2] [0] rfl rfl (by decide) (by decide) (by decide) 3 3 rfl rfl rfl (Nat.le_of_ble_eq_true rfl) d_Pr_startForm_30 (by omega) (by omega) (fun w1 H locs hE hP hD hS => ?_)
  obtain ⟨b8, rfl⟩ := hE
  have hP : va_P G.1 classes [(a2, .inr (5, [.ref a3, .ref o2_1, .int x2_2, .int x2_3])), (a3, .inr (3, [.ref a0, .int r7.1, .int r7.2.1])), (a0, .inr (1, [.ref b8, .int r7.2.2.1])), (b8, .inl (G.2.1 0, r7.2.2.2.1, .inl r7.2.2.2.2))] H := hP
  have hD : va_D A [(a2, .inr (5, [.ref a3, .ref o2_1, .int x2_2, .int x2_3])), (a3, .inr (3, [.ref a0, .int r7.1, .int r7.2.1])), (a0, .inr (1, [.ref b8, .int r7.2.2.1])), (b8, .inl (G.2.1 0, r7.2.2.2.1, .inl r7.2.2.2.2))] := hD
  refine lv_aload_n hx hb d_Pr_startForm_33 rfl (lv_at hl 0 rfl) ?_
  refine va_get (D := G.1) (ci := 5) (v := .ref a3) (C := R_Pr) (T := F_Pr) (N := 4) hx hb hts i_Pr hown hK hP 0 rfl rfl 0 (by decide) (hts _ q43) (fun _ h9 => h9) rfl d_Pr_startForm_34 ?_
  refine lv_iconst (v := 1) hx hb d_Pr_startForm_37 (by decide) ?_
  refine lv_iconst (v := 2) hx hb d_Pr_startForm_38 (by decide) ?_
  obtain ⟨r9, k9, z9, kk9, zz9, hc9, h, ek9, ez9⟩ := Bk_e h
  have ekc : 0 + k2 + k4 + k7 + k9 + kk9 = K := by omega
  have ezc : 0 + z2 + z4 + z7 + z9 + zz9 = Z := by omega
  refine xV_v (wr := [(a2, .inr (5, [.ref a3, .ref o2_1, .int x2_2, .int x2_3]))]) (rest := []) C0 hK hT hA hP hD hS hl.1 (c_BW_put l G a3 a0 b8 _ r7.1 r7.2.1 r7.2.2.1 r7.2.2.2.1 r7.2.2.2.2 1 2 N r9 k9 z9 hc9) (goodV q180 q181 q182 q33 q183) 2 rfl hd_BW_put (Nat.le_trans (by decide) hRf) (Nat.le_trans (by decide) hRl) [1, 2, 3] [0] rfl rfl (by decide) (by decide) (by decide) 3 1 rfl rfl rfl (Nat.le_of_ble_eq_true rfl) d_Pr_startForm_39 (by omega) (by omega) (fun w1 H locs hE hP hD hS => ?_)
  obtain ⟨b10, rfl⟩ := hE
  have hP : va_P G.1 classes [(a2, .inr (5, [.ref a3, .ref o2_1, .int x2_2, .int x2_3])), (a3, .inr (3, [.ref a0, .int r9.1, .int r9.2.1])), (a0, .inr (1, [.ref b10, .int r9.2.2.1])), (b10, .inl (G.2.1 0, r9.2.2.2.1, .inl r9.2.2.2.2))] H := hP
  have hD : va_D A [(a2, .inr (5, [.ref a3, .ref o2_1, .int x2_2, .int x2_3])), (a3, .inr (3, [.ref a0, .int r9.1, .int r9.2.1])), (a0, .inr (1, [.ref b10, .int r9.2.2.1])), (b10, .inl (G.2.1 0, r9.2.2.2.1, .inl r9.2.2.2.2))] := hD
  obtain ⟨eV, ek, ez⟩ := so3 h
  subst eV
  exact x_vret C0 hQ (hP.sub (ws' := [(a0, .inr (1, [.ref b10, .int r9.2.2.1])), (b10, .inl (G.2.1 0, r9.2.2.2.1, .inl r9.2.2.2.2)), (a2, .inr (5, [.ref a3, .ref o2_1, .int x2_2, .int x2_3])), (a3, .inr (3, [.ref a0, .int r9.1, .int r9.2.1]))]) [2, 3, 0, 1] rfl) (hD.sub (ws' := [(a0, .inr (1, [.ref b10, .int r9.2.2.1])), (b10, .inl (G.2.1 0, r9.2.2.2.1, .inl r9.2.2.2.2)), (a2, .inr (5, [.ref a3, .ref o2_1, .int x2_2, .int x2_3])), (a3, .inr (3, [.ref a0, .int r9.1, .int r9.2.1]))]) [2, 3, 0, 1] (by decide) rfl) hS ⟨b10, rfl⟩ (by omega) (by omega) d_Pr_startForm_42
set_option maxHeartbeats 4000000 in
set_option maxRecDepth 100000 in
theorem c_Fi_start (l : Launch) (G : GX) (a0 a1 a2 : Nat) (sz : Nat) (x0_2 : Int32) (x0_3 : Int32) (n1 : Nat) (f1 : (Nat → Int32)) (n2 : Nat) (f2 : (Nat → Int32)) (p1 : Int32) (N : Nat) (V : (Nat → Int32) × Nat × (Nat → Int32)) (K Z : Nat) (h : f_Fi_start N n1 f1 n2 f2 p1 = some (V, K, Z)) :
    Met l y_Fi_start (wd y_Fi_start b_Fi_start 2 none) { frames := 1, cells := K, slots := Z, locals := 23 } (PX G [.ref a0, .int p1] sz [(a0, .inr (4, [.ref a1, .ref a2, .int x0_2, .int x0_3])), (a1, .inl (G.2.1 1, n1, .inl f1)), (a2, .inl (G.2.1 1, n2, .inl f2))])
      (QXv G (fun w => ∃ e0 : Nat, w = [(a0, .inr (4, [.ref a1, .ref e0, .int x0_2, .int x0_3])), (a1, .inl (G.2.1 1, n1, .inl V.1)), (e0, .inl (G.2.1 1, V.2.1, .inl V.2.2))]) (va_A [(a0, .inr (4, [.ref a1, .ref a2, .int x0_2, .int x0_3])), (a1, .inl (G.2.1 1, n1, .inl f1)), (a2, .inl (G.2.1 1, n2, .inl f2))] sz)) K Z (va_A [(a0, .inr (4, [.ref a1, .ref a2, .int x0_2, .int x0_3])), (a1, .inl (G.2.1 1, n1, .inl f1)), (a2, .inl (G.2.1 1, n2, .inl f2))] sz) := by
  refine Met_in (QQ := fun A => QXv G (fun w => ∃ e0 : Nat, w = [(a0, .inr (4, [.ref a1, .ref e0, .int x0_2, .int x0_3])), (a1, .inl (G.2.1 1, n1, .inl V.1)), (e0, .inl (G.2.1 1, V.2.1, .inl V.2.2))]) A) (by decide) (Nat.le_of_ble_eq_true rfl) (fun p e s m below meth c R Q A ls C0 hRf hRl hRc hRs hP hK hD hT hA hS hl hQ => ?_)
  obtain ⟨hx, hb, hml, hown, hts, hr, hlocks, hin⟩ := id C0
  have hown : s.vm.findClass R_Fi = some m.cls := hown
  have hl : lv_has ls 2 [(0, .ref a0), (1, .int p1)] := hl
  unfold f_Fi_start at h
  have hKT : K ≤ R.cells := Nat.le_of_eq hRc.symm
  have hZT : Z ≤ R.slots := Nat.le_of_eq hRs.symm
  have ekc : 0 + K = K := by omega
  have ezc : 0 + Z = Z := by omega
  obtain ⟨H, hH⟩ : ∃ H, H = s.heap := ⟨_, rfl⟩
  obtain ⟨locs, hlc⟩ : ∃ x : List Loc, x = [] := ⟨_, rfl⟩
  rw [← hH] at hP
  have hS : va_S A s.heap H locs := by rw [hH, hlc]; exact hS
  suffices hgo : W p l e R s m [.ref a0, .int p1].toArray below meth c H locs 0 0 Q (F0 m 0 ls []) by rw [hH, hlc] at hgo; exact hgo
  refine lv_aload_n hx hb d_Fi_start_0 rfl (lv_at hl 0 rfl) ?_
  refine va_get (D := G.1) (ci := 4) (v := .ref a1) (C := R_Fi) (T := F_Fi) (N := 4) hx hb hts i_Fi hown hK hP 0 rfl rfl 0 (by decide) (hts _ q48) (fun _ h9 => h9) rfl d_Fi_start_1 ?_
  refine lv_iconst (v := (-1)) hx hb d_Fi_start_4 (by decide) ?_
  obtain ⟨r1, hc1, h⟩ := Bd_e h
  refine xS_v0 (wr := [(a0, .inr (4, [.ref a1, .ref a2, .int x0_2, .int x0_3])), (a2, .inl (G.2.1 1, n2, .inl f2))]) (rest := []) C0 hK hT hA hP hD hS hl.1 (c_JA_fill l G a1 _ n1 f1 ((-1)) N r1 hc1) (goodS q188 q91 q92 q93) 2 rfl hd_JA_fill (Nat.le_trans (by decide) hRf) (Nat.le_trans (by decide) hRl) [1] [0, 2] rfl rfl (by decide) (by decide) (by decide) rfl (Nat.le_of_ble_eq_true rfl) d_Fi_start_5 (by omega) (by omega) (fun w1 H locs hE hP hD hS => ?_)
  subst hE
  have hP : va_P G.1 classes [(a0, .inr (4, [.ref a1, .ref a2, .int x0_2, .int x0_3])), (a2, .inl (G.2.1 1, n2, .inl f2)), (a1, .inl (G.2.1 1, n1, .inl r1))] H := hP
  have hD : va_D A [(a0, .inr (4, [.ref a1, .ref a2, .int x0_2, .int x0_3])), (a2, .inl (G.2.1 1, n2, .inl f2)), (a1, .inl (G.2.1 1, n1, .inl r1))] := hD
  refine lv_iload_n hx hb d_Fi_start_8 rfl (lv_at hl 1 rfl) ?_
  refine lv_aload_n hx hb d_Fi_start_9 rfl (lv_at hl 0 rfl) ?_
  refine va_get (D := G.1) (ci := 4) (v := .ref a2) (C := R_Fi) (T := F_Fi) (N := 4) hx hb hts i_Fi hown hK hP 0 rfl rfl 1 (by decide) (hts _ q49) (fun _ h9 => h9) rfl d_Fi_start_10 ?_
  refine va_alen (v := nI n2) hx hb hK hP 1 1 rfl rfl rfl d_Fi_start_13 ?_
  refine lv_icmp_le (tgt := 39) hx hb d_Fi_start_14 (by decide) (fun cq2 => ?_) (fun cq2 => ?_)
  · replace h := (if_pos cq2).symm.trans h
    obtain ⟨eV, ek, ez⟩ := so3 h
    subst eV
    exact x_vret C0 hQ (hP.sub (ws' := [(a0, .inr (4, [.ref a1, .ref a2, .int x0_2, .int x0_3])), (a1, .inl (G.2.1 1, n1, .inl r1)), (a2, .inl (G.2.1 1, n2, .inl f2))]) [0, 2, 1] rfl) (hD.sub (ws' := [(a0, .inr (4, [.ref a1, .ref a2, .int x0_2, .int x0_3])), (a1, .inl (G.2.1 1, n1, .inl r1)), (a2, .inl (G.2.1 1, n2, .inl f2))]) [0, 2, 1] (by decide) rfl) hS ⟨a2, rfl⟩ (by omega) (by omega) d_Fi_start_39
  · replace h := (if_neg cq2).symm.trans h
    refine lv_aload_n hx hb d_Fi_start_17 rfl (lv_at hl 0 rfl) ?_
    refine lv_iload_n hx hb d_Fi_start_18 rfl (lv_at hl 1 rfl) ?_
    refine lv_iconst (v := 4) hx hb d_Fi_start_19 (by decide) ?_
    refine lv_aload_n hx hb d_Fi_start_20 rfl (lv_at hl 0 rfl) ?_
    refine va_get (D := G.1) (ci := 4) (v := .ref a2) (C := R_Fi) (T := F_Fi) (N := 4) hx hb hts i_Fi hown hK hP 0 rfl rfl 1 (by decide) (hts _ q49) (fun _ h9 => h9) rfl d_Fi_start_21 ?_
    refine va_alen (v := nI n2) hx hb hK hP 1 1 rfl rfl rfl d_Fi_start_24 ?_
    refine lv_imul hx hb d_Fi_start_25 ?_
    refine lv_ldc (v := 65536) hx hb hown (hts _ q189) d_Fi_start_26 ?_
    refine va_mmin hx hb (hml.trans hl.1.symm) hown (hts _ q190) (hts _ q116) (hts _ q117) (hts _ q118) (Nat.le_trans (by decide) hRf) (Nat.le_trans (Nat.le_of_ble_eq_true rfl) hRl) (by omega) (by omega) d_Fi_start_28 ?_
    refine lv_topi (fun v3 ev3 => ?_)
    replace h := Lt_e h ev3
    refine va_mmax hx hb (hml.trans hl.1.symm) hown (hts _ q191) (hts _ q120) (hts _ q117) (hts _ q121) (Nat.le_trans (by decide) hRf) (Nat.le_trans (Nat.le_of_ble_eq_true rfl) hRl) (by omega) (by omega) d_Fi_start_31 ?_
    refine lv_topi (fun v4 ev4 => ?_)
    replace h := Lt_e h ev4
    obtain ⟨hz6, h⟩ := Ga_e h
    obtain ⟨k7, z7, h, ek7, ez7⟩ := Ak_e h
    have ekc : 0 + 1 + k7 = K := by omega
    have ezc : 0 + ((v4).toNatClampNeg) + z7 = Z := by omega
    refine y_newaI (N' := (v4).toNatClampNeg) hx hb (hts _ q20) hK hP hD hS hA hz6.1 rfl hz6.2 (by omega) (by omega) d_Fi_start_34 (fun nq5 H hP hD hS => ?_)
    have hP : va_P G.1 classes [(a0, .inr (4, [.ref a1, .ref a2, .int x0_2, .int x0_3])), (a2, .inl (G.2.1 1, n2, .inl f2)), (a1, .inl (G.2.1 1, n1, .inl r1)), (nq5, .inl (G.2.1 1, (v4).toNatClampNeg, .inl ((fun _ => 0))))] H := hP
    have hD : va_D A [(a0, .inr (4, [.ref a1, .ref a2, .int x0_2, .int x0_3])), (a2, .inl (G.2.1 1, n2, .inl f2)), (a1, .inl (G.2.1 1, n1, .inl r1)), (nq5, .inl (G.2.1 1, (v4).toNatClampNeg, .inl ((fun _ => 0))))] := hD
    refine va_put (D := G.1) (ci := 4) (v := .ref nq5) (ty := .array .int) (C := R_Fi) (T := F_Fi) (N := 4) hx hb hts i_Fi t_Fi t_Fi_ok n_Fi hown hK hP hD hS 0 rfl rfl 1 (by decide) (hts _ q49) (fun _ h9 => h9) rfl (by decide +kernel) rfl rfl (Nat.le_of_ble_eq_true rfl) d_Fi_start_36 (fun H locs hP hD hS => ?_)
    have hP : va_P G.1 classes [(a0, .inr (4, [.ref a1, .ref nq5, .int x0_2, .int x0_3])), (a2, .inl (G.2.1 1, n2, .inl f2)), (a1, .inl (G.2.1 1, n1, .inl r1)), (nq5, .inl (G.2.1 1, (v4).toNatClampNeg, .inl ((fun _ => 0))))] H := hP
    have hD : va_D A [(a0, .inr (4, [.ref a1, .ref nq5, .int x0_2, .int x0_3])), (a2, .inl (G.2.1 1, n2, .inl f2)), (a1, .inl (G.2.1 1, n1, .inl r1)), (nq5, .inl (G.2.1 1, (v4).toNatClampNeg, .inl ((fun _ => 0))))] := hD
    obtain ⟨eV, ek, ez⟩ := so3 h
    subst eV
    exact x_vret C0 hQ (hP.sub (ws' := [(a0, .inr (4, [.ref a1, .ref nq5, .int x0_2, .int x0_3])), (a1, .inl (G.2.1 1, n1, .inl r1)), (nq5, .inl (G.2.1 1, (v4).toNatClampNeg, .inl ((fun _ => 0))))]) [0, 2, 3] rfl) (hD.sub (ws' := [(a0, .inr (4, [.ref a1, .ref nq5, .int x0_2, .int x0_3])), (a1, .inl (G.2.1 1, n1, .inl r1)), (nq5, .inl (G.2.1 1, (v4).toNatClampNeg, .inl ((fun _ => 0))))]) [0, 2, 3] (by decide) rfl) hS ⟨nq5, rfl⟩ (by omega) (by omega) d_Fi_start_39
set_option maxHeartbeats 4000000 in
set_option maxRecDepth 100000 in
theorem c_Fi_slot (l : Launch) (G : GX) (a0 : Nat) (sz : Nat) (n0 : Nat) (f0 : (Nat → Int32)) (p1 : Int32) (N : Nat) (V : Int32) (h : f_Fi_slot N n0 f0 p1 = some V) :
    Met l y_Fi_slot (wd y_Fi_slot b_Fi_slot 3 (some .int)) { frames := 0, cells := 0, slots := 0, locals := 0 } (PX G [.ref a0, .int p1] sz [(a0, .inl (G.2.1 0, n0, .inl f0))])
      (QXi G V (fun w => w = [(a0, .inl (G.2.1 0, n0, .inl f0))]) (va_A [(a0, .inl (G.2.1 0, n0, .inl f0))] sz)) 0 0 (va_A [(a0, .inl (G.2.1 0, n0, .inl f0))] sz) := by
  refine Met_in (QQ := fun A => QXi G V (fun w => w = [(a0, .inl (G.2.1 0, n0, .inl f0))]) A) (by decide) (Nat.le_of_ble_eq_true rfl) (fun p e s m below meth c R Q A ls C0 hRf hRl hRc hRs hP hK hD hT hA hS hl hQ => ?_)
  obtain ⟨hx, hb, hml, hown, hts, hr, hlocks, hin⟩ := id C0
  have hown : s.vm.findClass R_Fi = some m.cls := hown
  have hl : lv_has ls 3 [(0, .ref a0), (1, .int p1)] := hl
  unfold f_Fi_slot at h
  have hkc : 0 ≤ R.cells := Nat.zero_le _
  have hks : 0 ≤ R.slots := Nat.zero_le _
  obtain ⟨H, hH⟩ : ∃ H, H = s.heap := ⟨_, rfl⟩
  obtain ⟨locs, hlc⟩ : ∃ x : List Loc, x = [] := ⟨_, rfl⟩
  rw [← hH] at hP
  have hS : va_S A s.heap H locs := by rw [hH, hlc]; exact hS
  suffices hgo : W p l e R s m [.ref a0, .int p1].toArray below meth c H locs 0 0 Q (F0 m 0 ls []) by rw [hH, hlc] at hgo; exact hgo
  refine lv_aload_n hx hb d_Fi_slot_0 rfl (lv_at hl 0 rfl) ?_
  refine lv_iload_n hx hb d_Fi_slot_1 rfl (lv_at hl 1 rfl) ?_
  obtain ⟨hi1, h⟩ := Ix_e h
  refine va_bald hx hb hK hP 0 0 rfl rfl hi1 d_Fi_slot_2 ?_
  refine lv_sipush (v := 255) hx hb d_Fi_slot_3 (by decide) ?_
  refine lv_iand hx hb d_Fi_slot_6 ?_
  refine lv_bipush (v := 16) hx hb d_Fi_slot_7 (by decide) ?_
  refine lv_ishl hx hb d_Fi_slot_9 ?_
  refine lv_aload_n hx hb d_Fi_slot_10 rfl (lv_at hl 0 rfl) ?_
  refine lv_iload_n hx hb d_Fi_slot_11 rfl (lv_at hl 1 rfl) ?_
  refine lv_iconst (v := 1) hx hb d_Fi_slot_12 (by decide) ?_
  refine lv_iadd hx hb d_Fi_slot_13 ?_
  obtain ⟨hi2, h⟩ := Ix_e h
  refine va_bald hx hb hK hP 0 0 rfl rfl hi2 d_Fi_slot_14 ?_
  refine lv_sipush (v := 255) hx hb d_Fi_slot_15 (by decide) ?_
  refine lv_iand hx hb d_Fi_slot_18 ?_
  refine lv_bipush (v := 8) hx hb d_Fi_slot_19 (by decide) ?_
  refine lv_ishl hx hb d_Fi_slot_21 ?_
  refine lv_ior hx hb d_Fi_slot_22 ?_
  refine lv_aload_n hx hb d_Fi_slot_23 rfl (lv_at hl 0 rfl) ?_
  refine lv_iload_n hx hb d_Fi_slot_24 rfl (lv_at hl 1 rfl) ?_
  refine lv_iconst (v := 2) hx hb d_Fi_slot_25 (by decide) ?_
  refine lv_iadd hx hb d_Fi_slot_26 ?_
  obtain ⟨hi3, h⟩ := Ix_e h
  refine va_bald hx hb hK hP 0 0 rfl rfl hi3 d_Fi_slot_27 ?_
  refine lv_sipush (v := 255) hx hb d_Fi_slot_28 (by decide) ?_
  refine lv_iand hx hb d_Fi_slot_31 ?_
  refine lv_ior hx hb d_Fi_slot_32 ?_
  refine lv_topi (fun v4 ev4 => ?_)
  replace h := Lt_e h ev4
  refine lv_istore_n (lv' := [(2, .int v4), (0, .ref a0), (1, .int p1)]) hx hb d_Fi_slot_33 rfl hl (by decide) rfl (fun ls hl => ?_)
  refine lv_iload_n hx hb d_Fi_slot_34 rfl (lv_at hl 0 rfl) ?_
  refine lv_ldc (v := (-1640531535)) hx hb hown (hts _ q197) d_Fi_slot_35 ?_
  refine lv_imul hx hb d_Fi_slot_37 ?_
  refine lv_bipush (v := 20) hx hb d_Fi_slot_38 (by decide) ?_
  refine lv_iushr (v := us (v4 * ((-1640531535))) 20) hx hb d_Fi_slot_40 rfl ?_
  have eV := so1 h
  subst eV
  exact x_iret C0 hQ hP hD hS rfl (Nat.zero_le _) (Nat.zero_le _) d_Fi_slot_41
set_option maxHeartbeats 4000000 in
set_option maxRecDepth 100000 in
theorem w_Fi_sameBytes_3 {p : Program} {l : Launch} {e : Env} {R : Room} {s : State} {m : MethodId} {args : Array Value} {below : List Frame} {meth : Method} {c : Code} {Q : State → Prop} {G : GX} {A : Nat → Prop} (C0 : Cx p s m args meth c b_Fi_sameBytes 5 y_Fi_sameBytes (some .int)) (hRf : 0 ≤ R.frames) (hRl : 0 ≤ R.locals) (hA : ∀ q, s.heap.size ≤ q → A q) (hK : KX G s) (hT : TX G A s) (N : Nat) (i1 : Int32) (i2 : Int32) (i3 : Int32) (m0 : Nat) (g_0 : (Nat → Int32)) (c0 : Nat) (out : Int32) {kc ks : Nat} (hkc : kc ≤ R.cells) (hks : ks ≤ R.slots)
    (kx30 : ∀ (H : Heap) (locs : List Loc) (ls : Array Slot), va_P G.1 classes [(c0, .inl (G.2.1 0, m0, .inl g_0))] H → va_D A [(c0, .inl (G.2.1 0, m0, .inl g_0))] → va_S A s.heap H locs → lv_has ls 5 [(4, .int out)] → W p l e R s m args below meth c H locs kc ks Q (F0 m 30 ls [])) :
    ∀ (n : Nat) (i4 : Int32) (H : Heap) (locs : List Loc) (ls : Array Slot), lp_Fi_sameBytes_3 N i1 i2 i3 m0 g_0 n i4 = some out → va_P G.1 classes [(c0, .inl (G.2.1 0, m0, .inl g_0))] H → va_D A [(c0, .inl (G.2.1 0, m0, .inl g_0))] → va_S A s.heap H locs → lv_has ls 5 [(0, .ref c0), (1, .int i1), (2, .int i2), (3, .int i3), (4, .int i4)] → W p l e R s m args below meth c H locs kc ks Q (F0 m 3 ls []) := by
  obtain ⟨hx, hb, hml, hown, hts, hr, hlocks, hin⟩ := id C0
  have hown : s.vm.findClass R_Fi = some m.cls := hown
  intro n
  induction n with
  | zero => intro i4 H locs ls h; cases h
  | succ n ih =>
    intro i4 H locs ls h hP hD hS hl
    replace h : lb_Fi_sameBytes_3 N i1 i2 i3 m0 g_0 (lp_Fi_sameBytes_3 N i1 i2 i3 m0 g_0 n) i4 = some out := h
    unfold lb_Fi_sameBytes_3 at h
    refine lv_iload hx hb d_Fi_sameBytes_3 (lv_at hl 4 rfl) ?_
    refine lv_iload_n hx hb d_Fi_sameBytes_5 rfl (lv_at hl 3 rfl) ?_
    refine lv_icmp_ge (tgt := 30) hx hb d_Fi_sameBytes_6 (by decide) (fun cq6 => ?_) (fun cq6 => ?_)
    · replace h := (if_pos cq6).symm.trans h
      have eV := so1 h
      subst eV
      exact kx30 _ _ _ hP hD hS (lv_sub hl [4] rfl)
    · replace h := (if_neg cq6).symm.trans h
      refine lv_aload_n hx hb d_Fi_sameBytes_9 rfl (lv_at hl 0 rfl) ?_
      refine lv_iload_n hx hb d_Fi_sameBytes_10 rfl (lv_at hl 1 rfl) ?_
      refine lv_iload hx hb d_Fi_sameBytes_11 (lv_at hl 4 rfl) ?_
      refine lv_iadd hx hb d_Fi_sameBytes_13 ?_
      obtain ⟨hi7, h⟩ := Ix_e h
      refine va_bald hx hb hK hP 0 0 rfl rfl hi7 d_Fi_sameBytes_14 ?_
      refine lv_aload_n hx hb d_Fi_sameBytes_15 rfl (lv_at hl 0 rfl) ?_
      refine lv_iload_n hx hb d_Fi_sameBytes_16 rfl (lv_at hl 2 rfl) ?_
      refine lv_iload hx hb d_Fi_sameBytes_17 (lv_at hl 4 rfl) ?_
      refine lv_iadd hx hb d_Fi_sameBytes_19 ?_
      obtain ⟨hi8, h⟩ := Ix_e h
      refine va_bald hx hb hK hP 0 0 rfl rfl hi8 d_Fi_sameBytes_20 ?_
      refine lv_icmp_ne (tgt := 30) hx hb d_Fi_sameBytes_21 (by decide) (fun cq9 => ?_) (fun cq9 => ?_)
      · replace h := (if_neg cq9).symm.trans h
        have eV := so1 h
        subst eV
        exact kx30 _ _ _ hP hD hS (lv_sub hl [4] rfl)
      · replace h := (if_pos cq9).symm.trans h
        obtain ⟨v10, ev10⟩ : ∃ y : Int32, y = i4 + 1 := ⟨_, rfl⟩
        replace h := Lt_e h ev10
        refine lv_iinc (v := v10) (lv' := [(4, .int v10), (0, .ref c0), (1, .int i1), (2, .int i2), (3, .int i3)]) hx hb d_Fi_sameBytes_24 hl (k := 4) rfl (by rw [ev10]; rfl) (by decide) rfl (fun ls hl => ?_)
        refine lv_goto (tgt := 3) hx hb d_Fi_sameBytes_27 (by decide) ?_
        exact ih v10  _ _ _ h hP hD hS (lv_sub hl [1, 2, 3, 4, 0] rfl)
set_option maxHeartbeats 4000000 in
set_option maxRecDepth 100000 in
theorem c_Fi_sameBytes (l : Launch) (G : GX) (a0 : Nat) (sz : Nat) (n0 : Nat) (f0 : (Nat → Int32)) (p1 : Int32) (p2 : Int32) (p3 : Int32) (N : Nat) (V : Int32) (h : f_Fi_sameBytes N n0 f0 p1 p2 p3 = some V) :
    Met l y_Fi_sameBytes (wd y_Fi_sameBytes b_Fi_sameBytes 5 (some .int)) { frames := 0, cells := 0, slots := 0, locals := 0 } (PX G [.ref a0, .int p1, .int p2, .int p3] sz [(a0, .inl (G.2.1 0, n0, .inl f0))])
      (QXi G V (fun w => w = [(a0, .inl (G.2.1 0, n0, .inl f0))]) (va_A [(a0, .inl (G.2.1 0, n0, .inl f0))] sz)) 0 0 (va_A [(a0, .inl (G.2.1 0, n0, .inl f0))] sz) := by
  refine Met_in (QQ := fun A => QXi G V (fun w => w = [(a0, .inl (G.2.1 0, n0, .inl f0))]) A) (by decide) (Nat.le_of_ble_eq_true rfl) (fun p e s m below meth c R Q A ls C0 hRf hRl hRc hRs hP hK hD hT hA hS hl hQ => ?_)
  obtain ⟨hx, hb, hml, hown, hts, hr, hlocks, hin⟩ := id C0
  have hown : s.vm.findClass R_Fi = some m.cls := hown
  have hl : lv_has ls 5 [(0, .ref a0), (1, .int p1), (2, .int p2), (3, .int p3)] := hl
  unfold f_Fi_sameBytes at h
  have hkc : 0 ≤ R.cells := Nat.zero_le _
  have hks : 0 ≤ R.slots := Nat.zero_le _
  obtain ⟨H, hH⟩ : ∃ H, H = s.heap := ⟨_, rfl⟩
  obtain ⟨locs, hlc⟩ : ∃ x : List Loc, x = [] := ⟨_, rfl⟩
  rw [← hH] at hP
  have hS : va_S A s.heap H locs := by rw [hH, hlc]; exact hS
  suffices hgo : W p l e R s m [.ref a0, .int p1, .int p2, .int p3].toArray below meth c H locs 0 0 Q (F0 m 0 ls []) by rw [hH, hlc] at hgo; exact hgo
  refine lv_iconst (v := 0) hx hb d_Fi_sameBytes_0 (by decide) ?_
  refine lv_istore (lv' := [(4, .int 0), (0, .ref a0), (1, .int p1), (2, .int p2), (3, .int p3)]) hx hb d_Fi_sameBytes_1 hl (by decide) rfl (fun ls hl => ?_)
  obtain ⟨r11, hc11, h⟩ := Bd_e h
  refine w_Fi_sameBytes_3 C0 hRf hRl hA hK hT N p1 p2 p3 n0 f0 a0 r11 (kc := 0) (ks := 0) hkc hks ?_ N 0  _ _ _ hc11 hP hD hS (lv_sub hl [1, 2, 3, 4, 0] rfl)
  · intro H locs ls hP hD hS hl
    refine lv_iload hx hb d_Fi_sameBytes_30 (lv_at hl 0 rfl) ?_
    have eV := so1 h
    subst eV
    exact x_iret C0 hQ hP hD hS rfl (Nat.zero_le _) (Nat.zero_le _) d_Fi_sameBytes_32
set_option maxHeartbeats 4000000 in
set_option maxRecDepth 100000 in
theorem c_Fi_better (l : Launch) (G : GX) (a0 o0_0 o0_1 : Nat) (sz : Nat) (x0_2 : Int32) (x0_3 : Int32) (p1 : Int32) (p2 : Int32) (N : Nat) (V : Int32 × Int32) (h : f_Fi_better N x0_2 x0_3 p1 p2 = some V) :
    Met l y_Fi_better (wd y_Fi_better b_Fi_better 3 none) { frames := 0, cells := 0, slots := 0, locals := 0 } (PX G [.ref a0, .int p1, .int p2] sz [(a0, .inr (4, [.ref o0_0, .ref o0_1, .int x0_2, .int x0_3]))])
      (QXv G (fun w => w = [(a0, .inr (4, [.ref o0_0, .ref o0_1, .int V.1, .int V.2]))]) (va_A [(a0, .inr (4, [.ref o0_0, .ref o0_1, .int x0_2, .int x0_3]))] sz)) 0 0 (va_A [(a0, .inr (4, [.ref o0_0, .ref o0_1, .int x0_2, .int x0_3]))] sz) := by
  refine Met_in (QQ := fun A => QXv G (fun w => w = [(a0, .inr (4, [.ref o0_0, .ref o0_1, .int V.1, .int V.2]))]) A) (by decide) (Nat.le_of_ble_eq_true rfl) (fun p e s m below meth c R Q A ls C0 hRf hRl hRc hRs hP hK hD hT hA hS hl hQ => ?_)
  obtain ⟨hx, hb, hml, hown, hts, hr, hlocks, hin⟩ := id C0
  have hown : s.vm.findClass R_Fi = some m.cls := hown
  have hl : lv_has ls 3 [(0, .ref a0), (1, .int p1), (2, .int p2)] := hl
  unfold f_Fi_better at h
  have hkc : 0 ≤ R.cells := Nat.zero_le _
  have hks : 0 ≤ R.slots := Nat.zero_le _
  obtain ⟨H, hH⟩ : ∃ H, H = s.heap := ⟨_, rfl⟩
  obtain ⟨locs, hlc⟩ : ∃ x : List Loc, x = [] := ⟨_, rfl⟩
  rw [← hH] at hP
  have hS : va_S A s.heap H locs := by rw [hH, hlc]; exact hS
  suffices hgo : W p l e R s m [.ref a0, .int p1, .int p2].toArray below meth c H locs 0 0 Q (F0 m 0 ls []) by rw [hH, hlc] at hgo; exact hgo
  refine lv_iload_n hx hb d_Fi_better_0 rfl (lv_at hl 1 rfl) ?_
  refine lv_iconst (v := 3) hx hb d_Fi_better_1 (by decide) ?_
  refine lv_icmp_lt (tgt := 23) hx hb d_Fi_better_2 (by decide) (fun cq1 => ?_) (fun cq1 => ?_)
  · replace h := (if_pos cq1).symm.trans h
    have eV := so1 h
    subst eV
    exact x_vret C0 hQ hP hD hS rfl (Nat.zero_le _) (Nat.zero_le _) d_Fi_better_23
  · replace h := (if_neg cq1).symm.trans h
    refine lv_iload_n hx hb d_Fi_better_5 rfl (lv_at hl 1 rfl) ?_
    refine lv_aload_n hx hb d_Fi_better_6 rfl (lv_at hl 0 rfl) ?_
    refine va_get (D := G.1) (ci := 4) (v := .int x0_2) (C := R_Fi) (T := F_Fi) (N := 4) hx hb hts i_Fi hown hK hP 0 rfl rfl 2 (by decide) (hts _ q50) (fun _ h9 => h9) rfl d_Fi_better_7 ?_
    refine lv_icmp_le (tgt := 23) hx hb d_Fi_better_10 (by decide) (fun cq2 => ?_) (fun cq2 => ?_)
    · replace h := (if_pos cq2).symm.trans h
      have eV := so1 h
      subst eV
      exact x_vret C0 hQ hP hD hS rfl (Nat.zero_le _) (Nat.zero_le _) d_Fi_better_23
    · replace h := (if_neg cq2).symm.trans h
      refine lv_aload_n hx hb d_Fi_better_13 rfl (lv_at hl 0 rfl) ?_
      refine lv_iload_n hx hb d_Fi_better_14 rfl (lv_at hl 1 rfl) ?_
      refine va_put (D := G.1) (ci := 4) (v := .int p1) (ty := .int) (C := R_Fi) (T := F_Fi) (N := 4) hx hb hts i_Fi t_Fi t_Fi_ok n_Fi hown hK hP hD hS 0 rfl rfl 2 (by decide) (hts _ q50) (fun _ h9 => h9) rfl (by decide +kernel) rfl rfl (Nat.le_of_ble_eq_true rfl) d_Fi_better_15 (fun H locs hP hD hS => ?_)
      have hP : va_P G.1 classes [(a0, .inr (4, [.ref o0_0, .ref o0_1, .int p1, .int x0_3]))] H := hP
      have hD : va_D A [(a0, .inr (4, [.ref o0_0, .ref o0_1, .int p1, .int x0_3]))] := hD
      refine lv_aload_n hx hb d_Fi_better_18 rfl (lv_at hl 0 rfl) ?_
      refine lv_iload_n hx hb d_Fi_better_19 rfl (lv_at hl 2 rfl) ?_
      refine va_put (D := G.1) (ci := 4) (v := .int p2) (ty := .int) (C := R_Fi) (T := F_Fi) (N := 4) hx hb hts i_Fi t_Fi t_Fi_ok n_Fi hown hK hP hD hS 0 rfl rfl 3 (by decide) (hts _ q51) (fun _ h9 => h9) rfl (by decide +kernel) rfl rfl (Nat.le_of_ble_eq_true rfl) d_Fi_better_20 (fun H locs hP hD hS => ?_)
      have hP : va_P G.1 classes [(a0, .inr (4, [.ref o0_0, .ref o0_1, .int p1, .int p2]))] H := hP
      have hD : va_D A [(a0, .inr (4, [.ref o0_0, .ref o0_1, .int p1, .int p2]))] := hD
      have eV := so1 h
      subst eV
      exact x_vret C0 hQ hP hD hS rfl (Nat.zero_le _) (Nat.zero_le _) d_Fi_better_23
set_option maxHeartbeats 4000000 in
set_option maxRecDepth 100000 in
theorem w_Fi_find_53 {p : Program} {l : Launch} {e : Env} {R : Room} {s : State} {m : MethodId} {args : Array Value} {below : List Frame} {meth : Method} {c : Code} {Q : State → Prop} {G : GX} {A : Nat → Prop} (C0 : Cx p s m args meth c b_Fi_find 8 y_Fi_find none) (hRf : 1 ≤ R.frames) (hRl : 24 ≤ R.locals) (hA : ∀ q, s.heap.size ≤ q → A q) (hK : KX G s) (hT : TX G A s) (N : Nat) (i3 : Int32) (i4 : Int32) (i5 : Int32) (m1 : Nat) (g_1 : (Nat → Int32)) (m2 : Nat) (g_2 : (Nat → Int32)) (m3 : Nat) (g_3 : (Nat → Int32)) (c0 c1 c2 c3 : Nat) (out : Int32 × Int32) {kc ks : Nat} (hkc : kc ≤ R.cells) (hks : ks ≤ R.slots)
    (kx128 : ∀ (H : Heap) (locs : List Loc) (ls : Array Slot), va_P G.1 classes [(c0, .inr (4, [.ref c1, .ref c2, .int out.1, .int out.2])), (c1, .inl (G.2.1 1, m1, .inl g_1)), (c2, .inl (G.2.1 1, m2, .inl g_2)), (c3, .inl (G.2.1 0, m3, .inl g_3))] H → va_D A [(c0, .inr (4, [.ref c1, .ref c2, .int out.1, .int out.2])), (c1, .inl (G.2.1 1, m1, .inl g_1)), (c2, .inl (G.2.1 1, m2, .inl g_2)), (c3, .inl (G.2.1 0, m3, .inl g_3))] → va_S A s.heap H locs → lv_has ls 8 [] → W p l e R s m args below meth c H locs kc ks Q (F0 m 128 ls [])) :
    ∀ (n : Nat) (i6 : Int32) (i7 : Int32) (y0_2 : Int32) (y0_3 : Int32) (H : Heap) (locs : List Loc) (ls : Array Slot), lp_Fi_find_53 N i3 i4 i5 m2 g_2 m3 g_3 n i6 i7 y0_2 y0_3 = some out → va_P G.1 classes [(c0, .inr (4, [.ref c1, .ref c2, .int y0_2, .int y0_3])), (c1, .inl (G.2.1 1, m1, .inl g_1)), (c2, .inl (G.2.1 1, m2, .inl g_2)), (c3, .inl (G.2.1 0, m3, .inl g_3))] H → va_D A [(c0, .inr (4, [.ref c1, .ref c2, .int y0_2, .int y0_3])), (c1, .inl (G.2.1 1, m1, .inl g_1)), (c2, .inl (G.2.1 1, m2, .inl g_2)), (c3, .inl (G.2.1 0, m3, .inl g_3))] → va_S A s.heap H locs → lv_has ls 8 [(0, .ref c0), (1, .ref c3), (3, .int i3), (4, .int i4), (5, .int i5), (6, .int i6), (7, .int i7)] → W p l e R s m args below meth c H locs kc ks Q (F0 m 53 ls []) := by
  obtain ⟨hx, hb, hml, hown, hts, hr, hlocks, hin⟩ := id C0
  have hown : s.vm.findClass R_Fi = some m.cls := hown
  intro n
  induction n with
  | zero => intro i6 i7 y0_2 y0_3 H locs ls h; cases h
  | succ n ih =>
    intro i6 i7 y0_2 y0_3 H locs ls h hP hD hS hl
    replace h : lb_Fi_find_53 N i3 i4 i5 m2 g_2 m3 g_3 (lp_Fi_find_53 N i3 i4 i5 m2 g_2 m3 g_3 n) i6 i7 y0_2 y0_3 = some out := h
    unfold lb_Fi_find_53 at h
    refine lv_iload hx hb d_Fi_find_53 (lv_at hl 6 rfl) ?_
    refine lv_ldc (v := 32768) hx hb hown (hts _ q196) d_Fi_find_55 ?_
    refine lv_icmp_ge (tgt := 128) hx hb d_Fi_find_57 (by decide) (fun cq19 => ?_) (fun cq19 => ?_)
    · replace h := (if_pos cq19).symm.trans h
      have eV := so1 h
      subst eV
      exact kx128 _ _ _ hP hD hS (lv_sub hl [] rfl)
    · replace h := (if_neg cq19).symm.trans h
      refine lv_iload hx hb d_Fi_find_60 (lv_at hl 5 rfl) ?_
      refine lv_iload hx hb d_Fi_find_62 (lv_at hl 4 rfl) ?_
      refine lv_icmp_lt (tgt := 128) hx hb d_Fi_find_64 (by decide) (fun cq20 => ?_) (fun cq20 => ?_)
      · replace h := (if_pos cq20).symm.trans h
        have eV := so1 h
        subst eV
        exact kx128 _ _ _ hP hD hS (lv_sub hl [] rfl)
      · replace h := (if_neg cq20).symm.trans h
        refine lv_aload_n hx hb d_Fi_find_67 rfl (lv_at hl 0 rfl) ?_
        refine va_get (D := G.1) (ci := 4) (v := .int y0_2) (C := R_Fi) (T := F_Fi) (N := 4) hx hb hts i_Fi hown hK hP 0 rfl rfl 2 (by decide) (hts _ q50) (fun _ h9 => h9) rfl d_Fi_find_68 ?_
        refine lv_iload hx hb d_Fi_find_71 (lv_at hl 3 rfl) ?_
        refine lv_icmp_ge (tgt := 128) hx hb d_Fi_find_73 (by decide) (fun cq21 => ?_) (fun cq21 => ?_)
        · replace h := (if_pos cq21).symm.trans h
          have eV := so1 h
          subst eV
          exact kx128 _ _ _ hP hD hS (lv_sub hl [] rfl)
        · replace h := (if_neg cq21).symm.trans h
          refine lv_aload_n hx hb d_Fi_find_76 rfl (lv_at hl 1 rfl) ?_
          refine lv_iload hx hb d_Fi_find_77 (lv_at hl 5 rfl) ?_
          refine lv_aload_n hx hb d_Fi_find_79 rfl (lv_at hl 0 rfl) ?_
          refine va_get (D := G.1) (ci := 4) (v := .int y0_2) (C := R_Fi) (T := F_Fi) (N := 4) hx hb hts i_Fi hown hK hP 0 rfl rfl 2 (by decide) (hts _ q50) (fun _ h9 => h9) rfl d_Fi_find_80 ?_
          refine lv_iadd hx hb d_Fi_find_83 ?_
          obtain ⟨hi22, h⟩ := Ix_e h
          refine va_bald hx hb hK hP 3 0 rfl rfl hi22 d_Fi_find_84 ?_
          refine lv_aload_n hx hb d_Fi_find_85 rfl (lv_at hl 1 rfl) ?_
          refine lv_iload_n hx hb d_Fi_find_86 rfl (lv_at hl 2 rfl) ?_
          refine lv_aload_n hx hb d_Fi_find_87 rfl (lv_at hl 0 rfl) ?_
          refine va_get (D := G.1) (ci := 4) (v := .int y0_2) (C := R_Fi) (T := F_Fi) (N := 4) hx hb hts i_Fi hown hK hP 0 rfl rfl 2 (by decide) (hts _ q50) (fun _ h9 => h9) rfl d_Fi_find_88 ?_
          refine lv_iadd hx hb d_Fi_find_91 ?_
          obtain ⟨hi23, h⟩ := Ix_e h
          refine va_bald hx hb hK hP 3 0 rfl rfl hi23 d_Fi_find_92 ?_
          obtain ⟨j27, ej27, h⟩ := Jn_e h
          have hj27 : ∀ (t27 : Int32 × Int32) (H : Heap) (locs : List Loc) (ls : Array Slot), j27 t27 = some out → va_P G.1 classes [(c0, .inr (4, [.ref c1, .ref c2, .int t27.1, .int t27.2])), (c1, .inl (G.2.1 1, m1, .inl g_1)), (c2, .inl (G.2.1 1, m2, .inl g_2)), (c3, .inl (G.2.1 0, m3, .inl g_3))] H → va_D A [(c0, .inr (4, [.ref c1, .ref c2, .int t27.1, .int t27.2])), (c1, .inl (G.2.1 1, m1, .inl g_1)), (c2, .inl (G.2.1 1, m2, .inl g_2)), (c3, .inl (G.2.1 0, m3, .inl g_3))] → va_S A s.heap H locs → lv_has ls 8 [(0, .ref c0), (1, .ref c3), (3, .int i3), (4, .int i4), (5, .int i5), (6, .int i6), (7, .int i7)] → W p l e R s m args below meth c H locs kc ks Q (F0 m 113 ls []) := by
            intro t27 H locs ls h hP hD hS hl
            replace h := ej27 _ _ h
            refine lv_aload_n hx hb d_Fi_find_113 rfl (lv_at hl 0 rfl) ?_
            refine va_get (D := G.1) (ci := 4) (v := .ref c2) (C := R_Fi) (T := F_Fi) (N := 4) hx hb hts i_Fi hown hK hP 0 rfl rfl 1 (by decide) (hts _ q49) (fun _ h9 => h9) rfl d_Fi_find_114 ?_
            refine lv_iload hx hb d_Fi_find_117 (lv_at hl 5 rfl) ?_
            obtain ⟨hi28, h⟩ := Ix_e h
            refine va_iald hx hb hK hP 2 1 rfl rfl hi28 d_Fi_find_119 ?_
            refine lv_topi (fun v29 ev29 => ?_)
            replace h := Lt_e h ev29
            refine lv_istore (lv' := [(6, .int v29), (0, .ref c0), (1, .ref c3), (3, .int i3), (4, .int i4), (5, .int i5), (7, .int i7)]) hx hb d_Fi_find_120 hl (by decide) rfl (fun ls hl => ?_)
            obtain ⟨v30, ev30⟩ : ∃ y : Int32, y = i7 + 1 := ⟨_, rfl⟩
            replace h := Lt_e h ev30
            refine lv_iinc (v := v30) (lv' := [(7, .int v30), (6, .int v29), (0, .ref c0), (1, .ref c3), (3, .int i3), (4, .int i4), (5, .int i5)]) hx hb d_Fi_find_122 hl (k := 6) rfl (by rw [ev30]; rfl) (by decide) rfl (fun ls hl => ?_)
            refine lv_goto (tgt := 53) hx hb d_Fi_find_125 (by decide) ?_
            exact ih v29 v30 t27.1 t27.2  _ _ _ h hP hD hS (lv_sub hl [2, 3, 4, 5, 6, 1, 0] rfl)
          refine lv_icmp_ne (tgt := 113) hx hb d_Fi_find_93 (by decide) (fun cq31 => ?_) (fun cq31 => ?_)
          · replace h := (if_neg cq31).symm.trans h
            exact hj27 (y0_2, y0_3) _ _ _ h hP hD hS hl
          · replace h := (if_pos cq31).symm.trans h
            refine lv_aload_n hx hb d_Fi_find_96 rfl (lv_at hl 0 rfl) ?_
            refine lv_aload_n hx hb d_Fi_find_97 rfl (lv_at hl 1 rfl) ?_
            refine lv_iload hx hb d_Fi_find_98 (lv_at hl 5 rfl) ?_
            refine lv_iload_n hx hb d_Fi_find_100 rfl (lv_at hl 2 rfl) ?_
            refine lv_iload hx hb d_Fi_find_101 (lv_at hl 3 rfl) ?_
            obtain ⟨r32, hc32, h⟩ := Bd_e h
            refine xS_i0 (wr := [(c0, .inr (4, [.ref c1, .ref c2, .int y0_2, .int y0_3])), (c1, .inl (G.2.1 1, m1, .inl g_1)), (c2, .inl (G.2.1 1, m2, .inl g_2))]) (rest := [.ref c0]) C0 hK hT hA hP hD hS hl.1 (c_Fi_sameBytes l G c3 _ m3 g_3 i6 i3 i4 N r32 hc32) (goodS q201 q202 q46 q203) 4 rfl hd_Fi_sameBytes (Nat.le_trans (by decide) hRf) (Nat.le_trans (by decide) hRl) [3] [0, 1, 2] rfl rfl (by decide) (by decide) (by decide) rfl (Nat.le_of_ble_eq_true rfl) d_Fi_find_103 hkc hks (fun w1 H locs hE hP hD hS => ?_)
            subst hE
            have hP : va_P G.1 classes [(c0, .inr (4, [.ref c1, .ref c2, .int y0_2, .int y0_3])), (c1, .inl (G.2.1 1, m1, .inl g_1)), (c2, .inl (G.2.1 1, m2, .inl g_2)), (c3, .inl (G.2.1 0, m3, .inl g_3))] H := hP
            have hD : va_D A [(c0, .inr (4, [.ref c1, .ref c2, .int y0_2, .int y0_3])), (c1, .inl (G.2.1 1, m1, .inl g_1)), (c2, .inl (G.2.1 1, m2, .inl g_2)), (c3, .inl (G.2.1 0, m3, .inl g_3))] := hD
            refine lv_iload_n hx hb d_Fi_find_106 rfl (lv_at hl 2 rfl) ?_
            refine lv_iload hx hb d_Fi_find_107 (lv_at hl 5 rfl) ?_
            refine lv_isub hx hb d_Fi_find_109 ?_
            obtain ⟨r33, hc33, h⟩ := Bd_e h
            refine xV_v0 (wr := [(c1, .inl (G.2.1 1, m1, .inl g_1)), (c2, .inl (G.2.1 1, m2, .inl g_2)), (c3, .inl (G.2.1 0, m3, .inl g_3))]) (rest := []) C0 hK hT hA hP hD hS hl.1 (c_Fi_better l G c0 c1 c2 _ y0_2 y0_3 r32 (i3 - i6) N r33 hc33) (goodV q204 q205 q206 q46 q207) 2 rfl hd_Fi_better (Nat.le_trans (by decide) hRf) (Nat.le_trans (by decide) hRl) [0] [1, 2, 3] rfl rfl (by decide) (by decide) (by decide) 4 0 rfl rfl rfl (Nat.le_of_ble_eq_true rfl) d_Fi_find_110 hkc hks (fun w1 H locs hE hP hD hS => ?_)
            subst hE
            have hP : va_P G.1 classes [(c1, .inl (G.2.1 1, m1, .inl g_1)), (c2, .inl (G.2.1 1, m2, .inl g_2)), (c3, .inl (G.2.1 0, m3, .inl g_3)), (c0, .inr (4, [.ref c1, .ref c2, .int r33.1, .int r33.2]))] H := hP
            have hD : va_D A [(c1, .inl (G.2.1 1, m1, .inl g_1)), (c2, .inl (G.2.1 1, m2, .inl g_2)), (c3, .inl (G.2.1 0, m3, .inl g_3)), (c0, .inr (4, [.ref c1, .ref c2, .int r33.1, .int r33.2]))] := hD
            exact hj27 (r33.1, r33.2) _ _ _ h (hP.sub (ws' := [(c0, .inr (4, [.ref c1, .ref c2, .int r33.1, .int r33.2])), (c1, .inl (G.2.1 1, m1, .inl g_1)), (c2, .inl (G.2.1 1, m2, .inl g_2)), (c3, .inl (G.2.1 0, m3, .inl g_3))]) [3, 0, 1, 2] rfl) (hD.sub (ws' := [(c0, .inr (4, [.ref c1, .ref c2, .int r33.1, .int r33.2])), (c1, .inl (G.2.1 1, m1, .inl g_1)), (c2, .inl (G.2.1 1, m2, .inl g_2)), (c3, .inl (G.2.1 0, m3, .inl g_3))]) [3, 0, 1, 2] (by decide) rfl) hS hl
set_option maxHeartbeats 4000000 in
set_option maxRecDepth 100000 in
theorem c_Fi_find (l : Launch) (G : GX) (a0 a1 a2 a3 : Nat) (sz : Nat) (x0_2 : Int32) (x0_3 : Int32) (n1 : Nat) (f1 : (Nat → Int32)) (n2 : Nat) (f2 : (Nat → Int32)) (n3 : Nat) (f3 : (Nat → Int32)) (p2 : Int32) (p3 : Int32) (N : Nat) (V : Int32 × Int32) (h : f_Fi_find N n1 f1 n2 f2 n3 f3 p2 p3 = some V) :
    Met l y_Fi_find (wd y_Fi_find b_Fi_find 8 none) { frames := 1, cells := 0, slots := 0, locals := 24 } (PX G [.ref a0, .ref a1, .int p2, .int p3] sz [(a0, .inr (4, [.ref a2, .ref a3, .int x0_2, .int x0_3])), (a1, .inl (G.2.1 0, n1, .inl f1)), (a2, .inl (G.2.1 1, n2, .inl f2)), (a3, .inl (G.2.1 1, n3, .inl f3))])
      (QXv G (fun w => w = [(a0, .inr (4, [.ref a2, .ref a3, .int V.1, .int V.2])), (a1, .inl (G.2.1 0, n1, .inl f1)), (a2, .inl (G.2.1 1, n2, .inl f2)), (a3, .inl (G.2.1 1, n3, .inl f3))]) (va_A [(a0, .inr (4, [.ref a2, .ref a3, .int x0_2, .int x0_3])), (a1, .inl (G.2.1 0, n1, .inl f1)), (a2, .inl (G.2.1 1, n2, .inl f2)), (a3, .inl (G.2.1 1, n3, .inl f3))] sz)) 0 0 (va_A [(a0, .inr (4, [.ref a2, .ref a3, .int x0_2, .int x0_3])), (a1, .inl (G.2.1 0, n1, .inl f1)), (a2, .inl (G.2.1 1, n2, .inl f2)), (a3, .inl (G.2.1 1, n3, .inl f3))] sz) := by
  refine Met_in (QQ := fun A => QXv G (fun w => w = [(a0, .inr (4, [.ref a2, .ref a3, .int V.1, .int V.2])), (a1, .inl (G.2.1 0, n1, .inl f1)), (a2, .inl (G.2.1 1, n2, .inl f2)), (a3, .inl (G.2.1 1, n3, .inl f3))]) A) (by decide) (Nat.le_of_ble_eq_true rfl) (fun p e s m below meth c R Q A ls C0 hRf hRl hRc hRs hP hK hD hT hA hS hl hQ => ?_)
  obtain ⟨hx, hb, hml, hown, hts, hr, hlocks, hin⟩ := id C0
  have hown : s.vm.findClass R_Fi = some m.cls := hown
  have hl : lv_has ls 8 [(0, .ref a0), (1, .ref a1), (2, .int p2), (3, .int p3)] := hl
  unfold f_Fi_find at h
  have hkc : 0 ≤ R.cells := Nat.zero_le _
  have hks : 0 ≤ R.slots := Nat.zero_le _
  obtain ⟨H, hH⟩ : ∃ H, H = s.heap := ⟨_, rfl⟩
  obtain ⟨locs, hlc⟩ : ∃ x : List Loc, x = [] := ⟨_, rfl⟩
  rw [← hH] at hP
  have hS : va_S A s.heap H locs := by rw [hH, hlc]; exact hS
  suffices hgo : W p l e R s m [.ref a0, .ref a1, .int p2, .int p3].toArray below meth c H locs 0 0 Q (F0 m 0 ls []) by rw [hH, hlc] at hgo; exact hgo
  refine lv_aload_n hx hb d_Fi_find_0 rfl (lv_at hl 0 rfl) ?_
  refine lv_iconst (v := 0) hx hb d_Fi_find_1 (by decide) ?_
  refine va_put (D := G.1) (ci := 4) (v := .int 0) (ty := .int) (C := R_Fi) (T := F_Fi) (N := 4) hx hb hts i_Fi t_Fi t_Fi_ok n_Fi hown hK hP hD hS 0 rfl rfl 2 (by decide) (hts _ q50) (fun _ h9 => h9) rfl (by decide +kernel) rfl rfl (Nat.le_of_ble_eq_true rfl) d_Fi_find_2 (fun H locs hP hD hS => ?_)
  have hP : va_P G.1 classes [(a0, .inr (4, [.ref a2, .ref a3, .int 0, .int x0_3])), (a1, .inl (G.2.1 0, n1, .inl f1)), (a2, .inl (G.2.1 1, n2, .inl f2)), (a3, .inl (G.2.1 1, n3, .inl f3))] H := hP
  have hD : va_D A [(a0, .inr (4, [.ref a2, .ref a3, .int 0, .int x0_3])), (a1, .inl (G.2.1 0, n1, .inl f1)), (a2, .inl (G.2.1 1, n2, .inl f2)), (a3, .inl (G.2.1 1, n3, .inl f3))] := hD
  refine lv_aload_n hx hb d_Fi_find_5 rfl (lv_at hl 0 rfl) ?_
  refine lv_iconst (v := 0) hx hb d_Fi_find_6 (by decide) ?_
  refine va_put (D := G.1) (ci := 4) (v := .int 0) (ty := .int) (C := R_Fi) (T := F_Fi) (N := 4) hx hb hts i_Fi t_Fi t_Fi_ok n_Fi hown hK hP hD hS 0 rfl rfl 3 (by decide) (hts _ q51) (fun _ h9 => h9) rfl (by decide +kernel) rfl rfl (Nat.le_of_ble_eq_true rfl) d_Fi_find_7 (fun H locs hP hD hS => ?_)
  have hP : va_P G.1 classes [(a0, .inr (4, [.ref a2, .ref a3, .int 0, .int 0])), (a1, .inl (G.2.1 0, n1, .inl f1)), (a2, .inl (G.2.1 1, n2, .inl f2)), (a3, .inl (G.2.1 1, n3, .inl f3))] H := hP
  have hD : va_D A [(a0, .inr (4, [.ref a2, .ref a3, .int 0, .int 0])), (a1, .inl (G.2.1 0, n1, .inl f1)), (a2, .inl (G.2.1 1, n2, .inl f2)), (a3, .inl (G.2.1 1, n3, .inl f3))] := hD
  refine lv_sipush (v := 258) hx hb d_Fi_find_10 (by decide) ?_
  refine lv_iload_n hx hb d_Fi_find_13 rfl (lv_at hl 2 rfl) ?_
  refine lv_iload_n hx hb d_Fi_find_14 rfl (lv_at hl 3 rfl) ?_
  refine lv_isub hx hb d_Fi_find_15 ?_
  refine va_mmin hx hb (hml.trans hl.1.symm) hown (hts _ q190) (hts _ q116) (hts _ q117) (hts _ q118) (Nat.le_trans (by decide) hRf) (Nat.le_trans (Nat.le_of_ble_eq_true rfl) hRl) hkc hks d_Fi_find_16 ?_
  refine lv_topi (fun v1 ev1 => ?_)
  replace h := Lt_e h ev1
  refine lv_istore (lv' := [(4, .int v1), (0, .ref a0), (1, .ref a1), (2, .int p2), (3, .int p3)]) hx hb d_Fi_find_19 hl (by decide) rfl (fun ls hl => ?_)
  refine lv_iload hx hb d_Fi_find_21 (lv_at hl 0 rfl) ?_
  refine lv_iconst (v := 3) hx hb d_Fi_find_23 (by decide) ?_
  refine lv_icmp_ge (tgt := 28) hx hb d_Fi_find_24 (by decide) (fun cq2 => ?_) (fun cq2 => ?_)
  · replace h := (if_pos cq2).symm.trans h
    refine lv_iconst (v := 0) hx hb d_Fi_find_28 (by decide) ?_
    refine lv_iload_n hx hb d_Fi_find_29 rfl (lv_at hl 4 rfl) ?_
    refine lv_ldc (v := 32768) hx hb hown (hts _ q196) d_Fi_find_30 ?_
    refine lv_isub hx hb d_Fi_find_32 ?_
    refine va_mmax hx hb (hml.trans hl.1.symm) hown (hts _ q191) (hts _ q120) (hts _ q117) (hts _ q121) (Nat.le_trans (by decide) hRf) (Nat.le_trans (Nat.le_of_ble_eq_true rfl) hRl) hkc hks d_Fi_find_33 ?_
    refine lv_topi (fun v3 ev3 => ?_)
    replace h := Lt_e h ev3
    refine lv_istore (lv' := [(5, .int v3), (4, .int v1), (0, .ref a0), (1, .ref a1), (2, .int p2), (3, .int p3)]) hx hb d_Fi_find_36 hl (by decide) rfl (fun ls hl => ?_)
    refine lv_aload_n hx hb d_Fi_find_38 rfl (lv_at hl 2 rfl) ?_
    refine va_get (D := G.1) (ci := 4) (v := .ref a2) (C := R_Fi) (T := F_Fi) (N := 4) hx hb hts i_Fi hown hK hP 0 rfl rfl 0 (by decide) (hts _ q48) (fun _ h9 => h9) rfl d_Fi_find_39 ?_
    refine lv_aload_n hx hb d_Fi_find_42 rfl (lv_at hl 3 rfl) ?_
    refine lv_iload_n hx hb d_Fi_find_43 rfl (lv_at hl 5 rfl) ?_
    obtain ⟨r4, hc4, h⟩ := Bd_e h
    refine xS_i0 (wr := [(a0, .inr (4, [.ref a2, .ref a3, .int 0, .int 0])), (a2, .inl (G.2.1 1, n2, .inl f2)), (a3, .inl (G.2.1 1, n3, .inl f3))]) (rest := [.ref a2]) C0 hK hT hA hP hD hS hl.1 (c_Fi_slot l G a1 _ n1 f1 p3 N r4 hc4) (goodS q198 q199 q46 q200) 2 rfl hd_Fi_slot (Nat.le_trans (by decide) hRf) (Nat.le_trans (by decide) hRl) [1] [0, 2, 3] rfl rfl (by decide) (by decide) (by decide) rfl (Nat.le_of_ble_eq_true rfl) d_Fi_find_44 hkc hks (fun w1 H locs hE hP hD hS => ?_)
    subst hE
    have hP : va_P G.1 classes [(a0, .inr (4, [.ref a2, .ref a3, .int 0, .int 0])), (a2, .inl (G.2.1 1, n2, .inl f2)), (a3, .inl (G.2.1 1, n3, .inl f3)), (a1, .inl (G.2.1 0, n1, .inl f1))] H := hP
    have hD : va_D A [(a0, .inr (4, [.ref a2, .ref a3, .int 0, .int 0])), (a2, .inl (G.2.1 1, n2, .inl f2)), (a3, .inl (G.2.1 1, n3, .inl f3)), (a1, .inl (G.2.1 0, n1, .inl f1))] := hD
    obtain ⟨hi5, h⟩ := Ix_e h
    refine va_iald hx hb hK hP 1 1 rfl rfl hi5 d_Fi_find_47 ?_
    refine lv_topi (fun v6 ev6 => ?_)
    replace h := Lt_e h ev6
    refine lv_istore (lv' := [(6, .int v6), (5, .int v3), (4, .int v1), (0, .ref a0), (1, .ref a1), (2, .int p2), (3, .int p3)]) hx hb d_Fi_find_48 hl (by decide) rfl (fun ls hl => ?_)
    refine lv_iconst (v := 0) hx hb d_Fi_find_50 (by decide) ?_
    refine lv_istore (lv' := [(7, .int 0), (6, .int v6), (5, .int v3), (4, .int v1), (0, .ref a0), (1, .ref a1), (2, .int p2), (3, .int p3)]) hx hb d_Fi_find_51 hl (by decide) rfl (fun ls hl => ?_)
    obtain ⟨r34, hc34, h⟩ := Bd_e h
    refine w_Fi_find_53 C0 hRf hRl hA hK hT N p3 v1 v3 n2 f2 n3 f3 n1 f1 a0 a2 a3 a1 r34 (kc := 0) (ks := 0) hkc hks ?_ N v6 0 0 0  _ _ _ hc34 hP hD hS (lv_sub hl [4, 5, 7, 3, 2, 1, 0] rfl)
    · intro H locs ls hP hD hS hl
      have eV := so1 h
      subst eV
      exact x_vret C0 hQ (hP.sub (ws' := [(a0, .inr (4, [.ref a2, .ref a3, .int r34.1, .int r34.2])), (a1, .inl (G.2.1 0, n1, .inl f1)), (a2, .inl (G.2.1 1, n2, .inl f2)), (a3, .inl (G.2.1 1, n3, .inl f3))]) [0, 3, 1, 2] rfl) (hD.sub (ws' := [(a0, .inr (4, [.ref a2, .ref a3, .int r34.1, .int r34.2])), (a1, .inl (G.2.1 0, n1, .inl f1)), (a2, .inl (G.2.1 1, n2, .inl f2)), (a3, .inl (G.2.1 1, n3, .inl f3))]) [0, 3, 1, 2] (by decide) rfl) hS rfl (Nat.zero_le _) (Nat.zero_le _) d_Fi_find_128
  · replace h := (if_neg cq2).symm.trans h
    have eV := so1 h
    subst eV
    exact x_vret C0 hQ hP hD hS rfl (Nat.zero_le _) (Nat.zero_le _) d_Fi_find_27
set_option maxHeartbeats 4000000 in
set_option maxRecDepth 100000 in
theorem c_Fi_length (l : Launch) (G : GX) (a0 o0_0 o0_1 : Nat) (sz : Nat) (x0_2 : Int32) (x0_3 : Int32)  (N : Nat) (V : Int32) (h : f_Fi_length N x0_2 = some V) :
    Met l y_Fi_length (wd y_Fi_length b_Fi_length 1 (some .int)) { frames := 0, cells := 0, slots := 0, locals := 0 } (PX G [.ref a0] sz [(a0, .inr (4, [.ref o0_0, .ref o0_1, .int x0_2, .int x0_3]))])
      (QXi G V (fun w => w = [(a0, .inr (4, [.ref o0_0, .ref o0_1, .int x0_2, .int x0_3]))]) (va_A [(a0, .inr (4, [.ref o0_0, .ref o0_1, .int x0_2, .int x0_3]))] sz)) 0 0 (va_A [(a0, .inr (4, [.ref o0_0, .ref o0_1, .int x0_2, .int x0_3]))] sz) := by
  refine Met_in (QQ := fun A => QXi G V (fun w => w = [(a0, .inr (4, [.ref o0_0, .ref o0_1, .int x0_2, .int x0_3]))]) A) (by decide) (Nat.le_of_ble_eq_true rfl) (fun p e s m below meth c R Q A ls C0 hRf hRl hRc hRs hP hK hD hT hA hS hl hQ => ?_)
  obtain ⟨hx, hb, hml, hown, hts, hr, hlocks, hin⟩ := id C0
  have hown : s.vm.findClass R_Fi = some m.cls := hown
  have hl : lv_has ls 1 [(0, .ref a0)] := hl
  unfold f_Fi_length at h
  have hkc : 0 ≤ R.cells := Nat.zero_le _
  have hks : 0 ≤ R.slots := Nat.zero_le _
  obtain ⟨H, hH⟩ : ∃ H, H = s.heap := ⟨_, rfl⟩
  obtain ⟨locs, hlc⟩ : ∃ x : List Loc, x = [] := ⟨_, rfl⟩
  rw [← hH] at hP
  have hS : va_S A s.heap H locs := by rw [hH, hlc]; exact hS
  suffices hgo : W p l e R s m [.ref a0].toArray below meth c H locs 0 0 Q (F0 m 0 ls []) by rw [hH, hlc] at hgo; exact hgo
  refine lv_aload_n hx hb d_Fi_length_0 rfl (lv_at hl 0 rfl) ?_
  refine va_get (D := G.1) (ci := 4) (v := .int x0_2) (C := R_Fi) (T := F_Fi) (N := 4) hx hb hts i_Fi hown hK hP 0 rfl rfl 2 (by decide) (hts _ q50) (fun _ h9 => h9) rfl d_Fi_length_1 ?_
  have eV := so1 h
  subst eV
  exact x_iret C0 hQ hP hD hS rfl (Nat.zero_le _) (Nat.zero_le _) d_Fi_length_4
