set_option maxHeartbeats 4000000 in
set_option maxRecDepth 100000 in
theorem c_Pr_pairs (l : Launch) (G : GX) (a0 o0_0 o0_1 : Nat) (sz : Nat) (x0_2 : Int32) (x0_3 : Int32)  (N : Nat) (V : Int32) (h : f_Pr_pairs N x0_2 = some V) :
    Met l y_Pr_pairs (wd y_Pr_pairs b_Pr_pairs 1 (some .int)) { frames := 0, cells := 0, slots := 0, locals := 0 } (PX G [.ref a0] sz [(a0, .inr (5, [.ref o0_0, .ref o0_1, .int x0_2, .int x0_3]))])
      (QXi G V (fun w => w = [(a0, .inr (5, [.ref o0_0, .ref o0_1, .int x0_2, .int x0_3]))]) (va_A [(a0, .inr (5, [.ref o0_0, .ref o0_1, .int x0_2, .int x0_3]))] sz)) 0 0 (va_A [(a0, .inr (5, [.ref o0_0, .ref o0_1, .int x0_2, .int x0_3]))] sz) := by
  refine Met_in (QQ := fun A => QXi G V (fun w => w = [(a0, .inr (5, [.ref o0_0, .ref o0_1, .int x0_2, .int x0_3]))]) A) (by decide) (Nat.le_of_ble_eq_true rfl) (fun p e s m below meth c R Q A ls C0 hRf hRl hRc hRs hP hK hD hT hA hS hl hQ => ?_)
  obtain ⟨hx, hb, hml, hown, hts, hr, hlocks, hin⟩ := id C0
  have hown : s.vm.findClass R_Pr = some m.cls := hown
  have hl : lv_has ls 1 [(0, .ref a0)] := hl
  unfold f_Pr_pairs at h
  have hkc : 0 ≤ R.cells := Nat.zero_le _
  have hks : 0 ≤ R.slots := Nat.zero_le _
  obtain ⟨H, hH⟩ : ∃ H, H = s.heap := ⟨_, rfl⟩
  obtain ⟨locs, hlc⟩ : ∃ x : List Loc, x = [] := ⟨_, rfl⟩
  rw [← hH] at hP
  have hS : va_S A s.heap H locs := by rw [hH, hlc]; exact hS
  suffices hgo : W p l e R s m [.ref a0].toArray below meth c H locs 0 0 Q (F0 m 0 ls []) by rw [hH, hlc] at hgo; exact hgo
  refine lv_aload_n hx hb d_Pr_pairs_0 rfl (lv_at hl 0 rfl) ?_
  refine va_get (D := G.1) (ci := 5) (v := .int x0_2) (C := R_Pr) (T := F_Pr) (N := 4) hx hb hts i_Pr hown hK hP 0 rfl rfl 2 (by decide) (hts _ q56) (fun _ h9 => h9) rfl d_Pr_pairs_1 ?_
  have eV := so1 h
  subst eV
  exact x_iret C0 hQ hP hD hS rfl (Nat.zero_le _) (Nat.zero_le _) d_Pr_pairs_4
set_option maxHeartbeats 4000000 in
set_option maxRecDepth 100000 in
theorem c_Pr_literals (l : Launch) (G : GX) (a0 o0_0 o0_1 : Nat) (sz : Nat) (x0_2 : Int32) (x0_3 : Int32)  (N : Nat) (V : Int32) (h : f_Pr_literals N x0_3 = some V) :
    Met l y_Pr_literals (wd y_Pr_literals b_Pr_literals 1 (some .int)) { frames := 0, cells := 0, slots := 0, locals := 0 } (PX G [.ref a0] sz [(a0, .inr (5, [.ref o0_0, .ref o0_1, .int x0_2, .int x0_3]))])
      (QXi G V (fun w => w = [(a0, .inr (5, [.ref o0_0, .ref o0_1, .int x0_2, .int x0_3]))]) (va_A [(a0, .inr (5, [.ref o0_0, .ref o0_1, .int x0_2, .int x0_3]))] sz)) 0 0 (va_A [(a0, .inr (5, [.ref o0_0, .ref o0_1, .int x0_2, .int x0_3]))] sz) := by
  refine Met_in (QQ := fun A => QXi G V (fun w => w = [(a0, .inr (5, [.ref o0_0, .ref o0_1, .int x0_2, .int x0_3]))]) A) (by decide) (Nat.le_of_ble_eq_true rfl) (fun p e s m below meth c R Q A ls C0 hRf hRl hRc hRs hP hK hD hT hA hS hl hQ => ?_)
  obtain ⟨hx, hb, hml, hown, hts, hr, hlocks, hin⟩ := id C0
  have hown : s.vm.findClass R_Pr = some m.cls := hown
  have hl : lv_has ls 1 [(0, .ref a0)] := hl
  unfold f_Pr_literals at h
  have hkc : 0 ≤ R.cells := Nat.zero_le _
  have hks : 0 ≤ R.slots := Nat.zero_le _
  obtain ⟨H, hH⟩ : ∃ H, H = s.heap := ⟨_, rfl⟩
  obtain ⟨locs, hlc⟩ : ∃ x : List Loc, x = [] := ⟨_, rfl⟩
  rw [← hH] at hP
  have hS : va_S A s.heap H locs := by rw [hH, hlc]; exact hS
  suffices hgo : W p l e R s m [.ref a0].toArray below meth c H locs 0 0 Q (F0 m 0 ls []) by rw [hH, hlc] at hgo; exact hgo
  refine lv_aload_n hx hb d_Pr_literals_0 rfl (lv_at hl 0 rfl) ?_
  refine va_get (D := G.1) (ci := 5) (v := .int x0_3) (C := R_Pr) (T := F_Pr) (N := 4) hx hb hts i_Pr hown hK hP 0 rfl rfl 3 (by decide) (hts _ q57) (fun _ h9 => h9) rfl d_Pr_literals_1 ?_
  have eV := so1 h
  subst eV
  exact x_iret C0 hQ hP hD hS rfl (Nat.zero_le _) (Nat.zero_le _) d_Pr_literals_4
set_option maxHeartbeats 4000000 in
set_option maxRecDepth 100000 in
theorem c_TP_count (l : Launch) (G : GX) (a0 a1 a2 a3 o0_2 o0_3 o0_5 o1_0 o2_0 o3_0 o3_1 : Nat) (sz : Nat) (x0_6 : Int32) (x0_7 : Int32) (x0_8 : Int32) (x1_1 : Int32) (x2_1 : Int32) (x3_2 : Int32) (x3_3 : Int32) (p1 : Int32) (N : Nat) (V : Int32) (h : f_TP_count N x0_6 x0_7 x0_8 x1_1 x2_1 x3_2 x3_3 p1 = some V) :
    Met l y_TP_count (wd y_TP_count b_TP_count 2 (some .int)) { frames := 1, cells := 0, slots := 0, locals := 20 } (PX G [.ref a0, .int p1] sz [(a0, .inr (0, [.ref a1, .ref a2, .ref o0_2, .ref o0_3, .ref a3, .ref o0_5, .int x0_6, .int x0_7, .int x0_8])), (a1, .inr (1, [.ref o1_0, .int x1_1])), (a2, .inr (1, [.ref o2_0, .int x2_1])), (a3, .inr (5, [.ref o3_0, .ref o3_1, .int x3_2, .int x3_3]))])
      (QXi G V (fun w => w = [(a0, .inr (0, [.ref a1, .ref a2, .ref o0_2, .ref o0_3, .ref a3, .ref o0_5, .int x0_6, .int x0_7, .int x0_8])), (a1, .inr (1, [.ref o1_0, .int x1_1])), (a2, .inr (1, [.ref o2_0, .int x2_1])), (a3, .inr (5, [.ref o3_0, .ref o3_1, .int x3_2, .int x3_3]))]) (va_A [(a0, .inr (0, [.ref a1, .ref a2, .ref o0_2, .ref o0_3, .ref a3, .ref o0_5, .int x0_6, .int x0_7, .int x0_8])), (a1, .inr (1, [.ref o1_0, .int x1_1])), (a2, .inr (1, [.ref o2_0, .int x2_1])), (a3, .inr (5, [.ref o3_0, .ref o3_1, .int x3_2, .int x3_3]))] sz)) 0 0 (va_A [(a0, .inr (0, [.ref a1, .ref a2, .ref o0_2, .ref o0_3, .ref a3, .ref o0_5, .int x0_6, .int x0_7, .int x0_8])), (a1, .inr (1, [.ref o1_0, .int x1_1])), (a2, .inr (1, [.ref o2_0, .int x2_1])), (a3, .inr (5, [.ref o3_0, .ref o3_1, .int x3_2, .int x3_3]))] sz) := by
  refine Met_in (QQ := fun A => QXi G V (fun w => w = [(a0, .inr (0, [.ref a1, .ref a2, .ref o0_2, .ref o0_3, .ref a3, .ref o0_5, .int x0_6, .int x0_7, .int x0_8])), (a1, .inr (1, [.ref o1_0, .int x1_1])), (a2, .inr (1, [.ref o2_0, .int x2_1])), (a3, .inr (5, [.ref o3_0, .ref o3_1, .int x3_2, .int x3_3]))]) A) (by decide) (Nat.le_of_ble_eq_true rfl) (fun p e s m below meth c R Q A ls C0 hRf hRl hRc hRs hP hK hD hT hA hS hl hQ => ?_)
  obtain ⟨hx, hb, hml, hown, hts, hr, hlocks, hin⟩ := id C0
  have hown : s.vm.findClass R_TP = some m.cls := hown
  have hl : lv_has ls 2 [(0, .ref a0), (1, .int p1)] := hl
  unfold f_TP_count at h
  have hkc : 0 ≤ R.cells := Nat.zero_le _
  have hks : 0 ≤ R.slots := Nat.zero_le _
  obtain ⟨H, hH⟩ : ∃ H, H = s.heap := ⟨_, rfl⟩
  obtain ⟨locs, hlc⟩ : ∃ x : List Loc, x = [] := ⟨_, rfl⟩
  rw [← hH] at hP
  have hS : va_S A s.heap H locs := by rw [hH, hlc]; exact hS
  suffices hgo : W p l e R s m [.ref a0, .int p1].toArray below meth c H locs 0 0 Q (F0 m 0 ls []) by rw [hH, hlc] at hgo; exact hgo
  refine lv_iload_n hx hb d_TP_count_0 rfl (lv_at hl 1 rfl) ?_
  by_cases cq1 : p1 = 0
  · replace h := (if_pos cq1).symm.trans h
    refine lv_tableIn (tgt := 44) hx hb d_TP_count_1 (by rw [cq1]; decide) (by rw [cq1]; decide) (by rw [cq1]; rfl) (by decide) ?_
    refine lv_aload_n hx hb d_TP_count_44 rfl (lv_at hl 0 rfl) ?_
    refine va_get (D := G.1) (ci := 0) (v := .ref a1) (C := R_TP) (T := F_TP) (N := 9) hx hb hts i_TP hown hK hP 0 rfl rfl 0 (by decide) (hts _ q13) (fun _ h9 => h9) rfl d_TP_count_45 ?_
    obtain ⟨r2, hc2, h⟩ := Bd_e h
    refine xV_i0 (wr := [(a0, .inr (0, [.ref a1, .ref a2, .ref o0_2, .ref o0_3, .ref a3, .ref o0_5, .int x0_6, .int x0_7, .int x0_8])), (a2, .inr (1, [.ref o2_0, .int x2_1])), (a3, .inr (5, [.ref o3_0, .ref o3_1, .int x3_2, .int x3_3]))]) (rest := []) C0 hK hT hA hP hD hS hl.1 (c_Row_length l G a1 o1_0 _ x1_1  N r2 hc2) (goodV q109 q110 q111 q5 q112) 0 rfl hd_Row_length (Nat.le_trans (by decide) hRf) (Nat.le_trans (by decide) hRl) [1] [0, 2, 3] rfl rfl (by decide) (by decide) (by decide) 1 1 rfl rfl rfl (Nat.le_of_ble_eq_true rfl) d_TP_count_48 hkc hks (fun w1 H locs hE hP hD hS => ?_)
    subst hE
    have hP : va_P G.1 classes [(a0, .inr (0, [.ref a1, .ref a2, .ref o0_2, .ref o0_3, .ref a3, .ref o0_5, .int x0_6, .int x0_7, .int x0_8])), (a2, .inr (1, [.ref o2_0, .int x2_1])), (a3, .inr (5, [.ref o3_0, .ref o3_1, .int x3_2, .int x3_3])), (a1, .inr (1, [.ref o1_0, .int x1_1]))] H := hP
    have hD : va_D A [(a0, .inr (0, [.ref a1, .ref a2, .ref o0_2, .ref o0_3, .ref a3, .ref o0_5, .int x0_6, .int x0_7, .int x0_8])), (a2, .inr (1, [.ref o2_0, .int x2_1])), (a3, .inr (5, [.ref o3_0, .ref o3_1, .int x3_2, .int x3_3])), (a1, .inr (1, [.ref o1_0, .int x1_1]))] := hD
    have eV := so1 h
    subst eV
    exact x_iret C0 hQ (hP.sub (ws' := [(a0, .inr (0, [.ref a1, .ref a2, .ref o0_2, .ref o0_3, .ref a3, .ref o0_5, .int x0_6, .int x0_7, .int x0_8])), (a1, .inr (1, [.ref o1_0, .int x1_1])), (a2, .inr (1, [.ref o2_0, .int x2_1])), (a3, .inr (5, [.ref o3_0, .ref o3_1, .int x3_2, .int x3_3]))]) [0, 3, 1, 2] rfl) (hD.sub (ws' := [(a0, .inr (0, [.ref a1, .ref a2, .ref o0_2, .ref o0_3, .ref a3, .ref o0_5, .int x0_6, .int x0_7, .int x0_8])), (a1, .inr (1, [.ref o1_0, .int x1_1])), (a2, .inr (1, [.ref o2_0, .int x2_1])), (a3, .inr (5, [.ref o3_0, .ref o3_1, .int x3_2, .int x3_3]))]) [0, 3, 1, 2] (by decide) rfl) hS rfl (Nat.zero_le _) (Nat.zero_le _) d_TP_count_51
  · replace h := (if_neg cq1).symm.trans h
    by_cases cq3 : p1 = 1
    · replace h := (if_pos cq3).symm.trans h
      refine lv_tableIn (tgt := 52) hx hb d_TP_count_1 (by rw [cq3]; decide) (by rw [cq3]; decide) (by rw [cq3]; rfl) (by decide) ?_
      refine lv_aload_n hx hb d_TP_count_52 rfl (lv_at hl 0 rfl) ?_
      refine va_get (D := G.1) (ci := 0) (v := .ref a2) (C := R_TP) (T := F_TP) (N := 9) hx hb hts i_TP hown hK hP 0 rfl rfl 1 (by decide) (hts _ q14) (fun _ h9 => h9) rfl d_TP_count_53 ?_
      obtain ⟨r4, hc4, h⟩ := Bd_e h
      refine xV_i0 (wr := [(a0, .inr (0, [.ref a1, .ref a2, .ref o0_2, .ref o0_3, .ref a3, .ref o0_5, .int x0_6, .int x0_7, .int x0_8])), (a1, .inr (1, [.ref o1_0, .int x1_1])), (a3, .inr (5, [.ref o3_0, .ref o3_1, .int x3_2, .int x3_3]))]) (rest := []) C0 hK hT hA hP hD hS hl.1 (c_Row_length l G a2 o2_0 _ x2_1  N r4 hc4) (goodV q109 q110 q111 q5 q112) 0 rfl hd_Row_length (Nat.le_trans (by decide) hRf) (Nat.le_trans (by decide) hRl) [2] [0, 1, 3] rfl rfl (by decide) (by decide) (by decide) 1 2 rfl rfl rfl (Nat.le_of_ble_eq_true rfl) d_TP_count_56 hkc hks (fun w1 H locs hE hP hD hS => ?_)
      subst hE
      have hP : va_P G.1 classes [(a0, .inr (0, [.ref a1, .ref a2, .ref o0_2, .ref o0_3, .ref a3, .ref o0_5, .int x0_6, .int x0_7, .int x0_8])), (a1, .inr (1, [.ref o1_0, .int x1_1])), (a3, .inr (5, [.ref o3_0, .ref o3_1, .int x3_2, .int x3_3])), (a2, .inr (1, [.ref o2_0, .int x2_1]))] H := hP
      have hD : va_D A [(a0, .inr (0, [.ref a1, .ref a2, .ref o0_2, .ref o0_3, .ref a3, .ref o0_5, .int x0_6, .int x0_7, .int x0_8])), (a1, .inr (1, [.ref o1_0, .int x1_1])), (a3, .inr (5, [.ref o3_0, .ref o3_1, .int x3_2, .int x3_3])), (a2, .inr (1, [.ref o2_0, .int x2_1]))] := hD
      have eV := so1 h
      subst eV
      exact x_iret C0 hQ (hP.sub (ws' := [(a0, .inr (0, [.ref a1, .ref a2, .ref o0_2, .ref o0_3, .ref a3, .ref o0_5, .int x0_6, .int x0_7, .int x0_8])), (a1, .inr (1, [.ref o1_0, .int x1_1])), (a2, .inr (1, [.ref o2_0, .int x2_1])), (a3, .inr (5, [.ref o3_0, .ref o3_1, .int x3_2, .int x3_3]))]) [0, 1, 3, 2] rfl) (hD.sub (ws' := [(a0, .inr (0, [.ref a1, .ref a2, .ref o0_2, .ref o0_3, .ref a3, .ref o0_5, .int x0_6, .int x0_7, .int x0_8])), (a1, .inr (1, [.ref o1_0, .int x1_1])), (a2, .inr (1, [.ref o2_0, .int x2_1])), (a3, .inr (5, [.ref o3_0, .ref o3_1, .int x3_2, .int x3_3]))]) [0, 1, 3, 2] (by decide) rfl) hS rfl (Nat.zero_le _) (Nat.zero_le _) d_TP_count_59
    · replace h := (if_neg cq3).symm.trans h
      by_cases cq5 : p1 = 2
      · replace h := (if_pos cq5).symm.trans h
        refine lv_tableIn (tgt := 60) hx hb d_TP_count_1 (by rw [cq5]; decide) (by rw [cq5]; decide) (by rw [cq5]; rfl) (by decide) ?_
        refine lv_aload_n hx hb d_TP_count_60 rfl (lv_at hl 0 rfl) ?_
        refine va_get (D := G.1) (ci := 0) (v := .ref a3) (C := R_TP) (T := F_TP) (N := 9) hx hb hts i_TP hown hK hP 0 rfl rfl 4 (by decide) (hts _ q61) (fun _ h9 => h9) rfl d_TP_count_61 ?_
        obtain ⟨r6, hc6, h⟩ := Bd_e h
        refine xV_i0 (wr := [(a0, .inr (0, [.ref a1, .ref a2, .ref o0_2, .ref o0_3, .ref a3, .ref o0_5, .int x0_6, .int x0_7, .int x0_8])), (a1, .inr (1, [.ref o1_0, .int x1_1])), (a2, .inr (1, [.ref o2_0, .int x2_1]))]) (rest := []) C0 hK hT hA hP hD hS hl.1 (c_Pr_pairs l G a3 o3_0 o3_1 _ x3_2 x3_3  N r6 hc6) (goodV q413 q414 q415 q29 q416) 0 rfl hd_Pr_pairs (Nat.le_trans (by decide) hRf) (Nat.le_trans (by decide) hRl) [3] [0, 1, 2] rfl rfl (by decide) (by decide) (by decide) 5 3 rfl rfl rfl (Nat.le_of_ble_eq_true rfl) d_TP_count_64 hkc hks (fun w1 H locs hE hP hD hS => ?_)
        subst hE
        have hP : va_P G.1 classes [(a0, .inr (0, [.ref a1, .ref a2, .ref o0_2, .ref o0_3, .ref a3, .ref o0_5, .int x0_6, .int x0_7, .int x0_8])), (a1, .inr (1, [.ref o1_0, .int x1_1])), (a2, .inr (1, [.ref o2_0, .int x2_1])), (a3, .inr (5, [.ref o3_0, .ref o3_1, .int x3_2, .int x3_3]))] H := hP
        have hD : va_D A [(a0, .inr (0, [.ref a1, .ref a2, .ref o0_2, .ref o0_3, .ref a3, .ref o0_5, .int x0_6, .int x0_7, .int x0_8])), (a1, .inr (1, [.ref o1_0, .int x1_1])), (a2, .inr (1, [.ref o2_0, .int x2_1])), (a3, .inr (5, [.ref o3_0, .ref o3_1, .int x3_2, .int x3_3]))] := hD
        have eV := so1 h
        subst eV
        exact x_iret C0 hQ hP hD hS rfl (Nat.zero_le _) (Nat.zero_le _) d_TP_count_67
      · replace h := (if_neg cq5).symm.trans h
        by_cases cq7 : p1 = 3
        · replace h := (if_pos cq7).symm.trans h
          refine lv_tableIn (tgt := 68) hx hb d_TP_count_1 (by rw [cq7]; decide) (by rw [cq7]; decide) (by rw [cq7]; rfl) (by decide) ?_
          refine lv_aload_n hx hb d_TP_count_68 rfl (lv_at hl 0 rfl) ?_
          refine va_get (D := G.1) (ci := 0) (v := .ref a3) (C := R_TP) (T := F_TP) (N := 9) hx hb hts i_TP hown hK hP 0 rfl rfl 4 (by decide) (hts _ q61) (fun _ h9 => h9) rfl d_TP_count_69 ?_
          obtain ⟨r8, hc8, h⟩ := Bd_e h
          refine xV_i0 (wr := [(a0, .inr (0, [.ref a1, .ref a2, .ref o0_2, .ref o0_3, .ref a3, .ref o0_5, .int x0_6, .int x0_7, .int x0_8])), (a1, .inr (1, [.ref o1_0, .int x1_1])), (a2, .inr (1, [.ref o2_0, .int x2_1]))]) (rest := []) C0 hK hT hA hP hD hS hl.1 (c_Pr_literals l G a3 o3_0 o3_1 _ x3_2 x3_3  N r8 hc8) (goodV q417 q418 q419 q29 q420) 0 rfl hd_Pr_literals (Nat.le_trans (by decide) hRf) (Nat.le_trans (by decide) hRl) [3] [0, 1, 2] rfl rfl (by decide) (by decide) (by decide) 5 3 rfl rfl rfl (Nat.le_of_ble_eq_true rfl) d_TP_count_72 hkc hks (fun w1 H locs hE hP hD hS => ?_)
          subst hE
          have hP : va_P G.1 classes [(a0, .inr (0, [.ref a1, .ref a2, .ref o0_2, .ref o0_3, .ref a3, .ref o0_5, .int x0_6, .int x0_7, .int x0_8])), (a1, .inr (1, [.ref o1_0, .int x1_1])), (a2, .inr (1, [.ref o2_0, .int x2_1])), (a3, .inr (5, [.ref o3_0, .ref o3_1, .int x3_2, .int x3_3]))] H := hP
          have hD : va_D A [(a0, .inr (0, [.ref a1, .ref a2, .ref o0_2, .ref o0_3, .ref a3, .ref o0_5, .int x0_6, .int x0_7, .int x0_8])), (a1, .inr (1, [.ref o1_0, .int x1_1])), (a2, .inr (1, [.ref o2_0, .int x2_1])), (a3, .inr (5, [.ref o3_0, .ref o3_1, .int x3_2, .int x3_3]))] := hD
          have eV := so1 h
          subst eV
          exact x_iret C0 hQ hP hD hS rfl (Nat.zero_le _) (Nat.zero_le _) d_TP_count_75
        · replace h := (if_neg cq7).symm.trans h
          by_cases cq9 : p1 = 4
          · replace h := (if_pos cq9).symm.trans h
            refine lv_tableIn (tgt := 76) hx hb d_TP_count_1 (by rw [cq9]; decide) (by rw [cq9]; decide) (by rw [cq9]; rfl) (by decide) ?_
            refine lv_aload_n hx hb d_TP_count_76 rfl (lv_at hl 0 rfl) ?_
            refine va_get (D := G.1) (ci := 0) (v := .int x0_6) (C := R_TP) (T := F_TP) (N := 9) hx hb hts i_TP hown hK hP 0 rfl rfl 6 (by decide) (hts _ q352) (fun _ h9 => h9) rfl d_TP_count_77 ?_
            have eV := so1 h
            subst eV
            exact x_iret C0 hQ hP hD hS rfl (Nat.zero_le _) (Nat.zero_le _) d_TP_count_80
          · replace h := (if_neg cq9).symm.trans h
            by_cases cq10 : p1 = 5
            · replace h := (if_pos cq10).symm.trans h
              refine lv_tableIn (tgt := 81) hx hb d_TP_count_1 (by rw [cq10]; decide) (by rw [cq10]; decide) (by rw [cq10]; rfl) (by decide) ?_
              refine lv_aload_n hx hb d_TP_count_81 rfl (lv_at hl 0 rfl) ?_
              refine va_get (D := G.1) (ci := 0) (v := .int x0_7) (C := R_TP) (T := F_TP) (N := 9) hx hb hts i_TP hown hK hP 0 rfl rfl 7 (by decide) (hts _ q357) (fun _ h9 => h9) rfl d_TP_count_82 ?_
              have eV := so1 h
              subst eV
              exact x_iret C0 hQ hP hD hS rfl (Nat.zero_le _) (Nat.zero_le _) d_TP_count_85
            · replace h := (if_neg cq10).symm.trans h
              by_cases cq11 : p1 = 6
              · replace h := (if_pos cq11).symm.trans h
                refine lv_tableIn (tgt := 86) hx hb d_TP_count_1 (by rw [cq11]; decide) (by rw [cq11]; decide) (by rw [cq11]; rfl) (by decide) ?_
                refine lv_aload_n hx hb d_TP_count_86 rfl (lv_at hl 0 rfl) ?_
                refine va_get (D := G.1) (ci := 0) (v := .int x0_8) (C := R_TP) (T := F_TP) (N := 9) hx hb hts i_TP hown hK hP 0 rfl rfl 8 (by decide) (hts _ q358) (fun _ h9 => h9) rfl d_TP_count_87 ?_
                have eV := so1 h
                subst eV
                exact x_iret C0 hQ hP hD hS rfl (Nat.zero_le _) (Nat.zero_le _) d_TP_count_90
              · replace h := (if_neg cq11).symm.trans h
                refine lv_tableOut (tgt := 91) hx hb d_TP_count_1 (by have := lv_neT cq1 (show (0 : Int32).toInt = 0 by decide); have := lv_neT cq3 (show (1 : Int32).toInt = 1 by decide); have := lv_neT cq5 (show (2 : Int32).toInt = 2 by decide); have := lv_neT cq7 (show (3 : Int32).toInt = 3 by decide); have := lv_neT cq9 (show (4 : Int32).toInt = 4 by decide); have := lv_neT cq10 (show (5 : Int32).toInt = 5 by decide); have := lv_neT cq11 (show (6 : Int32).toInt = 6 by decide); omega) (by decide) ?_
                refine lv_iconst (v := (-1)) hx hb d_TP_count_91 (by decide) ?_
                have eV := so1 h
                subst eV
                exact x_iret C0 hQ hP hD hS rfl (Nat.zero_le _) (Nat.zero_le _) d_TP_count_92
set_option maxHeartbeats 4000000 in
set_option maxRecDepth 100000 in
theorem w_Pr_codeOf_4 {p : Program} {l : Launch} {e : Env} {R : Room} {s : State} {m : MethodId} {args : Array Value} {below : List Frame} {meth : Method} {c : Code} {Q : State → Prop} {G : GX} {A : Nat → Prop} (C0 : Cx p s m args meth c b_Pr_codeOf 4 y_Pr_codeOf (some .int)) (hRf : 0 ≤ R.frames) (hRl : 0 ≤ R.locals) (hA : ∀ q, s.heap.size ≤ q → A q) (hK : KX G s) (hT : TX G A s) (N : Nat) (i0 : Int32) (m0 : Nat) (g_0 : (Nat → Int32)) (c0 : Nat) (out : Int32) {kc ks : Nat} (hkc : kc ≤ R.cells) (hks : ks ≤ R.slots)
    (kx25 : ∀ (H : Heap) (locs : List Loc) (ls : Array Slot), va_P G.1 classes [(c0, .inl (G.2.1 1, m0, .inl g_0))] H → va_D A [(c0, .inl (G.2.1 1, m0, .inl g_0))] → va_S A s.heap H locs → lv_has ls 4 [(2, .int out)] → W p l e R s m args below meth c H locs kc ks Q (F0 m 25 ls [])) :
    ∀ (n : Nat) (i2 : Int32) (i3 : Int32) (H : Heap) (locs : List Loc) (ls : Array Slot), lp_Pr_codeOf_4 N i0 m0 g_0 n i2 i3 = some out → va_P G.1 classes [(c0, .inl (G.2.1 1, m0, .inl g_0))] H → va_D A [(c0, .inl (G.2.1 1, m0, .inl g_0))] → va_S A s.heap H locs → lv_has ls 4 [(0, .int i0), (1, .ref c0), (2, .int i2), (3, .int i3)] → W p l e R s m args below meth c H locs kc ks Q (F0 m 4 ls []) := by
  obtain ⟨hx, hb, hml, hown, hts, hr, hlocks, hin⟩ := id C0
  have hown : s.vm.findClass R_Pr = some m.cls := hown
  intro n
  induction n with
  | zero => intro i2 i3 H locs ls h; cases h
  | succ n ih =>
    intro i2 i3 H locs ls h hP hD hS hl
    replace h : lb_Pr_codeOf_4 N i0 m0 g_0 (lp_Pr_codeOf_4 N i0 m0 g_0 n) i2 i3 = some out := h
    unfold lb_Pr_codeOf_4 at h
    refine lv_iload_n hx hb d_Pr_codeOf_4 rfl (lv_at hl 3 rfl) ?_
    refine lv_aload_n hx hb d_Pr_codeOf_5 rfl (lv_at hl 1 rfl) ?_
    refine va_alen (v := nI m0) hx hb hK hP 0 1 rfl rfl rfl d_Pr_codeOf_6 ?_
    refine lv_icmp_ge (tgt := 25) hx hb d_Pr_codeOf_7 (by decide) (fun cq5 => ?_) (fun cq5 => ?_)
    · replace h := (if_pos cq5).symm.trans h
      have eV := so1 h
      subst eV
      exact kx25 _ _ _ hP hD hS (lv_sub hl [2] rfl)
    · replace h := (if_neg cq5).symm.trans h
      refine lv_aload_n hx hb d_Pr_codeOf_10 rfl (lv_at hl 1 rfl) ?_
      refine lv_iload_n hx hb d_Pr_codeOf_11 rfl (lv_at hl 3 rfl) ?_
      obtain ⟨hi6, h⟩ := Ix_e h
      refine va_iald hx hb hK hP 0 1 rfl rfl hi6 d_Pr_codeOf_12 ?_
      refine lv_iload_n hx hb d_Pr_codeOf_13 rfl (lv_at hl 0 rfl) ?_
      refine lv_icmp_gt (tgt := 25) hx hb d_Pr_codeOf_14 (by decide) (fun cq7 => ?_) (fun cq7 => ?_)
      · replace h := (if_pos cq7).symm.trans h
        have eV := so1 h
        subst eV
        exact kx25 _ _ _ hP hD hS (lv_sub hl [2] rfl)
      · replace h := (if_neg cq7).symm.trans h
        refine lv_iload_n hx hb d_Pr_codeOf_17 rfl (lv_at hl 3 rfl) ?_
        refine lv_istore_n (lv' := [(2, .int i3), (0, .int i0), (1, .ref c0), (3, .int i3)]) hx hb d_Pr_codeOf_18 rfl hl (by decide) rfl (fun ls hl => ?_)
        obtain ⟨v8, ev8⟩ : ∃ y : Int32, y = i3 + 1 := ⟨_, rfl⟩
        replace h := Lt_e h ev8
        refine lv_iinc (v := v8) (lv' := [(3, .int v8), (2, .int i3), (0, .int i0), (1, .ref c0)]) hx hb d_Pr_codeOf_19 hl (k := 3) rfl (by rw [ev8]; rfl) (by decide) rfl (fun ls hl => ?_)
        refine lv_goto (tgt := 4) hx hb d_Pr_codeOf_22 (by decide) ?_
        exact ih i3 v8  _ _ _ h hP hD hS (lv_sub hl [2, 3, 1, 0] rfl)
set_option maxHeartbeats 4000000 in
set_option maxRecDepth 100000 in
theorem c_Pr_codeOf (l : Launch) (G : GX) (a0 : Nat) (sz : Nat) (n0 : Nat) (f0 : (Nat → Int32)) (p0 : Int32) (N : Nat) (V : Int32) (h : f_Pr_codeOf N n0 f0 p0 = some V) :
    Met l y_Pr_codeOf (wd y_Pr_codeOf b_Pr_codeOf 4 (some .int)) { frames := 0, cells := 0, slots := 0, locals := 0 } (PX G [.int p0, .ref a0] sz [(a0, .inl (G.2.1 1, n0, .inl f0))])
      (QXi G V (fun w => w = [(a0, .inl (G.2.1 1, n0, .inl f0))]) (va_A [(a0, .inl (G.2.1 1, n0, .inl f0))] sz)) 0 0 (va_A [(a0, .inl (G.2.1 1, n0, .inl f0))] sz) := by
  refine Met_in (QQ := fun A => QXi G V (fun w => w = [(a0, .inl (G.2.1 1, n0, .inl f0))]) A) (by decide) (Nat.le_of_ble_eq_true rfl) (fun p e s m below meth c R Q A ls C0 hRf hRl hRc hRs hP hK hD hT hA hS hl hQ => ?_)
  obtain ⟨hx, hb, hml, hown, hts, hr, hlocks, hin⟩ := id C0
  have hown : s.vm.findClass R_Pr = some m.cls := hown
  have hl : lv_has ls 4 [(0, .int p0), (1, .ref a0)] := hl
  unfold f_Pr_codeOf at h
  have hkc : 0 ≤ R.cells := Nat.zero_le _
  have hks : 0 ≤ R.slots := Nat.zero_le _
  obtain ⟨H, hH⟩ : ∃ H, H = s.heap := ⟨_, rfl⟩
  obtain ⟨locs, hlc⟩ : ∃ x : List Loc, x = [] := ⟨_, rfl⟩
  rw [← hH] at hP
  have hS : va_S A s.heap H locs := by rw [hH, hlc]; exact hS
  suffices hgo : W p l e R s m [.int p0, .ref a0].toArray below meth c H locs 0 0 Q (F0 m 0 ls []) by rw [hH, hlc] at hgo; exact hgo
  refine lv_iconst (v := 0) hx hb d_Pr_codeOf_0 (by decide) ?_
  refine lv_istore_n (lv' := [(2, .int 0), (0, .int p0), (1, .ref a0)]) hx hb d_Pr_codeOf_1 rfl hl (by decide) rfl (fun ls hl => ?_)
  refine lv_iconst (v := 1) hx hb d_Pr_codeOf_2 (by decide) ?_
  refine lv_istore_n (lv' := [(3, .int 1), (2, .int 0), (0, .int p0), (1, .ref a0)]) hx hb d_Pr_codeOf_3 rfl hl (by decide) rfl (fun ls hl => ?_)
  obtain ⟨r9, hc9, h⟩ := Bd_e h
  refine w_Pr_codeOf_4 C0 hRf hRl hA hK hT N p0 n0 f0 a0 r9 (kc := 0) (ks := 0) hkc hks ?_ N 0 1  _ _ _ hc9 hP hD hS (lv_sub hl [2, 3, 1, 0] rfl)
  · intro H locs ls hP hD hS hl
    refine lv_iload_n hx hb d_Pr_codeOf_25 rfl (lv_at hl 0 rfl) ?_
    have eV := so1 h
    subst eV
    exact x_iret C0 hQ hP hD hS rfl (Nat.zero_le _) (Nat.zero_le _) d_Pr_codeOf_26
set_option maxHeartbeats 4000000 in
set_option maxRecDepth 100000 in
theorem c_Mo_init (l : Launch) (G : GX) (a0 : Nat) (sz : Nat)   (N : Nat) (V : Unit) (K Z : Nat) (h : f_Mo_init N  = some (V, K, Z)) :
    Met l y_Mo_init (wd y_Mo_init b_Mo_init 1 none) { frames := 1, cells := K, slots := Z, locals := 20 } (PX G [.ref a0] sz [(a0, .inr (9, [.null, .null, .null, .int 0, .int 0, .int 0, .int 0, .int 0, .int 0, .int 0, .int 0, .int 0, .int 0, .int 0, .int 0, .int 0, .int 0, .null, .null, .null, .null, .null, .null, .null]))])
      (QXv G (fun w => ∃ e0 e1 e2 e3 e4 e5 e6 e7 e8 e9 : Nat, w = [(a0, .inr (9, [.ref e0, .ref e1, .ref e2, .int 0, .int 0, .int 0, .int 0, .int 0, .int 0, .int 0, .int 0, .int 0, .int 0, .int 0, .int 0, .int 0, .int 0, .ref e3, .ref e4, .ref e5, .ref e6, .ref e7, .ref e8, .ref e9])), (e0, .inl (G.2.1 0, 65536, .inl ((fun _ => 0)))), (e1, .inl (G.2.1 0, 74000, .inl ((fun _ => 0)))), (e2, .inl (G.2.1 0, 65536, .inl ((fun _ => 0)))), (e3, .inl (G.2.1 1, 340, .inl ((fun _ => 0)))), (e4, .inl (G.2.1 1, 340, .inl ((fun _ => 0)))), (e5, .inl (G.2.1 1, 320, .inl ((fun _ => 0)))), (e6, .inl (G.2.1 1, 17, .inl ((fun _ => 0)))), (e7, .inl (G.2.1 1, 17, .inl ((fun _ => 0)))), (e8, .inl (G.2.1 1, 80, .inl ((fun _ => 0)))), (e9, .inl (G.2.1 1, 5, .inl ((fun _ => 0))))]) (va_A [(a0, .inr (9, [.null, .null, .null, .int 0, .int 0, .int 0, .int 0, .int 0, .int 0, .int 0, .int 0, .int 0, .int 0, .int 0, .int 0, .int 0, .int 0, .null, .null, .null, .null, .null, .null, .null]))] sz)) K Z (va_A [(a0, .inr (9, [.null, .null, .null, .int 0, .int 0, .int 0, .int 0, .int 0, .int 0, .int 0, .int 0, .int 0, .int 0, .int 0, .int 0, .int 0, .int 0, .null, .null, .null, .null, .null, .null, .null]))] sz) := by
  refine Met_in (QQ := fun A => QXv G (fun w => ∃ e0 e1 e2 e3 e4 e5 e6 e7 e8 e9 : Nat, w = [(a0, .inr (9, [.ref e0, .ref e1, .ref e2, .int 0, .int 0, .int 0, .int 0, .int 0, .int 0, .int 0, .int 0, .int 0, .int 0, .int 0, .int 0, .int 0, .int 0, .ref e3, .ref e4, .ref e5, .ref e6, .ref e7, .ref e8, .ref e9])), (e0, .inl (G.2.1 0, 65536, .inl ((fun _ => 0)))), (e1, .inl (G.2.1 0, 74000, .inl ((fun _ => 0)))), (e2, .inl (G.2.1 0, 65536, .inl ((fun _ => 0)))), (e3, .inl (G.2.1 1, 340, .inl ((fun _ => 0)))), (e4, .inl (G.2.1 1, 340, .inl ((fun _ => 0)))), (e5, .inl (G.2.1 1, 320, .inl ((fun _ => 0)))), (e6, .inl (G.2.1 1, 17, .inl ((fun _ => 0)))), (e7, .inl (G.2.1 1, 17, .inl ((fun _ => 0)))), (e8, .inl (G.2.1 1, 80, .inl ((fun _ => 0)))), (e9, .inl (G.2.1 1, 5, .inl ((fun _ => 0))))]) A) (by decide) (Nat.le_of_ble_eq_true rfl) (fun p e s m below meth c R Q A ls C0 hRf hRl hRc hRs hP hK hD hT hA hS hl hQ => ?_)
  obtain ⟨hx, hb, hml, hown, hts, hr, hlocks, hin⟩ := id C0
  have hown : s.vm.findClass R_Mo = some m.cls := hown
  have hl : lv_has ls 1 [(0, .ref a0)] := hl
  unfold f_Mo_init at h
  have hKT : K ≤ R.cells := Nat.le_of_eq hRc.symm
  have hZT : Z ≤ R.slots := Nat.le_of_eq hRs.symm
  have ekc : 0 + K = K := by omega
  have ezc : 0 + Z = Z := by omega
  obtain ⟨H, hH⟩ : ∃ H, H = s.heap := ⟨_, rfl⟩
  obtain ⟨locs, hlc⟩ : ∃ x : List Loc, x = [] := ⟨_, rfl⟩
  rw [← hH] at hP
  have hS : va_S A s.heap H locs := by rw [hH, hlc]; exact hS
  suffices hgo : W p l e R s m [.ref a0].toArray below meth c H locs 0 0 Q (F0 m 0 ls []) by rw [hH, hlc] at hgo; exact hgo
  refine lv_aload_n hx hb d_Mo_init_0 rfl (lv_at hl 0 rfl) ?_
  refine W.objInit hx hb hown (hts _ q421) (hts _ q1) (hts _ q2) rfl (by rw [hml]; exact hl.1) rfl d_Mo_init_1 (Nat.le_trans (by decide) hRf) (Nat.le_trans (Nat.le_of_ble_eq_true rfl) hRl) ?_
  refine W.eq (g2 := F0 m 4 ls []) rfl ?_
  refine lv_aload_n hx hb d_Mo_init_4 rfl (lv_at hl 0 rfl) ?_
  refine lv_ldc (v := 65536) hx hb hown (hts _ q422) d_Mo_init_5 ?_
  obtain ⟨k2, z2, h, ek2, ez2⟩ := Ak_e h
  have ekc : 0 + 1 + k2 = K := by omega
  have ezc : 0 + 65536 + z2 = Z := by omega
  refine y_newaB (N' := 65536) hx hb (hts _ q7) hK hP hD hS hA (by decide) (by decide) (by decide) (by omega) (by omega) d_Mo_init_7 (fun nq1 H hP hD hS => ?_)
  have hP : va_P G.1 classes [(a0, .inr (9, [.null, .null, .null, .int 0, .int 0, .int 0, .int 0, .int 0, .int 0, .int 0, .int 0, .int 0, .int 0, .int 0, .int 0, .int 0, .int 0, .null, .null, .null, .null, .null, .null, .null])), (nq1, .inl (G.2.1 0, 65536, .inl ((fun _ => 0))))] H := hP
  have hD : va_D A [(a0, .inr (9, [.null, .null, .null, .int 0, .int 0, .int 0, .int 0, .int 0, .int 0, .int 0, .int 0, .int 0, .int 0, .int 0, .int 0, .int 0, .int 0, .null, .null, .null, .null, .null, .null, .null])), (nq1, .inl (G.2.1 0, 65536, .inl ((fun _ => 0))))] := hD
  refine va_putF (D := G.1) (ci := 9) (v := .ref nq1) (ty := .array .byte) (C := R_Mo) (T := F_Mo) (N := 24) hx hb hts i_Mo t_Mo t_Mo_ok n_Mo hown hK hP hD hS 0 rfl rfl 0 (by decide) (hts _ q423) (fun _ h9 => h9) rfl (hin rfl) rfl (by decide +kernel) rfl rfl (Nat.le_of_ble_eq_true rfl) d_Mo_init_9 (fun H locs hP hD hS => ?_)
  have hP : va_P G.1 classes [(a0, .inr (9, [.ref nq1, .null, .null, .int 0, .int 0, .int 0, .int 0, .int 0, .int 0, .int 0, .int 0, .int 0, .int 0, .int 0, .int 0, .int 0, .int 0, .null, .null, .null, .null, .null, .null, .null])), (nq1, .inl (G.2.1 0, 65536, .inl ((fun _ => 0))))] H := hP
  have hD : va_D A [(a0, .inr (9, [.ref nq1, .null, .null, .int 0, .int 0, .int 0, .int 0, .int 0, .int 0, .int 0, .int 0, .int 0, .int 0, .int 0, .int 0, .int 0, .int 0, .null, .null, .null, .null, .null, .null, .null])), (nq1, .inl (G.2.1 0, 65536, .inl ((fun _ => 0))))] := hD
  refine lv_aload_n hx hb d_Mo_init_12 rfl (lv_at hl 0 rfl) ?_
  refine lv_ldc (v := 74000) hx hb hown (hts _ q424) d_Mo_init_13 ?_
  obtain ⟨k4, z4, h, ek4, ez4⟩ := Ak_e h
  have ekc : 0 + 1 + 1 + k4 = K := by omega
  have ezc : 0 + 65536 + 74000 + z4 = Z := by omega
  refine y_newaB (N' := 74000) hx hb (hts _ q7) hK hP hD hS hA (by decide) (by decide) (by decide) (by omega) (by omega) d_Mo_init_15 (fun nq3 H hP hD hS => ?_)
  have hP : va_P G.1 classes [(a0, .inr (9, [.ref nq1, .null, .null, .int 0, .int 0, .int 0, .int 0, .int 0, .int 0, .int 0, .int 0, .int 0, .int 0, .int 0, .int 0, .int 0, .int 0, .null, .null, .null, .null, .null, .null, .null])), (nq1, .inl (G.2.1 0, 65536, .inl ((fun _ => 0)))), (nq3, .inl (G.2.1 0, 74000, .inl ((fun _ => 0))))] H := hP
  have hD : va_D A [(a0, .inr (9, [.ref nq1, .null, .null, .int 0, .int 0, .int 0, .int 0, .int 0, .int 0, .int 0, .int 0, .int 0, .int 0, .int 0, .int 0, .int 0, .int 0, .null, .null, .null, .null, .null, .null, .null])), (nq1, .inl (G.2.1 0, 65536, .inl ((fun _ => 0)))), (nq3, .inl (G.2.1 0, 74000, .inl ((fun _ => 0))))] := hD
  refine va_putF (D := G.1) (ci := 9) (v := .ref nq3) (ty := .array .byte) (C := R_Mo) (T := F_Mo) (N := 24) hx hb hts i_Mo t_Mo t_Mo_ok n_Mo hown hK hP hD hS 0 rfl rfl 1 (by decide) (hts _ q425) (fun _ h9 => h9) rfl (hin rfl) rfl (by decide +kernel) rfl rfl (Nat.le_of_ble_eq_true rfl) d_Mo_init_17 (fun H locs hP hD hS => ?_)
  have hP : va_P G.1 classes [(a0, .inr (9, [.ref nq1, .ref nq3, .null, .int 0, .int 0, .int 0, .int 0, .int 0, .int 0, .int 0, .int 0, .int 0, .int 0, .int 0, .int 0, .int 0, .int 0, .null, .null, .null, .null, .null, .null, .null])), (nq1, .inl (G.2.1 0, 65536, .inl ((fun _ => 0)))), (nq3, .inl (G.2.1 0, 74000, .inl ((fun _ => 0))))] H := hP
  have hD : va_D A [(a0, .inr (9, [.ref nq1, .ref nq3, .null, .int 0, .int 0, .int 0, .int 0, .int 0, .int 0, .int 0, .int 0, .int 0, .int 0, .int 0, .int 0, .int 0, .int 0, .null, .null, .null, .null, .null, .null, .null])), (nq1, .inl (G.2.1 0, 65536, .inl ((fun _ => 0)))), (nq3, .inl (G.2.1 0, 74000, .inl ((fun _ => 0))))] := hD
  refine lv_aload_n hx hb d_Mo_init_20 rfl (lv_at hl 0 rfl) ?_
  refine lv_ldc (v := 65536) hx hb hown (hts _ q422) d_Mo_init_21 ?_
  obtain ⟨k6, z6, h, ek6, ez6⟩ := Ak_e h
  have ekc : 0 + 1 + 1 + 1 + k6 = K := by omega
  have ezc : 0 + 65536 + 74000 + 65536 + z6 = Z := by omega
  refine y_newaB (N' := 65536) hx hb (hts _ q7) hK hP hD hS hA (by decide) (by decide) (by decide) (by omega) (by omega) d_Mo_init_23 (fun nq5 H hP hD hS => ?_)
  have hP : va_P G.1 classes [(a0, .inr (9, [.ref nq1, .ref nq3, .null, .int 0, .int 0, .int 0, .int 0, .int 0, .int 0, .int 0, .int 0, .int 0, .int 0, .int 0, .int 0, .int 0, .int 0, .null, .null, .null, .null, .null, .null, .null])), (nq1, .inl (G.2.1 0, 65536, .inl ((fun _ => 0)))), (nq3, .inl (G.2.1 0, 74000, .inl ((fun _ => 0)))), (nq5, .inl (G.2.1 0, 65536, .inl ((fun _ => 0))))] H := hP
  have hD : va_D A [(a0, .inr (9, [.ref nq1, .ref nq3, .null, .int 0, .int 0, .int 0, .int 0, .int 0, .int 0, .int 0, .int 0, .int 0, .int 0, .int 0, .int 0, .int 0, .int 0, .null, .null, .null, .null, .null, .null, .null])), (nq1, .inl (G.2.1 0, 65536, .inl ((fun _ => 0)))), (nq3, .inl (G.2.1 0, 74000, .inl ((fun _ => 0)))), (nq5, .inl (G.2.1 0, 65536, .inl ((fun _ => 0))))] := hD
  refine va_putF (D := G.1) (ci := 9) (v := .ref nq5) (ty := .array .byte) (C := R_Mo) (T := F_Mo) (N := 24) hx hb hts i_Mo t_Mo t_Mo_ok n_Mo hown hK hP hD hS 0 rfl rfl 2 (by decide) (hts _ q426) (fun _ h9 => h9) rfl (hin rfl) rfl (by decide +kernel) rfl rfl (Nat.le_of_ble_eq_true rfl) d_Mo_init_25 (fun H locs hP hD hS => ?_)
  have hP : va_P G.1 classes [(a0, .inr (9, [.ref nq1, .ref nq3, .ref nq5, .int 0, .int 0, .int 0, .int 0, .int 0, .int 0, .int 0, .int 0, .int 0, .int 0, .int 0, .int 0, .int 0, .int 0, .null, .null, .null, .null, .null, .null, .null])), (nq1, .inl (G.2.1 0, 65536, .inl ((fun _ => 0)))), (nq3, .inl (G.2.1 0, 74000, .inl ((fun _ => 0)))), (nq5, .inl (G.2.1 0, 65536, .inl ((fun _ => 0))))] H := hP
  have hD : va_D A [(a0, .inr (9, [.ref nq1, .ref nq3, .ref nq5, .int 0, .int 0, .int 0, .int 0, .int 0, .int 0, .int 0, .int 0, .int 0, .int 0, .int 0, .int 0, .int 0, .int 0, .null, .null, .null, .null, .null, .null, .null])), (nq1, .inl (G.2.1 0, 65536, .inl ((fun _ => 0)))), (nq3, .inl (G.2.1 0, 74000, .inl ((fun _ => 0)))), (nq5, .inl (G.2.1 0, 65536, .inl ((fun _ => 0))))] := hD
  refine lv_aload_n hx hb d_Mo_init_28 rfl (lv_at hl 0 rfl) ?_
  refine lv_sipush (v := 340) hx hb d_Mo_init_29 (by decide) ?_
  obtain ⟨k8, z8, h, ek8, ez8⟩ := Ak_e h
  have ekc : 0 + 1 + 1 + 1 + 1 + k8 = K := by omega
  have ezc : 0 + 65536 + 74000 + 65536 + 340 + z8 = Z := by omega
  refine y_newaI (N' := 340) hx hb (hts _ q20) hK hP hD hS hA (by decide) (by decide) (by decide) (by omega) (by omega) d_Mo_init_32 (fun nq7 H hP hD hS => ?_)
  have hP : va_P G.1 classes [(a0, .inr (9, [.ref nq1, .ref nq3, .ref nq5, .int 0, .int 0, .int 0, .int 0, .int 0, .int 0, .int 0, .int 0, .int 0, .int 0, .int 0, .int 0, .int 0, .int 0, .null, .null, .null, .null, .null, .null, .null])), (nq1, .inl (G.2.1 0, 65536, .inl ((fun _ => 0)))), (nq3, .inl (G.2.1 0, 74000, .inl ((fun _ => 0)))), (nq5, .inl (G.2.1 0, 65536, .inl ((fun _ => 0)))), (nq7, .inl (G.2.1 1, 340, .inl ((fun _ => 0))))] H := hP
  have hD : va_D A [(a0, .inr (9, [.ref nq1, .ref nq3, .ref nq5, .int 0, .int 0, .int 0, .int 0, .int 0, .int 0, .int 0, .int 0, .int 0, .int 0, .int 0, .int 0, .int 0, .int 0, .null, .null, .null, .null, .null, .null, .null])), (nq1, .inl (G.2.1 0, 65536, .inl ((fun _ => 0)))), (nq3, .inl (G.2.1 0, 74000, .inl ((fun _ => 0)))), (nq5, .inl (G.2.1 0, 65536, .inl ((fun _ => 0)))), (nq7, .inl (G.2.1 1, 340, .inl ((fun _ => 0))))] := hD
  refine va_putF (D := G.1) (ci := 9) (v := .ref nq7) (ty := .array .int) (C := R_Mo) (T := F_Mo) (N := 24) hx hb hts i_Mo t_Mo t_Mo_ok n_Mo hown hK hP hD hS 0 rfl rfl 17 (by decide) (hts _ q427) (fun _ h9 => h9) rfl (hin rfl) rfl (by decide +kernel) rfl rfl (Nat.le_of_ble_eq_true rfl) d_Mo_init_34 (fun H locs hP hD hS => ?_)
  have hP : va_P G.1 classes [(a0, .inr (9, [.ref nq1, .ref nq3, .ref nq5, .int 0, .int 0, .int 0, .int 0, .int 0, .int 0, .int 0, .int 0, .int 0, .int 0, .int 0, .int 0, .int 0, .int 0, .ref nq7, .null, .null, .null, .null, .null, .null])), (nq1, .inl (G.2.1 0, 65536, .inl ((fun _ => 0)))), (nq3, .inl (G.2.1 0, 74000, .inl ((fun _ => 0)))), (nq5, .inl (G.2.1 0, 65536, .inl ((fun _ => 0)))), (nq7, .inl (G.2.1 1, 340, .inl ((fun _ => 0))))] H := hP
  have hD : va_D A [(a0, .inr (9, [.ref nq1, .ref nq3, .ref nq5, .int 0, .int 0, .int 0, .int 0, .int 0, .int 0, .int 0, .int 0, .int 0, .int 0, .int 0, .int 0, .int 0, .int 0, .ref nq7, .null, .null, .null, .null, .null, .null])), (nq1, .inl (G.2.1 0, 65536, .inl ((fun _ => 0)))), (nq3, .inl (G.2.1 0, 74000, .inl ((fun _ => 0)))), (nq5, .inl (G.2.1 0, 65536, .inl ((fun _ => 0)))), (nq7, .inl (G.2.1 1, 340, .inl ((fun _ => 0))))] := hD
  refine lv_aload_n hx hb d_Mo_init_37 rfl (lv_at hl 0 rfl) ?_
  refine lv_sipush (v := 340) hx hb d_Mo_init_38 (by decide) ?_
  obtain ⟨k10, z10, h, ek10, ez10⟩ := Ak_e h
  have ekc : 0 + 1 + 1 + 1 + 1 + 1 + k10 = K := by omega
  have ezc : 0 + 65536 + 74000 + 65536 + 340 + 340 + z10 = Z := by omega
  refine y_newaI (N' := 340) hx hb (hts _ q20) hK hP hD hS hA (by decide) (by decide) (by decide) (by omega) (by omega) d_Mo_init_41 (fun nq9 H hP hD hS => ?_)
  have hP : va_P G.1 classes [(a0, .inr (9, [.ref nq1, .ref nq3, .ref nq5, .int 0, .int 0, .int 0, .int 0, .int 0, .int 0, .int 0, .int 0, .int 0, .int 0, .int 0, .int 0, .int 0, .int 0, .ref nq7, .null, .null, .null, .null, .null, .null])), (nq1, .inl (G.2.1 0, 65536, .inl ((fun _ => 0)))), (nq3, .inl (G.2.1 0, 74000, .inl ((fun _ => 0)))), (nq5, .inl (G.2.1 0, 65536, .inl ((fun _ => 0)))), (nq7, .inl (G.2.1 1, 340, .inl ((fun _ => 0)))), (nq9, .inl (G.2.1 1, 340, .inl ((fun _ => 0))))] H := hP
  have hD : va_D A [(a0, .inr (9, [.ref nq1, .ref nq3, .ref nq5, .int 0, .int 0, .int 0, .int 0, .int 0, .int 0, .int 0, .int 0, .int 0, .int 0, .int 0, .int 0, .int 0, .int 0, .ref nq7, .null, .null, .null, .null, .null, .null])), (nq1, .inl (G.2.1 0, 65536, .inl ((fun _ => 0)))), (nq3, .inl (G.2.1 0, 74000, .inl ((fun _ => 0)))), (nq5, .inl (G.2.1 0, 65536, .inl ((fun _ => 0)))), (nq7, .inl (G.2.1 1, 340, .inl ((fun _ => 0)))), (nq9, .inl (G.2.1 1, 340, .inl ((fun _ => 0))))] := hD
  refine va_putF (D := G.1) (ci := 9) (v := .ref nq9) (ty := .array .int) (C := R_Mo) (T := F_Mo) (N := 24) hx hb hts i_Mo t_Mo t_Mo_ok n_Mo hown hK hP hD hS 0 rfl rfl 18 (by decide) (hts _ q428) (fun _ h9 => h9) rfl (hin rfl) rfl (by decide +kernel) rfl rfl (Nat.le_of_ble_eq_true rfl) d_Mo_init_43 (fun H locs hP hD hS => ?_)
  have hP : va_P G.1 classes [(a0, .inr (9, [.ref nq1, .ref nq3, .ref nq5, .int 0, .int 0, .int 0, .int 0, .int 0, .int 0, .int 0, .int 0, .int 0, .int 0, .int 0, .int 0, .int 0, .int 0, .ref nq7, .ref nq9, .null, .null, .null, .null, .null])), (nq1, .inl (G.2.1 0, 65536, .inl ((fun _ => 0)))), (nq3, .inl (G.2.1 0, 74000, .inl ((fun _ => 0)))), (nq5, .inl (G.2.1 0, 65536, .inl ((fun _ => 0)))), (nq7, .inl (G.2.1 1, 340, .inl ((fun _ => 0)))), (nq9, .inl (G.2.1 1, 340, .inl ((fun _ => 0))))] H := hP
  have hD : va_D A [(a0, .inr (9, [.ref nq1, .ref nq3, .ref nq5, .int 0, .int 0, .int 0, .int 0, .int 0, .int 0, .int 0, .int 0, .int 0, .int 0, .int 0, .int 0, .int 0, .int 0, .ref nq7, .ref nq9, .null, .null, .null, .null, .null])), (nq1, .inl (G.2.1 0, 65536, .inl ((fun _ => 0)))), (nq3, .inl (G.2.1 0, 74000, .inl ((fun _ => 0)))), (nq5, .inl (G.2.1 0, 65536, .inl ((fun _ => 0)))), (nq7, .inl (G.2.1 1, 340, .inl ((fun _ => 0)))), (nq9, .inl (G.2.1 1, 340, .inl ((fun _ => 0))))] := hD
  refine lv_aload_n hx hb d_Mo_init_46 rfl (lv_at hl 0 rfl) ?_
  refine lv_sipush (v := 320) hx hb d_Mo_init_47 (by decide) ?_
  obtain ⟨k12, z12, h, ek12, ez12⟩ := Ak_e h
  have ekc : 0 + 1 + 1 + 1 + 1 + 1 + 1 + k12 = K := by omega
  have ezc : 0 + 65536 + 74000 + 65536 + 340 + 340 + 320 + z12 = Z := by omega
  refine y_newaI (N' := 320) hx hb (hts _ q20) hK hP hD hS hA (by decide) (by decide) (by decide) (by omega) (by omega) d_Mo_init_50 (fun nq11 H hP hD hS => ?_)
  have hP : va_P G.1 classes [(a0, .inr (9, [.ref nq1, .ref nq3, .ref nq5, .int 0, .int 0, .int 0, .int 0, .int 0, .int 0, .int 0, .int 0, .int 0, .int 0, .int 0, .int 0, .int 0, .int 0, .ref nq7, .ref nq9, .null, .null, .null, .null, .null])), (nq1, .inl (G.2.1 0, 65536, .inl ((fun _ => 0)))), (nq3, .inl (G.2.1 0, 74000, .inl ((fun _ => 0)))), (nq5, .inl (G.2.1 0, 65536, .inl ((fun _ => 0)))), (nq7, .inl (G.2.1 1, 340, .inl ((fun _ => 0)))), (nq9, .inl (G.2.1 1, 340, .inl ((fun _ => 0)))), (nq11, .inl (G.2.1 1, 320, .inl ((fun _ => 0))))] H := hP
  have hD : va_D A [(a0, .inr (9, [.ref nq1, .ref nq3, .ref nq5, .int 0, .int 0, .int 0, .int 0, .int 0, .int 0, .int 0, .int 0, .int 0, .int 0, .int 0, .int 0, .int 0, .int 0, .ref nq7, .ref nq9, .null, .null, .null, .null, .null])), (nq1, .inl (G.2.1 0, 65536, .inl ((fun _ => 0)))), (nq3, .inl (G.2.1 0, 74000, .inl ((fun _ => 0)))), (nq5, .inl (G.2.1 0, 65536, .inl ((fun _ => 0)))), (nq7, .inl (G.2.1 1, 340, .inl ((fun _ => 0)))), (nq9, .inl (G.2.1 1, 340, .inl ((fun _ => 0)))), (nq11, .inl (G.2.1 1, 320, .inl ((fun _ => 0))))] := hD
  refine va_putF (D := G.1) (ci := 9) (v := .ref nq11) (ty := .array .int) (C := R_Mo) (T := F_Mo) (N := 24) hx hb hts i_Mo t_Mo t_Mo_ok n_Mo hown hK hP hD hS 0 rfl rfl 19 (by decide) (hts _ q429) (fun _ h9 => h9) rfl (hin rfl) rfl (by decide +kernel) rfl rfl (Nat.le_of_ble_eq_true rfl) d_Mo_init_52 (fun H locs hP hD hS => ?_)
  have hP : va_P G.1 classes [(a0, .inr (9, [.ref nq1, .ref nq3, .ref nq5, .int 0, .int 0, .int 0, .int 0, .int 0, .int 0, .int 0, .int 0, .int 0, .int 0, .int 0, .int 0, .int 0, .int 0, .ref nq7, .ref nq9, .ref nq11, .null, .null, .null, .null])), (nq1, .inl (G.2.1 0, 65536, .inl ((fun _ => 0)))), (nq3, .inl (G.2.1 0, 74000, .inl ((fun _ => 0)))), (nq5, .inl (G.2.1 0, 65536, .inl ((fun _ => 0)))), (nq7, .inl (G.2.1 1, 340, .inl ((fun _ => 0)))), (nq9, .inl (G.2.1 1, 340, .inl ((fun _ => 0)))), (nq11, .inl (G.2.1 1, 320, .inl ((fun _ => 0))))] H := hP
  have hD : va_D A [(a0, .inr (9, [.ref nq1, .ref nq3, .ref nq5, .int 0, .int 0, .int 0, .int 0, .int 0, .int 0, .int 0, .int 0, .int 0, .int 0, .int 0, .int 0, .int 0, .int 0, .ref nq7, .ref nq9, .ref nq11, .null, .null, .null, .null])), (nq1, .inl (G.2.1 0, 65536, .inl ((fun _ => 0)))), (nq3, .inl (G.2.1 0, 74000, .inl ((fun _ => 0)))), (nq5, .inl (G.2.1 0, 65536, .inl ((fun _ => 0)))), (nq7, .inl (G.2.1 1, 340, .inl ((fun _ => 0)))), (nq9, .inl (G.2.1 1, 340, .inl ((fun _ => 0)))), (nq11, .inl (G.2.1 1, 320, .inl ((fun _ => 0))))] := hD
  refine lv_aload_n hx hb d_Mo_init_55 rfl (lv_at hl 0 rfl) ?_
  refine lv_bipush (v := 17) hx hb d_Mo_init_56 (by decide) ?_
  obtain ⟨k14, z14, h, ek14, ez14⟩ := Ak_e h
  have ekc : 0 + 1 + 1 + 1 + 1 + 1 + 1 + 1 + k14 = K := by omega
  have ezc : 0 + 65536 + 74000 + 65536 + 340 + 340 + 320 + 17 + z14 = Z := by omega
  refine y_newaI (N' := 17) hx hb (hts _ q20) hK hP hD hS hA (by decide) (by decide) (by decide) (by omega) (by omega) d_Mo_init_58 (fun nq13 H hP hD hS => ?_)
  have hP : va_P G.1 classes [(a0, .inr (9, [.ref nq1, .ref nq3, .ref nq5, .int 0, .int 0, .int 0, .int 0, .int 0, .int 0, .int 0, .int 0, .int 0, .int 0, .int 0, .int 0, .int 0, .int 0, .ref nq7, .ref nq9, .ref nq11, .null, .null, .null, .null])), (nq1, .inl (G.2.1 0, 65536, .inl ((fun _ => 0)))), (nq3, .inl (G.2.1 0, 74000, .inl ((fun _ => 0)))), (nq5, .inl (G.2.1 0, 65536, .inl ((fun _ => 0)))), (nq7, .inl (G.2.1 1, 340, .inl ((fun _ => 0)))), (nq9, .inl (G.2.1 1, 340, .inl ((fun _ => 0)))), (nq11, .inl (G.2.1 1, 320, .inl ((fun _ => 0)))), (nq13, .inl (G.2.1 1, 17, .inl ((fun _ => 0))))] H := hP
  have hD : va_D A [(a0, .inr (9, [.ref nq1, .ref nq3, .ref nq5, .int 0, .int 0, .int 0, .int 0, .int 0, .int 0, .int 0, .int 0, .int 0, .int 0, .int 0, .int 0, .int 0, .int 0, .ref nq7, .ref nq9, .ref nq11, .null, .null, .null, .null])), (nq1, .inl (G.2.1 0, 65536, .inl ((fun _ => 0)))), (nq3, .inl (G.2.1 0, 74000, .inl ((fun _ => 0)))), (nq5, .inl (G.2.1 0, 65536, .inl ((fun _ => 0)))), (nq7, .inl (G.2.1 1, 340, .inl ((fun _ => 0)))), (nq9, .inl (G.2.1 1, 340, .inl ((fun _ => 0)))), (nq11, .inl (G.2.1 1, 320, .inl ((fun _ => 0)))), (nq13, .inl (G.2.1 1, 17, .inl ((fun _ => 0))))] := hD
  refine va_putF (D := G.1) (ci := 9) (v := .ref nq13) (ty := .array .int) (C := R_Mo) (T := F_Mo) (N := 24) hx hb hts i_Mo t_Mo t_Mo_ok n_Mo hown hK hP hD hS 0 rfl rfl 20 (by decide) (hts _ q430) (fun _ h9 => h9) rfl (hin rfl) rfl (by decide +kernel) rfl rfl (Nat.le_of_ble_eq_true rfl) d_Mo_init_60 (fun H locs hP hD hS => ?_)
  have hP : va_P G.1 classes [(a0, .inr (9, [.ref nq1, .ref nq3, .ref nq5, .int 0, .int 0, .int 0, .int 0, .int 0, .int 0, .int 0, .int 0, .int 0, .int 0, .int 0, .int 0, .int 0, .int 0, .ref nq7, .ref nq9, .ref nq11, .ref nq13, .null, .null, .null])), (nq1, .inl (G.2.1 0, 65536, .inl ((fun _ => 0)))), (nq3, .inl (G.2.1 0, 74000, .inl ((fun _ => 0)))), (nq5, .inl (G.2.1 0, 65536, .inl ((fun _ => 0)))), (nq7, .inl (G.2.1 1, 340, .inl ((fun _ => 0)))), (nq9, .inl (G.2.1 1, 340, .inl ((fun _ => 0)))), (nq11, .inl (G.2.1 1, 320, .inl ((fun _ => 0)))), (nq13, .inl (G.2.1 1, 17, .inl ((fun _ => 0))))] H := hP
  have hD : va_D A [(a0, .inr (9, [.ref nq1, .ref nq3, .ref nq5, .int 0, .int 0, .int 0, .int 0, .int 0, .int 0, .int 0, .int 0, .int 0, .int 0, .int 0, .int 0, .int 0, .int 0, .ref nq7, .ref nq9, .ref nq11, .ref nq13, .null, .null, .null])), (nq1, .inl (G.2.1 0, 65536, .inl ((fun _ => 0)))), (nq3, .inl (G.2.1 0, 74000, .inl ((fun _ => 0)))), (nq5, .inl (G.2.1 0, 65536, .inl ((fun _ => 0)))), (nq7, .inl (G.2.1 1, 340, .inl ((fun _ => 0)))), (nq9, .inl (G.2.1 1, 340, .inl ((fun _ => 0)))), (nq11, .inl (G.2.1 1, 320, .inl ((fun _ => 0)))), (nq13, .inl (G.2.1 1, 17, .inl ((fun _ => 0))))] := hD
  refine lv_aload_n hx hb d_Mo_init_63 rfl (lv_at hl 0 rfl) ?_
  refine lv_bipush (v := 17) hx hb d_Mo_init_64 (by decide) ?_
  obtain ⟨k16, z16, h, ek16, ez16⟩ := Ak_e h
  have ekc : 0 + 1 + 1 + 1 + 1 + 1 + 1 + 1 + 1 + k16 = K := by omega
  have ezc : 0 + 65536 + 74000 + 65536 + 340 + 340 + 320 + 17 + 17 + z16 = Z := by omega
  refine y_newaI (N' := 17) hx hb (hts _ q20) hK hP hD hS hA (by decide) (by decide) (by decide) (by omega) (by omega) d_Mo_init_66 (fun nq15 H hP hD hS => ?_)
  have hP : va_P G.1 classes [(a0, .inr (9, [.ref nq1, .ref nq3, .ref nq5, .int 0, .int 0, .int 0, .int 0, .int 0, .int 0, .int 0, .int 0, .int 0, .int 0, .int 0, .int 0, .int 0, .int 0, .ref nq7, .ref nq9, .ref nq11, .ref nq13, .null, .null, .null])), (nq1, .inl (G.2.1 0, 65536, .inl ((fun _ => 0)))), (nq3, .inl (G.2.1 0, 74000, .inl ((fun _ => 0)))), (nq5, .inl (G.2.1 0, 65536, .inl ((fun _ => 0)))), (nq7, .inl (G.2.1 1, 340, .inl ((fun _ => 0)))), (nq9, .inl (G.2.1 1, 340, .inl ((fun _ => 0)))), (nq11, .inl (G.2.1 1, 320, .inl ((fun _ => 0)))), (nq13, .inl (G.2.1 1, 17, .inl ((fun _ => 0)))), (nq15, .inl (G.2.1 1, 17, .inl ((fun _ => 0))))] H := hP
  have hD : va_D A [(a0, .inr (9, [.ref nq1, .ref nq3, .ref nq5, .int 0, .int 0, .int 0, .int 0, .int 0, .int 0, .int 0, .int 0, .int 0, .int 0, .int 0, .int 0, .int 0, .int 0, .ref nq7, .ref nq9, .ref nq11, .ref nq13, .null, .null, .null])), (nq1, .inl (G.2.1 0, 65536, .inl ((fun _ => 0)))), (nq3, .inl (G.2.1 0, 74000, .inl ((fun _ => 0)))), (nq5, .inl (G.2.1 0, 65536, .inl ((fun _ => 0)))), (nq7, .inl (G.2.1 1, 340, .inl ((fun _ => 0)))), (nq9, .inl (G.2.1 1, 340, .inl ((fun _ => 0)))), (nq11, .inl (G.2.1 1, 320, .inl ((fun _ => 0)))), (nq13, .inl (G.2.1 1, 17, .inl ((fun _ => 0)))), (nq15, .inl (G.2.1 1, 17, .inl ((fun _ => 0))))] := hD
  refine va_putF (D := G.1) (ci := 9) (v := .ref nq15) (ty := .array .int) (C := R_Mo) (T := F_Mo) (N := 24) hx hb hts i_Mo t_Mo t_Mo_ok n_Mo hown hK hP hD hS 0 rfl rfl 21 (by decide) (hts _ q431) (fun _ h9 => h9) rfl (hin rfl) rfl (by decide +kernel) rfl rfl (Nat.le_of_ble_eq_true rfl) d_Mo_init_68 (fun H locs hP hD hS => ?_)
  have hP : va_P G.1 classes [(a0, .inr (9, [.ref nq1, .ref nq3, .ref nq5, .int 0, .int 0, .int 0, .int 0, .int 0, .int 0, .int 0, .int 0, .int 0, .int 0, .int 0, .int 0, .int 0, .int 0, .ref nq7, .ref nq9, .ref nq11, .ref nq13, .ref nq15, .null, .null])), (nq1, .inl (G.2.1 0, 65536, .inl ((fun _ => 0)))), (nq3, .inl (G.2.1 0, 74000, .inl ((fun _ => 0)))), (nq5, .inl (G.2.1 0, 65536, .inl ((fun _ => 0)))), (nq7, .inl (G.2.1 1, 340, .inl ((fun _ => 0)))), (nq9, .inl (G.2.1 1, 340, .inl ((fun _ => 0)))), (nq11, .inl (G.2.1 1, 320, .inl ((fun _ => 0)))), (nq13, .inl (G.2.1 1, 17, .inl ((fun _ => 0)))), (nq15, .inl (G.2.1 1, 17, .inl ((fun _ => 0))))] H := hP
  have hD : va_D A [(a0, .inr (9, [.ref nq1, .ref nq3, .ref nq5, .int 0, .int 0, .int 0, .int 0, .int 0, .int 0, .int 0, .int 0, .int 0, .int 0, .int 0, .int 0, .int 0, .int 0, .ref nq7, .ref nq9, .ref nq11, .ref nq13, .ref nq15, .null, .null])), (nq1, .inl (G.2.1 0, 65536, .inl ((fun _ => 0)))), (nq3, .inl (G.2.1 0, 74000, .inl ((fun _ => 0)))), (nq5, .inl (G.2.1 0, 65536, .inl ((fun _ => 0)))), (nq7, .inl (G.2.1 1, 340, .inl ((fun _ => 0)))), (nq9, .inl (G.2.1 1, 340, .inl ((fun _ => 0)))), (nq11, .inl (G.2.1 1, 320, .inl ((fun _ => 0)))), (nq13, .inl (G.2.1 1, 17, .inl ((fun _ => 0)))), (nq15, .inl (G.2.1 1, 17, .inl ((fun _ => 0))))] := hD
  refine lv_aload_n hx hb d_Mo_init_71 rfl (lv_at hl 0 rfl) ?_
  refine lv_bipush (v := 80) hx hb d_Mo_init_72 (by decide) ?_
  obtain ⟨k18, z18, h, ek18, ez18⟩ := Ak_e h
  have ekc : 0 + 1 + 1 + 1 + 1 + 1 + 1 + 1 + 1 + 1 + k18 = K := by omega
  have ezc : 0 + 65536 + 74000 + 65536 + 340 + 340 + 320 + 17 + 17 + 80 + z18 = Z := by omega
  refine y_newaI (N' := 80) hx hb (hts _ q20) hK hP hD hS hA (by decide) (by decide) (by decide) (by omega) (by omega) d_Mo_init_74 (fun nq17 H hP hD hS => ?_)
  have hP : va_P G.1 classes [(a0, .inr (9, [.ref nq1, .ref nq3, .ref nq5, .int 0, .int 0, .int 0, .int 0, .int 0, .int 0, .int 0, .int 0, .int 0, .int 0, .int 0, .int 0, .int 0, .int 0, .ref nq7, .ref nq9, .ref nq11, .ref nq13, .ref nq15, .null, .null])), (nq1, .inl (G.2.1 0, 65536, .inl ((fun _ => 0)))), (nq3, .inl (G.2.1 0, 74000, .inl ((fun _ => 0)))), (nq5, .inl (G.2.1 0, 65536, .inl ((fun _ => 0)))), (nq7, .inl (G.2.1 1, 340, .inl ((fun _ => 0)))), (nq9, .inl (G.2.1 1, 340, .inl ((fun _ => 0)))), (nq11, .inl (G.2.1 1, 320, .inl ((fun _ => 0)))), (nq13, .inl (G.2.1 1, 17, .inl ((fun _ => 0)))), (nq15, .inl (G.2.1 1, 17, .inl ((fun _ => 0)))), (nq17, .inl (G.2.1 1, 80, .inl ((fun _ => 0))))] H := hP
  have hD : va_D A [(a0, .inr (9, [.ref nq1, .ref nq3, .ref nq5, .int 0, .int 0, .int 0, .int 0, .int 0, .int 0, .int 0, .int 0, .int 0, .int 0, .int 0, .int 0, .int 0, .int 0, .ref nq7, .ref nq9, .ref nq11, .ref nq13, .ref nq15, .null, .null])), (nq1, .inl (G.2.1 0, 65536, .inl ((fun _ => 0)))), (nq3, .inl (G.2.1 0, 74000, .inl ((fun _ => 0)))), (nq5, .inl (G.2.1 0, 65536, .inl ((fun _ => 0)))), (nq7, .inl (G.2.1 1, 340, .inl ((fun _ => 0)))), (nq9, .inl (G.2.1 1, 340, .inl ((fun _ => 0)))), (nq11, .inl (G.2.1 1, 320, .inl ((fun _ => 0)))), (nq13, .inl (G.2.1 1, 17, .inl ((fun _ => 0)))), (nq15, .inl (G.2.1 1, 17, .inl ((fun _ => 0)))), (nq17, .inl (G.2.1 1, 80, .inl ((fun _ => 0))))] := hD
  refine va_putF (D := G.1) (ci := 9) (v := .ref nq17) (ty := .array .int) (C := R_Mo) (T := F_Mo) (N := 24) hx hb hts i_Mo t_Mo t_Mo_ok n_Mo hown hK hP hD hS 0 rfl rfl 22 (by decide) (hts _ q432) (fun _ h9 => h9) rfl (hin rfl) rfl (by decide +kernel) rfl rfl (Nat.le_of_ble_eq_true rfl) d_Mo_init_76 (fun H locs hP hD hS => ?_)
  have hP : va_P G.1 classes [(a0, .inr (9, [.ref nq1, .ref nq3, .ref nq5, .int 0, .int 0, .int 0, .int 0, .int 0, .int 0, .int 0, .int 0, .int 0, .int 0, .int 0, .int 0, .int 0, .int 0, .ref nq7, .ref nq9, .ref nq11, .ref nq13, .ref nq15, .ref nq17, .null])), (nq1, .inl (G.2.1 0, 65536, .inl ((fun _ => 0)))), (nq3, .inl (G.2.1 0, 74000, .inl ((fun _ => 0)))), (nq5, .inl (G.2.1 0, 65536, .inl ((fun _ => 0)))), (nq7, .inl (G.2.1 1, 340, .inl ((fun _ => 0)))), (nq9, .inl (G.2.1 1, 340, .inl ((fun _ => 0)))), (nq11, .inl (G.2.1 1, 320, .inl ((fun _ => 0)))), (nq13, .inl (G.2.1 1, 17, .inl ((fun _ => 0)))), (nq15, .inl (G.2.1 1, 17, .inl ((fun _ => 0)))), (nq17, .inl (G.2.1 1, 80, .inl ((fun _ => 0))))] H := hP
  have hD : va_D A [(a0, .inr (9, [.ref nq1, .ref nq3, .ref nq5, .int 0, .int 0, .int 0, .int 0, .int 0, .int 0, .int 0, .int 0, .int 0, .int 0, .int 0, .int 0, .int 0, .int 0, .ref nq7, .ref nq9, .ref nq11, .ref nq13, .ref nq15, .ref nq17, .null])), (nq1, .inl (G.2.1 0, 65536, .inl ((fun _ => 0)))), (nq3, .inl (G.2.1 0, 74000, .inl ((fun _ => 0)))), (nq5, .inl (G.2.1 0, 65536, .inl ((fun _ => 0)))), (nq7, .inl (G.2.1 1, 340, .inl ((fun _ => 0)))), (nq9, .inl (G.2.1 1, 340, .inl ((fun _ => 0)))), (nq11, .inl (G.2.1 1, 320, .inl ((fun _ => 0)))), (nq13, .inl (G.2.1 1, 17, .inl ((fun _ => 0)))), (nq15, .inl (G.2.1 1, 17, .inl ((fun _ => 0)))), (nq17, .inl (G.2.1 1, 80, .inl ((fun _ => 0))))] := hD
  refine lv_aload_n hx hb d_Mo_init_79 rfl (lv_at hl 0 rfl) ?_
  refine lv_iconst (v := 5) hx hb d_Mo_init_80 (by decide) ?_
  obtain ⟨k20, z20, h, ek20, ez20⟩ := Ak_e h
  have ekc : 0 + 1 + 1 + 1 + 1 + 1 + 1 + 1 + 1 + 1 + 1 + k20 = K := by omega
  have ezc : 0 + 65536 + 74000 + 65536 + 340 + 340 + 320 + 17 + 17 + 80 + 5 + z20 = Z := by omega
  refine y_newaI (N' := 5) hx hb (hts _ q20) hK hP hD hS hA (by decide) (by decide) (by decide) (by omega) (by omega) d_Mo_init_81 (fun nq19 H hP hD hS => ?_)
  have hP : va_P G.1 classes [(a0, .inr (9, [.ref nq1, .ref nq3, .ref nq5, .int 0, .int 0, .int 0, .int 0, .int 0, .int 0, .int 0, .int 0, .int 0, .int 0, .int 0, .int 0, .int 0, .int 0, .ref nq7, .ref nq9, .ref nq11, .ref nq13, .ref nq15, .ref nq17, .null])), (nq1, .inl (G.2.1 0, 65536, .inl ((fun _ => 0)))), (nq3, .inl (G.2.1 0, 74000, .inl ((fun _ => 0)))), (nq5, .inl (G.2.1 0, 65536, .inl ((fun _ => 0)))), (nq7, .inl (G.2.1 1, 340, .inl ((fun _ => 0)))), (nq9, .inl (G.2.1 1, 340, .inl ((fun _ => 0)))), (nq11, .inl (G.2.1 1, 320, .inl ((fun _ => 0)))), (nq13, .inl (G.2.1 1, 17, .inl ((fun _ => 0)))), (nq15, .inl (G.2.1 1, 17, .inl ((fun _ => 0)))), (nq17, .inl (G.2.1 1, 80, .inl ((fun _ => 0)))), (nq19, .inl (G.2.1 1, 5, .inl ((fun _ => 0))))] H := hP
  have hD : va_D A [(a0, .inr (9, [.ref nq1, .ref nq3, .ref nq5, .int 0, .int 0, .int 0, .int 0, .int 0, .int 0, .int 0, .int 0, .int 0, .int 0, .int 0, .int 0, .int 0, .int 0, .ref nq7, .ref nq9, .ref nq11, .ref nq13, .ref nq15, .ref nq17, .null])), (nq1, .inl (G.2.1 0, 65536, .inl ((fun _ => 0)))), (nq3, .inl (G.2.1 0, 74000, .inl ((fun _ => 0)))), (nq5, .inl (G.2.1 0, 65536, .inl ((fun _ => 0)))), (nq7, .inl (G.2.1 1, 340, .inl ((fun _ => 0)))), (nq9, .inl (G.2.1 1, 340, .inl ((fun _ => 0)))), (nq11, .inl (G.2.1 1, 320, .inl ((fun _ => 0)))), (nq13, .inl (G.2.1 1, 17, .inl ((fun _ => 0)))), (nq15, .inl (G.2.1 1, 17, .inl ((fun _ => 0)))), (nq17, .inl (G.2.1 1, 80, .inl ((fun _ => 0)))), (nq19, .inl (G.2.1 1, 5, .inl ((fun _ => 0))))] := hD
  refine va_putF (D := G.1) (ci := 9) (v := .ref nq19) (ty := .array .int) (C := R_Mo) (T := F_Mo) (N := 24) hx hb hts i_Mo t_Mo t_Mo_ok n_Mo hown hK hP hD hS 0 rfl rfl 23 (by decide) (hts _ q433) (fun _ h9 => h9) rfl (hin rfl) rfl (by decide +kernel) rfl rfl (Nat.le_of_ble_eq_true rfl) d_Mo_init_83 (fun H locs hP hD hS => ?_)
  have hP : va_P G.1 classes [(a0, .inr (9, [.ref nq1, .ref nq3, .ref nq5, .int 0, .int 0, .int 0, .int 0, .int 0, .int 0, .int 0, .int 0, .int 0, .int 0, .int 0, .int 0, .int 0, .int 0, .ref nq7, .ref nq9, .ref nq11, .ref nq13, .ref nq15, .ref nq17, .ref nq19])), (nq1, .inl (G.2.1 0, 65536, .inl ((fun _ => 0)))), (nq3, .inl (G.2.1 0, 74000, .inl ((fun _ => 0)))), (nq5, .inl (G.2.1 0, 65536, .inl ((fun _ => 0)))), (nq7, .inl (G.2.1 1, 340, .inl ((fun _ => 0)))), (nq9, .inl (G.2.1 1, 340, .inl ((fun _ => 0)))), (nq11, .inl (G.2.1 1, 320, .inl ((fun _ => 0)))), (nq13, .inl (G.2.1 1, 17, .inl ((fun _ => 0)))), (nq15, .inl (G.2.1 1, 17, .inl ((fun _ => 0)))), (nq17, .inl (G.2.1 1, 80, .inl ((fun _ => 0)))), (nq19, .inl (G.2.1 1, 5, .inl ((fun _ => 0))))] H := hP
  have hD : va_D A [(a0, .inr (9, [.ref nq1, .ref nq3, .ref nq5, .int 0, .int 0, .int 0, .int 0, .int 0, .int 0, .int 0, .int 0, .int 0, .int 0, .int 0, .int 0, .int 0, .int 0, .ref nq7, .ref nq9, .ref nq11, .ref nq13, .ref nq15, .ref nq17, .ref nq19])), (nq1, .inl (G.2.1 0, 65536, .inl ((fun _ => 0)))), (nq3, .inl (G.2.1 0, 74000, .inl ((fun _ => 0)))), (nq5, .inl (G.2.1 0, 65536, .inl ((fun _ => 0)))), (nq7, .inl (G.2.1 1, 340, .inl ((fun _ => 0)))), (nq9, .inl (G.2.1 1, 340, .inl ((fun _ => 0)))), (nq11, .inl (G.2.1 1, 320, .inl ((fun _ => 0)))), (nq13, .inl (G.2.1 1, 17, .inl ((fun _ => 0)))), (nq15, .inl (G.2.1 1, 17, .inl ((fun _ => 0)))), (nq17, .inl (G.2.1 1, 80, .inl ((fun _ => 0)))), (nq19, .inl (G.2.1 1, 5, .inl ((fun _ => 0))))] := hD
  obtain ⟨eV, ek, ez⟩ := so3 h
  subst eV
  exact x_vret C0 hQ hP hD hS ⟨nq1, nq3, nq5, nq7, nq9, nq11, nq13, nq15, nq17, nq19, rfl⟩ (by omega) (by omega) d_Mo_init_86
set_option maxHeartbeats 4000000 in
set_option maxRecDepth 100000 in
theorem c_Mo_thrown (l : Launch) (G : GX) (a0 o0_0 o0_1 o0_2 o0_17 o0_18 o0_19 o0_20 o0_21 o0_22 o0_23 : Nat) (sz : Nat) (x0_3 : Int32) (x0_4 : Int32) (x0_5 : Int32) (x0_6 : Int32) (x0_7 : Int32) (x0_8 : Int32) (x0_9 : Int32) (x0_10 : Int32) (x0_11 : Int32) (x0_12 : Int32) (x0_13 : Int32) (x0_14 : Int32) (x0_15 : Int32) (x0_16 : Int32)  (N : Nat) (V : Int32) (h : f_Mo_thrown N x0_10 = some V) :
    Met l y_Mo_thrown (wd y_Mo_thrown b_Mo_thrown 1 (some .int)) { frames := 0, cells := 0, slots := 0, locals := 0 } (PX G [.ref a0] sz [(a0, .inr (9, [.ref o0_0, .ref o0_1, .ref o0_2, .int x0_3, .int x0_4, .int x0_5, .int x0_6, .int x0_7, .int x0_8, .int x0_9, .int x0_10, .int x0_11, .int x0_12, .int x0_13, .int x0_14, .int x0_15, .int x0_16, .ref o0_17, .ref o0_18, .ref o0_19, .ref o0_20, .ref o0_21, .ref o0_22, .ref o0_23]))])
      (QXi G V (fun w => w = [(a0, .inr (9, [.ref o0_0, .ref o0_1, .ref o0_2, .int x0_3, .int x0_4, .int x0_5, .int x0_6, .int x0_7, .int x0_8, .int x0_9, .int x0_10, .int x0_11, .int x0_12, .int x0_13, .int x0_14, .int x0_15, .int x0_16, .ref o0_17, .ref o0_18, .ref o0_19, .ref o0_20, .ref o0_21, .ref o0_22, .ref o0_23]))]) (va_A [(a0, .inr (9, [.ref o0_0, .ref o0_1, .ref o0_2, .int x0_3, .int x0_4, .int x0_5, .int x0_6, .int x0_7, .int x0_8, .int x0_9, .int x0_10, .int x0_11, .int x0_12, .int x0_13, .int x0_14, .int x0_15, .int x0_16, .ref o0_17, .ref o0_18, .ref o0_19, .ref o0_20, .ref o0_21, .ref o0_22, .ref o0_23]))] sz)) 0 0 (va_A [(a0, .inr (9, [.ref o0_0, .ref o0_1, .ref o0_2, .int x0_3, .int x0_4, .int x0_5, .int x0_6, .int x0_7, .int x0_8, .int x0_9, .int x0_10, .int x0_11, .int x0_12, .int x0_13, .int x0_14, .int x0_15, .int x0_16, .ref o0_17, .ref o0_18, .ref o0_19, .ref o0_20, .ref o0_21, .ref o0_22, .ref o0_23]))] sz) := by
  refine Met_in (QQ := fun A => QXi G V (fun w => w = [(a0, .inr (9, [.ref o0_0, .ref o0_1, .ref o0_2, .int x0_3, .int x0_4, .int x0_5, .int x0_6, .int x0_7, .int x0_8, .int x0_9, .int x0_10, .int x0_11, .int x0_12, .int x0_13, .int x0_14, .int x0_15, .int x0_16, .ref o0_17, .ref o0_18, .ref o0_19, .ref o0_20, .ref o0_21, .ref o0_22, .ref o0_23]))]) A) (by decide) (Nat.le_of_ble_eq_true rfl) (fun p e s m below meth c R Q A ls C0 hRf hRl hRc hRs hP hK hD hT hA hS hl hQ => ?_)
  obtain ⟨hx, hb, hml, hown, hts, hr, hlocks, hin⟩ := id C0
  have hown : s.vm.findClass R_Mo = some m.cls := hown
  have hl : lv_has ls 1 [(0, .ref a0)] := hl
  unfold f_Mo_thrown at h
  have hkc : 0 ≤ R.cells := Nat.zero_le _
  have hks : 0 ≤ R.slots := Nat.zero_le _
  obtain ⟨H, hH⟩ : ∃ H, H = s.heap := ⟨_, rfl⟩
  obtain ⟨locs, hlc⟩ : ∃ x : List Loc, x = [] := ⟨_, rfl⟩
  rw [← hH] at hP
  have hS : va_S A s.heap H locs := by rw [hH, hlc]; exact hS
  suffices hgo : W p l e R s m [.ref a0].toArray below meth c H locs 0 0 Q (F0 m 0 ls []) by rw [hH, hlc] at hgo; exact hgo
  refine lv_aload_n hx hb d_Mo_thrown_0 rfl (lv_at hl 0 rfl) ?_
  refine va_get (D := G.1) (ci := 9) (v := .int x0_10) (C := R_Mo) (T := F_Mo) (N := 24) hx hb hts i_Mo hown hK hP 0 rfl rfl 10 (by decide) (hts _ q434) (fun _ h9 => h9) rfl d_Mo_thrown_1 ?_
  have eV := so1 h
  subst eV
  exact x_iret C0 hQ hP hD hS rfl (Nat.zero_le _) (Nat.zero_le _) d_Mo_thrown_4
set_option maxHeartbeats 4000000 in
set_option maxRecDepth 100000 in
theorem c_Mo_refuse (l : Launch) (G : GX) (a0 o0_0 o0_1 o0_2 o0_17 o0_18 o0_19 o0_20 o0_21 o0_22 o0_23 : Nat) (sz : Nat) (x0_3 : Int32) (x0_4 : Int32) (x0_5 : Int32) (x0_6 : Int32) (x0_7 : Int32) (x0_8 : Int32) (x0_9 : Int32) (x0_10 : Int32) (x0_11 : Int32) (x0_12 : Int32) (x0_13 : Int32) (x0_14 : Int32) (x0_15 : Int32) (x0_16 : Int32) (p1 : Int32) (N : Nat) (V : Int32 × Int32) (h : f_Mo_refuse N p1 = some V) :
    Met l y_Mo_refuse (wd y_Mo_refuse b_Mo_refuse 2 (some .int)) { frames := 0, cells := 0, slots := 0, locals := 0 } (PX G [.ref a0, .int p1] sz [(a0, .inr (9, [.ref o0_0, .ref o0_1, .ref o0_2, .int x0_3, .int x0_4, .int x0_5, .int x0_6, .int x0_7, .int x0_8, .int x0_9, .int x0_10, .int x0_11, .int x0_12, .int x0_13, .int x0_14, .int x0_15, .int x0_16, .ref o0_17, .ref o0_18, .ref o0_19, .ref o0_20, .ref o0_21, .ref o0_22, .ref o0_23]))])
      (QXi G V.1 (fun w => w = [(a0, .inr (9, [.ref o0_0, .ref o0_1, .ref o0_2, .int x0_3, .int x0_4, .int x0_5, .int x0_6, .int x0_7, .int x0_8, .int x0_9, .int V.2, .int x0_11, .int x0_12, .int x0_13, .int x0_14, .int x0_15, .int x0_16, .ref o0_17, .ref o0_18, .ref o0_19, .ref o0_20, .ref o0_21, .ref o0_22, .ref o0_23]))]) (va_A [(a0, .inr (9, [.ref o0_0, .ref o0_1, .ref o0_2, .int x0_3, .int x0_4, .int x0_5, .int x0_6, .int x0_7, .int x0_8, .int x0_9, .int x0_10, .int x0_11, .int x0_12, .int x0_13, .int x0_14, .int x0_15, .int x0_16, .ref o0_17, .ref o0_18, .ref o0_19, .ref o0_20, .ref o0_21, .ref o0_22, .ref o0_23]))] sz)) 0 0 (va_A [(a0, .inr (9, [.ref o0_0, .ref o0_1, .ref o0_2, .int x0_3, .int x0_4, .int x0_5, .int x0_6, .int x0_7, .int x0_8, .int x0_9, .int x0_10, .int x0_11, .int x0_12, .int x0_13, .int x0_14, .int x0_15, .int x0_16, .ref o0_17, .ref o0_18, .ref o0_19, .ref o0_20, .ref o0_21, .ref o0_22, .ref o0_23]))] sz) := by
  refine Met_in (QQ := fun A => QXi G V.1 (fun w => w = [(a0, .inr (9, [.ref o0_0, .ref o0_1, .ref o0_2, .int x0_3, .int x0_4, .int x0_5, .int x0_6, .int x0_7, .int x0_8, .int x0_9, .int V.2, .int x0_11, .int x0_12, .int x0_13, .int x0_14, .int x0_15, .int x0_16, .ref o0_17, .ref o0_18, .ref o0_19, .ref o0_20, .ref o0_21, .ref o0_22, .ref o0_23]))]) A) (by decide) (Nat.le_of_ble_eq_true rfl) (fun p e s m below meth c R Q A ls C0 hRf hRl hRc hRs hP hK hD hT hA hS hl hQ => ?_)
  obtain ⟨hx, hb, hml, hown, hts, hr, hlocks, hin⟩ := id C0
  have hown : s.vm.findClass R_Mo = some m.cls := hown
  have hl : lv_has ls 2 [(0, .ref a0), (1, .int p1)] := hl
  unfold f_Mo_refuse at h
  have hkc : 0 ≤ R.cells := Nat.zero_le _
  have hks : 0 ≤ R.slots := Nat.zero_le _
  obtain ⟨H, hH⟩ : ∃ H, H = s.heap := ⟨_, rfl⟩
  obtain ⟨locs, hlc⟩ : ∃ x : List Loc, x = [] := ⟨_, rfl⟩
  rw [← hH] at hP
  have hS : va_S A s.heap H locs := by rw [hH, hlc]; exact hS
  suffices hgo : W p l e R s m [.ref a0, .int p1].toArray below meth c H locs 0 0 Q (F0 m 0 ls []) by rw [hH, hlc] at hgo; exact hgo
  refine lv_aload_n hx hb d_Mo_refuse_0 rfl (lv_at hl 0 rfl) ?_
  refine lv_iload_n hx hb d_Mo_refuse_1 rfl (lv_at hl 1 rfl) ?_
  refine va_put (D := G.1) (ci := 9) (v := .int p1) (ty := .int) (C := R_Mo) (T := F_Mo) (N := 24) hx hb hts i_Mo t_Mo t_Mo_ok n_Mo hown hK hP hD hS 0 rfl rfl 10 (by decide) (hts _ q434) (fun _ h9 => h9) rfl (by decide +kernel) rfl rfl (Nat.le_of_ble_eq_true rfl) d_Mo_refuse_2 (fun H locs hP hD hS => ?_)
  have hP : va_P G.1 classes [(a0, .inr (9, [.ref o0_0, .ref o0_1, .ref o0_2, .int x0_3, .int x0_4, .int x0_5, .int x0_6, .int x0_7, .int x0_8, .int x0_9, .int p1, .int x0_11, .int x0_12, .int x0_13, .int x0_14, .int x0_15, .int x0_16, .ref o0_17, .ref o0_18, .ref o0_19, .ref o0_20, .ref o0_21, .ref o0_22, .ref o0_23]))] H := hP
  have hD : va_D A [(a0, .inr (9, [.ref o0_0, .ref o0_1, .ref o0_2, .int x0_3, .int x0_4, .int x0_5, .int x0_6, .int x0_7, .int x0_8, .int x0_9, .int p1, .int x0_11, .int x0_12, .int x0_13, .int x0_14, .int x0_15, .int x0_16, .ref o0_17, .ref o0_18, .ref o0_19, .ref o0_20, .ref o0_21, .ref o0_22, .ref o0_23]))] := hD
  refine lv_iconst (v := 0) hx hb d_Mo_refuse_5 (by decide) ?_
  have eV := so1 h
  subst eV
  exact x_iret C0 hQ hP hD hS rfl (Nat.zero_le _) (Nat.zero_le _) d_Mo_refuse_6
set_option maxHeartbeats 4000000 in
set_option maxRecDepth 100000 in
theorem w_Mo_feed_26 {p : Program} {l : Launch} {e : Env} {R : Room} {s : State} {m : MethodId} {args : Array Value} {below : List Frame} {meth : Method} {c : Code} {Q : State → Prop} {G : GX} {A : Nat → Prop} (C0 : Cx p s m args meth c b_Mo_feed 8 y_Mo_feed (some .int)) (hRf : 1 ≤ R.frames) (hRl : 21 ≤ R.locals) (hA : ∀ q, s.heap.size ≤ q → A q) (hK : KX G s) (hT : TX G A s) (N : Nat) (i1 : Int32) (i2 : Int32) (i3 : Int32) (i4 : Int32) (i5 : Int32) (y0_4 : Int32) (y0_5 : Int32) (y0_6 : Int32) (y0_7 : Int32) (y0_8 : Int32) (y0_9 : Int32) (y0_10 : Int32) (y0_11 : Int32) (y0_12 : Int32) (y0_13 : Int32) (y0_14 : Int32) (y0_15 : Int32) (y0_16 : Int32) (m1 : Nat) (c0 c1 u0_1 u0_2 u0_17 u0_18 u0_19 u0_20 u0_21 u0_22 u0_23 : Nat) (out : Int32 × (Nat → Int32)) {kc ks : Nat} (hkc : kc ≤ R.cells) (hks : ks ≤ R.slots)
    (kx120 : ∀ (H : Heap) (locs : List Loc) (ls : Array Slot), va_P G.1 classes [(c0, .inr (9, [.ref c1, .ref u0_1, .ref u0_2, .int out.1, .int y0_4, .int y0_5, .int y0_6, .int y0_7, .int y0_8, .int y0_9, .int y0_10, .int y0_11, .int y0_12, .int y0_13, .int y0_14, .int y0_15, .int y0_16, .ref u0_17, .ref u0_18, .ref u0_19, .ref u0_20, .ref u0_21, .ref u0_22, .ref u0_23])), (c1, .inl (G.2.1 0, m1, .inl out.2))] H → va_D A [(c0, .inr (9, [.ref c1, .ref u0_1, .ref u0_2, .int out.1, .int y0_4, .int y0_5, .int y0_6, .int y0_7, .int y0_8, .int y0_9, .int y0_10, .int y0_11, .int y0_12, .int y0_13, .int y0_14, .int y0_15, .int y0_16, .ref u0_17, .ref u0_18, .ref u0_19, .ref u0_20, .ref u0_21, .ref u0_22, .ref u0_23])), (c1, .inl (G.2.1 0, m1, .inl out.2))] → va_S A s.heap H locs → lv_has ls 8 [(0, .ref c0)] → W p l e R s m args below meth c H locs kc ks Q (F0 m 120 ls [])) :
    ∀ (n : Nat) (i6 : Int32) (y0_3 : Int32) (g_1 : (Nat → Int32)) (H : Heap) (locs : List Loc) (ls : Array Slot), lp_Mo_feed_26 N i1 i2 i3 i4 i5 m1 n i6 y0_3 g_1 = some out → va_P G.1 classes [(c0, .inr (9, [.ref c1, .ref u0_1, .ref u0_2, .int y0_3, .int y0_4, .int y0_5, .int y0_6, .int y0_7, .int y0_8, .int y0_9, .int y0_10, .int y0_11, .int y0_12, .int y0_13, .int y0_14, .int y0_15, .int y0_16, .ref u0_17, .ref u0_18, .ref u0_19, .ref u0_20, .ref u0_21, .ref u0_22, .ref u0_23])), (c1, .inl (G.2.1 0, m1, .inl g_1))] H → va_D A [(c0, .inr (9, [.ref c1, .ref u0_1, .ref u0_2, .int y0_3, .int y0_4, .int y0_5, .int y0_6, .int y0_7, .int y0_8, .int y0_9, .int y0_10, .int y0_11, .int y0_12, .int y0_13, .int y0_14, .int y0_15, .int y0_16, .ref u0_17, .ref u0_18, .ref u0_19, .ref u0_20, .ref u0_21, .ref u0_22, .ref u0_23])), (c1, .inl (G.2.1 0, m1, .inl g_1))] → va_S A s.heap H locs → lv_has ls 8 [(0, .ref c0), (1, .int i1), (2, .int i2), (3, .int i3), (4, .int i4), (5, .int i5), (6, .int i6)] → W p l e R s m args below meth c H locs kc ks Q (F0 m 26 ls []) := by
  obtain ⟨hx, hb, hml, hown, hts, hr, hlocks, hin⟩ := id C0
  have hown : s.vm.findClass R_Mo = some m.cls := hown
  intro n
  induction n with
  | zero => intro i6 y0_3 g_1 H locs ls h; cases h
  | succ n ih =>
    intro i6 y0_3 g_1 H locs ls h hP hD hS hl
    replace h : lb_Mo_feed_26 N i1 i2 i3 i4 i5 m1 (lp_Mo_feed_26 N i1 i2 i3 i4 i5 m1 n) i6 y0_3 g_1 = some out := h
    unfold lb_Mo_feed_26 at h
    refine lv_iload hx hb d_Mo_feed_26 (lv_at hl 6 rfl) ?_
    refine lv_bipush (v := 20) hx hb d_Mo_feed_28 (by decide) ?_
    refine lv_icmp_ge (tgt := 120) hx hb d_Mo_feed_30 (by decide) (fun cq12 => ?_) (fun cq12 => ?_)
    · replace h := (if_pos cq12).symm.trans h
      have eV := so1 h
      subst eV
      exact kx120 _ _ _ hP hD hS (lv_sub hl [0] rfl)
    · replace h := (if_neg cq12).symm.trans h
      refine lv_iload hx hb d_Mo_feed_33 (lv_at hl 6 rfl) ?_
      refine lv_iconst (v := 4) hx hb d_Mo_feed_35 (by decide) ?_
      obtain ⟨j17, ej17, h⟩ := Jn_e h
      have hj17 : ∀ (t17 : Int32) (H : Heap) (locs : List Loc) (ls : Array Slot), j17 t17 = some out → va_P G.1 classes [(c0, .inr (9, [.ref c1, .ref u0_1, .ref u0_2, .int y0_3, .int y0_4, .int y0_5, .int y0_6, .int y0_7, .int y0_8, .int y0_9, .int y0_10, .int y0_11, .int y0_12, .int y0_13, .int y0_14, .int y0_15, .int y0_16, .ref u0_17, .ref u0_18, .ref u0_19, .ref u0_20, .ref u0_21, .ref u0_22, .ref u0_23])), (c1, .inl (G.2.1 0, m1, .inl g_1))] H → va_D A [(c0, .inr (9, [.ref c1, .ref u0_1, .ref u0_2, .int y0_3, .int y0_4, .int y0_5, .int y0_6, .int y0_7, .int y0_8, .int y0_9, .int y0_10, .int y0_11, .int y0_12, .int y0_13, .int y0_14, .int y0_15, .int y0_16, .ref u0_17, .ref u0_18, .ref u0_19, .ref u0_20, .ref u0_21, .ref u0_22, .ref u0_23])), (c1, .inl (G.2.1 0, m1, .inl g_1))] → va_S A s.heap H locs → lv_has ls 8 [(0, .ref c0), (1, .int i1), (2, .int i2), (3, .int i3), (4, .int i4), (5, .int i5), (6, .int i6)] → W p l e R s m args below meth c H locs kc ks Q (F0 m 79 ls [.int t17]) := by
        intro t17 H locs ls h hP hD hS hl
        replace h := ej17 _ _ h
        refine lv_istore (lv' := [(7, .int t17), (0, .ref c0), (1, .int i1), (2, .int i2), (3, .int i3), (4, .int i4), (5, .int i5), (6, .int i6)]) hx hb d_Mo_feed_79 hl (by decide) rfl (fun ls hl => ?_)
        refine lv_aload_n hx hb d_Mo_feed_81 rfl (lv_at hl 1 rfl) ?_
        refine va_get (D := G.1) (ci := 9) (v := .ref c1) (C := R_Mo) (T := F_Mo) (N := 24) hx hb hts i_Mo hown hK hP 0 rfl rfl 0 (by decide) (hts _ q423) (fun _ h9 => h9) rfl d_Mo_feed_82 ?_
        refine lv_aload_n hx hb d_Mo_feed_85 rfl (lv_at hl 1 rfl) ?_
        refine va_get (D := G.1) (ci := 9) (v := .int y0_3) (C := R_Mo) (T := F_Mo) (N := 24) hx hb hts i_Mo hown hK hP 0 rfl rfl 3 (by decide) (hts _ q435) (fun _ h9 => h9) rfl d_Mo_feed_86 ?_
        refine lv_iload hx hb d_Mo_feed_89 (lv_at hl 0 rfl) ?_
        refine lv_bipush (v := 24) hx hb d_Mo_feed_91 (by decide) ?_
        refine lv_iload hx hb d_Mo_feed_93 (lv_at hl 7 rfl) ?_
        refine lv_iconst (v := 4) hx hb d_Mo_feed_95 (by decide) ?_
        refine lv_irem hx hb d_Mo_feed_96 (by decide) ?_
        refine lv_bipush (v := 8) hx hb d_Mo_feed_97 (by decide) ?_
        refine lv_imul hx hb d_Mo_feed_99 ?_
        refine lv_isub hx hb d_Mo_feed_100 ?_
        refine lv_iushr (v := us t17 (24 - ((irm i6 4) * 8))) hx hb d_Mo_feed_101 rfl ?_
        refine lv_i2b (v := (us t17 (24 - ((irm i6 4) * 8))).toInt8.toInt32) hx hb d_Mo_feed_102 rfl ?_
        obtain ⟨hi18, h⟩ := Ix_e h
        refine y_bast hx hb hK hP hD hS 1 0 rfl rfl hi18 d_Mo_feed_103 (fun g19 H locs eg19 hP hD hS => ?_)
        replace h := Lt_e h eg19
        have hP : va_P G.1 classes [(c0, .inr (9, [.ref c1, .ref u0_1, .ref u0_2, .int y0_3, .int y0_4, .int y0_5, .int y0_6, .int y0_7, .int y0_8, .int y0_9, .int y0_10, .int y0_11, .int y0_12, .int y0_13, .int y0_14, .int y0_15, .int y0_16, .ref u0_17, .ref u0_18, .ref u0_19, .ref u0_20, .ref u0_21, .ref u0_22, .ref u0_23])), (c1, .inl (G.2.1 0, m1, .inl g19))] H := hP
        have hD : va_D A [(c0, .inr (9, [.ref c1, .ref u0_1, .ref u0_2, .int y0_3, .int y0_4, .int y0_5, .int y0_6, .int y0_7, .int y0_8, .int y0_9, .int y0_10, .int y0_11, .int y0_12, .int y0_13, .int y0_14, .int y0_15, .int y0_16, .ref u0_17, .ref u0_18, .ref u0_19, .ref u0_20, .ref u0_21, .ref u0_22, .ref u0_23])), (c1, .inl (G.2.1 0, m1, .inl g19))] := hD
        refine lv_aload_n hx hb d_Mo_feed_104 rfl (lv_at hl 1 rfl) ?_
        refine lv_dup hx hb d_Mo_feed_105 rfl ?_
        refine va_get (D := G.1) (ci := 9) (v := .int y0_3) (C := R_Mo) (T := F_Mo) (N := 24) hx hb hts i_Mo hown hK hP 0 rfl rfl 3 (by decide) (hts _ q435) (fun _ h9 => h9) rfl d_Mo_feed_106 ?_
        refine lv_iconst (v := 1) hx hb d_Mo_feed_109 (by decide) ?_
        refine lv_iadd hx hb d_Mo_feed_110 ?_
        refine lv_topi (fun v20 ev20 => ?_)
        replace h := Lt_e h ev20
        refine va_put (D := G.1) (ci := 9) (v := .int v20) (ty := .int) (C := R_Mo) (T := F_Mo) (N := 24) hx hb hts i_Mo t_Mo t_Mo_ok n_Mo hown hK hP hD hS 0 rfl rfl 3 (by decide) (hts _ q435) (fun _ h9 => h9) rfl (by decide +kernel) rfl rfl (Nat.le_of_ble_eq_true rfl) d_Mo_feed_111 (fun H locs hP hD hS => ?_)
        have hP : va_P G.1 classes [(c0, .inr (9, [.ref c1, .ref u0_1, .ref u0_2, .int v20, .int y0_4, .int y0_5, .int y0_6, .int y0_7, .int y0_8, .int y0_9, .int y0_10, .int y0_11, .int y0_12, .int y0_13, .int y0_14, .int y0_15, .int y0_16, .ref u0_17, .ref u0_18, .ref u0_19, .ref u0_20, .ref u0_21, .ref u0_22, .ref u0_23])), (c1, .inl (G.2.1 0, m1, .inl g19))] H := hP
        have hD : va_D A [(c0, .inr (9, [.ref c1, .ref u0_1, .ref u0_2, .int v20, .int y0_4, .int y0_5, .int y0_6, .int y0_7, .int y0_8, .int y0_9, .int y0_10, .int y0_11, .int y0_12, .int y0_13, .int y0_14, .int y0_15, .int y0_16, .ref u0_17, .ref u0_18, .ref u0_19, .ref u0_20, .ref u0_21, .ref u0_22, .ref u0_23])), (c1, .inl (G.2.1 0, m1, .inl g19))] := hD
        obtain ⟨v21, ev21⟩ : ∃ y : Int32, y = i6 + 1 := ⟨_, rfl⟩
        replace h := Lt_e h ev21
        refine lv_iinc (v := v21) (lv' := [(6, .int v21), (7, .int t17), (0, .ref c0), (1, .int i1), (2, .int i2), (3, .int i3), (4, .int i4), (5, .int i5)]) hx hb d_Mo_feed_114 hl (k := 7) rfl (by rw [ev21]; rfl) (by decide) rfl (fun ls hl => ?_)
        refine lv_goto (tgt := 26) hx hb d_Mo_feed_117 (by decide) ?_
        exact ih v21 v20 g19  _ _ _ h hP hD hS (lv_sub hl [2, 3, 4, 5, 6, 7, 0] rfl)
      refine lv_icmp_ge (tgt := 43) hx hb d_Mo_feed_36 (by decide) (fun cq22 => ?_) (fun cq22 => ?_)
      · replace h := (if_pos cq22).symm.trans h
        refine lv_iload hx hb d_Mo_feed_43 (lv_at hl 6 rfl) ?_
        refine lv_bipush (v := 8) hx hb d_Mo_feed_45 (by decide) ?_
        refine lv_icmp_ge (tgt := 54) hx hb d_Mo_feed_47 (by decide) (fun cq23 => ?_) (fun cq23 => ?_)
        · replace h := (if_pos cq23).symm.trans h
          refine lv_iload hx hb d_Mo_feed_54 (lv_at hl 6 rfl) ?_
          refine lv_bipush (v := 12) hx hb d_Mo_feed_56 (by decide) ?_
          refine lv_icmp_ge (tgt := 65) hx hb d_Mo_feed_58 (by decide) (fun cq24 => ?_) (fun cq24 => ?_)
          · replace h := (if_pos cq24).symm.trans h
            refine lv_iload hx hb d_Mo_feed_65 (lv_at hl 6 rfl) ?_
            refine lv_bipush (v := 16) hx hb d_Mo_feed_67 (by decide) ?_
            refine lv_icmp_ge (tgt := 77) hx hb d_Mo_feed_69 (by decide) (fun cq25 => ?_) (fun cq25 => ?_)
            · replace h := (if_pos cq25).symm.trans h
              refine lv_iload hx hb d_Mo_feed_77 (lv_at hl 5 rfl) ?_
              exact hj17 i5 _ _ _ h hP hD hS hl
            · replace h := (if_neg cq25).symm.trans h
              refine lv_iload hx hb d_Mo_feed_72 (lv_at hl 4 rfl) ?_
              refine lv_goto (tgt := 79) hx hb d_Mo_feed_74 (by decide) ?_
              exact hj17 i4 _ _ _ h hP hD hS hl
          · replace h := (if_neg cq24).symm.trans h
            refine lv_iload_n hx hb d_Mo_feed_61 rfl (lv_at hl 3 rfl) ?_
            refine lv_goto (tgt := 79) hx hb d_Mo_feed_62 (by decide) ?_
            exact hj17 i3 _ _ _ h hP hD hS hl
        · replace h := (if_neg cq23).symm.trans h
          refine lv_iload_n hx hb d_Mo_feed_50 rfl (lv_at hl 2 rfl) ?_
          refine lv_goto (tgt := 79) hx hb d_Mo_feed_51 (by decide) ?_
          exact hj17 i2 _ _ _ h hP hD hS hl
      · replace h := (if_neg cq22).symm.trans h
        refine lv_iload_n hx hb d_Mo_feed_39 rfl (lv_at hl 1 rfl) ?_
        refine lv_goto (tgt := 79) hx hb d_Mo_feed_40 (by decide) ?_
        exact hj17 i1 _ _ _ h hP hD hS hl
set_option maxHeartbeats 4000000 in
set_option maxRecDepth 100000 in
theorem c_Mo_feed (l : Launch) (G : GX) (a0 a1 o0_1 o0_2 o0_17 o0_18 o0_19 o0_20 o0_21 o0_22 o0_23 : Nat) (sz : Nat) (x0_3 : Int32) (x0_4 : Int32) (x0_5 : Int32) (x0_6 : Int32) (x0_7 : Int32) (x0_8 : Int32) (x0_9 : Int32) (x0_10 : Int32) (x0_11 : Int32) (x0_12 : Int32) (x0_13 : Int32) (x0_14 : Int32) (x0_15 : Int32) (x0_16 : Int32) (n1 : Nat) (f1 : (Nat → Int32)) (p1 : Int32) (p2 : Int32) (p3 : Int32) (p4 : Int32) (p5 : Int32) (N : Nat) (V : Int32 × Int32 × Int32 × (Nat → Int32)) (h : f_Mo_feed N x0_3 n1 f1 p1 p2 p3 p4 p5 = some V) :
    Met l y_Mo_feed (wd y_Mo_feed b_Mo_feed 8 (some .int)) { frames := 1, cells := 0, slots := 0, locals := 21 } (PX G [.ref a0, .int p1, .int p2, .int p3, .int p4, .int p5] sz [(a0, .inr (9, [.ref a1, .ref o0_1, .ref o0_2, .int x0_3, .int x0_4, .int x0_5, .int x0_6, .int x0_7, .int x0_8, .int x0_9, .int x0_10, .int x0_11, .int x0_12, .int x0_13, .int x0_14, .int x0_15, .int x0_16, .ref o0_17, .ref o0_18, .ref o0_19, .ref o0_20, .ref o0_21, .ref o0_22, .ref o0_23])), (a1, .inl (G.2.1 0, n1, .inl f1))])
      (QXi G V.1 (fun w => w = [(a0, .inr (9, [.ref a1, .ref o0_1, .ref o0_2, .int V.2.1, .int x0_4, .int x0_5, .int x0_6, .int x0_7, .int x0_8, .int x0_9, .int V.2.2.1, .int x0_11, .int x0_12, .int x0_13, .int x0_14, .int x0_15, .int x0_16, .ref o0_17, .ref o0_18, .ref o0_19, .ref o0_20, .ref o0_21, .ref o0_22, .ref o0_23])), (a1, .inl (G.2.1 0, n1, .inl V.2.2.2))]) (va_A [(a0, .inr (9, [.ref a1, .ref o0_1, .ref o0_2, .int x0_3, .int x0_4, .int x0_5, .int x0_6, .int x0_7, .int x0_8, .int x0_9, .int x0_10, .int x0_11, .int x0_12, .int x0_13, .int x0_14, .int x0_15, .int x0_16, .ref o0_17, .ref o0_18, .ref o0_19, .ref o0_20, .ref o0_21, .ref o0_22, .ref o0_23])), (a1, .inl (G.2.1 0, n1, .inl f1))] sz)) 0 0 (va_A [(a0, .inr (9, [.ref a1, .ref o0_1, .ref o0_2, .int x0_3, .int x0_4, .int x0_5, .int x0_6, .int x0_7, .int x0_8, .int x0_9, .int x0_10, .int x0_11, .int x0_12, .int x0_13, .int x0_14, .int x0_15, .int x0_16, .ref o0_17, .ref o0_18, .ref o0_19, .ref o0_20, .ref o0_21, .ref o0_22, .ref o0_23])), (a1, .inl (G.2.1 0, n1, .inl f1))] sz) := by
  refine Met_in (QQ := fun A => QXi G V.1 (fun w => w = [(a0, .inr (9, [.ref a1, .ref o0_1, .ref o0_2, .int V.2.1, .int x0_4, .int x0_5, .int x0_6, .int x0_7, .int x0_8, .int x0_9, .int V.2.2.1, .int x0_11, .int x0_12, .int x0_13, .int x0_14, .int x0_15, .int x0_16, .ref o0_17, .ref o0_18, .ref o0_19, .ref o0_20, .ref o0_21, .ref o0_22, .ref o0_23])), (a1, .inl (G.2.1 0, n1, .inl V.2.2.2))]) A) (by decide) (Nat.le_of_ble_eq_true rfl) (fun p e s m below meth c R Q A ls C0 hRf hRl hRc hRs hP hK hD hT hA hS hl hQ => ?_)
  obtain ⟨hx, hb, hml, hown, hts, hr, hlocks, hin⟩ := id C0
  have hown : s.vm.findClass R_Mo = some m.cls := hown
  have hl : lv_has ls 8 [(0, .ref a0), (1, .int p1), (2, .int p2), (3, .int p3), (4, .int p4), (5, .int p5)] := hl
  unfold f_Mo_feed at h
  have hkc : 0 ≤ R.cells := Nat.zero_le _
  have hks : 0 ≤ R.slots := Nat.zero_le _
  obtain ⟨H, hH⟩ : ∃ H, H = s.heap := ⟨_, rfl⟩
  obtain ⟨locs, hlc⟩ : ∃ x : List Loc, x = [] := ⟨_, rfl⟩
  rw [← hH] at hP
  have hS : va_S A s.heap H locs := by rw [hH, hlc]; exact hS
  suffices hgo : W p l e R s m [.ref a0, .int p1, .int p2, .int p3, .int p4, .int p5].toArray below meth c H locs 0 0 Q (F0 m 0 ls []) by rw [hH, hlc] at hgo; exact hgo
  refine lv_aload_n hx hb d_Mo_feed_0 rfl (lv_at hl 0 rfl) ?_
  refine lv_iconst (v := 0) hx hb d_Mo_feed_1 (by decide) ?_
  refine va_put (D := G.1) (ci := 9) (v := .int 0) (ty := .int) (C := R_Mo) (T := F_Mo) (N := 24) hx hb hts i_Mo t_Mo t_Mo_ok n_Mo hown hK hP hD hS 0 rfl rfl 10 (by decide) (hts _ q434) (fun _ h9 => h9) rfl (by decide +kernel) rfl rfl (Nat.le_of_ble_eq_true rfl) d_Mo_feed_2 (fun H locs hP hD hS => ?_)
  have hP : va_P G.1 classes [(a0, .inr (9, [.ref a1, .ref o0_1, .ref o0_2, .int x0_3, .int x0_4, .int x0_5, .int x0_6, .int x0_7, .int x0_8, .int x0_9, .int 0, .int x0_11, .int x0_12, .int x0_13, .int x0_14, .int x0_15, .int x0_16, .ref o0_17, .ref o0_18, .ref o0_19, .ref o0_20, .ref o0_21, .ref o0_22, .ref o0_23])), (a1, .inl (G.2.1 0, n1, .inl f1))] H := hP
  have hD : va_D A [(a0, .inr (9, [.ref a1, .ref o0_1, .ref o0_2, .int x0_3, .int x0_4, .int x0_5, .int x0_6, .int x0_7, .int x0_8, .int x0_9, .int 0, .int x0_11, .int x0_12, .int x0_13, .int x0_14, .int x0_15, .int x0_16, .ref o0_17, .ref o0_18, .ref o0_19, .ref o0_20, .ref o0_21, .ref o0_22, .ref o0_23])), (a1, .inl (G.2.1 0, n1, .inl f1))] := hD
  refine lv_aload_n hx hb d_Mo_feed_5 rfl (lv_at hl 0 rfl) ?_
  refine va_get (D := G.1) (ci := 9) (v := .int x0_3) (C := R_Mo) (T := F_Mo) (N := 24) hx hb hts i_Mo hown hK hP 0 rfl rfl 3 (by decide) (hts _ q435) (fun _ h9 => h9) rfl d_Mo_feed_6 ?_
  refine lv_bipush (v := 20) hx hb d_Mo_feed_9 (by decide) ?_
  refine lv_iadd hx hb d_Mo_feed_11 ?_
  refine lv_ldc (v := 65536) hx hb hown (hts _ q422) d_Mo_feed_12 ?_
  refine lv_icmp_le (tgt := 23) hx hb d_Mo_feed_14 (by decide) (fun cq1 => ?_) (fun cq1 => ?_)
  · replace h := (if_pos cq1).symm.trans h
    refine lv_iconst (v := 0) hx hb d_Mo_feed_23 (by decide) ?_
    refine lv_istore (lv' := [(6, .int 0), (0, .ref a0), (1, .int p1), (2, .int p2), (3, .int p3), (4, .int p4), (5, .int p5)]) hx hb d_Mo_feed_24 hl (by decide) rfl (fun ls hl => ?_)
    obtain ⟨r26, hc26, h⟩ := Bd_e h
    refine w_Mo_feed_26 C0 hRf hRl hA hK hT N p1 p2 p3 p4 p5 x0_4 x0_5 x0_6 x0_7 x0_8 x0_9 0 x0_11 x0_12 x0_13 x0_14 x0_15 x0_16 n1 a0 a1 o0_1 o0_2 o0_17 o0_18 o0_19 o0_20 o0_21 o0_22 o0_23 r26 (kc := 0) (ks := 0) hkc hks ?_ N 0 x0_3 f1  _ _ _ hc26 hP hD hS (lv_sub hl [1, 2, 3, 4, 5, 6, 0] rfl)
    · intro H locs ls hP hD hS hl
      refine lv_aload_n hx hb d_Mo_feed_120 rfl (lv_at hl 0 rfl) ?_
      refine va_get (D := G.1) (ci := 9) (v := .int r26.1) (C := R_Mo) (T := F_Mo) (N := 24) hx hb hts i_Mo hown hK hP 0 rfl rfl 3 (by decide) (hts _ q435) (fun _ h9 => h9) rfl d_Mo_feed_121 ?_
      have eV := so1 h
      subst eV
      exact x_iret C0 hQ hP hD hS rfl (Nat.zero_le _) (Nat.zero_le _) d_Mo_feed_124
  · replace h := (if_neg cq1).symm.trans h
    refine lv_aload_n hx hb d_Mo_feed_17 rfl (lv_at hl 0 rfl) ?_
    refine lv_iconst (v := 1) hx hb d_Mo_feed_18 (by decide) ?_
    obtain ⟨r27, hc27, h⟩ := Bd_e h
    refine xV_i0 (wr := [(a1, .inl (G.2.1 0, n1, .inl f1))]) (rest := []) C0 hK hT hA hP hD hS hl.1 (c_Mo_refuse l G a0 a1 o0_1 o0_2 o0_17 o0_18 o0_19 o0_20 o0_21 o0_22 o0_23 _ x0_3 x0_4 x0_5 x0_6 x0_7 x0_8 x0_9 0 x0_11 x0_12 x0_13 x0_14 x0_15 x0_16 1 N r27 hc27) (goodV q436 q437 q438 q439 q440) 1 rfl hd_Mo_refuse (Nat.le_trans (by decide) hRf) (Nat.le_trans (by decide) hRl) [0] [1] rfl rfl (by decide) (by decide) (by decide) 9 0 rfl rfl rfl (Nat.le_of_ble_eq_true rfl) d_Mo_feed_19 hkc hks (fun w1 H locs hE hP hD hS => ?_)
    subst hE
    have hP : va_P G.1 classes [(a1, .inl (G.2.1 0, n1, .inl f1)), (a0, .inr (9, [.ref a1, .ref o0_1, .ref o0_2, .int x0_3, .int x0_4, .int x0_5, .int x0_6, .int x0_7, .int x0_8, .int x0_9, .int r27.2, .int x0_11, .int x0_12, .int x0_13, .int x0_14, .int x0_15, .int x0_16, .ref o0_17, .ref o0_18, .ref o0_19, .ref o0_20, .ref o0_21, .ref o0_22, .ref o0_23]))] H := hP
    have hD : va_D A [(a1, .inl (G.2.1 0, n1, .inl f1)), (a0, .inr (9, [.ref a1, .ref o0_1, .ref o0_2, .int x0_3, .int x0_4, .int x0_5, .int x0_6, .int x0_7, .int x0_8, .int x0_9, .int r27.2, .int x0_11, .int x0_12, .int x0_13, .int x0_14, .int x0_15, .int x0_16, .ref o0_17, .ref o0_18, .ref o0_19, .ref o0_20, .ref o0_21, .ref o0_22, .ref o0_23]))] := hD
    have eV := so1 h
    subst eV
    exact x_iret C0 hQ (hP.sub (ws' := [(a0, .inr (9, [.ref a1, .ref o0_1, .ref o0_2, .int x0_3, .int x0_4, .int x0_5, .int x0_6, .int x0_7, .int x0_8, .int x0_9, .int r27.2, .int x0_11, .int x0_12, .int x0_13, .int x0_14, .int x0_15, .int x0_16, .ref o0_17, .ref o0_18, .ref o0_19, .ref o0_20, .ref o0_21, .ref o0_22, .ref o0_23])), (a1, .inl (G.2.1 0, n1, .inl f1))]) [1, 0] rfl) (hD.sub (ws' := [(a0, .inr (9, [.ref a1, .ref o0_1, .ref o0_2, .int x0_3, .int x0_4, .int x0_5, .int x0_6, .int x0_7, .int x0_8, .int x0_9, .int r27.2, .int x0_11, .int x0_12, .int x0_13, .int x0_14, .int x0_15, .int x0_16, .ref o0_17, .ref o0_18, .ref o0_19, .ref o0_20, .ref o0_21, .ref o0_22, .ref o0_23])), (a1, .inl (G.2.1 0, n1, .inl f1))]) [1, 0] (by decide) rfl) hS rfl (Nat.zero_le _) (Nat.zero_le _) d_Mo_feed_22
set_option maxHeartbeats 4000000 in
set_option maxRecDepth 100000 in
theorem c_Mo_end (l : Launch) (G : GX) (a0 o0_0 o0_1 o0_2 o0_17 o0_18 o0_19 o0_20 o0_21 o0_22 o0_23 : Nat) (sz : Nat) (x0_3 : Int32) (x0_4 : Int32) (x0_5 : Int32) (x0_6 : Int32) (x0_7 : Int32) (x0_8 : Int32) (x0_9 : Int32) (x0_10 : Int32) (x0_11 : Int32) (x0_12 : Int32) (x0_13 : Int32) (x0_14 : Int32) (x0_15 : Int32) (x0_16 : Int32) (p1 : Int32) (N : Nat) (V : Int32 × Int32 × Int32) (h : f_Mo_end N x0_3 p1 = some V) :
    Met l y_Mo_end (wd y_Mo_end b_Mo_end 2 (some .int)) { frames := 1, cells := 0, slots := 0, locals := 21 } (PX G [.ref a0, .int p1] sz [(a0, .inr (9, [.ref o0_0, .ref o0_1, .ref o0_2, .int x0_3, .int x0_4, .int x0_5, .int x0_6, .int x0_7, .int x0_8, .int x0_9, .int x0_10, .int x0_11, .int x0_12, .int x0_13, .int x0_14, .int x0_15, .int x0_16, .ref o0_17, .ref o0_18, .ref o0_19, .ref o0_20, .ref o0_21, .ref o0_22, .ref o0_23]))])
      (QXi G V.1 (fun w => w = [(a0, .inr (9, [.ref o0_0, .ref o0_1, .ref o0_2, .int V.2.1, .int x0_4, .int x0_5, .int x0_6, .int x0_7, .int x0_8, .int x0_9, .int V.2.2, .int x0_11, .int x0_12, .int x0_13, .int x0_14, .int x0_15, .int x0_16, .ref o0_17, .ref o0_18, .ref o0_19, .ref o0_20, .ref o0_21, .ref o0_22, .ref o0_23]))]) (va_A [(a0, .inr (9, [.ref o0_0, .ref o0_1, .ref o0_2, .int x0_3, .int x0_4, .int x0_5, .int x0_6, .int x0_7, .int x0_8, .int x0_9, .int x0_10, .int x0_11, .int x0_12, .int x0_13, .int x0_14, .int x0_15, .int x0_16, .ref o0_17, .ref o0_18, .ref o0_19, .ref o0_20, .ref o0_21, .ref o0_22, .ref o0_23]))] sz)) 0 0 (va_A [(a0, .inr (9, [.ref o0_0, .ref o0_1, .ref o0_2, .int x0_3, .int x0_4, .int x0_5, .int x0_6, .int x0_7, .int x0_8, .int x0_9, .int x0_10, .int x0_11, .int x0_12, .int x0_13, .int x0_14, .int x0_15, .int x0_16, .ref o0_17, .ref o0_18, .ref o0_19, .ref o0_20, .ref o0_21, .ref o0_22, .ref o0_23]))] sz) := by
  refine Met_in (QQ := fun A => QXi G V.1 (fun w => w = [(a0, .inr (9, [.ref o0_0, .ref o0_1, .ref o0_2, .int V.2.1, .int x0_4, .int x0_5, .int x0_6, .int x0_7, .int x0_8, .int x0_9, .int V.2.2, .int x0_11, .int x0_12, .int x0_13, .int x0_14, .int x0_15, .int x0_16, .ref o0_17, .ref o0_18, .ref o0_19, .ref o0_20, .ref o0_21, .ref o0_22, .ref o0_23]))]) A) (by decide) (Nat.le_of_ble_eq_true rfl) (fun p e s m below meth c R Q A ls C0 hRf hRl hRc hRs hP hK hD hT hA hS hl hQ => ?_)
  obtain ⟨hx, hb, hml, hown, hts, hr, hlocks, hin⟩ := id C0
  have hown : s.vm.findClass R_Mo = some m.cls := hown
  have hl : lv_has ls 2 [(0, .ref a0), (1, .int p1)] := hl
  unfold f_Mo_end at h
  have hkc : 0 ≤ R.cells := Nat.zero_le _
  have hks : 0 ≤ R.slots := Nat.zero_le _
  obtain ⟨H, hH⟩ : ∃ H, H = s.heap := ⟨_, rfl⟩
  obtain ⟨locs, hlc⟩ : ∃ x : List Loc, x = [] := ⟨_, rfl⟩
  rw [← hH] at hP
  have hS : va_S A s.heap H locs := by rw [hH, hlc]; exact hS
  suffices hgo : W p l e R s m [.ref a0, .int p1].toArray below meth c H locs 0 0 Q (F0 m 0 ls []) by rw [hH, hlc] at hgo; exact hgo
  refine lv_aload_n hx hb d_Mo_end_0 rfl (lv_at hl 0 rfl) ?_
  refine lv_iconst (v := 0) hx hb d_Mo_end_1 (by decide) ?_
  refine va_put (D := G.1) (ci := 9) (v := .int 0) (ty := .int) (C := R_Mo) (T := F_Mo) (N := 24) hx hb hts i_Mo t_Mo t_Mo_ok n_Mo hown hK hP hD hS 0 rfl rfl 10 (by decide) (hts _ q434) (fun _ h9 => h9) rfl (by decide +kernel) rfl rfl (Nat.le_of_ble_eq_true rfl) d_Mo_end_2 (fun H locs hP hD hS => ?_)
  have hP : va_P G.1 classes [(a0, .inr (9, [.ref o0_0, .ref o0_1, .ref o0_2, .int x0_3, .int x0_4, .int x0_5, .int x0_6, .int x0_7, .int x0_8, .int x0_9, .int 0, .int x0_11, .int x0_12, .int x0_13, .int x0_14, .int x0_15, .int x0_16, .ref o0_17, .ref o0_18, .ref o0_19, .ref o0_20, .ref o0_21, .ref o0_22, .ref o0_23]))] H := hP
  have hD : va_D A [(a0, .inr (9, [.ref o0_0, .ref o0_1, .ref o0_2, .int x0_3, .int x0_4, .int x0_5, .int x0_6, .int x0_7, .int x0_8, .int x0_9, .int 0, .int x0_11, .int x0_12, .int x0_13, .int x0_14, .int x0_15, .int x0_16, .ref o0_17, .ref o0_18, .ref o0_19, .ref o0_20, .ref o0_21, .ref o0_22, .ref o0_23]))] := hD
  refine lv_iload_n hx hb d_Mo_end_5 rfl (lv_at hl 1 rfl) ?_
  obtain ⟨j4, ej4, h⟩ := Jn_e h
  have hj4 : ∀ (t4 : Unit) (H : Heap) (locs : List Loc) (ls : Array Slot), j4 t4 = some V → va_P G.1 classes [(a0, .inr (9, [.ref o0_0, .ref o0_1, .ref o0_2, .int x0_3, .int x0_4, .int x0_5, .int x0_6, .int x0_7, .int x0_8, .int x0_9, .int 0, .int x0_11, .int x0_12, .int x0_13, .int x0_14, .int x0_15, .int x0_16, .ref o0_17, .ref o0_18, .ref o0_19, .ref o0_20, .ref o0_21, .ref o0_22, .ref o0_23]))] H → va_D A [(a0, .inr (9, [.ref o0_0, .ref o0_1, .ref o0_2, .int x0_3, .int x0_4, .int x0_5, .int x0_6, .int x0_7, .int x0_8, .int x0_9, .int 0, .int x0_11, .int x0_12, .int x0_13, .int x0_14, .int x0_15, .int x0_16, .ref o0_17, .ref o0_18, .ref o0_19, .ref o0_20, .ref o0_21, .ref o0_22, .ref o0_23]))] → va_S A s.heap H locs → lv_has ls 2 [(0, .ref a0)] → W p l e R s m [.ref a0, .int p1].toArray below meth c H locs 0 0 Q (F0 m 17 ls []) := by
    intro t4 H locs ls h hP hD hS hl
    replace h := ej4 _ _ h
    refine lv_aload_n hx hb d_Mo_end_17 rfl (lv_at hl 0 rfl) ?_
    refine lv_iconst (v := 1) hx hb d_Mo_end_18 (by decide) ?_
    obtain ⟨r5, hc5, h⟩ := Bd_e h
    refine xV_i0 (wr := []) (rest := []) C0 hK hT hA hP hD hS hl.1 (c_Mo_refuse l G a0 o0_0 o0_1 o0_2 o0_17 o0_18 o0_19 o0_20 o0_21 o0_22 o0_23 _ x0_3 x0_4 x0_5 x0_6 x0_7 x0_8 x0_9 0 x0_11 x0_12 x0_13 x0_14 x0_15 x0_16 1 N r5 hc5) (goodV q436 q437 q438 q439 q440) 1 rfl hd_Mo_refuse (Nat.le_trans (by decide) hRf) (Nat.le_trans (by decide) hRl) [0] [] rfl rfl (by decide) (by decide) (by decide) 9 0 rfl rfl rfl (Nat.le_of_ble_eq_true rfl) d_Mo_end_19 hkc hks (fun w1 H locs hE hP hD hS => ?_)
    subst hE
    have hP : va_P G.1 classes [(a0, .inr (9, [.ref o0_0, .ref o0_1, .ref o0_2, .int x0_3, .int x0_4, .int x0_5, .int x0_6, .int x0_7, .int x0_8, .int x0_9, .int r5.2, .int x0_11, .int x0_12, .int x0_13, .int x0_14, .int x0_15, .int x0_16, .ref o0_17, .ref o0_18, .ref o0_19, .ref o0_20, .ref o0_21, .ref o0_22, .ref o0_23]))] H := hP
    have hD : va_D A [(a0, .inr (9, [.ref o0_0, .ref o0_1, .ref o0_2, .int x0_3, .int x0_4, .int x0_5, .int x0_6, .int x0_7, .int x0_8, .int x0_9, .int r5.2, .int x0_11, .int x0_12, .int x0_13, .int x0_14, .int x0_15, .int x0_16, .ref o0_17, .ref o0_18, .ref o0_19, .ref o0_20, .ref o0_21, .ref o0_22, .ref o0_23]))] := hD
    have eV := so1 h
    subst eV
    exact x_iret C0 hQ hP hD hS rfl (Nat.zero_le _) (Nat.zero_le _) d_Mo_end_22
  refine lv_if_lt (tgt := 17) hx hb d_Mo_end_6 (by decide) (fun cq6 => ?_) (fun cq6 => ?_)
  · replace h := (if_pos cq6).symm.trans h
    exact hj4 () _ _ _ h hP hD hS (lv_sub hl [0] rfl)
  · replace h := (if_neg cq6).symm.trans h
    refine lv_iload_n hx hb d_Mo_end_9 rfl (lv_at hl 1 rfl) ?_
    refine lv_aload_n hx hb d_Mo_end_10 rfl (lv_at hl 0 rfl) ?_
    refine va_get (D := G.1) (ci := 9) (v := .int x0_3) (C := R_Mo) (T := F_Mo) (N := 24) hx hb hts i_Mo hown hK hP 0 rfl rfl 3 (by decide) (hts _ q435) (fun _ h9 => h9) rfl d_Mo_end_11 ?_
    refine lv_icmp_le (tgt := 23) hx hb d_Mo_end_14 (by decide) (fun cq7 => ?_) (fun cq7 => ?_)
    · replace h := (if_pos cq7).symm.trans h
      refine lv_aload_n hx hb d_Mo_end_23 rfl (lv_at hl 0 rfl) ?_
      refine lv_dup hx hb d_Mo_end_24 rfl ?_
      refine va_get (D := G.1) (ci := 9) (v := .int x0_3) (C := R_Mo) (T := F_Mo) (N := 24) hx hb hts i_Mo hown hK hP 0 rfl rfl 3 (by decide) (hts _ q435) (fun _ h9 => h9) rfl d_Mo_end_25 ?_
      refine lv_iload_n hx hb d_Mo_end_28 rfl (lv_at hl 1 rfl) ?_
      refine lv_isub hx hb d_Mo_end_29 ?_
      refine lv_topi (fun v8 ev8 => ?_)
      replace h := Lt_e h ev8
      refine va_put (D := G.1) (ci := 9) (v := .int v8) (ty := .int) (C := R_Mo) (T := F_Mo) (N := 24) hx hb hts i_Mo t_Mo t_Mo_ok n_Mo hown hK hP hD hS 0 rfl rfl 3 (by decide) (hts _ q435) (fun _ h9 => h9) rfl (by decide +kernel) rfl rfl (Nat.le_of_ble_eq_true rfl) d_Mo_end_30 (fun H locs hP hD hS => ?_)
      have hP : va_P G.1 classes [(a0, .inr (9, [.ref o0_0, .ref o0_1, .ref o0_2, .int v8, .int x0_4, .int x0_5, .int x0_6, .int x0_7, .int x0_8, .int x0_9, .int 0, .int x0_11, .int x0_12, .int x0_13, .int x0_14, .int x0_15, .int x0_16, .ref o0_17, .ref o0_18, .ref o0_19, .ref o0_20, .ref o0_21, .ref o0_22, .ref o0_23]))] H := hP
      have hD : va_D A [(a0, .inr (9, [.ref o0_0, .ref o0_1, .ref o0_2, .int v8, .int x0_4, .int x0_5, .int x0_6, .int x0_7, .int x0_8, .int x0_9, .int 0, .int x0_11, .int x0_12, .int x0_13, .int x0_14, .int x0_15, .int x0_16, .ref o0_17, .ref o0_18, .ref o0_19, .ref o0_20, .ref o0_21, .ref o0_22, .ref o0_23]))] := hD
      refine lv_aload_n hx hb d_Mo_end_33 rfl (lv_at hl 0 rfl) ?_
      refine va_get (D := G.1) (ci := 9) (v := .int v8) (C := R_Mo) (T := F_Mo) (N := 24) hx hb hts i_Mo hown hK hP 0 rfl rfl 3 (by decide) (hts _ q435) (fun _ h9 => h9) rfl d_Mo_end_34 ?_
      have eV := so1 h
      subst eV
      exact x_iret C0 hQ hP hD hS rfl (Nat.zero_le _) (Nat.zero_le _) d_Mo_end_37
    · replace h := (if_neg cq7).symm.trans h
      exact hj4 () _ _ _ h hP hD hS (lv_sub hl [0] rfl)
