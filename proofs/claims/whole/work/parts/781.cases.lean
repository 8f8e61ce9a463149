/-! what holds between two calls, and each call (ours) -/
def pk (S : LawS) : Nat := kap S.m2 + kap S.m4 + kap S.m6 + kap2 S.m14
def pz (S : LawS) : Nat := phi S.m2 + phi S.m4 + phi S.m6 + phi2 S.m14
def Inv (S : LawS) : Prop := ∃ (I O T : List Int32) (b t e : Nat), S.y1_1 = nI I.length ∧ Rw S.m2 S.g_2 I ∧ I.length ≤ 65536 ∧ S.y3_1 = nI O.length ∧ Rw S.m4 S.g_4 O ∧ S.y5_1 = nI T.length ∧ Rw S.m6 S.g_6 T ∧ 64 ≤ S.m14 ∧ S.m14 ≤ 65536 ∧
  S.y0_6 = nI b ∧ S.y38_7 = nI b ∧ S.y0_7 = nI t ∧ S.y38_8 = nI t ∧ S.y0_8 = nI e ∧ S.y38_9 = nI e ∧ S.y10_2 = S.y38_5 ∧ S.y10_3 = S.y38_6 ∧ S.y38_3 = nI I.length ∧ Md S.g_39 I ∧ S.y38_4 = nI O.length ∧ Md S.g_40 O ∧ sb_Fit S.g_41
def Good (rec : LawR) (i j : Nat) : Prop := ∀ S, Inv S → ∃ k z, lawap rec (nI i) S = some (0, k, z) ∧ k ≤ j + pk S ∧ z ≤ 6 * j + pz S
theorem lg0 (f : Nat → Int64) (x : Int64) : lg_cmp (vp_updL f (0 : Int32).toNatClampNeg x (0 : Int32).toNatClampNeg) x = 0 := by
  have e : vp_updL f (0 : Int32).toNatClampNeg x (0 : Int32).toNatClampNeg = x := if_pos rfl
  rw [e]
  unfold lg_cmp
  rw [if_neg (by simp), if_pos rfl]
section
variable {Lx : Nat} {xs nl sl nd sd : Nat → Int32} {rec : LawR} {i j : Nat} {S : LawS}
theorem law_0 (hi : i + 6 ≤ Lx) (hLx : Lx ≤ 3072) (hG : Good rec (i + 6) j) (hS : Inv S) : ∃ k z, LawK_0 Lx xs nl sl nd sd rec (nI i) S = some (0, k, z) ∧ k ≤ j + 1 + pk S ∧ z ≤ 6 * (j + 1) + pz S := by
  obtain ⟨I, O, T, b, t, e, h1, h2, h3, h4, h5, h6, h7, h8, h9, h10, h11, h12, h13, h14, h15, h16, h17, h18, h19, h20, h21, h22⟩ := hS
  have a1 : nI i + 1 = nI (i + 1) := nI_add i 1
  have a2 : nI i + 2 = nI (i + 2) := nI_add i 2
  have a3 : nI i + 3 = nI (i + 3) := nI_add i 3
  have a4 : nI i + 4 = nI (i + 4) := nI_add i 4
  have a5 : nI i + 5 = nI (i + 5) := nI_add i 5
  have a6 : nI i + 6 = nI (i + 6) := nI_add i 6
  unfold LawK_0 k_Lw_0
  rw [a1, a2, a3, a4, a5, a6, Ix_s (by omega) (by omega), Ix_s (by omega) (by omega), Ix_s (by omega) (by omega), Ix_s (by omega) (by omega), Ix_s (by omega) (by omega)]
  generalize xs (nI (i + 1)).toNatClampNeg = p1
  generalize xs (nI (i + 2)).toNatClampNeg = p2
  generalize xs (nI (i + 3)).toNatClampNeg = p3
  generalize xs (nI (i + 4)).toNatClampNeg = p4
  generalize xs (nI (i + 5)).toNatClampNeg = p5
  by_cases hf : I.length + 20 ≤ 65536
  · obtain ⟨c', f', k1, z1, e1, R1, hk1, hz1⟩ := TP_feed_yes NF h2 rfl hf p1 p2 p3 p4 p5
    obtain ⟨g', e2, M2⟩ := Mo_feed_yes NF (by decide) h19 rfl hf p1 p2 p3 p4 p5
    have eA : f_La_feed NF S.y1_1 S.m2 S.g_2 1 S.g_49 p1 p2 p3 p4 p5 = some ((0, nI (I.length + 20), c', f', vp_updL S.g_49 (0 : Int32).toNatClampNeg (nI (I.length + 20)).toInt64), k1 + 0, z1 + 0) := by
      rw [h1]
      exact Bk_s e1 rfl
    have eB : f_Mo_feed NF S.y38_3 65536 S.g_39 p1 p2 p3 p4 p5 = some (nI (I.length + 20), nI (I.length + 20), 0, g') := by
      rw [h18]
      exact e2
    have el : (I ++ fed p1 p2 p3 p4 p5).length = I.length + 20 := by rw [List.length_append, fed_length]
    obtain ⟨k, z, er, hk, hz⟩ := hG (mkS S.y0_6 S.y0_7 S.y0_8 (nI (I.length + 20)) (c') (f') S.y3_1 S.m4 S.g_4 S.y5_1 S.m6 S.g_6 S.g_8 S.g_9 S.y10_2 S.y10_3 S.y11_1 S.y11_2 S.y12_2 S.y12_3 S.g_13 S.m14 S.g_14 S.y15_7 S.y15_8 S.y16_1 S.y16_2 S.y16_3 S.g_17 S.g_27 S.g_28 S.g_29 S.g_31 S.g_32 S.g_33 S.g_35 S.g_36 S.g_37 (nI (I.length + 20)) S.y38_4 S.y38_5 S.y38_6 S.y38_7 S.y38_8 S.y38_9 (0) S.y38_11 S.y38_12 S.y38_13 S.y38_14 S.y38_15 S.y38_16 (g') S.g_40 S.g_41 S.g_42 S.g_43 S.g_44 S.g_45 S.g_46 S.g_47 S.g_48 (vp_updL S.g_49 (0 : Int32).toNatClampNeg (nI (I.length + 20)).toInt64)) ⟨I ++ fed p1 p2 p3 p4 p5, O, T, b, t, e, by rw [el], R1, by rw [el]; exact hf, h4, h5, h6, h7, h8, h9, h10, h11, h12, h13, h14, h15, h16, h17, by rw [el], M2, h20, h21, h22⟩
    have hk : k ≤ j + (kap c' + kap S.m4 + kap S.m6 + kap2 S.m14) := hk
    have hz : z ≤ 6 * j + (phi c' + phi S.m4 + phi S.m6 + phi2 S.m14) := hz
    refine ⟨k1 + 0 + k, z1 + 0 + z, ?_, by unfold pk; omega, by unfold pz; omega⟩
    refine Bk_s eA ?_
    rw [Ix_s (by omega) (by omega), Ix_s (by omega) (by omega), Ix_s (by omega) (by omega), Ix_s (by omega) (by omega), Ix_s (by omega) (by omega), Bd_s eB]
    refine (Bd_s (x := f_Mo_thrown NF 0) rfl _).trans ?_
    (refine (if_pos rfl).trans ?_; refine (if_pos rfl).trans ?_; refine (Ix_s (j := 0) (by omega) (by omega)).trans ?_; refine (if_pos (lg0 S.g_49 _)).trans ?_)
    exact er
  · have e1 := TP_feed_no NF (n := I.length) (c := S.m2) (f := S.g_2) (by omega) h3 p1 p2 p3 p4 p5
    have e2 := Mo_feed_no NF (n := I.length) (g := S.g_39) (by omega) h3 p1 p2 p3 p4 p5
    have eA : f_La_feed NF S.y1_1 S.m2 S.g_2 1 S.g_49 p1 p2 p3 p4 p5 = some ((1, nI I.length, S.m2, S.g_2, S.g_49), 1 + 0, 6 + 0) := by
      rw [h1]
      exact Bk_s e1 rfl
    have eB : f_Mo_feed NF S.y38_3 65536 S.g_39 p1 p2 p3 p4 p5 = some (0, nI I.length, 1, S.g_39) := by
      rw [h18]
      exact e2
    obtain ⟨k, z, er, hk, hz⟩ := hG (mkS S.y0_6 S.y0_7 S.y0_8 (nI I.length) S.m2 S.g_2 S.y3_1 S.m4 S.g_4 S.y5_1 S.m6 S.g_6 S.g_8 S.g_9 S.y10_2 S.y10_3 S.y11_1 S.y11_2 S.y12_2 S.y12_3 S.g_13 S.m14 S.g_14 S.y15_7 S.y15_8 S.y16_1 S.y16_2 S.y16_3 S.g_17 S.g_27 S.g_28 S.g_29 S.g_31 S.g_32 S.g_33 S.g_35 S.g_36 S.g_37 (nI I.length) S.y38_4 S.y38_5 S.y38_6 S.y38_7 S.y38_8 S.y38_9 (1) S.y38_11 S.y38_12 S.y38_13 S.y38_14 S.y38_15 S.y38_16 S.g_39 S.g_40 S.g_41 S.g_42 S.g_43 S.g_44 S.g_45 S.g_46 S.g_47 S.g_48 S.g_49) ⟨I, O, T, b, t, e, rfl, h2, h3, h4, h5, h6, h7, h8, h9, h10, h11, h12, h13, h14, h15, h16, h17, rfl, h19, h20, h21, h22⟩
    have hk : k ≤ j + pk S := hk
    have hz : z ≤ 6 * j + pz S := hz
    refine ⟨1 + 0 + k, 6 + 0 + z, ?_, by omega, by omega⟩
    refine Bk_s eA ?_
    rw [Ix_s (by omega) (by omega), Ix_s (by omega) (by omega), Ix_s (by omega) (by omega), Ix_s (by omega) (by omega), Ix_s (by omega) (by omega), Bd_s eB]
    refine (Bd_s (x := f_Mo_thrown NF 1) rfl _).trans ?_
    (refine (if_pos rfl).trans ?_; refine (if_neg (show ¬ (1 : Int32) = 0 by decide)).trans ?_)
    exact er
theorem law_1 (hi : i + 6 ≤ Lx) (hLx : Lx ≤ 3072) (hG : Good rec (i + 6) j) (hS : Inv S) : ∃ k z, LawK_1 Lx xs nl sl nd sd rec (nI i) S = some (0, k, z) ∧ k ≤ j + 1 + pk S ∧ z ≤ 6 * (j + 1) + pz S := by
  obtain ⟨I, O, T, b, t, e, h1, h2, h3, h4, h5, h6, h7, h8, h9, h10, h11, h12, h13, h14, h15, h16, h17, h18, h19, h20, h21, h22⟩ := hS
  have a1 : nI i + 1 = nI (i + 1) := nI_add i 1
  have a6 : nI i + 6 = nI (i + 6) := nI_add i 6
  unfold LawK_1 k_Lw_1
  rw [a1, a6, Ix_s (by omega) (by omega)]
  generalize xs (nI (i + 1)).toNatClampNeg = p1
  rcases pk_ix p1 (n := I.length + 1) (by omega) with hp | hp | ⟨r, hr, rfl⟩
  · have eA : f_La_end NF S.y1_1 1 S.g_49 p1 = some ((1, nI I.length, S.g_49), 1 + 0, 6 + 0) := by
      rw [h1]
      exact Bk_s (TP_end_no NF h3 (Or.inl hp)) rfl
    have eB : f_Mo_end NF S.y38_3 p1 = some (0, nI I.length, 1) := by
      rw [h18]
      exact Mo_end_no NF h3 (Or.inl hp)
    obtain ⟨k, z, er, hk, hz⟩ := hG (mkS S.y0_6 S.y0_7 S.y0_8 (nI I.length) S.m2 S.g_2 S.y3_1 S.m4 S.g_4 S.y5_1 S.m6 S.g_6 S.g_8 S.g_9 S.y10_2 S.y10_3 S.y11_1 S.y11_2 S.y12_2 S.y12_3 S.g_13 S.m14 S.g_14 S.y15_7 S.y15_8 S.y16_1 S.y16_2 S.y16_3 S.g_17 S.g_27 S.g_28 S.g_29 S.g_31 S.g_32 S.g_33 S.g_35 S.g_36 S.g_37 (nI I.length) S.y38_4 S.y38_5 S.y38_6 S.y38_7 S.y38_8 S.y38_9 (1) S.y38_11 S.y38_12 S.y38_13 S.y38_14 S.y38_15 S.y38_16 S.g_39 S.g_40 S.g_41 S.g_42 S.g_43 S.g_44 S.g_45 S.g_46 S.g_47 S.g_48 S.g_49) ⟨I, O, T, b, t, e, rfl, h2, h3, h4, h5, h6, h7, h8, h9, h10, h11, h12, h13, h14, h15, h16, h17, rfl, h19, h20, h21, h22⟩
    have hk : k ≤ j + pk S := hk
    have hz : z ≤ 6 * j + pz S := hz
    refine ⟨1 + 0 + k, 6 + 0 + z, ?_, by omega, by omega⟩
    refine Bk_s eA ?_
    rw [Ix_s (by omega) (by omega), Bd_s eB]
    refine (Bd_s (x := f_Mo_thrown NF 1) rfl _).trans ?_
    (refine (if_pos rfl).trans ?_; refine (if_neg (show ¬ (1 : Int32) = 0 by decide)).trans ?_)
    exact er
  · have eA : f_La_end NF S.y1_1 1 S.g_49 p1 = some ((1, nI I.length, S.g_49), 1 + 0, 6 + 0) := by
      rw [h1]
      exact Bk_s (TP_end_no NF h3 (Or.inr hp)) rfl
    have eB : f_Mo_end NF S.y38_3 p1 = some (0, nI I.length, 1) := by
      rw [h18]
      exact Mo_end_no NF h3 (Or.inr hp)
    obtain ⟨k, z, er, hk, hz⟩ := hG (mkS S.y0_6 S.y0_7 S.y0_8 (nI I.length) S.m2 S.g_2 S.y3_1 S.m4 S.g_4 S.y5_1 S.m6 S.g_6 S.g_8 S.g_9 S.y10_2 S.y10_3 S.y11_1 S.y11_2 S.y12_2 S.y12_3 S.g_13 S.m14 S.g_14 S.y15_7 S.y15_8 S.y16_1 S.y16_2 S.y16_3 S.g_17 S.g_27 S.g_28 S.g_29 S.g_31 S.g_32 S.g_33 S.g_35 S.g_36 S.g_37 (nI I.length) S.y38_4 S.y38_5 S.y38_6 S.y38_7 S.y38_8 S.y38_9 (1) S.y38_11 S.y38_12 S.y38_13 S.y38_14 S.y38_15 S.y38_16 S.g_39 S.g_40 S.g_41 S.g_42 S.g_43 S.g_44 S.g_45 S.g_46 S.g_47 S.g_48 S.g_49) ⟨I, O, T, b, t, e, rfl, h2, h3, h4, h5, h6, h7, h8, h9, h10, h11, h12, h13, h14, h15, h16, h17, rfl, h19, h20, h21, h22⟩
    have hk : k ≤ j + pk S := hk
    have hz : z ≤ 6 * j + pz S := hz
    refine ⟨1 + 0 + k, 6 + 0 + z, ?_, by omega, by omega⟩
    refine Bk_s eA ?_
    rw [Ix_s (by omega) (by omega), Bd_s eB]
    refine (Bd_s (x := f_Mo_thrown NF 1) rfl _).trans ?_
    (refine (if_pos rfl).trans ?_; refine (if_neg (show ¬ (1 : Int32) = 0 by decide)).trans ?_)
    exact er
  · have eA : f_La_end NF S.y1_1 1 S.g_49 (nI r) = some ((0, nI (I.length - r), vp_updL S.g_49 (0 : Int32).toNatClampNeg (nI (I.length - r)).toInt64), 0 + 0, 0 + 0) := by
      rw [h1]
      exact Bk_s (TP_end_yes NF h3 (by omega)) rfl
    have eB : f_Mo_end NF S.y38_3 (nI r) = some (nI (I.length - r), nI (I.length - r), 0) := by
      rw [h18]
      exact Mo_end_yes NF h3 (by omega)
    have el : (I.take (I.length - r)).length = I.length - r := by rw [List.length_take]; omega
    obtain ⟨k, z, er, hk, hz⟩ := hG (mkS S.y0_6 S.y0_7 S.y0_8 (nI (I.length - r)) S.m2 S.g_2 S.y3_1 S.m4 S.g_4 S.y5_1 S.m6 S.g_6 S.g_8 S.g_9 S.y10_2 S.y10_3 S.y11_1 S.y11_2 S.y12_2 S.y12_3 S.g_13 S.m14 S.g_14 S.y15_7 S.y15_8 S.y16_1 S.y16_2 S.y16_3 S.g_17 S.g_27 S.g_28 S.g_29 S.g_31 S.g_32 S.g_33 S.g_35 S.g_36 S.g_37 (nI (I.length - r)) S.y38_4 S.y38_5 S.y38_6 S.y38_7 S.y38_8 S.y38_9 (0) S.y38_11 S.y38_12 S.y38_13 S.y38_14 S.y38_15 S.y38_16 S.g_39 S.g_40 S.g_41 S.g_42 S.g_43 S.g_44 S.g_45 S.g_46 S.g_47 S.g_48 (vp_updL S.g_49 (0 : Int32).toNatClampNeg (nI (I.length - r)).toInt64)) ⟨I.take (I.length - r), O, T, b, t, e, by rw [el], Rw_take _ h2, by omega, h4, h5, h6, h7, h8, h9, h10, h11, h12, h13, h14, h15, h16, h17, by rw [el], Md_take _ h19, h20, h21, h22⟩
    have hk : k ≤ j + pk S := hk
    have hz : z ≤ 6 * j + pz S := hz
    refine ⟨0 + 0 + k, 0 + 0 + z, ?_, by omega, by omega⟩
    refine Bk_s eA ?_
    rw [Ix_s (by omega) (by omega), Bd_s eB]
    refine (Bd_s (x := f_Mo_thrown NF 0) rfl _).trans ?_
    (refine (if_pos rfl).trans ?_; refine (if_pos rfl).trans ?_; refine (Ix_s (j := 0) (by omega) (by omega)).trans ?_; refine (if_pos (lg0 S.g_49 _)).trans ?_)
    exact er
theorem law_2 (hi : i + 6 ≤ Lx) (hLx : Lx ≤ 3072) (hG : Good rec (i + 6) j) (hS : Inv S) : ∃ k z, LawK_2 Lx xs nl sl nd sd rec (nI i) S = some (0, k, z) ∧ k ≤ j + 1 + pk S ∧ z ≤ 6 * (j + 1) + pz S := by
  obtain ⟨I, O, T, b, t, e, h1, h2, h3, h4, h5, h6, h7, h8, h9, h10, h11, h12, h13, h14, h15, h16, h17, h18, h19, h20, h21, h22⟩ := hS
  have a1 : nI i + 1 = nI (i + 1) := nI_add i 1
  have a2 : nI i + 2 = nI (i + 2) := nI_add i 2
  have a6 : nI i + 6 = nI (i + 6) := nI_add i 6
  unfold LawK_2 k_Lw_2
  rw [a1, a2, a6, Ix_s (by omega) (by omega), Ix_s (by omega) (by omega)]
  generalize xs (nI (i + 1)).toNatClampNeg = p1
  generalize xs (nI (i + 2)).toNatClampNeg = p2
  by_cases hno : p1 < 0 ∨ nI I.length ≤ p1 ∨ p2 < 0 ∨ ¬ p2 ≤ 255
  · have eA : f_La_change NF S.y1_1 S.m2 S.g_2 p1 p2 = some ((1, S.g_2), 1 + 0, 6 + 0) := by
      rw [h1]
      exact Bk_s (TP_change_no NF h3 hno) rfl
    have eB : f_Mo_change NF S.y38_3 65536 S.g_39 p1 p2 = some (1, S.g_39) := by
      rw [h18]
      exact Mo_change_no NF hno
    obtain ⟨k, z, er, hk, hz⟩ := hG (mkS S.y0_6 S.y0_7 S.y0_8 S.y1_1 S.m2 S.g_2 S.y3_1 S.m4 S.g_4 S.y5_1 S.m6 S.g_6 S.g_8 S.g_9 S.y10_2 S.y10_3 S.y11_1 S.y11_2 S.y12_2 S.y12_3 S.g_13 S.m14 S.g_14 S.y15_7 S.y15_8 S.y16_1 S.y16_2 S.y16_3 S.g_17 S.g_27 S.g_28 S.g_29 S.g_31 S.g_32 S.g_33 S.g_35 S.g_36 S.g_37 S.y38_3 S.y38_4 S.y38_5 S.y38_6 S.y38_7 S.y38_8 S.y38_9 (1) S.y38_11 S.y38_12 S.y38_13 S.y38_14 S.y38_15 S.y38_16 S.g_39 S.g_40 S.g_41 S.g_42 S.g_43 S.g_44 S.g_45 S.g_46 S.g_47 S.g_48 S.g_49) ⟨I, O, T, b, t, e, h1, h2, h3, h4, h5, h6, h7, h8, h9, h10, h11, h12, h13, h14, h15, h16, h17, h18, h19, h20, h21, h22⟩
    have hk : k ≤ j + pk S := hk
    have hz : z ≤ 6 * j + pz S := hz
    refine ⟨1 + 0 + k, 6 + 0 + z, ?_, by omega, by omega⟩
    refine Bk_s eA ?_
    rw [Ix_s (by omega) (by omega), Ix_s (by omega) (by omega), Bd_s eB]
    refine (Bd_s (x := f_Mo_thrown NF 1) rfl _).trans ?_
    refine (if_pos rfl).trans ?_
    exact er
  · obtain ⟨r, hr, rfl⟩ := (pk_ix p1 (n := I.length) (by omega)).resolve_left (fun q => hno (Or.inl q)) |>.resolve_left (fun q => hno (Or.inr (Or.inl q)))
    have q0 : ¬ p2 < 0 := fun q => hno (Or.inr (Or.inr (Or.inl q)))
    have q1 : p2 ≤ 255 := Decidable.byContradiction fun q => hno (Or.inr (Or.inr (Or.inr q)))
    have hc := h2.2.2.1
    have eA : f_La_change NF S.y1_1 S.m2 S.g_2 (nI r) p2 = some ((0, upd S.g_2 r (bB ((S.g_2 r &&& 255) ^^^ p2))), 0 + 0, 0 + 0) := by
      rw [h1]
      exact Bk_s (TP_change_yes NF (by omega) h2.1 hr q0 q1) rfl
    have eB : f_Mo_change NF S.y38_3 65536 S.g_39 (nI r) p2 = some (0, upd S.g_39 r (bB (S.g_39 r ^^^ p2))) := by
      rw [h18]
      exact Mo_change_yes NF h3 hr q0 q1
    have ex : bB ((S.g_2 r &&& 255) ^^^ p2) = bB (S.g_39 r ^^^ p2) := by
      rw [bB_xor, h2.2.2.2.2 r hr, h19.2 r hr]
    rw [ex] at eA
    obtain ⟨k, z, er, hk, hz⟩ := hG (mkS S.y0_6 S.y0_7 S.y0_8 S.y1_1 S.m2 (upd S.g_2 r (bB (S.g_39 r ^^^ p2))) S.y3_1 S.m4 S.g_4 S.y5_1 S.m6 S.g_6 S.g_8 S.g_9 S.y10_2 S.y10_3 S.y11_1 S.y11_2 S.y12_2 S.y12_3 S.g_13 S.m14 S.g_14 S.y15_7 S.y15_8 S.y16_1 S.y16_2 S.y16_3 S.g_17 S.g_27 S.g_28 S.g_29 S.g_31 S.g_32 S.g_33 S.g_35 S.g_36 S.g_37 S.y38_3 S.y38_4 S.y38_5 S.y38_6 S.y38_7 S.y38_8 S.y38_9 (0) S.y38_11 S.y38_12 S.y38_13 S.y38_14 S.y38_15 S.y38_16 (upd S.g_39 r (bB (S.g_39 r ^^^ p2))) S.g_40 S.g_41 S.g_42 S.g_43 S.g_44 S.g_45 S.g_46 S.g_47 S.g_48 S.g_49) ⟨I.set r (bB (S.g_39 r ^^^ p2)), O, T, b, t, e, by rw [List.length_set]; exact h1, Rw_set h2 hr _, by rw [List.length_set]; exact h3, h4, h5, h6, h7, h8, h9, h10, h11, h12, h13, h14, h15, h16, h17, by rw [List.length_set]; exact h18, Md_set h19 hr _, h20, h21, h22⟩
    have hk : k ≤ j + pk S := hk
    have hz : z ≤ 6 * j + pz S := hz
    refine ⟨0 + 0 + k, 0 + 0 + z, ?_, by omega, by omega⟩
    refine Bk_s eA ?_
    rw [Ix_s (by omega) (by omega), Ix_s (by omega) (by omega), Bd_s eB]
    refine (Bd_s (x := f_Mo_thrown NF 0) rfl _).trans ?_
    refine (if_pos rfl).trans ?_
    exact er
theorem law_3 (hi : i + 6 ≤ Lx) (hLx : Lx ≤ 3072) (hG : Good rec (i + 6) j) (hS : Inv S) : ∃ k z, LawK_3 Lx xs nl sl nd sd rec (nI i) S = some (0, k, z) ∧ k ≤ j + 1 + pk S ∧ z ≤ 6 * (j + 1) + pz S := by
  obtain ⟨I, O, T, b, t, e, h1, h2, h3, h4, h5, h6, h7, h8, h9, h10, h11, h12, h13, h14, h15, h16, h17, h18, h19, h20, h21, h22⟩ := hS
  have a6 : nI i + 6 = nI (i + 6) := nI_add i 6
  unfold LawK_3 k_Lw_3
  rw [a6]
  obtain ⟨co', cb', fo', nw', bf', x1, x2, x3, x4, k1, z1, e1, R1, g1, g2, hk1, hz1⟩ := TP_press_all (nw := S.g_13) (bf := S.g_14) h2 h5 rfl rfl h3 h8 h9 S.y12_2 S.y12_3
  obtain ⟨o', e2, M2⟩ := Mo_press_all h19 rfl h3 h21.1
  have eA := e1
  rw [← h1, ← h4] at eA
  have eB := e2
  rw [← h18] at eB
  obtain ⟨k, z, er, hk, hz⟩ := hG (mkS S.y0_6 S.y0_7 S.y0_8 S.y1_1 S.m2 S.g_2 (nI (prO I).length) (co') (fo') S.y5_1 S.m6 S.g_6 S.g_8 S.g_9 (nI (prR I).2.1) (nI (prR I).2.2) (x1) (x2) (x3) (x4) (nw') (cb') (bf') S.y15_7 S.y15_8 S.y16_1 S.y16_2 S.y16_3 S.g_17 S.g_27 S.g_28 S.g_29 S.g_31 S.g_32 S.g_33 S.g_35 S.g_36 S.g_37 S.y38_3 (nI (prO I).length) (nI (prR I).2.1) (nI (prR I).2.2) S.y38_7 S.y38_8 S.y38_9 (0) (nI (prQ I).2) S.y38_12 S.y38_13 S.y38_14 S.y38_15 S.y38_16 S.g_39 (o') S.g_41 S.g_42 S.g_43 S.g_44 S.g_45 S.g_46 S.g_47 S.g_48 S.g_49) ⟨I, prO I, T, b, t, e, h1, h2, h3, rfl, R1, h6, h7, g1, g2, h10, h11, h12, h13, h14, h15, rfl, rfl, h18, h19, rfl, M2, h22⟩
  have hk : k ≤ j + (kap S.m2 + kap co' + kap S.m6 + kap2 cb') := hk
  have hz : z ≤ 6 * j + (phi S.m2 + phi co' + phi S.m6 + phi2 cb') := hz
  refine ⟨k1 + k, z1 + z, ?_, by unfold pk; omega, by unfold pz; omega⟩
  refine Bk_s eA ?_
  refine (Bd_s eB _).trans ?_
  refine (if_pos rfl).trans ?_
  exact er
theorem law_5 (hi : i + 6 ≤ Lx) (hLx : Lx ≤ 3072) (hG : Good rec (i + 6) j) (hS : Inv S) : ∃ k z, LawK_5 Lx xs nl sl nd sd rec (nI i) S = some (0, k, z) ∧ k ≤ j + 1 + pk S ∧ z ≤ 6 * (j + 1) + pz S := by
  obtain ⟨I, O, T, b, t, e, h1, h2, h3, h4, h5, h6, h7, h8, h9, h10, h11, h12, h13, h14, h15, h16, h17, h18, h19, h20, h21, h22⟩ := hS
  have a6 : nI i + 6 = nI (i + 6) := nI_add i 6
  have hO1 := h5.1
  have hO2 := h5.2.2.1
  unfold LawK_5 k_Lw_5
  rw [a6]
  by_cases hno : 65536 < O.length
  · have eA : f_La_turn NF S.y3_1 S.y1_1 S.m2 S.g_2 S.m4 S.g_4 1 S.g_49 = some ((1, nI I.length, S.m2, S.g_2, S.g_49), 1 + 0, 6 + 0) := by
      rw [h1, h4]
      exact Bk_s (TP_turn_no NF hno (by omega)) rfl
    have eB : f_Mo_turn NF S.y38_3 S.y38_4 74000 S.g_40 65536 S.g_39 = some (0, nI I.length, 1, S.g_39) := by
      rw [h18, h20]
      exact Mo_turn_no NF hno (by omega)
    obtain ⟨k, z, er, hk, hz⟩ := hG (mkS S.y0_6 S.y0_7 S.y0_8 (nI I.length) S.m2 S.g_2 S.y3_1 S.m4 S.g_4 S.y5_1 S.m6 S.g_6 S.g_8 S.g_9 S.y10_2 S.y10_3 S.y11_1 S.y11_2 S.y12_2 S.y12_3 S.g_13 S.m14 S.g_14 S.y15_7 S.y15_8 S.y16_1 S.y16_2 S.y16_3 S.g_17 S.g_27 S.g_28 S.g_29 S.g_31 S.g_32 S.g_33 S.g_35 S.g_36 S.g_37 (nI I.length) S.y38_4 S.y38_5 S.y38_6 S.y38_7 S.y38_8 S.y38_9 (1) S.y38_11 S.y38_12 S.y38_13 S.y38_14 S.y38_15 S.y38_16 S.g_39 S.g_40 S.g_41 S.g_42 S.g_43 S.g_44 S.g_45 S.g_46 S.g_47 S.g_48 S.g_49) ⟨I, O, T, b, t, e, rfl, h2, h3, h4, h5, h6, h7, h8, h9, h10, h11, h12, h13, h14, h15, h16, h17, rfl, h19, h20, h21, h22⟩
    have hk : k ≤ j + pk S := hk
    have hz : z ≤ 6 * j + pz S := hz
    refine ⟨1 + 0 + k, 6 + 0 + z, ?_, by omega, by omega⟩
    refine Bk_s eA ?_
    refine (Bd_s eB _).trans ?_
    refine (Bd_s (x := f_Mo_thrown NF 1) rfl _).trans ?_
    (refine (if_pos rfl).trans ?_; refine (if_neg (show ¬ (1 : Int32) = 0 by decide)).trans ?_)
    exact er
  · obtain ⟨c', f', k1, z1, e1, R1, hk1, hz1⟩ := TP_turn_yes NF (x := nI I.length) h2 h5 rfl (by omega)
    obtain ⟨g', e2, M2⟩ := Mo_turn_yes NF (by decide) (n := I.length) h21 rfl (by omega) h19.1
    have eA : f_La_turn NF S.y3_1 S.y1_1 S.m2 S.g_2 S.m4 S.g_4 1 S.g_49 = some ((0, nI O.length, c', f', vp_updL S.g_49 (0 : Int32).toNatClampNeg (nI O.length).toInt64), k1 + 0, z1 + 0) := by
      rw [h1, h4]
      exact Bk_s e1 rfl
    have eB : f_Mo_turn NF S.y38_3 S.y38_4 74000 S.g_40 65536 S.g_39 = some (nI O.length, nI O.length, 0, g') := by
      rw [h18, h20]
      exact e2
    obtain ⟨k, z, er, hk, hz⟩ := hG (mkS S.y0_6 S.y0_7 S.y0_8 (nI O.length) (c') (f') S.y3_1 S.m4 S.g_4 S.y5_1 S.m6 S.g_6 S.g_8 S.g_9 S.y10_2 S.y10_3 S.y11_1 S.y11_2 S.y12_2 S.y12_3 S.g_13 S.m14 S.g_14 S.y15_7 S.y15_8 S.y16_1 S.y16_2 S.y16_3 S.g_17 S.g_27 S.g_28 S.g_29 S.g_31 S.g_32 S.g_33 S.g_35 S.g_36 S.g_37 (nI O.length) S.y38_4 S.y38_5 S.y38_6 S.y38_7 S.y38_8 S.y38_9 (0) S.y38_11 S.y38_12 S.y38_13 S.y38_14 S.y38_15 S.y38_16 (g') S.g_40 S.g_41 S.g_42 S.g_43 S.g_44 S.g_45 S.g_46 S.g_47 S.g_48 (vp_updL S.g_49 (0 : Int32).toNatClampNeg (nI O.length).toInt64)) ⟨O, O, T, b, t, e, rfl, R1, by omega, h4, h5, h6, h7, h8, h9, h10, h11, h12, h13, h14, h15, h16, h17, rfl, M2, h20, h21, h22⟩
    have hk : k ≤ j + (kap c' + kap S.m4 + kap S.m6 + kap2 S.m14) := hk
    have hz : z ≤ 6 * j + (phi c' + phi S.m4 + phi S.m6 + phi2 S.m14) := hz
    refine ⟨k1 + 0 + k, z1 + 0 + z, ?_, by unfold pk; omega, by unfold pz; omega⟩
    refine Bk_s eA ?_
    refine (Bd_s eB _).trans ?_
    refine (Bd_s (x := f_Mo_thrown NF 0) rfl _).trans ?_
    (refine (if_pos rfl).trans ?_; refine (if_pos rfl).trans ?_; refine (Ix_s (j := 0) (by omega) (by omega)).trans ?_; refine (if_pos (lg0 S.g_49 _)).trans ?_)
    exact er
theorem law_6 (hi : i + 6 ≤ Lx) (hLx : Lx ≤ 3072) (hG : Good rec (i + 6) j) (hS : Inv S) : ∃ k z, LawK_6 Lx xs nl sl nd sd rec (nI i) S = some (0, k, z) ∧ k ≤ j + 1 + pk S ∧ z ≤ 6 * (j + 1) + pz S := by
  obtain ⟨I, O, T, b, t, e, h1, h2, h3, h4, h5, h6, h7, h8, h9, h10, h11, h12, h13, h14, h15, h16, h17, h18, h19, h20, h21, h22⟩ := hS
  have a1 : nI i + 1 = nI (i + 1) := nI_add i 1
  have a6 : nI i + 6 = nI (i + 6) := nI_add i 6
  unfold LawK_6 k_Lw_6
  rw [a1, a6, Ix_s (by omega) (by omega)]
  generalize xs (nI (i + 1)).toNatClampNeg = p1
  by_cases hno : p1 < 0 ∨ ¬ p1 ≤ 2
  · obtain ⟨e1, e2⟩ := hash_no (c := S.m2) (n := I.length) (f := S.g_2) (g := S.g_39) (st := S.g_9) (w := S.g_8) (sm := S.g_48) (w2 := S.g_47) hno
    have eA : f_La_hash NF 5 S.g_9 S.y1_1 S.m2 S.g_2 80 S.g_8 1 S.g_49 p1 = some ((1, S.g_9, S.g_8, S.g_49), 1 + 0, 6 + 0) := by
      rw [h1]
      exact Bk_s e1 rfl
    have eB : f_Mo_hash NF S.y38_3 5 S.g_48 65536 S.g_39 80 S.g_47 p1 = some (0, 1, S.g_48, S.g_47) := by
      rw [h18]
      exact e2
    obtain ⟨k, z, er, hk, hz⟩ := hG (mkS S.y0_6 S.y0_7 S.y0_8 S.y1_1 S.m2 S.g_2 S.y3_1 S.m4 S.g_4 S.y5_1 S.m6 S.g_6 S.g_8 S.g_9 S.y10_2 S.y10_3 S.y11_1 S.y11_2 S.y12_2 S.y12_3 S.g_13 S.m14 S.g_14 S.y15_7 S.y15_8 S.y16_1 S.y16_2 S.y16_3 S.g_17 S.g_27 S.g_28 S.g_29 S.g_31 S.g_32 S.g_33 S.g_35 S.g_36 S.g_37 S.y38_3 S.y38_4 S.y38_5 S.y38_6 S.y38_7 S.y38_8 S.y38_9 (1) S.y38_11 S.y38_12 S.y38_13 S.y38_14 S.y38_15 S.y38_16 S.g_39 S.g_40 S.g_41 S.g_42 S.g_43 S.g_44 S.g_45 S.g_46 S.g_47 S.g_48 S.g_49) ⟨I, O, T, b, t, e, h1, h2, h3, h4, h5, h6, h7, h8, h9, h10, h11, h12, h13, h14, h15, h16, h17, h18, h19, h20, h21, h22⟩
    have hk : k ≤ j + pk S := hk
    have hz : z ≤ 6 * j + pz S := hz
    refine ⟨1 + 0 + k, 6 + 0 + z, ?_, by omega, by omega⟩
    refine Bk_s eA ?_
    rw [Ix_s (by omega) (by omega), Bd_s eB]
    refine (Bd_s (x := f_Mo_thrown NF 1) rfl _).trans ?_
    (refine (if_pos rfl).trans ?_; refine (if_neg (show ¬ (1 : Int32) = 0 by decide)).trans ?_)
    exact er
  · have q0 : ¬ p1 < 0 := fun q => hno (Or.inl q)
    have q1 : p1 ≤ 2 := Decidable.byContradiction fun q => hno (Or.inr q)
    obtain ⟨v, st', w', sm', w2', e1, e2⟩ := hash_yes h2 h19 rfl h3 q0 q1 (st := S.g_9) (w := S.g_8) (sm := S.g_48) (w2 := S.g_47)
    have eA : f_La_hash NF 5 S.g_9 S.y1_1 S.m2 S.g_2 80 S.g_8 1 S.g_49 p1 = some ((0, st', w', vp_updL S.g_49 (0 : Int32).toNatClampNeg v), 0 + 0, 0 + 0) := by
      rw [h1]
      exact Bk_s e1 rfl
    have eB : f_Mo_hash NF S.y38_3 5 S.g_48 65536 S.g_39 80 S.g_47 p1 = some (v, 0, sm', w2') := by
      rw [h18]
      exact e2
    obtain ⟨k, z, er, hk, hz⟩ := hG (mkS S.y0_6 S.y0_7 S.y0_8 S.y1_1 S.m2 S.g_2 S.y3_1 S.m4 S.g_4 S.y5_1 S.m6 S.g_6 (w') (st') S.y10_2 S.y10_3 S.y11_1 S.y11_2 S.y12_2 S.y12_3 S.g_13 S.m14 S.g_14 S.y15_7 S.y15_8 S.y16_1 S.y16_2 S.y16_3 S.g_17 S.g_27 S.g_28 S.g_29 S.g_31 S.g_32 S.g_33 S.g_35 S.g_36 S.g_37 S.y38_3 S.y38_4 S.y38_5 S.y38_6 S.y38_7 S.y38_8 S.y38_9 (0) S.y38_11 S.y38_12 S.y38_13 S.y38_14 S.y38_15 S.y38_16 S.g_39 S.g_40 S.g_41 S.g_42 S.g_43 S.g_44 S.g_45 S.g_46 (w2') (sm') (vp_updL S.g_49 (0 : Int32).toNatClampNeg v)) ⟨I, O, T, b, t, e, h1, h2, h3, h4, h5, h6, h7, h8, h9, h10, h11, h12, h13, h14, h15, h16, h17, h18, h19, h20, h21, h22⟩
    have hk : k ≤ j + pk S := hk
    have hz : z ≤ 6 * j + pz S := hz
    refine ⟨0 + 0 + k, 0 + 0 + z, ?_, by omega, by omega⟩
    refine Bk_s eA ?_
    rw [Ix_s (by omega) (by omega), Bd_s eB]
    refine (Bd_s (x := f_Mo_thrown NF 0) rfl _).trans ?_
    (refine (if_pos rfl).trans ?_; refine (if_pos rfl).trans ?_; refine (Ix_s (j := 0) (by omega) (by omega)).trans ?_; refine (if_pos (lg0 S.g_49 _)).trans ?_)
    exact er
theorem law_7 (hi : i + 6 ≤ Lx) (hLx : Lx ≤ 3072) (hG : Good rec (i + 6) j) (hS : Inv S) : ∃ k z, LawK_7 Lx xs nl sl nd sd rec (nI i) S = some (0, k, z) ∧ k ≤ j + 1 + pk S ∧ z ≤ 6 * (j + 1) + pz S := by
  obtain ⟨I, O, T, b, t, e, h1, h2, h3, h4, h5, h6, h7, h8, h9, h10, h11, h12, h13, h14, h15, h16, h17, h18, h19, h20, h21, h22⟩ := hS
  have a1 : nI i + 1 = nI (i + 1) := nI_add i 1
  have a6 : nI i + 6 = nI (i + 6) := nI_add i 6
  have hO1 := h5.1
  have hO2 := h5.2.2.1
  unfold LawK_7 k_Lw_7
  rw [a1, a6, Ix_s (by omega) (by omega)]
  generalize xs (nI (i + 1)).toNatClampNeg = p1
  by_cases hno : p1 < 0 ∨ nI O.length ≤ p1
  · have eA : f_La_letter NF S.y3_1 S.m4 S.g_4 1 S.g_49 p1 = some ((1, S.g_49), 1 + 0, 6 + 0) := by
      rw [h4]
      exact Bk_s (TP_letter_no (by omega) hno) rfl
    have eB : f_Mo_letter NF S.y38_4 74000 S.g_40 p1 = some (0, 1) := by
      rw [h20]
      exact Mo_letter_no hno
    obtain ⟨k, z, er, hk, hz⟩ := hG (mkS S.y0_6 S.y0_7 S.y0_8 S.y1_1 S.m2 S.g_2 S.y3_1 S.m4 S.g_4 S.y5_1 S.m6 S.g_6 S.g_8 S.g_9 S.y10_2 S.y10_3 S.y11_1 S.y11_2 S.y12_2 S.y12_3 S.g_13 S.m14 S.g_14 S.y15_7 S.y15_8 S.y16_1 S.y16_2 S.y16_3 S.g_17 S.g_27 S.g_28 S.g_29 S.g_31 S.g_32 S.g_33 S.g_35 S.g_36 S.g_37 S.y38_3 S.y38_4 S.y38_5 S.y38_6 S.y38_7 S.y38_8 S.y38_9 (1) S.y38_11 S.y38_12 S.y38_13 S.y38_14 S.y38_15 S.y38_16 S.g_39 S.g_40 S.g_41 S.g_42 S.g_43 S.g_44 S.g_45 S.g_46 S.g_47 S.g_48 S.g_49) ⟨I, O, T, b, t, e, h1, h2, h3, h4, h5, h6, h7, h8, h9, h10, h11, h12, h13, h14, h15, h16, h17, h18, h19, h20, h21, h22⟩
    have hk : k ≤ j + pk S := hk
    have hz : z ≤ 6 * j + pz S := hz
    refine ⟨1 + 0 + k, 6 + 0 + z, ?_, by omega, by omega⟩
    refine Bk_s eA ?_
    rw [Ix_s (by omega) (by omega), Bd_s eB]
    refine (Bd_s (x := f_Mo_thrown NF 1) rfl _).trans ?_
    (refine (if_pos rfl).trans ?_; refine (if_neg (show ¬ (1 : Int32) = 0 by decide)).trans ?_)
    exact er
  · obtain ⟨r, hr, rfl⟩ := (pk_ix p1 (n := O.length) (by omega)).resolve_left (fun q => hno (Or.inl q)) |>.resolve_left (fun q => hno (Or.inr q))
    have eA : f_La_letter NF S.y3_1 S.m4 S.g_4 1 S.g_49 (nI r) = some ((0, vp_updL S.g_49 (0 : Int32).toNatClampNeg (S.g_4 r &&& 255).toInt64), 0 + 0, 0 + 0) := by
      rw [h4]
      exact Bk_s (TP_letter_yes (by omega) hO1 hr) rfl
    have eB : f_Mo_letter NF S.y38_4 74000 S.g_40 (nI r) = some (S.g_4 r &&& 255, 0) := by
      rw [h20, h5.2.2.2.2 r hr, ← h21.2 r hr]
      exact Mo_letter_yes (by omega) hr
    generalize S.g_4 r &&& 255 = v at eA eB
    obtain ⟨k, z, er, hk, hz⟩ := hG (mkS S.y0_6 S.y0_7 S.y0_8 S.y1_1 S.m2 S.g_2 S.y3_1 S.m4 S.g_4 S.y5_1 S.m6 S.g_6 S.g_8 S.g_9 S.y10_2 S.y10_3 S.y11_1 S.y11_2 S.y12_2 S.y12_3 S.g_13 S.m14 S.g_14 S.y15_7 S.y15_8 S.y16_1 S.y16_2 S.y16_3 S.g_17 S.g_27 S.g_28 S.g_29 S.g_31 S.g_32 S.g_33 S.g_35 S.g_36 S.g_37 S.y38_3 S.y38_4 S.y38_5 S.y38_6 S.y38_7 S.y38_8 S.y38_9 (0) S.y38_11 S.y38_12 S.y38_13 S.y38_14 S.y38_15 S.y38_16 S.g_39 S.g_40 S.g_41 S.g_42 S.g_43 S.g_44 S.g_45 S.g_46 S.g_47 S.g_48 (vp_updL S.g_49 (0 : Int32).toNatClampNeg v.toInt64)) ⟨I, O, T, b, t, e, h1, h2, h3, h4, h5, h6, h7, h8, h9, h10, h11, h12, h13, h14, h15, h16, h17, h18, h19, h20, h21, h22⟩
    have hk : k ≤ j + pk S := hk
    have hz : z ≤ 6 * j + pz S := hz
    refine ⟨0 + 0 + k, 0 + 0 + z, ?_, by omega, by omega⟩
    refine Bk_s eA ?_
    rw [Ix_s (by omega) (by omega), Bd_s eB]
    refine (Bd_s (x := f_Mo_thrown NF 0) rfl _).trans ?_
    (refine (if_pos rfl).trans ?_; refine (if_pos rfl).trans ?_; refine (Ix_s (j := 0) (by omega) (by omega)).trans ?_; refine (if_pos (lg0 S.g_49 _)).trans ?_)
    exact er
theorem law_8 (hi : i + 6 ≤ Lx) (hLx : Lx ≤ 3072) (hG : Good rec (i + 6) j) (hS : Inv S) : ∃ k z, LawK_8 Lx xs nl sl nd sd rec (nI i) S = some (0, k, z) ∧ k ≤ j + 1 + pk S ∧ z ≤ 6 * (j + 1) + pz S := by
  obtain ⟨I, O, T, b, t, e, h1, h2, h3, h4, h5, h6, h7, h8, h9, h10, h11, h12, h13, h14, h15, h16, h17, h18, h19, h20, h21, h22⟩ := hS
  have a1 : nI i + 1 = nI (i + 1) := nI_add i 1
  have a6 : nI i + 6 = nI (i + 6) := nI_add i 6
  unfold LawK_8 k_Lw_8
  rw [a1, a6, Ix_s (by omega) (by omega)]
  generalize xs (nI (i + 1)).toNatClampNeg = p1
  obtain ⟨v, hv⟩ := count_some S.y38_3 S.y38_4 S.y38_5 S.y38_6 S.y38_7 S.y38_8 S.y38_9 p1
  have eA : f_TP_count NF S.y0_6 S.y0_7 S.y0_8 S.y1_1 S.y3_1 S.y10_2 S.y10_3 p1 = some v := by
    rw [count_eq, h1, h4, h10, h12, h14, h16, h17, ← h11, ← h13, ← h15, ← h18, ← h20]
    exact hv
  obtain ⟨k, z, er, hk, hz⟩ := hG (mkS S.y0_6 S.y0_7 S.y0_8 S.y1_1 S.m2 S.g_2 S.y3_1 S.m4 S.g_4 S.y5_1 S.m6 S.g_6 S.g_8 S.g_9 S.y10_2 S.y10_3 S.y11_1 S.y11_2 S.y12_2 S.y12_3 S.g_13 S.m14 S.g_14 S.y15_7 S.y15_8 S.y16_1 S.y16_2 S.y16_3 S.g_17 S.g_27 S.g_28 S.g_29 S.g_31 S.g_32 S.g_33 S.g_35 S.g_36 S.g_37 S.y38_3 S.y38_4 S.y38_5 S.y38_6 S.y38_7 S.y38_8 S.y38_9 (0) S.y38_11 S.y38_12 S.y38_13 S.y38_14 S.y38_15 S.y38_16 S.g_39 S.g_40 S.g_41 S.g_42 S.g_43 S.g_44 S.g_45 S.g_46 S.g_47 S.g_48 S.g_49) ⟨I, O, T, b, t, e, h1, h2, h3, h4, h5, h6, h7, h8, h9, h10, h11, h12, h13, h14, h15, h16, h17, h18, h19, h20, h21, h22⟩
  have hk : k ≤ j + pk S := hk
  have hz : z ≤ 6 * j + pz S := hz
  refine ⟨k, z, ?_, by omega, by omega⟩
  rw [Bd_s eA, Ix_s (by omega) (by omega), Bd_s hv]
  refine (if_pos rfl).trans ?_
  exact er
end
