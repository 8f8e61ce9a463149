/-! the call of open (ours) -/
section
variable {Lx : Nat} {xs nl sl nd sd : Nat → Int32} {rec : LawR} {i j : Nat} {S : LawS}
theorem law_4 (hC : CoC flL 288 nl sl 288) (hD : CoC flD 32 nd sd 32) (hi : i + 6 ≤ Lx) (hLx : Lx ≤ 3072) (hG : Good rec (i + 6) j) (hS : Inv S) : ∃ k z, LawK_4 Lx xs nl sl nd sd rec (nI i) S = some (0, k, z) ∧ k ≤ j + 1 + pk S ∧ z ≤ 6 * (j + 1) + pz S := by
  obtain ⟨I, O, T, b, t, e, h1, h2, h3, h4, h5, h6, h7, h8, h9, h10, h11, h12, h13, h14, h15, h16, h17, h18, h19, h20, h21, h22⟩ := hS
  have a6 : nI i + 6 = nI (i + 6) := nI_add i 6
  unfold LawK_4 k_Lw_4
  rw [a6]
  have hA := TP_open h2 rfl h3 hC hD ⟨S.g_17, S.g_27, S.g_28, S.g_29, S.g_31, S.g_32, S.g_33, S.g_35, S.g_36, S.g_37⟩ h7 rfl h5 rfl b t e
  have hB := Mo_open h19 rfl h3 O.length b t e ⟨S.g_42, S.g_45, S.g_46, S.g_43, S.g_44⟩ h22 h21.1
  rw [← h10, ← h12, ← h14, ← h4, ← h6, ← h1] at hA
  rw [← h18, ← h20, ← h11, ← h13, ← h15] at hB
  dsimp only [CA.g, CA.a1, CA.a2, CA.a3, CA.b1, CA.b2, CA.b3, CA.d1, CA.d2, CA.d3, RA.len, RA.many, RA.fi, RA.cod, RA.told] at hA hB
  rcases hA with ⟨hN, x1, x2, x3, x4, x5, Y, T', c', f', k1, z1, e1, R1, hT1, hk1, hz1⟩ | ⟨T', b', t', x1, x2, x3, x4, x5, Y, c', f', k1, z1, hS1, e1, R1, hT1, hk1, hz1⟩
  · rcases hB with ⟨_, y1, y2, y3, y4, y5, room', Z, e2, hr⟩ | ⟨T2, b2, t2, _, _, _, _, _, _, _, _, hS2, _⟩
    · have eA : f_La_open NF S.y0_6 S.y0_7 S.y0_8 S.y3_1 S.m4 S.g_4 S.y5_1 S.m6 S.g_6 S.y1_1 S.m2 S.g_2 16 nl 288 sl 16 nd 32 sd 316 S.g_17 16 S.g_27 16 S.g_28 19 S.g_29 16 S.g_31 16 S.g_32 286 S.g_33 16 S.g_35 16 S.g_36 30 S.g_37 1 S.g_49 = some ((1, S.y0_6, S.y0_7, nI (e + 1), S.y3_1, S.m4, S.g_4, nI T'.length, c', f', x1, x2, x3, x4, x5, Y.g, Y.a1, Y.a2, Y.a3, Y.b1, Y.b2, Y.b3, Y.d1, Y.d2, Y.d3, S.g_49), k1 + 0, z1 + 0) := Bk_s e1 rfl
      obtain ⟨k, z, er, hk, hz⟩ := hG (mkS S.y0_6 S.y0_7 (nI (e + 1)) S.y1_1 S.m2 S.g_2 S.y3_1 S.m4 S.g_4 (nI T'.length) (c') (f') S.g_8 S.g_9 S.y10_2 S.y10_3 S.y11_1 S.y11_2 S.y12_2 S.y12_3 S.g_13 S.m14 S.g_14 (x1) (x2) (x3) (x4) (x5) (Y.g) (Y.a1) (Y.a2) (Y.a3) (Y.b1) (Y.b2) (Y.b3) (Y.d1) (Y.d2) (Y.d3) S.y38_3 S.y38_4 S.y38_5 S.y38_6 S.y38_7 S.y38_8 (nI (e + 1)) (1) S.y38_11 (y1) (y2) (y3) (y4) (y5) S.g_39 S.g_40 (room') (Z.len) (Z.cod) (Z.told) (Z.many) (Z.fi) S.g_47 S.g_48 S.g_49) ⟨I, O, T', b, t, e + 1, h1, h2, h3, h4, h5, rfl, R1, h8, h9, h10, h11, h12, h13, rfl, rfl, h16, h17, h18, h19, h20, h21, hr⟩
      have hk : k ≤ j + (kap S.m2 + kap S.m4 + kap c' + kap2 S.m14) := hk
      have hz : z ≤ 6 * j + (phi S.m2 + phi S.m4 + phi c' + phi2 S.m14) := hz
      refine ⟨k1 + 0 + k, z1 + 0 + z, ?_, by unfold pk; omega, by unfold pz; omega⟩
      refine Bk_s eA ?_
      refine (Bd_s e2 _).trans ?_
      refine (Bd_s (x := f_Mo_thrown NF 1) rfl _).trans ?_
      (refine (if_pos rfl).trans ?_; refine (if_neg (show ¬ (1 : Int32) = 0 by decide)).trans ?_)
      exact er
    · rw [hN] at hS2
      cases hS2
  · rcases hB with ⟨hN, _⟩ | ⟨T2, b2, t2, y1, y2, y3, y4, y5, room', out', Z, hS2, e2, hr, hMo⟩
    · rw [hN] at hS1
      cases hS1
    · rw [hS1] at hS2
      cases hS2
      have eA : f_La_open NF S.y0_6 S.y0_7 S.y0_8 S.y3_1 S.m4 S.g_4 S.y5_1 S.m6 S.g_6 S.y1_1 S.m2 S.g_2 16 nl 288 sl 16 nd 32 sd 316 S.g_17 16 S.g_27 16 S.g_28 19 S.g_29 16 S.g_31 16 S.g_32 286 S.g_33 16 S.g_35 16 S.g_36 30 S.g_37 1 S.g_49 = some ((0, nI b', nI t', S.y0_8, nI T'.length, c', f', S.y3_1, S.m4, S.g_4, x1, x2, x3, x4, x5, Y.g, Y.a1, Y.a2, Y.a3, Y.b1, Y.b2, Y.b3, Y.d1, Y.d2, Y.d3, vp_updL S.g_49 (0 : Int32).toNatClampNeg (nI T'.length).toInt64), k1 + 0, z1 + 0) := Bk_s e1 rfl
      obtain ⟨k, z, er, hk, hz⟩ := hG (mkS (nI b') (nI t') S.y0_8 S.y1_1 S.m2 S.g_2 (nI T'.length) (c') (f') (S.y3_1) (S.m4) (S.g_4) S.g_8 S.g_9 S.y10_2 S.y10_3 S.y11_1 S.y11_2 S.y12_2 S.y12_3 S.g_13 S.m14 S.g_14 (x1) (x2) (x3) (x4) (x5) (Y.g) (Y.a1) (Y.a2) (Y.a3) (Y.b1) (Y.b2) (Y.b3) (Y.d1) (Y.d2) (Y.d3) S.y38_3 (nI T'.length) S.y38_5 S.y38_6 (nI b') (nI t') S.y38_9 (0) S.y38_11 (y1) (y2) (y3) (y4) (y5) S.g_39 (out') (room') (Z.len) (Z.cod) (Z.told) (Z.many) (Z.fi) S.g_47 S.g_48 (vp_updL S.g_49 (0 : Int32).toNatClampNeg (nI T'.length).toInt64)) ⟨I, T', O, b', t', e, h1, h2, h3, rfl, R1, h4, h5, h8, h9, rfl, rfl, rfl, rfl, h14, h15, h16, h17, h18, h19, rfl, hMo, hr⟩
      have hk : k ≤ j + (kap S.m2 + kap c' + kap S.m4 + kap2 S.m14) := hk
      have hz : z ≤ 6 * j + (phi S.m2 + phi c' + phi S.m4 + phi2 S.m14) := hz
      refine ⟨k1 + 0 + k, z1 + 0 + z, ?_, by unfold pk; omega, by unfold pz; omega⟩
      refine Bk_s eA ?_
      refine (Bd_s e2 _).trans ?_
      refine (Bd_s (x := f_Mo_thrown NF 0) rfl _).trans ?_
      (refine (if_pos rfl).trans ?_; refine (if_pos rfl).trans ?_; refine (Ix_s (j := 0) (by omega) (by omega)).trans ?_; refine (if_pos (lg0 S.g_49 _)).trans ?_)
      exact er
end
theorem law_loop {Lx : Nat} {xs nl sl nd sd : Nat → Int32} (hC : CoC flL 288 nl sl 288) (hD : CoC flD 32 nd sd 32) (hLx : Lx ≤ 3072) : ∀ (j i fuel : Nat), Lx < i + 6 * j + 6 → j < fuel → (i = 0 ∨ i ≤ Lx) → Good (LawP Lx xs nl sl nd sd fuel) i j := by
  intro j
  induction j with
  | zero =>
    intro i fuel hi hf hi2 S hS
    obtain ⟨u, rfl⟩ : ∃ u, fuel = u + 1 := ⟨fuel - 1, by omega⟩
    refine ⟨0, 0, ?_, by omega, by omega⟩
    rw [LawP_step]
    refine if_pos ?_
    show nI Lx - 6 < nI i
    by_cases h6 : 6 ≤ Lx
    · ((try simp (disch := omega) only [Int32.le_iff_toInt_le, Int32.lt_iff_toInt_lt, ← Int32.toInt_inj, nI_toInt, nI_addL, nI_Ladd, nI_mulL, nI_Lmul, nI_add, nI_subL, nI_Lsub, nI_sub, Int32.reduceToInt, m1_toInt, ne_eq, Int32.reduceMul, Int32.reduceAdd, Int32.reduceSub]) <;> omega)
    · have : Lx = 0 ∨ Lx = 1 ∨ Lx = 2 ∨ Lx = 3 ∨ Lx = 4 ∨ Lx = 5 := by omega
      have hneg : (nI Lx - 6).toInt < 0 := by rcases this with rfl | rfl | rfl | rfl | rfl | rfl <;> decide
      rw [Int32.lt_iff_toInt_lt, nI_toInt (by omega)]
      omega
  | succ j ih =>
    intro i fuel hi hf hi2 S hS
    obtain ⟨u, rfl⟩ : ∃ u, fuel = u + 1 := ⟨fuel - 1, by omega⟩
    rw [LawP_step]
    by_cases hend : Lx < i + 6
    · refine ⟨0, 0, ?_, by omega, by omega⟩
      refine if_pos ?_
      show nI Lx - 6 < nI i
      by_cases h6 : 6 ≤ Lx
      · ((try simp (disch := omega) only [Int32.le_iff_toInt_le, Int32.lt_iff_toInt_lt, ← Int32.toInt_inj, nI_toInt, nI_addL, nI_Ladd, nI_mulL, nI_Lmul, nI_add, nI_subL, nI_Lsub, nI_sub, Int32.reduceToInt, m1_toInt, ne_eq, Int32.reduceMul, Int32.reduceAdd, Int32.reduceSub]) <;> omega)
      · have : Lx = 0 ∨ Lx = 1 ∨ Lx = 2 ∨ Lx = 3 ∨ Lx = 4 ∨ Lx = 5 := by omega
        have hneg : (nI Lx - 6).toInt < 0 := by rcases this with rfl | rfl | rfl | rfl | rfl | rfl <;> decide
        rw [Int32.lt_iff_toInt_lt, nI_toInt (by omega)]
        omega
    · have hi6 : i + 6 ≤ Lx := by omega
      have hG := ih (i + 6) u (by omega) (by omega) (Or.inr hi6)
      have e0 : ¬ (Int32.ofNat Lx - 6 < nI i) := by
        show ¬ (nI Lx - 6 < nI i)
        rw [show nI Lx - 6 = nI (Lx - 6) from nI_sub (b := 6) (by omega)]
        exact nI_nlt (by omega) (by omega)
      rw [if_neg e0, Ix_s (by omega) (by omega), Lt_s]
      by_cases c0 : xs (nI i).toNatClampNeg &&& 15 = 0
      · rw [if_pos c0]
        exact law_0 hi6 hLx hG hS
      · rw [if_neg c0]
        by_cases c1 : xs (nI i).toNatClampNeg &&& 15 = 1
        · rw [if_pos c1]
          exact law_1 hi6 hLx hG hS
        · rw [if_neg c1]
          by_cases c2 : xs (nI i).toNatClampNeg &&& 15 = 2
          · rw [if_pos c2]
            exact law_2 hi6 hLx hG hS
          · rw [if_neg c2]
            by_cases c3 : xs (nI i).toNatClampNeg &&& 15 = 3
            · rw [if_pos c3]
              exact law_3 hi6 hLx hG hS
            · rw [if_neg c3]
              by_cases c4 : xs (nI i).toNatClampNeg &&& 15 = 4
              · rw [if_pos c4]
                exact law_4 hC hD hi6 hLx hG hS
              · rw [if_neg c4]
                by_cases c5 : xs (nI i).toNatClampNeg &&& 15 = 5
                · rw [if_pos c5]
                  exact law_5 hi6 hLx hG hS
                · rw [if_neg c5]
                  by_cases c6 : xs (nI i).toNatClampNeg &&& 15 = 6
                  · rw [if_pos c6]
                    exact law_6 hi6 hLx hG hS
                  · rw [if_neg c6]
                    by_cases c7 : xs (nI i).toNatClampNeg &&& 15 = 7
                    · rw [if_pos c7]
                      exact law_7 hi6 hLx hG hS
                    · rw [if_neg c7]
                      by_cases c8 : xs (nI i).toNatClampNeg &&& 15 = 8
                      · rw [if_pos c8]
                        exact law_8 hi6 hLx hG hS
                      · rw [if_neg c8, Lt_s, show nI i + 6 = nI (i + 6) from nI_add i 6]
                        obtain ⟨k, z, er, hk, hz⟩ := hG S hS
                        exact ⟨k, z, er, by omega, by omega⟩
