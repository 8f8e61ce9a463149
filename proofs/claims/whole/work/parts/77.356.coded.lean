/-! a block's symbols (ours) -/
def cdS (ll ld : Nat → Nat) (L : List Int32) : Nat → Nat → List Int32 → Option (Nat × List Int32)
  | 0, _, _ => none
  | j + 1, q, T => if 8 * L.length < q then none else match hx ll 288 L q with
    | none => none
    | some (s, q1) => if 8 * L.length < q1 then none else if s = 256 then some (q1, T) else if s < 256 then (if 65536 ≤ T.length then none else cdS ll ld L j q1 (T ++ [bB (nI s)])) else match prS ld L q1 (s - 257) T with
      | none => none
      | some (q2, T2) => cdS ll ld L j q2 T2
theorem cdS_out {ll ld : Nat → Nat} {L : List Int32} {q : Nat} (h : 8 * L.length ≤ q) (T : List Int32) : ∀ j, cdS ll ld L j q T = none
  | 0 => rfl
  | j + 1 => by
    have eS : cdS ll ld L (j + 1) q T = (if 8 * L.length < q then none else match hx ll 288 L q with
          | none => none
          | some (s, q1) => if 8 * L.length < q1 then none else if s = 256 then some (q1, T) else if s < 256 then (if 65536 ≤ T.length then none else cdS ll ld L j q1 (T ++ [bB (nI s)])) else match prS ld L q1 (s - 257) T with
            | none => none
            | some (q2, T2) => cdS ll ld L j q2 T2) := rfl
    rw [eS]
    split
    · rfl
    · cases hh : hx ll 288 L q with
      | none => rfl
      | some v =>
        obtain ⟨s, q1⟩ := v
        have := (hxF_q ll 288 L _ _ _ _ _ _ hh).1
        show (if 8 * L.length < q1 then none else _) = none
        rw [if_pos (by omega)]
theorem prS_q {ld : Nat → Nat} {L : List Int32} {q i : Nat} {T : List Int32} {q2 : Nat} {T2 : List Int32} (h : prS ld L q i T = some (q2, T2)) : q ≤ q2 := by
  unfold prS at h
  split at h
  · cases h
  · cases hh : hx ld 32 L (q + tn 1 i) with
    | none => rw [hh] at h; cases h
    | some v =>
      obtain ⟨t, q3⟩ := v
      have := (hxF_q ld 32 L _ _ _ _ _ _ hh).1
      rw [hh] at h
      have h : (if 30 ≤ t then none else if 8 * L.length < q3 + tn 3 t then none else if T.length < tn 2 t + tk L q3 (tn 3 t) then none else
    if 65536 < T.length + (tn 0 i + tk L q (tn 1 i)) then none else some (q3 + tn 3 t, cpy (tn 2 t + tk L q3 (tn 3 t)) (tn 0 i + tk L q (tn 1 i)) T)) = some (q2, T2) := h
      split at h
      · cases h
      · split at h
        · cases h
        · split at h
          · cases h
          · split at h
            · cases h
            · cases h
              omega
def OKc (B : Nat) (tg : Nat) (q' : Nat) (T' : List Int32) (S : Option (Nat × List Int32)) : Prop := (tg = 0 ∧ q' ≤ B ∧ S = some (q', T')) ∨ ((tg = 1 ∨ (tg = 0 ∧ B < q')) ∧ S = none)
theorem Un_coded_loop {L : List Int32} {c n : Nat} {f : Nat → Int32} (hR : Rw c f L) (hl : L.length = n) (hn : n ≤ 65536) {ll ld : Nat → Nat} {zl zd : Nat} {nl sl nd sd : Nat → Int32} (hC : CoC ll 288 nl sl zl) (hD : CoC ld 32 nd sd zd) :
    ∀ (j i q fuel : Nat) (T : List Int32) (ct : Nat) (ft : Nat → Int32), 8 * n < q + j → i ≤ q → i ≤ 524288 → j < fuel → Rw ct ft T → T.length ≤ 65536 →
    ∃ (tg q' : Nat) (T' : List Int32) (c' : Nat) (f' : Nat → Int32) (k z : Nat), lp_Un_readCoded_3 NF (nI (8 * n)) c f 16 nl zl sl 16 nd zd sd fuel (nI i) (nI (pos n q)) (flg n q) (nI T.length) ct ft = some ((tg, nI (pos n q'), flg n q', nI T'.length, c', f'), k, z) ∧
      q ≤ q' ∧ Rw c' f' T' ∧ T'.length ≤ 65536 ∧ k + kap c' ≤ kap ct ∧ z + phi c' ≤ phi ct ∧ OKc (8 * n) tg q' T' (cdS ll ld L j q T) := by
  intro j
  induction j with
  | zero =>
    intro i q fuel T ct ft hq hi hi2 hf hT hTl
    obtain ⟨u, rfl⟩ : ∃ u, fuel = u + 1 := ⟨fuel - 1, by omega⟩
    refine ⟨1, q, T, ct, ft, 0, 0, ?_, Nat.le_refl _, hT, hTl, by omega, by omega, Or.inr ⟨Or.inl rfl, rfl⟩⟩
    rw [ls_Un_readCoded_3]
    unfold lb_Un_readCoded_3
    split
    · rfl
    · rw [flg_out (by omega)]
      rfl
  | succ j ih =>
    intro i q fuel T ct ft hq hi hi2 hf hT hTl
    obtain ⟨u, rfl⟩ : ∃ u, fuel = u + 1 := ⟨fuel - 1, by omega⟩
    by_cases hi3 : 524288 ≤ i
    · refine ⟨1, q, T, ct, ft, 0, 0, ?_, Nat.le_refl _, hT, hTl, by omega, by omega, Or.inr ⟨Or.inl rfl, cdS_out (by omega) T _⟩⟩
      rw [ls_Un_readCoded_3]
      unfold lb_Un_readCoded_3
      (refine (if_pos ?_).trans ?_; focus ((try simp (disch := omega) only [Int32.le_iff_toInt_le, Int32.lt_iff_toInt_lt, ← Int32.toInt_inj, nI_toInt, nI_addL, nI_Ladd, nI_mulL, nI_Lmul, nI_add, nI_subL, nI_Lsub, nI_sub, Int32.reduceToInt, m1_toInt, ne_eq, Int32.reduceMul, Int32.reduceAdd, Int32.reduceSub]) <;> omega)); rfl
    · by_cases hq8 : 8 * n < q
      · refine ⟨1, q, T, ct, ft, 0, 0, ?_, Nat.le_refl _, hT, hTl, by omega, by omega, Or.inr ⟨Or.inl rfl, cdS_out (by omega) T _⟩⟩
        rw [ls_Un_readCoded_3]
        unfold lb_Un_readCoded_3
        (refine (if_neg ?_).trans ?_; focus ((try simp (disch := omega) only [Int32.le_iff_toInt_le, Int32.lt_iff_toInt_lt, ← Int32.toInt_inj, nI_toInt, nI_addL, nI_Ladd, nI_mulL, nI_Lmul, nI_add, nI_subL, nI_Lsub, nI_sub, Int32.reduceToInt, m1_toInt, ne_eq, Int32.reduceMul, Int32.reduceAdd, Int32.reduceSub]) <;> omega))
        rw [flg_out hq8]
        rfl
      · obtain ⟨x, q1, ex, hq1, hx1⟩ := Co_next hR hl hn hC q
        have step : ∀ y : Option ((Nat × Int32 × Int32 × Int32 × Nat × (Nat → Int32)) × Nat × Nat), (if x = (256 : Int32) then some ((0, nI (pos n q1), flg n q1, nI T.length, ct, ft), 0, 0) else if x ≤ (256 : Int32) then (if x < 0 then some ((1, nI (pos n q1), flg n q1, nI T.length, ct, ft), 0, 0) else if nI T.length < (65536 : Int32) then (Bk (f_Row_add NF (nI T.length) ct ft x) fun r26 => lp_Un_readCoded_3 NF (nI (8 * n)) c f 16 nl zl sl 16 nd zd sd u (nI (i + 1)) (nI (pos n q1)) (flg n q1) r26.1 r26.2.1 r26.2.2) else some ((1, nI (pos n q1), flg n q1, nI T.length, ct, ft), 0, 0)) else (Bk (f_Un_readPair NF (nI (8 * n)) (nI (pos n q1)) (flg n q1) c f 16 nd zd sd (nI T.length) ct ft (x - 257)) fun r29 => if r29.1 = 0 then some ((1, r29.2.1, r29.2.2.1, r29.2.2.2.1, r29.2.2.2.2.1, r29.2.2.2.2.2), 0, 0) else lp_Un_readCoded_3 NF (nI (8 * n)) c f 16 nl zl sl 16 nd zd sd u (nI (i + 1)) r29.2.1 r29.2.2.1 r29.2.2.2.1 r29.2.2.2.2.1 r29.2.2.2.2.2)) = y →
            lp_Un_readCoded_3 NF (nI (8 * n)) c f 16 nl zl sl 16 nd zd sd (u + 1) (nI i) (nI (pos n q)) (flg n q) (nI T.length) ct ft = y := by
          intro y hy
          rw [ls_Un_readCoded_3]
          unfold lb_Un_readCoded_3
          (refine (if_neg ?_).trans ?_; focus ((try simp (disch := omega) only [Int32.le_iff_toInt_le, Int32.lt_iff_toInt_lt, ← Int32.toInt_inj, nI_toInt, nI_addL, nI_Ladd, nI_mulL, nI_Lmul, nI_add, nI_subL, nI_Lsub, nI_sub, Int32.reduceToInt, m1_toInt, ne_eq, Int32.reduceMul, Int32.reduceAdd, Int32.reduceSub]) <;> omega))
          have er : f_BR_ranOut NF (flg n q) = some 0 := by
            rw [flg_in (by omega)]
            rfl
          rw [Bd_s er]
          refine (if_pos rfl).trans ?_
          rw [Bd_s ex]
          unfold f_Row_length
          simp only [Lt_s, nI_1]
          exact hy
        have eS : cdS ll ld L (j + 1) q T = (if 8 * L.length < q then none else match hx ll 288 L q with
          | none => none
          | some (s, q1) => if 8 * L.length < q1 then none else if s = 256 then some (q1, T) else if s < 256 then (if 65536 ≤ T.length then none else cdS ll ld L j q1 (T ++ [bB (nI s)])) else match prS ld L q1 (s - 257) T with
            | none => none
            | some (q2, T2) => cdS ll ld L j q2 T2) := rfl
        rw [if_neg (by omega)] at eS
        rcases hx1 with ⟨hN, rfl⟩ | ⟨s, hS, hs, rfl⟩
        · rw [hN] at eS
          refine ⟨1, q1, T, ct, ft, 0, 0, step _ ?_, by omega, hT, hTl, by omega, by omega, Or.inr ⟨Or.inl rfl, eS⟩⟩
          rfl
        · rw [hS] at eS
          have eS : cdS ll ld L (j + 1) q T = (if 8 * L.length < q1 then none else if s = 256 then some (q1, T) else if s < 256 then (if 65536 ≤ T.length then none else cdS ll ld L j q1 (T ++ [bB (nI s)])) else match prS ld L q1 (s - 257) T with
            | none => none
            | some (q2, T2) => cdS ll ld L j q2 T2) := eS
          rw [hl] at eS
          by_cases h256 : s = 256
          · rw [if_pos h256] at eS
            refine ⟨0, q1, T, ct, ft, 0, 0, step _ ?_, by omega, hT, hTl, by omega, by omega, ?_⟩
            · rw [h256]
              rfl
            · by_cases h8 : 8 * n < q1
              · rw [if_pos h8] at eS
                exact Or.inr ⟨Or.inr ⟨rfl, h8⟩, eS⟩
              · rw [if_neg h8] at eS
                exact Or.inl ⟨rfl, by omega, eS⟩
          · rw [if_neg h256] at eS
            by_cases hlt : s < 256
            · rw [if_pos hlt] at eS
              by_cases hful : 65536 ≤ T.length
              · rw [if_pos hful] at eS
                refine ⟨1, q1, T, ct, ft, 0, 0, step _ ?_, by omega, hT, hTl, by omega, by omega, Or.inr ⟨Or.inl rfl, ?_⟩⟩
                · (refine (if_neg ?_).trans ?_; focus ((try simp (disch := omega) only [Int32.le_iff_toInt_le, Int32.lt_iff_toInt_lt, ← Int32.toInt_inj, nI_toInt, nI_addL, nI_Ladd, nI_mulL, nI_Lmul, nI_add, nI_subL, nI_Lsub, nI_sub, Int32.reduceToInt, m1_toInt, ne_eq, Int32.reduceMul, Int32.reduceAdd, Int32.reduceSub]) <;> omega)); (refine (if_pos ?_).trans ?_; focus ((try simp (disch := omega) only [Int32.le_iff_toInt_le, Int32.lt_iff_toInt_lt, ← Int32.toInt_inj, nI_toInt, nI_addL, nI_Ladd, nI_mulL, nI_Lmul, nI_add, nI_subL, nI_Lsub, nI_sub, Int32.reduceToInt, m1_toInt, ne_eq, Int32.reduceMul, Int32.reduceAdd, Int32.reduceSub]) <;> omega)); (refine (if_neg ?_).trans ?_; focus ((try simp (disch := omega) only [Int32.le_iff_toInt_le, Int32.lt_iff_toInt_lt, ← Int32.toInt_inj, nI_toInt, nI_addL, nI_Ladd, nI_mulL, nI_Lmul, nI_add, nI_subL, nI_Lsub, nI_sub, Int32.reduceToInt, m1_toInt, ne_eq, Int32.reduceMul, Int32.reduceAdd, Int32.reduceSub]) <;> omega)); (refine (if_neg ?_).trans ?_; focus ((try simp (disch := omega) only [Int32.le_iff_toInt_le, Int32.lt_iff_toInt_lt, ← Int32.toInt_inj, nI_toInt, nI_addL, nI_Ladd, nI_mulL, nI_Lmul, nI_add, nI_subL, nI_Lsub, nI_sub, Int32.reduceToInt, m1_toInt, ne_eq, Int32.reduceMul, Int32.reduceAdd, Int32.reduceSub]) <;> omega)); rfl
                · rw [eS]
                  split <;> rfl
              · rw [if_neg hful] at eS
                obtain ⟨c1, f1, k1, z1, e1, R1, hk1, hz1⟩ := Rw_add NF hT (n := T.length) rfl (by omega) (nI s)
                obtain ⟨tg, q', T', c', f', k2, z2, e2, hq', R2, hT2, hk2, hz2, hO⟩ := ih (i + 1) q1 u (T ++ [bB (nI s)]) c1 f1 (by omega) (by omega) (by omega) (by omega) R1 (by rw [List.length_append, List.length_singleton]; omega)
                rw [show (T ++ [bB (nI s)]).length = T.length + 1 by rw [List.length_append, List.length_singleton]] at e2
                refine ⟨tg, q', T', c', f', k1 + k2, z1 + z2, step _ ?_, by omega, R2, hT2, by omega, by omega, ?_⟩
                · (refine (if_neg ?_).trans ?_; focus ((try simp (disch := omega) only [Int32.le_iff_toInt_le, Int32.lt_iff_toInt_lt, ← Int32.toInt_inj, nI_toInt, nI_addL, nI_Ladd, nI_mulL, nI_Lmul, nI_add, nI_subL, nI_Lsub, nI_sub, Int32.reduceToInt, m1_toInt, ne_eq, Int32.reduceMul, Int32.reduceAdd, Int32.reduceSub]) <;> omega)); (refine (if_pos ?_).trans ?_; focus ((try simp (disch := omega) only [Int32.le_iff_toInt_le, Int32.lt_iff_toInt_lt, ← Int32.toInt_inj, nI_toInt, nI_addL, nI_Ladd, nI_mulL, nI_Lmul, nI_add, nI_subL, nI_Lsub, nI_sub, Int32.reduceToInt, m1_toInt, ne_eq, Int32.reduceMul, Int32.reduceAdd, Int32.reduceSub]) <;> omega)); (refine (if_neg ?_).trans ?_; focus ((try simp (disch := omega) only [Int32.le_iff_toInt_le, Int32.lt_iff_toInt_lt, ← Int32.toInt_inj, nI_toInt, nI_addL, nI_Ladd, nI_mulL, nI_Lmul, nI_add, nI_subL, nI_Lsub, nI_sub, Int32.reduceToInt, m1_toInt, ne_eq, Int32.reduceMul, Int32.reduceAdd, Int32.reduceSub]) <;> omega)); (refine (if_pos ?_).trans ?_; focus ((try simp (disch := omega) only [Int32.le_iff_toInt_le, Int32.lt_iff_toInt_lt, ← Int32.toInt_inj, nI_toInt, nI_addL, nI_Ladd, nI_mulL, nI_Lmul, nI_add, nI_subL, nI_Lsub, nI_sub, Int32.reduceToInt, m1_toInt, ne_eq, Int32.reduceMul, Int32.reduceAdd, Int32.reduceSub]) <;> omega))
                  exact Bk_s e1 e2
                · by_cases h8 : 8 * n < q1
                  · rw [if_pos h8] at eS
                    rcases hO with ⟨_, hh, _⟩ | ⟨hh, _⟩
                    · omega
                    · exact Or.inr ⟨hh, eS⟩
                  · rw [if_neg h8] at eS
                    rw [eS]
                    exact hO
            · rw [if_neg hlt] at eS
              obtain ⟨fl, q2, T2, c1, f1, k1, z1, e1, hq2, R1, hT2, hk1, hz1, hO⟩ := Un_pair hR hl hn hD q1 (i := s - 257) (by omega) hT hTl
              have e1 : f_Un_readPair NF (nI (8 * n)) (nI (pos n q1)) (flg n q1) c f 16 nd zd sd (nI T.length) ct ft (nI s - 257) = some ((fl, nI (pos n q2), flg n q2, nI T2.length, c1, f1), k1, z1) := by
                rw [show nI s - 257 = nI (s - 257) from nI_sub (b := 257) (by omega)]
                exact e1
              have hsn : s ≠ 256 := h256
              by_cases hfl : fl = 0
              · refine ⟨1, q2, T2, c1, f1, k1 + 0, z1 + 0, step _ ?_, by omega, R1, hT2, hk1, hz1, Or.inr ⟨Or.inl rfl, ?_⟩⟩
                · (refine (if_neg ?_).trans ?_; focus ((try simp (disch := omega) only [Int32.le_iff_toInt_le, Int32.lt_iff_toInt_lt, ← Int32.toInt_inj, nI_toInt, nI_addL, nI_Ladd, nI_mulL, nI_Lmul, nI_add, nI_subL, nI_Lsub, nI_sub, Int32.reduceToInt, m1_toInt, ne_eq, Int32.reduceMul, Int32.reduceAdd, Int32.reduceSub]) <;> omega)); (refine (if_neg ?_).trans ?_; focus ((try simp (disch := omega) only [Int32.le_iff_toInt_le, Int32.lt_iff_toInt_lt, ← Int32.toInt_inj, nI_toInt, nI_addL, nI_Ladd, nI_mulL, nI_Lmul, nI_add, nI_subL, nI_Lsub, nI_sub, Int32.reduceToInt, m1_toInt, ne_eq, Int32.reduceMul, Int32.reduceAdd, Int32.reduceSub]) <;> omega))
                  refine Bk_s e1 ?_
                  exact if_pos hfl
                · rcases hO with ⟨hh, _⟩ | ⟨_, hh⟩
                  · rw [hfl] at hh
                    exact absurd hh (by decide)
                  · rw [hh] at eS
                    rw [eS]
                    split <;> rfl
              · obtain ⟨tg, q', T', c', f', k2, z2, e2, hq', R2, hT3, hk2, hz2, hO2⟩ := ih (i + 1) q2 u T2 c1 f1 (by omega) (by omega) (by omega) (by omega) R1 hT2
                refine ⟨tg, q', T', c', f', k1 + k2, z1 + z2, step _ ?_, by omega, R2, hT3, by omega, by omega, ?_⟩
                · (refine (if_neg ?_).trans ?_; focus ((try simp (disch := omega) only [Int32.le_iff_toInt_le, Int32.lt_iff_toInt_lt, ← Int32.toInt_inj, nI_toInt, nI_addL, nI_Ladd, nI_mulL, nI_Lmul, nI_add, nI_subL, nI_Lsub, nI_sub, Int32.reduceToInt, m1_toInt, ne_eq, Int32.reduceMul, Int32.reduceAdd, Int32.reduceSub]) <;> omega)); (refine (if_neg ?_).trans ?_; focus ((try simp (disch := omega) only [Int32.le_iff_toInt_le, Int32.lt_iff_toInt_lt, ← Int32.toInt_inj, nI_toInt, nI_addL, nI_Ladd, nI_mulL, nI_Lmul, nI_add, nI_subL, nI_Lsub, nI_sub, Int32.reduceToInt, m1_toInt, ne_eq, Int32.reduceMul, Int32.reduceAdd, Int32.reduceSub]) <;> omega))
                  refine Bk_s e1 ?_
                  exact (if_neg hfl).trans e2
                · rcases hO with ⟨_, hh, hP⟩ | ⟨hh, hP⟩
                  · rw [hP, if_neg (by omega)] at eS
                    rw [eS]
                    exact hO2
                  · have h8 : 8 * n < q2 := by
                      rcases hh with hh | hh
                      · exact absurd hh hfl
                      · exact hh.2
                    rw [hP] at eS
                    have eS : cdS ll ld L (j + 1) q T = none := by
                      rw [eS]
                      split <;> rfl
                    rcases hO2 with ⟨_, hh, _⟩ | ⟨hh, _⟩
                    · omega
                    · exact Or.inr ⟨hh, eS⟩
theorem Un_coded {L : List Int32} {c n : Nat} {f : Nat → Int32} (hR : Rw c f L) (hl : L.length = n) (hn : n ≤ 65536) {ll ld : Nat → Nat} {zl zd : Nat} {nl sl nd sd : Nat → Int32} (hC : CoC ll 288 nl sl zl) (hD : CoC ld 32 nd sd zd) (q : Nat) {T : List Int32} {ct : Nat} {ft : Nat → Int32} (hT : Rw ct ft T) (hTl : T.length ≤ 65536) :
    ∃ (fl : Int32) (q' : Nat) (T' : List Int32) (c' : Nat) (f' : Nat → Int32) (k z : Nat), f_Un_readCoded NF (nI (8 * n)) (nI (pos n q)) (flg n q) c f 16 nl zl sl (nI T.length) ct ft 16 nd zd sd = some ((fl, nI (pos n q'), flg n q', nI T'.length, c', f'), k, z) ∧
      q ≤ q' ∧ Rw c' f' T' ∧ T'.length ≤ 65536 ∧ k + kap c' ≤ kap ct ∧ z + phi c' ≤ phi ct ∧ (fl = 0 ∨ fl = 1) ∧ OKs (8 * n) fl q' T' (cdS ll ld L (8 * n + 1) q T) := by
  obtain ⟨tg, q', T', c', f', k, z, e, h1, h2, h3, h4, h5, h6⟩ := Un_coded_loop hR hl hn hC hD (8 * n + 1) 0 q NF T ct ft (by omega) (by omega) (by omega) (Nat.lt_of_le_of_lt (show 8 * n + 1 ≤ 524289 by omega) (by decide)) hT hTl
  have e : lp_Un_readCoded_3 NF (nI (8 * n)) c f 16 nl zl sl 16 nd zd sd NF 0 (nI (pos n q)) (flg n q) (nI T.length) ct ft = some ((tg, nI (pos n q'), flg n q', nI T'.length, c', f'), k, z) := e
  by_cases ht : tg = 0
  · refine ⟨1, q', T', c', f', k + 0, z + 0, ?_, h1, h2, h3, h4, h5, Or.inr rfl, ?_⟩
    · unfold f_Un_readCoded
      refine Bk_s e ?_
      exact if_pos ht
    · rcases h6 with ⟨_, a, b⟩ | ⟨a, b⟩
      · exact Or.inl ⟨rfl, a, b⟩
      · rcases a with a | a
        · omega
        · exact Or.inr ⟨Or.inr ⟨rfl, a.2⟩, b⟩
  · refine ⟨0, q', T', c', f', k + 0, z + 0, ?_, h1, h2, h3, h4, h5, Or.inl rfl, ?_⟩
    · unfold f_Un_readCoded
      refine Bk_s e ?_
      exact if_neg ht
    · rcases h6 with ⟨a, _⟩ | ⟨_, b⟩
      · exact absurd a ht
      · exact Or.inr ⟨Or.inl rfl, b⟩
theorem Mo_signs_1 {n p F : Nat} {g len cod room : Nat → Int32} (i1 : Int32) (fuel : Nat) : lp_Mo_signs_2 NF (nI n) 65536 g 65536 340 len 340 cod (fuel + 1) i1 (nI p) (nI F) 1 room = some (nI p, nI F, 1, room) := by
  rw [ls_Mo_signs_2]
  unfold lb_Mo_signs_2
  exact if_neg (by decide)
theorem Mo_signs_loop {L : List Int32} {n : Nat} {g : Nat → Int32} (hM : Md g L) (hl : L.length = n) (hn : n ≤ 65536) {ll ld : Nat → Nat} {len cod : Nat → Int32} (hC : CoR ll 0 288 len cod) (hD : CoR ld 288 32 len cod) :
    ∀ (j q fuel : Nat) (i1 : Int32) (T : List Int32) (room : Nat → Int32), 8 * n < q + j → q ≤ 8 * n → j + 1 < fuel → i1 ≠ 256 → Md room T → T.length ≤ 65536 →
    ∃ (p' F : Nat) (w' : Int32) (room' : Nat → Int32), lp_Mo_signs_2 NF (nI n) 65536 g 65536 340 len 340 cod fuel i1 (nI q) (nI T.length) 0 room = some (nI p', nI F, w', room') ∧ OKr (8 * n) p' F w' room' (cdS ll ld L j q T) := by
  intro j
  induction j with
  | zero =>
    intro q fuel i1 T room hq hq8
    omega
  | succ j ih =>
    intro q fuel i1 T room hq hq8 hf hi hT hTl
    obtain ⟨u, rfl⟩ : ∃ u, fuel = u + 1 + 1 := ⟨fuel - 2, by omega⟩
    have eS : cdS ll ld L (j + 1) q T = (if 8 * L.length < q then none else match hx ll 288 L q with
          | none => none
          | some (s, q1) => if 8 * L.length < q1 then none else if s = 256 then some (q1, T) else if s < 256 then (if 65536 ≤ T.length then none else cdS ll ld L j q1 (T ++ [bB (nI s)])) else match prS ld L q1 (s - 257) T with
            | none => none
            | some (q2, T2) => cdS ll ld L j q2 T2) := rfl
    rw [if_neg (by omega)] at eS
    rcases Mo_sign hM hl hn (by omega) hC hq8 with ⟨s, q1, hS, hlt, hq1, hs, es⟩ | ⟨hN, p', hp', es⟩
    · have es : f_Mo_sign NF (nI n) (nI q) 0 65536 g 340 len 340 cod 0 288 = some (nI s, nI q1, 0) := es
      have step : ∀ y : Option (Int32 × Int32 × Int32 × (Nat → Int32)), (if nI s = (256 : Int32) then some (nI q1, nI T.length, (0 : Int32), room) else if (256 : Int32) ≤ nI s then (Bd (f_Mo_pair NF (nI n) (nI q1) (nI T.length) 0 65536 g 340 len 340 cod 65536 room (nI s)) fun r15 => lp_Mo_signs_2 NF (nI n) 65536 g 65536 340 len 340 cod (u + 1) (nI s) r15.1 r15.2.1 r15.2.2.1 r15.2.2.2) else (Bd (f_Mo_give NF (nI T.length) 0 65536 room (nI s)) fun r16 => lp_Mo_signs_2 NF (nI n) 65536 g 65536 340 len 340 cod (u + 1) (nI s) (nI q1) r16.1 r16.2.1 r16.2.2)) = y →
          lp_Mo_signs_2 NF (nI n) 65536 g 65536 340 len 340 cod (u + 1 + 1) i1 (nI q) (nI T.length) 0 room = y := by
        intro y hy
        rw [ls_Mo_signs_2]
        unfold lb_Mo_signs_2
        refine (if_pos rfl).trans ?_
        refine (if_neg hi).trans ?_
        rw [Bd_s es]
        refine (if_pos rfl).trans ?_
        exact hy
      rw [hS] at eS
      have eS : cdS ll ld L (j + 1) q T = (if 8 * L.length < q1 then none else if s = 256 then some (q1, T) else if s < 256 then (if 65536 ≤ T.length then none else cdS ll ld L j q1 (T ++ [bB (nI s)])) else match prS ld L q1 (s - 257) T with
        | none => none
        | some (q2, T2) => cdS ll ld L j q2 T2) := eS
      rw [if_neg (by omega)] at eS
      by_cases h256 : s = 256
      · rw [if_pos h256] at eS
        refine ⟨q1, T.length, 0, room, step _ ?_, hq1, hTl, hT.1, Or.inl ⟨rfl, T, eS, rfl, hT⟩⟩
        rw [h256]
        rfl
      · rw [if_neg h256] at eS
        have hne : nI s ≠ 256 := by ((try simp (disch := omega) only [Int32.le_iff_toInt_le, Int32.lt_iff_toInt_lt, ← Int32.toInt_inj, nI_toInt, nI_addL, nI_Ladd, nI_mulL, nI_Lmul, nI_add, nI_subL, nI_Lsub, nI_sub, Int32.reduceToInt, m1_toInt, ne_eq, Int32.reduceMul, Int32.reduceAdd, Int32.reduceSub]) <;> omega)
        by_cases hlt2 : s < 256
        · rw [if_pos hlt2] at eS
          by_cases hful : 65536 ≤ T.length
          · rw [if_pos hful] at eS
            refine ⟨q1, 65536, 1, room, step _ ?_, hq1, by omega, hT.1, Or.inr ⟨rfl, eS⟩⟩
            (refine (if_neg ?_).trans ?_; focus ((try simp (disch := omega) only [Int32.le_iff_toInt_le, Int32.lt_iff_toInt_lt, ← Int32.toInt_inj, nI_toInt, nI_addL, nI_Ladd, nI_mulL, nI_Lmul, nI_add, nI_subL, nI_Lsub, nI_sub, Int32.reduceToInt, m1_toInt, ne_eq, Int32.reduceMul, Int32.reduceAdd, Int32.reduceSub]) <;> omega)); (refine (if_neg ?_).trans ?_; focus ((try simp (disch := omega) only [Int32.le_iff_toInt_le, Int32.lt_iff_toInt_lt, ← Int32.toInt_inj, nI_toInt, nI_addL, nI_Ladd, nI_mulL, nI_Lmul, nI_add, nI_subL, nI_Lsub, nI_sub, Int32.reduceToInt, m1_toInt, ne_eq, Int32.reduceMul, Int32.reduceAdd, Int32.reduceSub]) <;> omega))
            rw [show T.length = 65536 by omega, Bd_s Mo_give_full]
            exact Mo_signs_1 _ _
          · rw [if_neg hful] at eS
            obtain ⟨p', F, w', room', e2, hO⟩ := ih q1 (u + 1) (nI s) (T ++ [bB (nI s)]) _ (by omega) hq1 (by omega) hne (Md_add hT rfl (nI s)) (by rw [List.length_append, List.length_singleton]; omega)
            rw [show (T ++ [bB (nI s)]).length = T.length + 1 by rw [List.length_append, List.length_singleton]] at e2
            refine ⟨p', F, w', room', step _ ?_, by rw [eS]; exact hO⟩
            (refine (if_neg ?_).trans ?_; focus ((try simp (disch := omega) only [Int32.le_iff_toInt_le, Int32.lt_iff_toInt_lt, ← Int32.toInt_inj, nI_toInt, nI_addL, nI_Ladd, nI_mulL, nI_Lmul, nI_add, nI_subL, nI_Lsub, nI_sub, Int32.reduceToInt, m1_toInt, ne_eq, Int32.reduceMul, Int32.reduceAdd, Int32.reduceSub]) <;> omega)); (refine (if_neg ?_).trans ?_; focus ((try simp (disch := omega) only [Int32.le_iff_toInt_le, Int32.lt_iff_toInt_lt, ← Int32.toInt_inj, nI_toInt, nI_addL, nI_Ladd, nI_mulL, nI_Lmul, nI_add, nI_subL, nI_Lsub, nI_sub, Int32.reduceToInt, m1_toInt, ne_eq, Int32.reduceMul, Int32.reduceAdd, Int32.reduceSub]) <;> omega))
            rw [Bd_s (Mo_give_ok hT (by omega) (nI s))]
            exact e2
        · rw [if_neg hlt2] at eS
          obtain ⟨p2, F2, w2, room2, e1, hO⟩ := Mo_pair hM hl hn hD hq1 (i := s - 257) (by omega) hT hTl
          rw [show 257 + (s - 257) = s by omega] at e1
          obtain ⟨hp2, hF2, hr2, hO⟩ := hO
          rcases hO with ⟨rfl, T2, hP, hF, hMd⟩ | ⟨rfl, hP⟩
          · have hqq := prS_q hP
            rw [hP] at eS
            obtain ⟨p', F, w', room', e2, hO⟩ := ih p2 (u + 1) (nI s) T2 room2 (by omega) hp2 (by omega) hne hMd (by omega)
            refine ⟨p', F, w', room', step _ ?_, by rw [eS]; exact hO⟩
            (refine (if_neg ?_).trans ?_; focus ((try simp (disch := omega) only [Int32.le_iff_toInt_le, Int32.lt_iff_toInt_lt, ← Int32.toInt_inj, nI_toInt, nI_addL, nI_Ladd, nI_mulL, nI_Lmul, nI_add, nI_subL, nI_Lsub, nI_sub, Int32.reduceToInt, m1_toInt, ne_eq, Int32.reduceMul, Int32.reduceAdd, Int32.reduceSub]) <;> omega)); (refine (if_pos ?_).trans ?_; focus ((try simp (disch := omega) only [Int32.le_iff_toInt_le, Int32.lt_iff_toInt_lt, ← Int32.toInt_inj, nI_toInt, nI_addL, nI_Ladd, nI_mulL, nI_Lmul, nI_add, nI_subL, nI_Lsub, nI_sub, Int32.reduceToInt, m1_toInt, ne_eq, Int32.reduceMul, Int32.reduceAdd, Int32.reduceSub]) <;> omega))
            rw [Bd_s e1, hF]
            exact e2
          · rw [hP] at eS
            refine ⟨p2, F2, 1, room2, step _ ?_, hp2, hF2, hr2, Or.inr ⟨rfl, eS⟩⟩
            (refine (if_neg ?_).trans ?_; focus ((try simp (disch := omega) only [Int32.le_iff_toInt_le, Int32.lt_iff_toInt_lt, ← Int32.toInt_inj, nI_toInt, nI_addL, nI_Ladd, nI_mulL, nI_Lmul, nI_add, nI_subL, nI_Lsub, nI_sub, Int32.reduceToInt, m1_toInt, ne_eq, Int32.reduceMul, Int32.reduceAdd, Int32.reduceSub]) <;> omega)); (refine (if_pos ?_).trans ?_; focus ((try simp (disch := omega) only [Int32.le_iff_toInt_le, Int32.lt_iff_toInt_lt, ← Int32.toInt_inj, nI_toInt, nI_addL, nI_Ladd, nI_mulL, nI_Lmul, nI_add, nI_subL, nI_Lsub, nI_sub, Int32.reduceToInt, m1_toInt, ne_eq, Int32.reduceMul, Int32.reduceAdd, Int32.reduceSub]) <;> omega))
            rw [Bd_s e1]
            exact Mo_signs_1 _ _
    · have es : f_Mo_sign NF (nI n) (nI q) 0 65536 g 340 len 340 cod 0 288 = some (-1, nI p', 1) := es
      refine ⟨p', T.length, 1, room, ?_, hp', hTl, hT.1, Or.inr ⟨rfl, ?_⟩⟩
      · rw [ls_Mo_signs_2]
        unfold lb_Mo_signs_2
        refine (if_pos rfl).trans ?_
        refine (if_neg hi).trans ?_
        rw [Bd_s es]
        exact if_neg (show ¬ (1 : Int32) = 0 by decide)
      · cases hh : hx ll 288 L q with
        | none => rw [hh] at eS; exact eS
        | some v =>
          obtain ⟨s, q1⟩ := v
          have := hN s q1 hh
          rw [hh] at eS
          have eS : cdS ll ld L (j + 1) q T = (if 8 * L.length < q1 then none else _) := eS
          rw [eS, if_pos (by omega)]
theorem Mo_signs {L : List Int32} {n : Nat} {g : Nat → Int32} (hM : Md g L) (hl : L.length = n) (hn : n ≤ 65536) {ll ld : Nat → Nat} {len cod : Nat → Int32} (hC : CoR ll 0 288 len cod) (hD : CoR ld 288 32 len cod) {q : Nat} (hq : q ≤ 8 * n) {T : List Int32} {room : Nat → Int32} (hT : Md room T) (hTl : T.length ≤ 65536) :
    ∃ (p' F : Nat) (w' : Int32) (room' : Nat → Int32), f_Mo_signs NF (nI n) (nI q) (nI T.length) 0 65536 g 340 len 340 cod 65536 room = some (nI p', nI F, w', room') ∧ OKr (8 * n) p' F w' room' (cdS ll ld L (8 * n + 1) q T) := by
  obtain ⟨p', F, w', room', e, h⟩ := Mo_signs_loop hM hl hn hC hD (8 * n + 1) q NF 0 T room (by omega) hq (Nat.lt_of_le_of_lt (show 8 * n + 1 + 1 ≤ 524290 by omega) (by decide)) (by decide) hT hTl
  exact ⟨p', F, w', room', (Bd_s e _).trans rfl, h⟩
