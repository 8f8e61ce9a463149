/-! pairs of a form (ours) -/
def cpy (d : Nat) : Nat → List Int32 → List Int32
  | 0, T => T
  | k + 1, T => cpy d k (T ++ [T.getD (T.length - d) 0])
theorem cpy_length (d : Nat) : ∀ k T, (cpy d k T).length = T.length + k
  | 0, T => rfl
  | k + 1, T => by
    show (cpy d k (T ++ [T.getD (T.length - d) 0])).length = _
    rw [cpy_length d k, List.length_append, List.length_singleton]
    omega
def prS (ld : Nat → Nat) (L : List Int32) (q i : Nat) (T : List Int32) : Option (Nat × List Int32) :=
  if 29 ≤ i then none else match hx ld 32 L (q + tn 1 i) with
  | none => none
  | some (t, q2) => if 30 ≤ t then none else if 8 * L.length < q2 + tn 3 t then none else if T.length < tn 2 t + tk L q2 (tn 3 t) then none else
    if 65536 < T.length + (tn 0 i + tk L q (tn 1 i)) then none else some (q2 + tn 3 t, cpy (tn 2 t + tk L q2 (tn 3 t)) (tn 0 i + tk L q (tn 1 i)) T)
/-- how the class's answer stands to what is to be answered -/
def OKs (B : Nat) (fl : Int32) (q' : Nat) (T' : List Int32) (S : Option (Nat × List Int32)) : Prop := (fl = 1 ∧ q' ≤ B ∧ S = some (q', T')) ∨ ((fl = 0 ∨ (fl = 1 ∧ B < q')) ∧ S = none)
theorem bB_and (x : Int32) : bB (x &&& 255) = bB x := by
  have := bB_xor x 0
  simpa using this
theorem Un_copy {d : Nat} (hd : 1 ≤ d) {len : Nat} (hlen : len ≤ 66000) : ∀ (j k fuel : Nat) (T : List Int32) (c : Nat) (f : Nat → Int32), j + k = len → j < fuel → Rw c f T → d ≤ T.length → T.length + j ≤ 65536 →
    ∃ (c' : Nat) (f' : Nat → Int32) (kk zz : Nat), lp_Un_readPair_104 NF (nI len) (nI d) fuel (nI k) (nI T.length) c f = some ((nI (cpy d j T).length, c', f'), kk, zz) ∧ Rw c' f' (cpy d j T) ∧ kk + kap c' ≤ kap c ∧ zz + phi c' ≤ phi c := by
  intro j
  induction j with
  | zero =>
    intro k fuel T c f hj hf hR hdT hT
    obtain ⟨u, rfl⟩ : ∃ u, fuel = u + 1 := ⟨fuel - 1, by omega⟩
    refine ⟨c, f, 0, 0, ?_, hR, by omega, by omega⟩
    rw [ls_Un_readPair_104]
    unfold lb_Un_readPair_104
    (refine (if_pos ?_).trans ?_; focus ((try simp (disch := omega) only [Int32.le_iff_toInt_le, Int32.lt_iff_toInt_lt, ← Int32.toInt_inj, nI_toInt, nI_addL, nI_Ladd, nI_mulL, nI_Lmul, nI_add, nI_subL, nI_Lsub, nI_sub, Int32.reduceToInt, m1_toInt, ne_eq, Int32.reduceMul, Int32.reduceAdd, Int32.reduceSub]) <;> omega)); rfl
  | succ j ih =>
    intro k fuel T c f hj hf hR hdT hT
    obtain ⟨u, rfl⟩ : ∃ u, fuel = u + 1 := ⟨fuel - 1, by omega⟩
    obtain ⟨r1, r2, r3, r4, r5⟩ := id hR
    obtain ⟨c1, f1, k1, z1, e1, R1, hk1, hz1⟩ := Rw_add NF hR (n := T.length) rfl (by omega) (f (T.length - d) &&& 255)
    have ex : bB (f (T.length - d) &&& 255) = T.getD (T.length - d) 0 := by
      rw [bB_and, bB_of (r4 _)]
      exact r5 _ (by omega)
    rw [ex] at R1
    obtain ⟨c2, f2, k2, z2, e2, R2, hk2, hz2⟩ := ih (k + 1) u (T ++ [T.getD (T.length - d) 0]) c1 f1 (by omega) (by omega) R1 (by rw [List.length_append, List.length_singleton]; omega) (by rw [List.length_append, List.length_singleton]; omega)
    rw [show (T ++ [T.getD (T.length - d) 0]).length = T.length + 1 by rw [List.length_append, List.length_singleton]] at e2
    refine ⟨c2, f2, k1 + k2, z1 + z2, ?_, R2, by omega, by omega⟩
    rw [ls_Un_readPair_104]
    unfold lb_Un_readPair_104 f_Row_length
    (refine (if_neg ?_).trans ?_; focus ((try simp (disch := omega) only [Int32.le_iff_toInt_le, Int32.lt_iff_toInt_lt, ← Int32.toInt_inj, nI_toInt, nI_addL, nI_Ladd, nI_mulL, nI_Lmul, nI_add, nI_subL, nI_Lsub, nI_sub, Int32.reduceToInt, m1_toInt, ne_eq, Int32.reduceMul, Int32.reduceAdd, Int32.reduceSub]) <;> omega))
    rw [Bd_s rfl, nI_sub (by omega), Bd_s (Row_at_yes NF (by omega) r1 (by omega))]
    refine Bk_s e1 ?_
    rw [Lt_s, nI_1]
    exact e2
theorem tn2_pos : ∀ t, t < 30 → 1 ≤ tn 2 t := by decide
theorem tn2_max : ∀ t, t < 30 → tn 2 t ≤ 24577 := by decide
theorem tn0_max : ∀ t, t < 29 → tn 0 t ≤ 258 := by decide
theorem Un_pair {L : List Int32} {c n : Nat} {f : Nat → Int32} (hR : Rw c f L) (hl : L.length = n) (hn : n ≤ 65536) {ld : Nat → Nat} {z : Nat} {num sym : Nat → Int32} (hC : CoC ld 32 num sym z) (q : Nat) {i : Nat} (hi : i < 31) {T : List Int32} {ct : Nat} {ft : Nat → Int32} (hT : Rw ct ft T) (hTl : T.length ≤ 65536) :
    ∃ (fl : Int32) (q' : Nat) (T' : List Int32) (c' : Nat) (f' : Nat → Int32) (k zz : Nat), f_Un_readPair NF (nI (8 * n)) (nI (pos n q)) (flg n q) c f 16 num z sym (nI T.length) ct ft (nI i) = some ((fl, nI (pos n q'), flg n q', nI T'.length, c', f'), k, zz) ∧
      q ≤ q' ∧ Rw c' f' T' ∧ T'.length ≤ 65536 ∧ k + kap c' ≤ kap ct ∧ zz + phi c' ≤ phi ct ∧ OKs (8 * n) fl q' T' (prS ld L q i T) := by
  unfold f_Un_readPair prS
  by_cases h29 : 29 ≤ i
  · refine ⟨0, q, T, ct, ft, 0, 0, ?_, Nat.le_refl _, hT, hTl, by omega, by omega, Or.inr ⟨Or.inl rfl, ?_⟩⟩
    · (refine (if_neg ?_).trans ?_; focus ((try simp (disch := omega) only [Int32.le_iff_toInt_le, Int32.lt_iff_toInt_lt, ← Int32.toInt_inj, nI_toInt, nI_addL, nI_Ladd, nI_mulL, nI_Lmul, nI_add, nI_subL, nI_Lsub, nI_sub, Int32.reduceToInt, m1_toInt, ne_eq, Int32.reduceMul, Int32.reduceAdd, Int32.reduceSub]) <;> omega)); rfl
    · rw [if_pos h29]
  · rw [if_neg h29]
    have t1 := tn1_le i (by omega)
    have b0 := tn0_max i (by omega)
    have hk0 := tk_lt L q (tn 1 i)
    have hk0' : 2 ^ tn 1 i ≤ 2 ^ 5 := Nat.pow_le_pow_right (by decide) t1
    have e4 := BR_tq hR hl hn q (k := tn 1 i) (by omega)
    obtain ⟨x, q2, ex, hq2, hx⟩ := Co_next hR hl hn hC (q + tn 1 i)
    have step : ∀ y : Option ((Int32 × Int32 × Int32 × Int32 × Nat × (Nat → Int32)) × Nat × Nat), (Bd (f_Co_next NF (nI (8 * n)) (nI (pos n (q + tn 1 i))) (flg n (q + tn 1 i)) c f 16 num z sym) fun r6 =>
        if r6.1 < 0 then some ((0, r6.2.1, r6.2.2, nI T.length, ct, ft), 0, 0) else if r6.1 < (30 : Int32) then (Ix r6.1 30 <| Ix r6.1 30 <| Bd (f_BR_take NF (nI (8 * n)) r6.2.1 r6.2.2 c f (tb 3 (r6.1).toNatClampNeg)) fun r11 => Lt ((tb 2 (r6.1).toNatClampNeg) + r11.1) fun v12 => Bd (f_Row_length NF (nI T.length)) fun r13 => if r13 < v12 then some ((0, r11.2.1, r11.2.2, nI T.length, ct, ft), 0, 0) else (Bd (f_Row_length NF (nI T.length)) fun r15 => if (r15 + nI (tn 0 i + tk L q (tn 1 i))) ≤ (65536 : Int32) then (Bk (lp_Un_readPair_104 NF (nI (tn 0 i + tk L q (tn 1 i))) v12 NF 0 (nI T.length) ct ft) fun r29 => some ((1, r11.2.1, r11.2.2, r29.1, r29.2.1, r29.2.2), 0, 0)) else some ((0, r11.2.1, r11.2.2, nI T.length, ct, ft), 0, 0))) else some ((0, r6.2.1, r6.2.2, nI T.length, ct, ft), 0, 0)) = y →
      (if nI i < (29 : Int32) then (Ix (nI i) 29 <| Ix (nI i) 29 <| Bd (f_BR_take NF (nI (8 * n)) (nI (pos n q)) (flg n q) c f (tb 1 (nI i).toNatClampNeg)) fun r4 => Lt ((tb 0 (nI i).toNatClampNeg) + r4.1) fun v5 => Bd (f_Co_next NF (nI (8 * n)) r4.2.1 r4.2.2 c f 16 num z sym) fun r6 =>
        if r6.1 < 0 then some ((0, r6.2.1, r6.2.2, nI T.length, ct, ft), 0, 0) else if r6.1 < (30 : Int32) then (Ix r6.1 30 <| Ix r6.1 30 <| Bd (f_BR_take NF (nI (8 * n)) r6.2.1 r6.2.2 c f (tb 3 (r6.1).toNatClampNeg)) fun r11 => Lt ((tb 2 (r6.1).toNatClampNeg) + r11.1) fun v12 => Bd (f_Row_length NF (nI T.length)) fun r13 => if r13 < v12 then some ((0, r11.2.1, r11.2.2, nI T.length, ct, ft), 0, 0) else (Bd (f_Row_length NF (nI T.length)) fun r15 => if (r15 + v5) ≤ (65536 : Int32) then (Bk (lp_Un_readPair_104 NF v5 v12 NF 0 (nI T.length) ct ft) fun r29 => some ((1, r11.2.1, r11.2.2, r29.1, r29.2.1, r29.2.2), 0, 0)) else some ((0, r11.2.1, r11.2.2, nI T.length, ct, ft), 0, 0))) else some ((0, r6.2.1, r6.2.2, nI T.length, ct, ft), 0, 0)) else some ((0, nI (pos n q), flg n q, nI T.length, ct, ft), 0, 0)) = y := by
      intro y hy
      (refine (if_pos ?_).trans ?_; focus ((try simp (disch := omega) only [Int32.le_iff_toInt_le, Int32.lt_iff_toInt_lt, ← Int32.toInt_inj, nI_toInt, nI_addL, nI_Ladd, nI_mulL, nI_Lmul, nI_add, nI_subL, nI_Lsub, nI_sub, Int32.reduceToInt, m1_toInt, ne_eq, Int32.reduceMul, Int32.reduceAdd, Int32.reduceSub]) <;> omega))
      rw [Ix_s (by omega) (by omega), Ix_s (by omega) (by omega), nI_clamp (by omega), tb_tn 1 (by omega) _ (by omega), tb_tn 0 (by omega) _ (by omega), Bd_s e4, Lt_s, nI_add]
      exact hy
    rcases hx with ⟨hN, rfl⟩ | ⟨t, hS, ht, rfl⟩
    · refine ⟨0, q2, T, ct, ft, 0, 0, step _ ?_, by omega, hT, hTl, by omega, by omega, Or.inr ⟨Or.inl rfl, ?_⟩⟩
      · rw [Bd_s ex]
        rfl
      · rw [hN]
    · rw [hS]
      by_cases h30 : 30 ≤ t
      · refine ⟨0, q2, T, ct, ft, 0, 0, step _ ?_, by omega, hT, hTl, by omega, by omega, Or.inr ⟨Or.inl rfl, ?_⟩⟩
        · rw [Bd_s ex]
          (refine (if_neg ?_).trans ?_; focus ((try simp (disch := omega) only [Int32.le_iff_toInt_le, Int32.lt_iff_toInt_lt, ← Int32.toInt_inj, nI_toInt, nI_addL, nI_Ladd, nI_mulL, nI_Lmul, nI_add, nI_subL, nI_Lsub, nI_sub, Int32.reduceToInt, m1_toInt, ne_eq, Int32.reduceMul, Int32.reduceAdd, Int32.reduceSub]) <;> omega)); (refine (if_neg ?_).trans ?_; focus ((try simp (disch := omega) only [Int32.le_iff_toInt_le, Int32.lt_iff_toInt_lt, ← Int32.toInt_inj, nI_toInt, nI_addL, nI_Ladd, nI_mulL, nI_Lmul, nI_add, nI_subL, nI_Lsub, nI_sub, Int32.reduceToInt, m1_toInt, ne_eq, Int32.reduceMul, Int32.reduceAdd, Int32.reduceSub]) <;> omega)); rfl
        · show (if 30 ≤ t then none else _) = none
          rw [if_pos h30]
      · have t3 := tn3_le t (by omega)
        have b2 := tn2_pos t (by omega)
        have b3 := tn2_max t (by omega)
        have hk3 := tk_lt L q2 (tn 3 t)
        have hk3' : 2 ^ tn 3 t ≤ 2 ^ 13 := Nat.pow_le_pow_right (by decide) t3
        have e11 := BR_tq hR hl hn q2 (k := tn 3 t) (by omega)
        have step2 : ∀ y : Option ((Int32 × Int32 × Int32 × Int32 × Nat × (Nat → Int32)) × Nat × Nat), (if nI T.length < nI (tn 2 t + tk L q2 (tn 3 t)) then some (((0 : Int32), nI (pos n (q2 + tn 3 t)), flg n (q2 + tn 3 t), nI T.length, ct, ft), 0, 0) else (if (nI T.length + nI (tn 0 i + tk L q (tn 1 i))) ≤ (65536 : Int32) then (Bk (lp_Un_readPair_104 NF (nI (tn 0 i + tk L q (tn 1 i))) (nI (tn 2 t + tk L q2 (tn 3 t))) NF 0 (nI T.length) ct ft) fun r29 => some ((1, nI (pos n (q2 + tn 3 t)), flg n (q2 + tn 3 t), r29.1, r29.2.1, r29.2.2), 0, 0)) else some ((0, nI (pos n (q2 + tn 3 t)), flg n (q2 + tn 3 t), nI T.length, ct, ft), 0, 0))) = y → _ := fun y hy => step y (by
          rw [Bd_s ex]
          (refine (if_neg ?_).trans ?_; focus ((try simp (disch := omega) only [Int32.le_iff_toInt_le, Int32.lt_iff_toInt_lt, ← Int32.toInt_inj, nI_toInt, nI_addL, nI_Ladd, nI_mulL, nI_Lmul, nI_add, nI_subL, nI_Lsub, nI_sub, Int32.reduceToInt, m1_toInt, ne_eq, Int32.reduceMul, Int32.reduceAdd, Int32.reduceSub]) <;> omega)); (refine (if_pos ?_).trans ?_; focus ((try simp (disch := omega) only [Int32.le_iff_toInt_le, Int32.lt_iff_toInt_lt, ← Int32.toInt_inj, nI_toInt, nI_addL, nI_Ladd, nI_mulL, nI_Lmul, nI_add, nI_subL, nI_Lsub, nI_sub, Int32.reduceToInt, m1_toInt, ne_eq, Int32.reduceMul, Int32.reduceAdd, Int32.reduceSub]) <;> omega))
          rw [Ix_s (by omega) (by omega), Ix_s (by omega) (by omega), nI_clamp (by omega), tb_tn 3 (by omega) _ (by omega), tb_tn 2 (by omega) _ (by omega), Bd_s e11, Lt_s, nI_add]
          unfold f_Row_length
          rw [Bd_s rfl, Bd_s rfl]
          exact hy)
        show ∃ (fl : Int32) (q' : Nat) (T' : List Int32) (c' : Nat) (f' : Nat → Int32) (k zz : Nat), _ = _ ∧ q ≤ q' ∧ Rw c' f' T' ∧ T'.length ≤ 65536 ∧ k + kap c' ≤ kap ct ∧ zz + phi c' ≤ phi ct ∧ OKs (8 * n) fl q' T' (if 30 ≤ t then none else if 8 * L.length < q2 + tn 3 t then none else if T.length < tn 2 t + tk L q2 (tn 3 t) then none else
    if 65536 < T.length + (tn 0 i + tk L q (tn 1 i)) then none else some (q2 + tn 3 t, cpy (tn 2 t + tk L q2 (tn 3 t)) (tn 0 i + tk L q (tn 1 i)) T))
        rw [if_neg h30, hl]
        by_cases hd : T.length < tn 2 t + tk L q2 (tn 3 t)
        · refine ⟨0, q2 + tn 3 t, T, ct, ft, 0, 0, step2 _ ?_, by omega, hT, hTl, by omega, by omega, Or.inr ⟨Or.inl rfl, ?_⟩⟩
          · (refine (if_pos ?_).trans ?_; focus ((try simp (disch := omega) only [Int32.le_iff_toInt_le, Int32.lt_iff_toInt_lt, ← Int32.toInt_inj, nI_toInt, nI_addL, nI_Ladd, nI_mulL, nI_Lmul, nI_add, nI_subL, nI_Lsub, nI_sub, Int32.reduceToInt, m1_toInt, ne_eq, Int32.reduceMul, Int32.reduceAdd, Int32.reduceSub]) <;> omega)); rfl
          · rw [if_pos hd]
            split <;> rfl
        · rw [if_neg hd]
          by_cases hb : 65536 < T.length + (tn 0 i + tk L q (tn 1 i))
          · refine ⟨0, q2 + tn 3 t, T, ct, ft, 0, 0, step2 _ ?_, by omega, hT, hTl, by omega, by omega, Or.inr ⟨Or.inl rfl, ?_⟩⟩
            · (refine (if_neg ?_).trans ?_; focus ((try simp (disch := omega) only [Int32.le_iff_toInt_le, Int32.lt_iff_toInt_lt, ← Int32.toInt_inj, nI_toInt, nI_addL, nI_Ladd, nI_mulL, nI_Lmul, nI_add, nI_subL, nI_Lsub, nI_sub, Int32.reduceToInt, m1_toInt, ne_eq, Int32.reduceMul, Int32.reduceAdd, Int32.reduceSub]) <;> omega)); (refine (if_neg ?_).trans ?_; focus ((try simp (disch := omega) only [Int32.le_iff_toInt_le, Int32.lt_iff_toInt_lt, ← Int32.toInt_inj, nI_toInt, nI_addL, nI_Ladd, nI_mulL, nI_Lmul, nI_add, nI_subL, nI_Lsub, nI_sub, Int32.reduceToInt, m1_toInt, ne_eq, Int32.reduceMul, Int32.reduceAdd, Int32.reduceSub]) <;> omega)); rfl
            · rw [if_pos hb]
              split <;> rfl
          · rw [if_neg hb]
            obtain ⟨c', f', kk, zz, ec, Rc, hk, hz⟩ := Un_copy (d := tn 2 t + tk L q2 (tn 3 t)) (by omega) (len := tn 0 i + tk L q (tn 1 i)) (by omega) (tn 0 i + tk L q (tn 1 i)) 0 NF T ct ft (by omega) (Nat.lt_of_le_of_lt (show _ ≤ 66000 by omega) (by decide)) hT (by omega) (by omega)
            refine ⟨1, q2 + tn 3 t, _, c', f', kk + 0, zz + 0, step2 _ ?_, by omega, Rc, by rw [cpy_length]; omega, hk, hz, ?_⟩
            · (refine (if_neg ?_).trans ?_; focus ((try simp (disch := omega) only [Int32.le_iff_toInt_le, Int32.lt_iff_toInt_lt, ← Int32.toInt_inj, nI_toInt, nI_addL, nI_Ladd, nI_mulL, nI_Lmul, nI_add, nI_subL, nI_Lsub, nI_sub, Int32.reduceToInt, m1_toInt, ne_eq, Int32.reduceMul, Int32.reduceAdd, Int32.reduceSub]) <;> omega)); (refine (if_pos ?_).trans ?_; focus ((try simp (disch := omega) only [Int32.le_iff_toInt_le, Int32.lt_iff_toInt_lt, ← Int32.toInt_inj, nI_toInt, nI_addL, nI_Ladd, nI_mulL, nI_Lmul, nI_add, nI_subL, nI_Lsub, nI_sub, Int32.reduceToInt, m1_toInt, ne_eq, Int32.reduceMul, Int32.reduceAdd, Int32.reduceSub]) <;> omega))
              exact Bk_s ec rfl
            · by_cases h8 : 8 * n < q2 + tn 3 t
              · rw [if_pos h8]
                exact Or.inr ⟨Or.inr ⟨rfl, h8⟩, rfl⟩
              · rw [if_neg h8]
                exact Or.inl ⟨rfl, by omega, rfl⟩
