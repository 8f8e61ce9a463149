/-! stored blocks (ours) -/
def ru (q : Nat) : Nat := (q + 7) / 8 * 8
theorem ru_pos (n q : Nat) : ru (pos n q) = pos n (ru q) := by
  unfold ru pos
  omega
theorem ru_flg (n q : Nat) : flg n (ru q) = flg n q := by
  unfold flg ru
  by_cases h : q ≤ 8 * n
  · rw [if_pos h, if_pos (by omega)]
  · rw [if_neg h, if_neg (by omega)]
theorem ru_ge (q : Nat) : q ≤ ru q := by
  unfold ru
  omega
theorem ru_le {n q : Nat} (h : q ≤ 8 * n) : ru q ≤ 8 * n := by
  unfold ru
  omega
theorem and_m8 {y : Nat} (hy : y < 2 ^ 31) : nI y &&& (-8) = nI (y / 8 * 8) := by
  apply i32_bv
  rw [Int32.toBitVec_and, nI_bv, nI_bv]
  have e8 : (-8 : Int32).toBitVec = BitVec.ofNat 32 4294967288 := by decide
  rw [e8]
  apply BitVec.eq_of_getLsbD_eq
  intro i hi
  have e1 : y / 8 * 8 = (y >>> 3) <<< 3 := by
    rw [Nat.shiftRight_eq_div_pow, Nat.shiftLeft_eq]
  have e2 : ∀ i, i < 32 → Nat.testBit 4294967288 i = decide (3 ≤ i) := by decide
  rw [BitVec.getLsbD_and, BitVec.getLsbD_ofNat, BitVec.getLsbD_ofNat, BitVec.getLsbD_ofNat, e1, Nat.testBit_shiftLeft, Nat.testBit_shiftRight, e2 i hi]
  by_cases h3 : 3 ≤ i
  · simp [hi, h3, show 3 + (i - 3) = i by omega]
  · simp [hi, h3]
theorem BR_skip (n q : Nat) (hn : n ≤ 65536) : f_BR_skipToByte NF (nI (pos n q)) = some (nI (pos n (ru q))) := by
  have := pos_le n q
  unfold f_BR_skipToByte
  rw [Lt_s, show nI (pos n q) + 7 = nI (pos n q + 7) from nI_add _ 7, and_m8 (by omega), ← ru_pos]
  rfl
theorem n_xor (a b : Nat) : nI a ^^^ nI b = nI (a ^^^ b) := by
  apply i32_bv
  rw [Int32.toBitVec_xor, nI_bv, nI_bv, nI_bv]
  apply BitVec.eq_of_getLsbD_eq
  intro i hi
  simp [BitVec.getLsbD_ofNat, Nat.testBit_xor]
theorem xor_16 {a : Nat} (h : a < 65536) : a ^^^ 65535 = 65535 - a := by
  have e1 : (BitVec.ofNat 16 a ^^^ BitVec.allOnes 16) = ~~~ (BitVec.ofNat 16 a) := BitVec.xor_allOnes
  have e2 := congrArg BitVec.toNat e1
  rw [BitVec.toNat_xor, BitVec.toNat_not, BitVec.toNat_ofNat, BitVec.toNat_allOnes, Nat.mod_eq_of_lt (by omega)] at e2
  exact e2
/-- the bytes from place q on -/
def byF (L : List Int32) : Nat → Nat → List Int32
  | 0, _ => []
  | j + 1, q => bB (nI (tk L q 8)) :: byF L j (q + 8)
theorem byF_length (L : List Int32) : ∀ j q, (byF L j q).length = j
  | 0, _ => rfl
  | j + 1, q => by
    show (byF L j (q + 8)).length + 1 = _
    rw [byF_length L j]
theorem app_cons (T : List Int32) (x : Int32) (M : List Int32) : T ++ (x :: M) = (T ++ [x]) ++ M := by simp
def stS (L : List Int32) (q : Nat) (T : List Int32) : Option (Nat × List Int32) :=
  if 8 * L.length < ru q + 32 + 8 * tk L (ru q) 16 then none else if tk L (ru q) 16 + tk L (ru q + 16) 16 ≠ 65535 then none else if 65536 < T.length + tk L (ru q) 16 then none else
  some (ru q + 32 + 8 * tk L (ru q) 16, T ++ byF L (tk L (ru q) 16) (ru q + 32))
theorem Un_stored_loop {L : List Int32} {c n : Nat} {f : Nat → Int32} (hR : Rw c f L) (hl : L.length = n) (hn : n ≤ 65536) {a : Nat} (ha : a ≤ 65536) :
    ∀ (j k q fuel : Nat) (T : List Int32) (ct : Nat) (ft : Nat → Int32), j + k = a → j < fuel → Rw ct ft T → T.length + j ≤ 65536 →
    ∃ (q' : Nat) (T' : List Int32) (c' : Nat) (f' : Nat → Int32) (kk z : Nat), lp_Un_readStored_51 NF (nI a) (nI (8 * n)) c f fuel (nI k) (nI (pos n q)) (flg n q) (nI T.length) ct ft = some ((nI (pos n q'), flg n q', nI T'.length, c', f'), kk, z) ∧
      q ≤ q' ∧ Rw c' f' T' ∧ T'.length ≤ 65536 ∧ kk + kap c' ≤ kap ct ∧ z + phi c' ≤ phi ct ∧ (q + 8 * j ≤ 8 * n → q' = q + 8 * j ∧ T' = T ++ byF L j q) ∧ (8 * n < q + 8 * j → 8 * n < q') := by
  intro j
  induction j with
  | zero =>
    intro k q fuel T ct ft hj hf hT hTl
    obtain ⟨u, rfl⟩ : ∃ u, fuel = u + 1 := ⟨fuel - 1, by omega⟩
    refine ⟨q, T, ct, ft, 0, 0, ?_, Nat.le_refl _, hT, by omega, by omega, by omega, fun _ => ⟨rfl, by simp [byF]⟩, fun h => by omega⟩
    rw [ls_Un_readStored_51]
    unfold lb_Un_readStored_51
    (refine (if_pos ?_).trans ?_; focus ((try simp (disch := omega) only [Int32.le_iff_toInt_le, Int32.lt_iff_toInt_lt, ← Int32.toInt_inj, nI_toInt, nI_addL, nI_Ladd, nI_mulL, nI_Lmul, nI_add, nI_subL, nI_Lsub, nI_sub, Int32.reduceToInt, m1_toInt, ne_eq, Int32.reduceMul, Int32.reduceAdd, Int32.reduceSub]) <;> omega)); rfl
  | succ j ih =>
    intro k q fuel T ct ft hj hf hT hTl
    obtain ⟨u, rfl⟩ : ∃ u, fuel = u + 1 := ⟨fuel - 1, by omega⟩
    by_cases h8 : 8 * n < q
    · refine ⟨q, T, ct, ft, 0, 0, ?_, Nat.le_refl _, hT, by omega, by omega, by omega, fun h => by omega, fun _ => h8⟩
      rw [ls_Un_readStored_51]
      unfold lb_Un_readStored_51
      (refine (if_neg ?_).trans ?_; focus ((try simp (disch := omega) only [Int32.le_iff_toInt_le, Int32.lt_iff_toInt_lt, ← Int32.toInt_inj, nI_toInt, nI_addL, nI_Ladd, nI_mulL, nI_Lmul, nI_add, nI_subL, nI_Lsub, nI_sub, Int32.reduceToInt, m1_toInt, ne_eq, Int32.reduceMul, Int32.reduceAdd, Int32.reduceSub]) <;> omega))
      rw [flg_out h8]
      rfl
    · obtain ⟨c1, f1, k1, z1, e1, R1, hk1, hz1⟩ := Rw_add NF hT (n := T.length) rfl (by omega) (nI (tk L q 8))
      obtain ⟨q', T', c', f', k2, z2, e2, hq', R2, hT2, hk2, hz2, g1, g2⟩ := ih (k + 1) (q + 8) u (T ++ [bB (nI (tk L q 8))]) c1 f1 (by omega) (by omega) R1 (by rw [List.length_append, List.length_singleton]; omega)
      rw [show (T ++ [bB (nI (tk L q 8))]).length = T.length + 1 by rw [List.length_append, List.length_singleton]] at e2
      refine ⟨q', T', c', f', k1 + k2, z1 + z2, ?_, by omega, R2, hT2, by omega, by omega, fun h => ?_, fun h => g2 (by omega)⟩
      · rw [ls_Un_readStored_51]
        unfold lb_Un_readStored_51
        (refine (if_neg ?_).trans ?_; focus ((try simp (disch := omega) only [Int32.le_iff_toInt_le, Int32.lt_iff_toInt_lt, ← Int32.toInt_inj, nI_toInt, nI_addL, nI_Ladd, nI_mulL, nI_Lmul, nI_add, nI_subL, nI_Lsub, nI_sub, Int32.reduceToInt, m1_toInt, ne_eq, Int32.reduceMul, Int32.reduceAdd, Int32.reduceSub]) <;> omega))
        have er : f_BR_ranOut NF (flg n q) = some 0 := by
          rw [flg_in (by omega)]
          rfl
        rw [Bd_s er]
        refine (if_pos rfl).trans ?_
        have et := BR_tq hR hl hn q (k := 8) (by omega)
        have et : f_BR_take NF (nI (8 * n)) (nI (pos n q)) (flg n q) c f 8 = some (nI (tk L q 8), nI (pos n (q + 8)), flg n (q + 8)) := et
        rw [Bd_s et]
        refine Bk_s e1 ?_
        rw [Lt_s, nI_1]
        exact e2
      · obtain ⟨a1, a2⟩ := g1 (by omega)
        refine ⟨by omega, ?_⟩
        rw [a2]
        exact (app_cons T _ _).symm
theorem Un_stored {L : List Int32} {c n : Nat} {f : Nat → Int32} (hR : Rw c f L) (hl : L.length = n) (hn : n ≤ 65536) (q : Nat) {T : List Int32} {ct : Nat} {ft : Nat → Int32} (hT : Rw ct ft T) (hTl : T.length ≤ 65536) :
    ∃ (fl : Int32) (q' : Nat) (T' : List Int32) (c' : Nat) (f' : Nat → Int32) (k z : Nat), f_Un_readStored NF (nI (8 * n)) (nI (pos n q)) (flg n q) c f (nI T.length) ct ft = some ((fl, nI (pos n q'), flg n q', nI T'.length, c', f'), k, z) ∧
      q ≤ q' ∧ Rw c' f' T' ∧ T'.length ≤ 65536 ∧ k + kap c' ≤ kap ct ∧ z + phi c' ≤ phi ct ∧ (fl = 0 ∨ fl = 1) ∧ OKs (8 * n) fl q' T' (stS L q T) := by
  have hru := ru_ge q
  have ha := tk_lt L (ru q) 16
  have hb := tk_lt L (ru q + 16) 16
  have e2 := BR_tq hR hl hn (ru q) (k := 16) (by omega)
  rw [ru_flg] at e2
  have e3 := BR_tq hR hl hn (ru q + 16) (k := 16) (by omega)
  unfold f_Un_readStored f_Row_length
  rw [Bd_s (BR_skip n q hn)]
  have e2 : f_BR_take NF (nI (8 * n)) (nI (pos n (ru q))) (flg n q) c f 16 = some (nI (tk L (ru q) 16), nI (pos n (ru q + 16)), flg n (ru q + 16)) := e2
  have e3 : f_BR_take NF (nI (8 * n)) (nI (pos n (ru q + 16))) (flg n (ru q + 16)) c f 16 = some (nI (tk L (ru q + 16) 16), nI (pos n (ru q + 32)), flg n (ru q + 32)) := e3
  have ex : nI (tk L (ru q) 16) ^^^ 65535 = nI (65535 - tk L (ru q) 16) := by
    rw [show (65535 : Int32) = nI 65535 from rfl, n_xor, xor_16 (by omega)]
  rw [Bd_s e2, Bd_s e3]
  have hex : ∀ X : Prop, X → X := fun _ h => h
  unfold stS
  by_cases hc : tk L (ru q) 16 + tk L (ru q + 16) 16 = 65535
  · by_cases hs : 65536 < T.length + tk L (ru q) 16
    · refine ⟨0, ru q + 32, T, ct, ft, 0, 0, ?_, by omega, hT, hTl, by omega, by omega, Or.inl rfl, Or.inr ⟨Or.inl rfl, ?_⟩⟩
      · show (if nI (tk L (ru q) 16) ^^^ 65535 = nI (tk L (ru q + 16) 16) then _ else _) = _
        rw [ex]
        refine (if_pos (by rw [show 65535 - tk L (ru q) 16 = tk L (ru q + 16) 16 by omega])).trans ?_
        rw [Bd_s rfl]
        show (if nI T.length + nI (tk L (ru q) 16) ≤ 65536 then _ else _) = _
        (refine (if_neg ?_).trans ?_; focus ((try simp (disch := omega) only [Int32.le_iff_toInt_le, Int32.lt_iff_toInt_lt, ← Int32.toInt_inj, nI_toInt, nI_addL, nI_Ladd, nI_mulL, nI_Lmul, nI_add, nI_subL, nI_Lsub, nI_sub, Int32.reduceToInt, m1_toInt, ne_eq, Int32.reduceMul, Int32.reduceAdd, Int32.reduceSub]) <;> omega)); rfl
      · rw [if_neg (show ¬ (tk L (ru q) 16 + tk L (ru q + 16) 16 ≠ 65535) by omega), if_pos hs]
        split <;> rfl
    · obtain ⟨q', T', c', f', k, z, e4, hq', R2, hT2, hk2, hz2, g1, g2⟩ := Un_stored_loop hR hl hn (a := tk L (ru q) 16) (by omega) (tk L (ru q) 16) 0 (ru q + 32) NF T ct ft (by omega) (Nat.lt_of_le_of_lt (show _ ≤ 65536 by omega) (by decide)) hT (by omega)
      refine ⟨1, q', T', c', f', k + 0, z + 0, ?_, by omega, R2, hT2, hk2, hz2, Or.inr rfl, ?_⟩
      · show (if nI (tk L (ru q) 16) ^^^ 65535 = nI (tk L (ru q + 16) 16) then _ else _) = _
        rw [ex]
        refine (if_pos (by rw [show 65535 - tk L (ru q) 16 = tk L (ru q + 16) 16 by omega])).trans ?_
        rw [Bd_s rfl]
        show (if nI T.length + nI (tk L (ru q) 16) ≤ 65536 then _ else _) = _
        (refine (if_pos ?_).trans ?_; focus ((try simp (disch := omega) only [Int32.le_iff_toInt_le, Int32.lt_iff_toInt_lt, ← Int32.toInt_inj, nI_toInt, nI_addL, nI_Ladd, nI_mulL, nI_Lmul, nI_add, nI_subL, nI_Lsub, nI_sub, Int32.reduceToInt, m1_toInt, ne_eq, Int32.reduceMul, Int32.reduceAdd, Int32.reduceSub]) <;> omega))
        exact Bk_s e4 rfl
      · rw [if_neg (show ¬ (tk L (ru q) 16 + tk L (ru q + 16) 16 ≠ 65535) by omega), if_neg hs, hl]
        by_cases h8 : 8 * n < ru q + 32 + 8 * tk L (ru q) 16
        · rw [if_pos h8]
          exact Or.inr ⟨Or.inr ⟨rfl, g2 h8⟩, rfl⟩
        · rw [if_neg h8]
          obtain ⟨a1, a2⟩ := g1 (by omega)
          rw [a1, a2]
          exact Or.inl ⟨rfl, by omega, rfl⟩
  · refine ⟨0, ru q + 32, T, ct, ft, 0, 0, ?_, by omega, hT, hTl, by omega, by omega, Or.inl rfl, Or.inr ⟨Or.inl rfl, ?_⟩⟩
    · show (if nI (tk L (ru q) 16) ^^^ 65535 = nI (tk L (ru q + 16) 16) then _ else _) = _
      rw [ex]
      refine (if_neg (by rw [nI_eq (by omega) (by omega)]; omega)).trans ?_
      rfl
    · rw [if_pos (show tk L (ru q) 16 + tk L (ru q + 16) 16 ≠ 65535 from hc)]
      split <;> rfl
/-! the reference -/
theorem Mo_stored_1 {n p F : Nat} {g room : Nat → Int32} (a k : Int32) (fuel : Nat) : lp_Mo_stored_46 NF a (nI n) 65536 g 65536 (fuel + 1) k (nI p) (nI F) 1 room = some (nI p, nI F, 1, room) := by
  rw [ls_Mo_stored_46]
  unfold lb_Mo_stored_46
  split
  · rfl
  · exact if_neg (by decide)
theorem Mo_stored_loop {L : List Int32} {n : Nat} {g : Nat → Int32} (hM : Md g L) (hl : L.length = n) (hn : n ≤ 65536) {a : Nat} (ha : a ≤ 65536) :
    ∀ (j k q fuel : Nat) (T : List Int32) (room : Nat → Int32), j + k = a → j + 1 < fuel → Md room T → T.length ≤ 65536 → q ≤ 8 * n →
    ∃ (p' F : Nat) (w' : Int32) (room' : Nat → Int32), lp_Mo_stored_46 NF (nI a) (nI n) 65536 g 65536 fuel (nI k) (nI q) (nI T.length) 0 room = some (nI p', nI F, w', room') ∧ OKr (8 * n) p' F w' room' (if 8 * n < q + 8 * j then none else if 65536 < T.length + j then none else some (q + 8 * j, T ++ byF L j q)) := by
  intro j
  induction j with
  | zero =>
    intro k q fuel T room hj hf hT hTl hq
    obtain ⟨u, rfl⟩ : ∃ u, fuel = u + 1 := ⟨fuel - 1, by omega⟩
    refine ⟨q, T.length, 0, room, ?_, hq, hTl, hT.1, Or.inl ⟨rfl, T, ?_, rfl, hT⟩⟩
    · rw [ls_Mo_stored_46]
      unfold lb_Mo_stored_46
      (refine (if_pos ?_).trans ?_; focus ((try simp (disch := omega) only [Int32.le_iff_toInt_le, Int32.lt_iff_toInt_lt, ← Int32.toInt_inj, nI_toInt, nI_addL, nI_Ladd, nI_mulL, nI_Lmul, nI_add, nI_subL, nI_Lsub, nI_sub, Int32.reduceToInt, m1_toInt, ne_eq, Int32.reduceMul, Int32.reduceAdd, Int32.reduceSub]) <;> omega)); rfl
    · rw [if_neg (by omega), if_neg (by omega)]
      simp [byF]
  | succ j ih =>
    intro k q fuel T room hj hf hT hTl hq
    obtain ⟨u, rfl⟩ : ∃ u, fuel = u + 1 + 1 := ⟨fuel - 2, by omega⟩
    have et := Mo_nq hM hl hn q (k := 8) (by omega)
    rw [pos_in hq, flg_in hq] at et
    have et : f_Mo_number NF (nI n) (nI q) 0 65536 g 8 = some (nI (tk L q 8), nI (pos n (q + 8)), flg n (q + 8)) := et
    have step : ∀ y : Option (Int32 × Int32 × Int32 × (Nat → Int32)), (if flg n (q + 8) = 0 then (Bd (f_Mo_give NF (nI T.length) (flg n (q + 8)) 65536 room (nI (tk L q 8))) fun r18 => lp_Mo_stored_46 NF (nI a) (nI n) 65536 g 65536 (u + 1) (nI (k + 1)) (nI (pos n (q + 8))) r18.1 r18.2.1 r18.2.2) else lp_Mo_stored_46 NF (nI a) (nI n) 65536 g 65536 (u + 1) (nI (k + 1)) (nI (pos n (q + 8))) (nI T.length) (flg n (q + 8)) room) = y → lp_Mo_stored_46 NF (nI a) (nI n) 65536 g 65536 (u + 1 + 1) (nI k) (nI q) (nI T.length) 0 room = y := by
      intro y hy
      rw [ls_Mo_stored_46]
      unfold lb_Mo_stored_46
      (refine (if_neg ?_).trans ?_; focus ((try simp (disch := omega) only [Int32.le_iff_toInt_le, Int32.lt_iff_toInt_lt, ← Int32.toInt_inj, nI_toInt, nI_addL, nI_Ladd, nI_mulL, nI_Lmul, nI_add, nI_subL, nI_Lsub, nI_sub, Int32.reduceToInt, m1_toInt, ne_eq, Int32.reduceMul, Int32.reduceAdd, Int32.reduceSub]) <;> omega))
      refine (if_pos rfl).trans ?_
      rw [Bd_s et]
      simp only [Lt_s, nI_1]
      exact hy
    by_cases h8 : q + 8 ≤ 8 * n
    · by_cases hful : T.length < 65536
      · obtain ⟨p', F, w', room', e2, hO⟩ := ih (k + 1) (q + 8) (u + 1) (T ++ [bB (nI (tk L q 8))]) _ (by omega) (by omega) (Md_add hT rfl (nI (tk L q 8))) (by rw [List.length_append, List.length_singleton]; omega) h8
        rw [show (T ++ [bB (nI (tk L q 8))]).length = T.length + 1 by rw [List.length_append, List.length_singleton], show q + 8 + 8 * j = q + 8 * (j + 1) by omega, show T.length + 1 + j = T.length + (j + 1) by omega, ← app_cons] at hO
        rw [show (T ++ [bB (nI (tk L q 8))]).length = T.length + 1 by rw [List.length_append, List.length_singleton]] at e2
        refine ⟨p', F, w', room', step _ ?_, hO⟩
        rw [flg_in h8, if_pos rfl, Bd_s (Mo_give_ok hT hful _), pos_in h8]
        exact e2
      · refine ⟨pos n (q + 8), 65536, 1, room, step _ ?_, pos_le _ _, by omega, hT.1, Or.inr ⟨rfl, ?_⟩⟩
        · rw [flg_in h8, if_pos rfl, show T.length = 65536 by omega, Bd_s Mo_give_full]
          exact Mo_stored_1 _ _ _
        · rw [if_pos (show 65536 < T.length + (j + 1) by omega)]
          split <;> rfl
    · refine ⟨pos n (q + 8), T.length, 1, room, step _ ?_, pos_le _ _, hTl, hT.1, Or.inr ⟨rfl, ?_⟩⟩
      · rw [flg_out (by omega), if_neg (by decide)]
        exact Mo_stored_1 _ _ _
      · rw [if_pos (show 8 * n < q + 8 * (j + 1) by omega)]
theorem ru_div {q : Nat} (hq : q < 2 ^ 30) : (nI q + 7) / 8 * 8 = nI (ru q) := by
  rw [show nI q + 7 = nI (q + 7) from nI_add _ 7, show nI (q + 7) / 8 = nI ((q + 7) / 8) from pk_div (d := 8) (by omega) (by omega) (by omega)]
  exact pk_mul _ 8
theorem Mo_stored {L : List Int32} {n : Nat} {g : Nat → Int32} (hM : Md g L) (hl : L.length = n) (hn : n ≤ 65536) {q : Nat} (hq : q ≤ 8 * n) {T : List Int32} {room : Nat → Int32} (hT : Md room T) (hTl : T.length ≤ 65536) :
    ∃ (p' F : Nat) (w' : Int32) (room' : Nat → Int32), f_Mo_stored NF (nI n) (nI q) (nI T.length) 0 65536 g 65536 room = some (nI p', nI F, w', room') ∧ OKr (8 * n) p' F w' room' (stS L q T) := by
  have hru := ru_le hq
  have ha := tk_lt L (ru q) 16
  have hb := tk_lt L (ru q + 16) 16
  have e2 := Mo_nq hM hl hn (ru q) (k := 16) (by omega)
  rw [pos_in hru, flg_in hru] at e2
  have e3 := Mo_nq hM hl hn (ru q + 16) (k := 16) (by omega)
  have e2 : f_Mo_number NF (nI n) (nI (ru q)) 0 65536 g 16 = some (nI (tk L (ru q) 16), nI (pos n (ru q + 16)), flg n (ru q + 16)) := e2
  have e3 : f_Mo_number NF (nI n) (nI (pos n (ru q + 16))) (flg n (ru q + 16)) 65536 g 16 = some (nI (tk L (ru q + 16) 16), nI (pos n (ru q + 32)), flg n (ru q + 32)) := e3
  unfold f_Mo_stored
  rw [Lt_s, ru_div (by omega), Bd_s e2, Bd_s e3, Jn_s]
  unfold stS
  rw [hl]
  have bad : ∀ w, lp_Mo_stored_46 NF (nI (tk L (ru q) 16)) (nI n) 65536 g 65536 NF 0 (nI (pos n (ru q + 32))) (nI T.length) 1 room = w → some (nI (pos n (ru q + 32)), nI T.length, (1 : Int32), room) = w := fun w h => by
    rw [← h]
    exact (Mo_stored_1 _ _ 999999).symm
  by_cases hc : tk L (ru q) 16 + tk L (ru q + 16) 16 = 65535
  · rw [if_neg (show ¬ (tk L (ru q) 16 + tk L (ru q + 16) 16 ≠ 65535) by omega)]
    have step : ∀ y : Option (Int32 × Int32 × Int32 × (Nat → Int32)), (Bd (lp_Mo_stored_46 NF (nI (tk L (ru q) 16)) (nI n) 65536 g 65536 NF 0 (nI (pos n (ru q + 32))) (nI T.length) (flg n (ru q + 32)) room) fun r20 => some (r20.1, r20.2.1, r20.2.2.1, r20.2.2.2)) = y → (if nI (tk L (ru q) 16) + nI (tk L (ru q + 16) 16) = (65535 : Int32) then (Bd (lp_Mo_stored_46 NF (nI (tk L (ru q) 16)) (nI n) 65536 g 65536 NF 0 (nI (pos n (ru q + 32))) (nI T.length) (flg n (ru q + 32)) room) fun r20 => some (r20.1, r20.2.1, r20.2.2.1, r20.2.2.2)) else (Bd (lp_Mo_stored_46 NF (nI (tk L (ru q) 16)) (nI n) 65536 g 65536 NF 0 (nI (pos n (ru q + 32))) (nI T.length) 1 room) fun r20 => some (r20.1, r20.2.1, r20.2.2.1, r20.2.2.2))) = y := fun y hy => by
      (refine (if_pos ?_).trans ?_; focus ((try simp (disch := omega) only [Int32.le_iff_toInt_le, Int32.lt_iff_toInt_lt, ← Int32.toInt_inj, nI_toInt, nI_addL, nI_Ladd, nI_mulL, nI_Lmul, nI_add, nI_subL, nI_Lsub, nI_sub, Int32.reduceToInt, m1_toInt, ne_eq, Int32.reduceMul, Int32.reduceAdd, Int32.reduceSub]) <;> omega))
      exact hy
    by_cases h32 : ru q + 32 ≤ 8 * n
    · obtain ⟨p', F, w', room', e4, hO⟩ := Mo_stored_loop hM hl hn (a := tk L (ru q) 16) (by omega) (tk L (ru q) 16) 0 (ru q + 32) NF T room (by omega) (Nat.lt_of_le_of_lt (show _ ≤ 65537 by omega) (by decide)) hT hTl h32
      refine ⟨p', F, w', room', step _ ?_, hO⟩
      rw [pos_in h32, flg_in h32]
      exact (Bd_s e4 _).trans rfl
    · refine ⟨pos n (ru q + 32), T.length, 1, room, step _ ?_, pos_le _ _, hTl, hT.1, Or.inr ⟨rfl, ?_⟩⟩
      · rw [flg_out (by omega)]
        exact (Bd_s (bad _ rfl).symm _).trans rfl
      · rw [if_pos (show 8 * n < ru q + 32 + 8 * tk L (ru q) 16 by omega)]
  · rw [if_pos (show tk L (ru q) 16 + tk L (ru q + 16) 16 ≠ 65535 from hc)]
    refine ⟨pos n (ru q + 32), T.length, 1, room, ?_, pos_le _ _, hTl, hT.1, Or.inr ⟨rfl, ?_⟩⟩
    · show (if nI (tk L (ru q) 16) + nI (tk L (ru q + 16) 16) = (65535 : Int32) then _ else _) = _
      (refine (if_neg ?_).trans ?_; focus ((try simp (disch := omega) only [Int32.le_iff_toInt_le, Int32.lt_iff_toInt_lt, ← Int32.toInt_inj, nI_toInt, nI_addL, nI_Ladd, nI_mulL, nI_Lmul, nI_add, nI_subL, nI_Lsub, nI_sub, Int32.reduceToInt, m1_toInt, ne_eq, Int32.reduceMul, Int32.reduceAdd, Int32.reduceSub]) <;> omega))
      exact (Bd_s (bad _ rfl).symm _).trans rfl
    · split <;> rfl
theorem Mo_stored1 {L : List Int32} {n : Nat} {g : Nat → Int32} (hM : Md g L) (hl : L.length = n) (hn : n ≤ 65536) {p F : Nat} (hp : p ≤ 8 * n) {room : Nat → Int32} :
    ∃ p', p' ≤ 8 * n ∧ f_Mo_stored NF (nI n) (nI p) (nI F) 1 65536 g 65536 room = some (nI p', nI F, 1, room) := by
  obtain ⟨p1, h1, e1⟩ := Mo_n1 hM hl hn (ru_le hp) (k := 16) (by omega)
  obtain ⟨p2, h2, e2⟩ := Mo_n1 hM hl hn h1 (k := 16) (by omega)
  refine ⟨p2, h2, ?_⟩
  unfold f_Mo_stored
  rw [Lt_s, ru_div (by omega)]
  refine (Bd_s e1 _).trans ?_
  refine (Bd_s e2 _).trans ?_
  rw [Jn_s]
  have bad : ∀ a : Int32, lp_Mo_stored_46 NF a (nI n) 65536 g 65536 NF 0 (nI p2) (nI F) 1 room = some (nI p2, nI F, 1, room) := fun a => Mo_stored_1 _ _ 999999
  split <;> exact (Bd_s (bad _) _).trans rfl
