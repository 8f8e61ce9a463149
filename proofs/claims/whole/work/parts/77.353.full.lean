/-! full codes, on both sides (ours) -/
def krS (ls : Nat → Nat) (m : Nat) : Nat → Nat
  | 0 => 0
  | l + 1 => krS ls m l + cn ls m (l + 1) * 2 ^ (15 - (l + 1))
theorem krS_le (ls : Nat → Nat) {m : Nat} : ∀ l, krS ls m l ≤ ofs ls m (l + 1) * 16384
  | 0 => by show 0 ≤ _; omega
  | l + 1 => by
    have ih := krS_le ls (m := m) l
    show krS ls m l + cn ls m (l + 1) * 2 ^ (15 - (l + 1)) ≤ (ofs ls m (l + 1) + cn ls m (l + 1)) * 16384
    have h2 : 2 ^ (15 - (l + 1)) ≤ 2 ^ 14 := Nat.pow_le_pow_right (by decide) (by omega)
    have h3 : cn ls m (l + 1) * 2 ^ (15 - (l + 1)) ≤ cn ls m (l + 1) * 2 ^ 14 := Nat.mul_le_mul_left _ h2
    rw [Nat.add_mul]
    omega
theorem krS_bound (ls : Nat → Nat) {m : Nat} (hm : m ≤ 320) (l : Nat) : krS ls m l ≤ 5242880 := by
  have h1 := krS_le ls (m := m) l
  have h2 := ofs_le ls m (l + 1)
  omega
theorem i_subsub (x : Int32) (a b : Nat) : x - nI a - nI b = x - nI (a + b) := by
  rw [← nI_add]
  have e1 : x - nI a - nI b = x + (-nI a) + (-nI b) := by rw [Int32.sub_eq_add_neg, Int32.sub_eq_add_neg]
  have e2 : x - (nI a + nI b) = x + (-nI a) + (-nI b) := by rw [Int32.sub_eq_add_neg, Int32.neg_add, Int32.sub_eq_add_neg, Int32.add_assoc]
  rw [e1, e2]
theorem isFull_loop {ls : Nat → Nat} {m : Nat} {num : Nat → Int32} (hnum : ∀ l, l ≤ 15 → num l = nI (cn ls m l)) (hm : m ≤ 320) :
    ∀ (j i fuel : Nat), j + i = 15 → j < fuel → lp_Co_isFull_5 NF 16 num fuel (32768 - nI (krS ls m i)) (nI (i + 1)) = some (32768 - nI (krS ls m 15)) := by
  intro j
  induction j with
  | zero =>
    intro i fuel hj hf
    obtain ⟨u, rfl⟩ : ∃ u, fuel = u + 1 := ⟨fuel - 1, by omega⟩
    rw [ls_Co_isFull_5]
    unfold lb_Co_isFull_5
    (refine (if_pos ?_).trans ?_; focus ((try simp (disch := omega) only [Int32.le_iff_toInt_le, Int32.lt_iff_toInt_lt, ← Int32.toInt_inj, nI_toInt, nI_addL, nI_Ladd, nI_mulL, nI_Lmul, nI_add, nI_subL, nI_Lsub, nI_sub, Int32.reduceToInt, m1_toInt, ne_eq, Int32.reduceMul, Int32.reduceAdd, Int32.reduceSub]) <;> omega))
    rw [show i = 15 by omega]
  | succ j ih =>
    intro i fuel hj hf
    obtain ⟨u, rfl⟩ : ∃ u, fuel = u + 1 := ⟨fuel - 1, by omega⟩
    have hc := cn_le ls m (i + 1)
    have hp : 2 ^ (15 - (i + 1)) ≤ 2 ^ 14 := Nat.pow_le_pow_right (by decide) (by omega)
    have hb : cn ls m (i + 1) * 2 ^ (15 - (i + 1)) < 2 ^ 32 := Nat.lt_of_le_of_lt (Nat.mul_le_mul (show cn ls m (i + 1) ≤ 320 by omega) hp) (by omega)
    have es : nI (cn ls m (i + 1)) <<< ((15 - nI (i + 1)) &&& 31) = nI (cn ls m (i + 1) * 2 ^ (15 - (i + 1))) := by
      rw [show (15 : Int32) - nI (i + 1) = nI (15 - (i + 1)) from nI_sub (a := 15) (by omega)]
      exact n_shl (by omega) hb
    rw [ls_Co_isFull_5]
    unfold lb_Co_isFull_5
    (refine (if_neg ?_).trans ?_; focus ((try simp (disch := omega) only [Int32.le_iff_toInt_le, Int32.lt_iff_toInt_lt, ← Int32.toInt_inj, nI_toInt, nI_addL, nI_Ladd, nI_mulL, nI_Lmul, nI_add, nI_subL, nI_Lsub, nI_sub, Int32.reduceToInt, m1_toInt, ne_eq, Int32.reduceMul, Int32.reduceAdd, Int32.reduceSub]) <;> omega))
    rw [Ix_s (by omega) (by omega), nI_clamp (by omega), hnum (i + 1) (by omega), Lt_s, Lt_s, es, i_subsub, nI_1]
    exact ih (i + 1) u (by omega) (by omega)
theorem Co_isFull {ls : Nat → Nat} {m z : Nat} {num sym : Nat → Int32} (hC : CoC ls m num sym z) : f_Co_isFull NF 16 num = some (if krS ls m 15 = 32768 then 1 else 0) := by
  have h := isFull_loop hC.1 (show m ≤ 320 by have := hC.2.2.2.1; omega) 15 0 NF (by omega) (by decide)
  have hb := krS_bound ls (m := m) (by have := hC.2.2.2.1; omega) 15
  unfold f_Co_isFull
  have e0 : (32768 : Int32) - nI (krS ls m 0) = 32768 := by
    show (32768 : Int32) - 0 = 32768
    decide
  rw [e0] at h
  have h : lp_Co_isFull_5 NF 16 num NF 32768 1 = some (32768 - nI (krS ls m 15)) := h
  rw [Bd_s h]
  by_cases q : krS ls m 15 = 32768
  · rw [if_pos q, q]
    rfl
  · rw [if_neg q]
    refine if_neg (fun e => q ?_)
    have e2 : (32768 : Int32) = nI (krS ls m 15) := by
      have := congrArg (· + nI (krS ls m 15)) e
      simpa using this
    have e3 : nI 32768 = nI (krS ls m 15) := e2
    rw [nI_eq (by omega) (by omega)] at e3
    exact e3.symm
theorem isScant_loop {ls : Nat → Nat} {m : Nat} {num : Nat → Int32} (hnum : ∀ l, l ≤ 15 → num l = nI (cn ls m l)) :
    ∀ (j i fuel : Nat), j + i = 16 → 1 ≤ i → j < fuel → lp_Co_isScant_4 NF 16 num fuel (nI (ofs ls m i)) (nI i) = some (nI (ofs ls m 16)) := by
  intro j
  induction j with
  | zero =>
    intro i fuel hj hi hf
    obtain ⟨u, rfl⟩ : ∃ u, fuel = u + 1 := ⟨fuel - 1, by omega⟩
    rw [ls_Co_isScant_4]
    unfold lb_Co_isScant_4
    (refine (if_pos ?_).trans ?_; focus ((try simp (disch := omega) only [Int32.le_iff_toInt_le, Int32.lt_iff_toInt_lt, ← Int32.toInt_inj, nI_toInt, nI_addL, nI_Ladd, nI_mulL, nI_Lmul, nI_add, nI_subL, nI_Lsub, nI_sub, Int32.reduceToInt, m1_toInt, ne_eq, Int32.reduceMul, Int32.reduceAdd, Int32.reduceSub]) <;> omega))
    rw [show i = 16 by omega]
  | succ j ih =>
    intro i fuel hj hi hf
    obtain ⟨u, rfl⟩ : ∃ u, fuel = u + 1 := ⟨fuel - 1, by omega⟩
    rw [ls_Co_isScant_4]
    unfold lb_Co_isScant_4
    (refine (if_neg ?_).trans ?_; focus ((try simp (disch := omega) only [Int32.le_iff_toInt_le, Int32.lt_iff_toInt_lt, ← Int32.toInt_inj, nI_toInt, nI_addL, nI_Ladd, nI_mulL, nI_Lmul, nI_add, nI_subL, nI_Lsub, nI_sub, Int32.reduceToInt, m1_toInt, ne_eq, Int32.reduceMul, Int32.reduceAdd, Int32.reduceSub]) <;> omega))
    rw [Ix_s (by omega) (by omega), nI_clamp (by omega), hnum i (by omega), Lt_s, Lt_s, nI_add, nI_1]
    exact ih (i + 1) u (by omega) (by omega) (by omega)
theorem ofs_1 (ls : Nat → Nat) (m : Nat) : ofs ls m 1 = 0 := by
  show 0 + cn ls m 0 = 0
  rw [cn_0]
set_option maxRecDepth 100000 in
theorem scant_eq (ls : Nat → Nat) (m : Nat) (h : ofs ls m 16 = 1) : cn ls m 1 = 1 ↔ krS ls m 15 = 16384 := by
  simp only [ofs, krS, cn_0, Nat.reduceAdd] at h ⊢
  omega
theorem Co_isScant {ls : Nat → Nat} {m z : Nat} {num sym : Nat → Int32} (hC : CoC ls m num sym z) : f_Co_isScant NF 16 num = some (if ofs ls m 16 = 0 ∨ (ofs ls m 16 = 1 ∧ krS ls m 15 = 16384) then 1 else 0) := by
  have hm : m ≤ 288 := hC.2.2.2.1
  have ho := ofs_le ls m 16
  have h := isScant_loop hC.1 15 1 NF (by omega) (by omega) (by decide)
  rw [ofs_1] at h
  unfold f_Co_isScant
  have h : lp_Co_isScant_4 NF 16 num NF 0 1 = some (nI (ofs ls m 16)) := h
  rw [Bd_s h]
  by_cases q : ofs ls m 16 = 0
  · rw [if_pos (Or.inl q), q]
    rfl
  · (refine (if_neg ?_).trans ?_; focus ((try simp (disch := omega) only [Int32.le_iff_toInt_le, Int32.lt_iff_toInt_lt, ← Int32.toInt_inj, nI_toInt, nI_addL, nI_Ladd, nI_mulL, nI_Lmul, nI_add, nI_subL, nI_Lsub, nI_sub, Int32.reduceToInt, m1_toInt, ne_eq, Int32.reduceMul, Int32.reduceAdd, Int32.reduceSub]) <;> omega))
    by_cases q1 : ofs ls m 16 = 1
    · have he := scant_eq ls m q1
      (refine (if_pos ?_).trans ?_; focus ((try simp (disch := omega) only [Int32.le_iff_toInt_le, Int32.lt_iff_toInt_lt, ← Int32.toInt_inj, nI_toInt, nI_addL, nI_Ladd, nI_mulL, nI_Lmul, nI_add, nI_subL, nI_Lsub, nI_sub, Int32.reduceToInt, m1_toInt, ne_eq, Int32.reduceMul, Int32.reduceAdd, Int32.reduceSub]) <;> omega))
      refine (Ix_s (j := 1) (by omega) (by omega)).trans ?_
      rw [show num (1 : Int32).toNatClampNeg = nI (cn ls m 1) from hC.1 1 (by omega)]
      have hc := cn_le ls m 1
      by_cases q2 : cn ls m 1 = 1
      · rw [if_pos (Or.inr ⟨q1, he.mp q2⟩), q2]
        rfl
      · (refine (if_neg ?_).trans ?_; focus ((try simp (disch := omega) only [Int32.le_iff_toInt_le, Int32.lt_iff_toInt_lt, ← Int32.toInt_inj, nI_toInt, nI_addL, nI_Ladd, nI_mulL, nI_Lmul, nI_add, nI_subL, nI_Lsub, nI_sub, Int32.reduceToInt, m1_toInt, ne_eq, Int32.reduceMul, Int32.reduceAdd, Int32.reduceSub]) <;> omega))
        rw [if_neg (fun e => by
          rcases e with e | e
          · exact q e
          · exact q2 (he.mpr e.2))]
    · (refine (if_neg ?_).trans ?_; focus ((try simp (disch := omega) only [Int32.le_iff_toInt_le, Int32.lt_iff_toInt_lt, ← Int32.toInt_inj, nI_toInt, nI_addL, nI_Ladd, nI_mulL, nI_Lmul, nI_add, nI_subL, nI_Lsub, nI_sub, Int32.reduceToInt, m1_toInt, ne_eq, Int32.reduceMul, Int32.reduceAdd, Int32.reduceSub]) <;> omega))
      rw [if_neg (fun e => by
          rcases e with e | e
          · exact q e
          · exact q1 e.1)]
/-! the reference -/
theorem sh15 : ∀ l, l < 16 → (32768 : Int32) >>> (nI l &&& 31) = nI (2 ^ (15 - l)) := by decide
def fiS (ls : Nat → Nat) : Nat → Nat
  | 0 => 0
  | s + 1 => fiS ls s + if ls s = 0 then 0 else 2 ^ (15 - ls s)
theorem krS_add (ls : Nat → Nat) (m : Nat) : ∀ l, l ≤ 15 → krS ls (m + 1) l = krS ls m l + if 1 ≤ ls m ∧ ls m ≤ l then 2 ^ (15 - ls m) else 0
  | 0, _ => by
    rw [if_neg (by omega)]
    rfl
  | l + 1, hl => by
    have ih := krS_add ls m l (by omega)
    show krS ls (m + 1) l + cn ls (m + 1) (l + 1) * 2 ^ (15 - (l + 1)) = krS ls m l + cn ls m (l + 1) * 2 ^ (15 - (l + 1)) + _
    rw [ih, cn_cnt ls (by omega), cn_cnt ls (by omega)]
    by_cases q : ls m = l + 1
    · have e : cnt ls (m + 1) (l + 1) = cnt ls m (l + 1) + 1 := by
        have := cnt_self ls m
        rw [q] at this
        exact this
      rw [e, if_neg (by omega), if_pos (by omega), Nat.add_mul, q]
      omega
    · rw [cnt_other ls q]
      by_cases q2 : 1 ≤ ls m ∧ ls m ≤ l
      · rw [if_pos q2, if_pos (by omega)]
        omega
      · rw [if_neg q2, if_neg (by omega)]
        omega
theorem krS_0 (ls : Nat → Nat) : ∀ l, krS ls 0 l = 0
  | 0 => rfl
  | l + 1 => by
    show krS ls 0 l + cn ls 0 (l + 1) * 2 ^ (15 - (l + 1)) = 0
    rw [krS_0 ls l, cn_cnt ls (by omega)]
    show 0 + 0 * _ = 0
    omega
theorem fiS_kr (ls : Nat → Nat) : ∀ m, (∀ s, s < m → ls s ≤ 15) → fiS ls m = krS ls m 15
  | 0, _ => (krS_0 ls 15).symm
  | m + 1, h => by
    have ih := fiS_kr ls m (fun s hs => h s (by omega))
    have h15 := h m (by omega)
    rw [krS_add ls m 15 (by omega), ← ih]
    show fiS ls m + (if ls m = 0 then 0 else 2 ^ (15 - ls m)) = _
    by_cases q : ls m = 0
    · rw [if_pos q, if_neg (by omega)]
    · rw [if_neg q, if_pos (by omega)]
theorem fiS_bound (ls : Nat → Nat) : ∀ m, fiS ls m ≤ m * 16384
  | 0 => by show 0 ≤ _; omega
  | m + 1 => by
    have ih := fiS_bound ls m
    have e : fiS ls (m + 1) = fiS ls m + (if ls m = 0 then 0 else 2 ^ (15 - ls m)) := rfl
    rw [e, Nat.add_mul, Nat.one_mul]
    clear e
    by_cases q : ls m = 0
    · rw [if_pos q, Nat.add_zero]
      exact Nat.le_trans ih (Nat.le_add_right _ _)
    · rw [if_neg q]
      have h2 : 2 ^ (15 - ls m) ≤ 2 ^ 14 := Nat.pow_le_pow_right (by decide) (by omega)
      have h3 : 2 ^ 14 = 16384 := rfl
      rw [h3] at h2
      exact Nat.add_le_add ih h2
theorem fill_loop {ls : Nat → Nat} {fr m : Nat} {len : Nat → Int32} (hlen : ∀ s, s < m → len (fr + s) = nI (ls s)) (h15 : ∀ s, s < m → ls s ≤ 15) (hM : fr + m ≤ 340) :
    ∀ (j s fuel : Nat), j + s = m → j < fuel → lp_Mo_fill_5 NF (nI fr) (nI m) 340 len fuel (nI (fiS ls s)) (nI s) = some (nI (fiS ls m)) := by
  intro j
  induction j with
  | zero =>
    intro s fuel hj hf
    obtain ⟨u, rfl⟩ : ∃ u, fuel = u + 1 := ⟨fuel - 1, by omega⟩
    rw [ls_Mo_fill_5]
    unfold lb_Mo_fill_5
    (refine (if_pos ?_).trans ?_; focus ((try simp (disch := omega) only [Int32.le_iff_toInt_le, Int32.lt_iff_toInt_lt, ← Int32.toInt_inj, nI_toInt, nI_addL, nI_Ladd, nI_mulL, nI_Lmul, nI_add, nI_subL, nI_Lsub, nI_sub, Int32.reduceToInt, m1_toInt, ne_eq, Int32.reduceMul, Int32.reduceAdd, Int32.reduceSub]) <;> omega))
    rw [show s = m by omega]
  | succ j ih =>
    intro s fuel hj hf
    obtain ⟨u, rfl⟩ : ∃ u, fuel = u + 1 := ⟨fuel - 1, by omega⟩
    have hs := h15 s (by omega)
    rw [ls_Mo_fill_5]
    unfold lb_Mo_fill_5
    (refine (if_neg ?_).trans ?_; focus ((try simp (disch := omega) only [Int32.le_iff_toInt_le, Int32.lt_iff_toInt_lt, ← Int32.toInt_inj, nI_toInt, nI_addL, nI_Ladd, nI_mulL, nI_Lmul, nI_add, nI_subL, nI_Lsub, nI_sub, Int32.reduceToInt, m1_toInt, ne_eq, Int32.reduceMul, Int32.reduceAdd, Int32.reduceSub]) <;> omega))
    rw [nI_add, Ix_s (by omega) (by omega), nI_clamp (by omega), hlen s (by omega)]
    have hi := ih (s + 1) u (by omega) (by omega)
    have e : fiS ls (s + 1) = fiS ls s + (if ls s = 0 then 0 else 2 ^ (15 - ls s)) := rfl
    by_cases q : ls s = 0
    · rw [e, if_pos q, Nat.add_zero] at hi
      rw [q]
      (refine (if_pos ?_).trans ?_; focus ((try simp (disch := omega) only [Int32.le_iff_toInt_le, Int32.lt_iff_toInt_lt, ← Int32.toInt_inj, nI_toInt, nI_addL, nI_Ladd, nI_mulL, nI_Lmul, nI_add, nI_subL, nI_Lsub, nI_sub, Int32.reduceToInt, m1_toInt, ne_eq, Int32.reduceMul, Int32.reduceAdd, Int32.reduceSub]) <;> omega))
      rw [Lt_s, nI_1]
      exact hi
    · rw [e, if_neg q] at hi
      (refine (if_neg ?_).trans ?_; focus ((try simp (disch := omega) only [Int32.le_iff_toInt_le, Int32.lt_iff_toInt_lt, ← Int32.toInt_inj, nI_toInt, nI_addL, nI_Ladd, nI_mulL, nI_Lmul, nI_add, nI_subL, nI_Lsub, nI_sub, Int32.reduceToInt, m1_toInt, ne_eq, Int32.reduceMul, Int32.reduceAdd, Int32.reduceSub]) <;> omega))
      rw [Ix_s (by omega) (by omega), Lt_s, Lt_s, sh15 _ (by omega), nI_add, nI_1]
      exact hi
theorem Mo_fill {ls : Nat → Nat} {fr m : Nat} {len : Nat → Int32} (hlen : ∀ s, s < m → len (fr + s) = nI (ls s)) (h15 : ∀ s, s < m → ls s ≤ 15) (hM : fr + m ≤ 340) : f_Mo_fill NF 340 len (nI fr) (nI m) = some (nI (krS ls m 15)) := by
  have h := fill_loop hlen h15 hM m 0 NF (by omega) (Nat.lt_of_le_of_lt (show m ≤ 340 by omega) (by decide))
  rw [fiS_kr ls m h15] at h
  unfold f_Mo_fill
  exact (Bd_s (x := lp_Mo_fill_5 NF (nI fr) (nI m) 340 len NF 0 0) h _).trans rfl
theorem fill_any {fr m : Nat} {len : Nat → Int32} (hM : fr + m ≤ 340) : ∀ (j s fuel : Nat) (v : Int32), j + s = m → j < fuel → ∃ v', lp_Mo_fill_5 NF (nI fr) (nI m) 340 len fuel v (nI s) = some v' := by
  intro j
  induction j with
  | zero =>
    intro s fuel v hj hf
    obtain ⟨u, rfl⟩ : ∃ u, fuel = u + 1 := ⟨fuel - 1, by omega⟩
    refine ⟨v, ?_⟩
    rw [ls_Mo_fill_5]
    unfold lb_Mo_fill_5
    (refine (if_pos ?_).trans ?_; focus ((try simp (disch := omega) only [Int32.le_iff_toInt_le, Int32.lt_iff_toInt_lt, ← Int32.toInt_inj, nI_toInt, nI_addL, nI_Ladd, nI_mulL, nI_Lmul, nI_add, nI_subL, nI_Lsub, nI_sub, Int32.reduceToInt, m1_toInt, ne_eq, Int32.reduceMul, Int32.reduceAdd, Int32.reduceSub]) <;> omega)); rfl
  | succ j ih =>
    intro s fuel v hj hf
    obtain ⟨u, rfl⟩ : ∃ u, fuel = u + 1 := ⟨fuel - 1, by omega⟩
    rw [ls_Mo_fill_5]
    unfold lb_Mo_fill_5
    rw [if_neg (nI_ge (by omega) (by omega)), nI_add, Ix_s (by omega) (by omega), nI_clamp (by omega)]
    by_cases q : len (fr + s) ≤ 0
    · rw [if_pos q, Lt_s, nI_1]
      exact ih (s + 1) u _ (by omega) (by omega)
    · rw [if_neg q, Ix_s (by omega) (by omega), Lt_s, Lt_s, nI_1]
      exact ih (s + 1) u _ (by omega) (by omega)
theorem Mo_fill_any {fr m : Nat} (len : Nat → Int32) (hM : fr + m ≤ 340) : ∃ v, f_Mo_fill NF 340 len (nI fr) (nI m) = some v := by
  obtain ⟨v, h⟩ := fill_any (len := len) hM m 0 NF 0 (by omega) (Nat.lt_of_le_of_lt (show m ≤ 340 by omega) (by decide))
  exact ⟨v, (Bd_s (x := lp_Mo_fill_5 NF (nI fr) (nI m) 340 len NF 0 0) h _).trans rfl⟩
/-- how many codes there are -/
theorem one_loop {ls : Nat → Nat} {len : Nat → Int32} (hlen : ∀ s, s < 32 → len (288 + s) = nI (ls s)) (h15 : ∀ s, s < 32 → ls s ≤ 15) :
    ∀ (j s fuel : Nat), j + s = 32 → j < fuel → lp_Mo_table_438 NF 340 len fuel (nI (ofs ls s 16)) (nI s) = some (nI (ofs ls 32 16)) := by
  intro j
  induction j with
  | zero =>
    intro s fuel hj hf
    obtain ⟨u, rfl⟩ : ∃ u, fuel = u + 1 := ⟨fuel - 1, by omega⟩
    rw [ls_Mo_table_438]
    unfold lb_Mo_table_438
    (refine (if_pos ?_).trans ?_; focus ((try simp (disch := omega) only [Int32.le_iff_toInt_le, Int32.lt_iff_toInt_lt, ← Int32.toInt_inj, nI_toInt, nI_addL, nI_Ladd, nI_mulL, nI_Lmul, nI_add, nI_subL, nI_Lsub, nI_sub, Int32.reduceToInt, m1_toInt, ne_eq, Int32.reduceMul, Int32.reduceAdd, Int32.reduceSub]) <;> omega))
    rw [show s = 32 by omega]
  | succ j ih =>
    intro s fuel hj hf
    obtain ⟨u, rfl⟩ : ∃ u, fuel = u + 1 := ⟨fuel - 1, by omega⟩
    have hs := h15 s (by omega)
    have hi := ih (s + 1) u (by omega) (by omega)
    have e : ofs ls (s + 1) 16 = ofs ls s 16 + if 1 ≤ ls s ∧ ls s < 16 then 1 else 0 := by
      rw [ofs_tot, ofs_tot]
      rfl
    rw [ls_Mo_table_438]
    unfold lb_Mo_table_438
    (refine (if_neg ?_).trans ?_; focus ((try simp (disch := omega) only [Int32.le_iff_toInt_le, Int32.lt_iff_toInt_lt, ← Int32.toInt_inj, nI_toInt, nI_addL, nI_Ladd, nI_mulL, nI_Lmul, nI_add, nI_subL, nI_Lsub, nI_sub, Int32.reduceToInt, m1_toInt, ne_eq, Int32.reduceMul, Int32.reduceAdd, Int32.reduceSub]) <;> omega))
    rw [show (288 : Int32) + nI s = nI (288 + s) from nI_add 288 s, Ix_s (by omega) (by omega), nI_clamp (by omega), hlen s (by omega)]
    by_cases q : ls s = 0
    · rw [e, if_neg (by omega), Nat.add_zero] at hi
      rw [q]
      (refine (if_pos ?_).trans ?_; focus ((try simp (disch := omega) only [Int32.le_iff_toInt_le, Int32.lt_iff_toInt_lt, ← Int32.toInt_inj, nI_toInt, nI_addL, nI_Ladd, nI_mulL, nI_Lmul, nI_add, nI_subL, nI_Lsub, nI_sub, Int32.reduceToInt, m1_toInt, ne_eq, Int32.reduceMul, Int32.reduceAdd, Int32.reduceSub]) <;> omega))
      rw [Lt_s, nI_1]
      exact hi
    · rw [e, if_pos (by omega)] at hi
      (refine (if_neg ?_).trans ?_; focus ((try simp (disch := omega) only [Int32.le_iff_toInt_le, Int32.lt_iff_toInt_lt, ← Int32.toInt_inj, nI_toInt, nI_addL, nI_Ladd, nI_mulL, nI_Lmul, nI_add, nI_subL, nI_Lsub, nI_sub, Int32.reduceToInt, m1_toInt, ne_eq, Int32.reduceMul, Int32.reduceAdd, Int32.reduceSub]) <;> omega))
      rw [Lt_s, Lt_s, nI_1, nI_1]
      exact hi
theorem one_any {len : Nat → Int32} : ∀ (j s fuel : Nat) (v : Int32), j + s = 32 → j < fuel → ∃ v', lp_Mo_table_438 NF 340 len fuel v (nI s) = some v' := by
  intro j
  induction j with
  | zero =>
    intro s fuel v hj hf
    obtain ⟨u, rfl⟩ : ∃ u, fuel = u + 1 := ⟨fuel - 1, by omega⟩
    refine ⟨v, ?_⟩
    rw [ls_Mo_table_438]
    unfold lb_Mo_table_438
    (refine (if_pos ?_).trans ?_; focus ((try simp (disch := omega) only [Int32.le_iff_toInt_le, Int32.lt_iff_toInt_lt, ← Int32.toInt_inj, nI_toInt, nI_addL, nI_Ladd, nI_mulL, nI_Lmul, nI_add, nI_subL, nI_Lsub, nI_sub, Int32.reduceToInt, m1_toInt, ne_eq, Int32.reduceMul, Int32.reduceAdd, Int32.reduceSub]) <;> omega)); rfl
  | succ j ih =>
    intro s fuel v hj hf
    obtain ⟨u, rfl⟩ : ∃ u, fuel = u + 1 := ⟨fuel - 1, by omega⟩
    rw [ls_Mo_table_438]
    unfold lb_Mo_table_438
    rw [if_neg (show ¬ (32 : Int32) ≤ nI s by ((try simp (disch := omega) only [Int32.le_iff_toInt_le, Int32.lt_iff_toInt_lt, ← Int32.toInt_inj, nI_toInt, nI_addL, nI_Ladd, nI_mulL, nI_Lmul, nI_add, nI_subL, nI_Lsub, nI_sub, Int32.reduceToInt, m1_toInt, ne_eq, Int32.reduceMul, Int32.reduceAdd, Int32.reduceSub]) <;> omega)), show (288 : Int32) + nI s = nI (288 + s) from nI_add 288 s, Ix_s (by omega) (by omega), nI_clamp (by omega)]
    by_cases q : len (288 + s) ≤ 0
    · rw [if_pos q, Lt_s, nI_1]
      exact ih (s + 1) u _ (by omega) (by omega)
    · rw [if_neg q, Lt_s, Lt_s, nI_1]
      exact ih (s + 1) u _ (by omega) (by omega)
