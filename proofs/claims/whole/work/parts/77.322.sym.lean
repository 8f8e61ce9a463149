/-! symbols and pairs (ours) -/
def tnL : List (List Nat) := [[3, 4, 5, 6, 7, 8, 9, 10, 11, 13, 15, 17, 19, 23, 27, 31, 35, 43, 51, 59, 67, 83, 99, 115, 131, 163, 195, 227, 258],
  [0, 0, 0, 0, 0, 0, 0, 0, 1, 1, 1, 1, 2, 2, 2, 2, 3, 3, 3, 3, 4, 4, 4, 4, 5, 5, 5, 5, 0],
  [1, 2, 3, 4, 5, 7, 9, 13, 17, 25, 33, 49, 65, 97, 129, 193, 257, 385, 513, 769, 1025, 1537, 2049, 3073, 4097, 6145, 8193, 12289, 16385, 24577],
  [0, 0, 0, 0, 1, 1, 2, 2, 3, 3, 4, 4, 5, 5, 6, 6, 7, 7, 8, 8, 9, 9, 10, 10, 11, 11, 12, 12, 13, 13],
  [16, 17, 18, 0, 8, 7, 9, 6, 10, 5, 11, 4, 12, 3, 13, 2, 14, 1, 15]]
def tn (k j : Nat) : Nat := (tnL.getD k []).getD j 0
theorem tb_tn : ∀ k, k < 5 → ∀ j, j < 30 → tb k j = nI (tn k j) := by decide +kernel
theorem tn_small : ∀ k, k < 5 → ∀ j, j < 30 → tn k j ≤ 24577 := by decide +kernel
theorem Mo_lb : ∀ k, k < 29 → f_Mo_lengthBase NF (nI (257 + k)) = some (nI (tn 0 k)) := by decide +kernel
theorem Mo_le : ∀ k, k < 29 → f_Mo_lengthBits NF (nI (257 + k)) = some (nI (tn 1 k)) := by decide +kernel
theorem Mo_db : ∀ k, k < 30 → f_Mo_distanceBase NF (nI k) = some (nI (tn 2 k)) := by decide +kernel
theorem Mo_de : ∀ k, k < 30 → f_Mo_distanceBits NF (nI k) = some (nI (tn 3 k)) := by decide +kernel
/-- the code of a number among bases: from k on, at most j steps -/
def cF (r d : Nat) : Nat → Nat → Nat
  | 0, k => k
  | j + 1, k => if d < tn r (k + 1) then k else cF r d j (k + 1)
theorem cF_le (r d : Nat) : ∀ j k, cF r d j k ≤ j + k
  | 0, k => by show k ≤ 0 + k; omega
  | j + 1, k => by
    unfold cF
    split
    · omega
    · have := cF_le r d j (k + 1)
      omega
theorem cF_base (r d : Nat) : ∀ j k, tn r k ≤ d → tn r (cF r d j k) ≤ d
  | 0, k, h => h
  | j + 1, k, h => by
    unfold cF
    split
    · exact h
    · rename_i hn
      exact cF_base r d j (k + 1) (by omega)
theorem cF_next (r d : Nat) : ∀ j k, cF r d j k < j + k → d < tn r (cF r d j k + 1)
  | 0, k, h => absurd h (by show ¬ k < 0 + k; omega)
  | j + 1, k, h => by
    unfold cF at h ⊢
    split
    · rename_i hn
      exact hn
    · rename_i hn
      rw [if_neg hn] at h
      exact cF_next r d j (k + 1) (by omega)
theorem Pr_code_d {d : Nat} (hd : d ≤ 32768) : ∀ (j k fuel : Nat), j + k = 29 → j < fuel → lp_Pr_codeOf_p12_4 NF (nI d) fuel (nI k) (nI (k + 1)) = some (nI (cF 2 d j k)) := by
  intro j
  induction j with
  | zero =>
    intro k fuel hk hf
    obtain ⟨q, rfl⟩ : ∃ q, fuel = q + 1 := ⟨fuel - 1, by omega⟩
    rw [ls_Pr_codeOf_p12_4]
    unfold lb_Pr_codeOf_p12_4
    (refine (if_pos ?_).trans ?_; focus ((try simp (disch := omega) only [Int32.le_iff_toInt_le, Int32.lt_iff_toInt_lt, ← Int32.toInt_inj, nI_toInt, nI_addL, nI_Ladd, nI_mulL, nI_Lmul, nI_add, nI_subL, nI_Lsub, nI_sub, Int32.reduceToInt, m1_toInt, ne_eq, Int32.reduceMul, Int32.reduceAdd, Int32.reduceSub]) <;> omega)); rfl
  | succ j ih =>
    intro k fuel hk hf
    obtain ⟨q, rfl⟩ : ∃ q, fuel = q + 1 := ⟨fuel - 1, by omega⟩
    have hs := tn_small 2 (by omega) (k + 1) (by omega)
    rw [ls_Pr_codeOf_p12_4]
    unfold lb_Pr_codeOf_p12_4
    (refine (if_neg ?_).trans ?_; focus ((try simp (disch := omega) only [Int32.le_iff_toInt_le, Int32.lt_iff_toInt_lt, ← Int32.toInt_inj, nI_toInt, nI_addL, nI_Ladd, nI_mulL, nI_Lmul, nI_add, nI_subL, nI_Lsub, nI_sub, Int32.reduceToInt, m1_toInt, ne_eq, Int32.reduceMul, Int32.reduceAdd, Int32.reduceSub]) <;> omega)); rw [Ix_s (by omega) (by omega), nI_clamp (by omega), tb_tn 2 (by omega) (k + 1) (by omega)]
    unfold cF
    by_cases h : d < tn 2 (k + 1)
    · (refine (if_pos ?_).trans ?_; focus ((try simp (disch := omega) only [Int32.le_iff_toInt_le, Int32.lt_iff_toInt_lt, ← Int32.toInt_inj, nI_toInt, nI_addL, nI_Ladd, nI_mulL, nI_Lmul, nI_add, nI_subL, nI_Lsub, nI_sub, Int32.reduceToInt, m1_toInt, ne_eq, Int32.reduceMul, Int32.reduceAdd, Int32.reduceSub]) <;> omega)); rw [if_pos h]
    · (refine (if_neg ?_).trans ?_; focus ((try simp (disch := omega) only [Int32.le_iff_toInt_le, Int32.lt_iff_toInt_lt, ← Int32.toInt_inj, nI_toInt, nI_addL, nI_Ladd, nI_mulL, nI_Lmul, nI_add, nI_subL, nI_Lsub, nI_sub, Int32.reduceToInt, m1_toInt, ne_eq, Int32.reduceMul, Int32.reduceAdd, Int32.reduceSub]) <;> omega)); rw [if_neg h, Lt_s, nI_1]
      exact ih (k + 1) q (by omega) (by omega)
theorem Pr_code_l {d : Nat} (hd : d ≤ 258) : ∀ (j k fuel : Nat), j + k = 28 → j < fuel → lp_Pr_codeOf_p10_4 NF (nI d) fuel (nI k) (nI (k + 1)) = some (nI (cF 0 d j k)) := by
  intro j
  induction j with
  | zero =>
    intro k fuel hk hf
    obtain ⟨q, rfl⟩ : ∃ q, fuel = q + 1 := ⟨fuel - 1, by omega⟩
    rw [ls_Pr_codeOf_p10_4]
    unfold lb_Pr_codeOf_p10_4
    (refine (if_pos ?_).trans ?_; focus ((try simp (disch := omega) only [Int32.le_iff_toInt_le, Int32.lt_iff_toInt_lt, ← Int32.toInt_inj, nI_toInt, nI_addL, nI_Ladd, nI_mulL, nI_Lmul, nI_add, nI_subL, nI_Lsub, nI_sub, Int32.reduceToInt, m1_toInt, ne_eq, Int32.reduceMul, Int32.reduceAdd, Int32.reduceSub]) <;> omega)); rfl
  | succ j ih =>
    intro k fuel hk hf
    obtain ⟨q, rfl⟩ : ∃ q, fuel = q + 1 := ⟨fuel - 1, by omega⟩
    have hs := tn_small 0 (by omega) (k + 1) (by omega)
    rw [ls_Pr_codeOf_p10_4]
    unfold lb_Pr_codeOf_p10_4
    (refine (if_neg ?_).trans ?_; focus ((try simp (disch := omega) only [Int32.le_iff_toInt_le, Int32.lt_iff_toInt_lt, ← Int32.toInt_inj, nI_toInt, nI_addL, nI_Ladd, nI_mulL, nI_Lmul, nI_add, nI_subL, nI_Lsub, nI_sub, Int32.reduceToInt, m1_toInt, ne_eq, Int32.reduceMul, Int32.reduceAdd, Int32.reduceSub]) <;> omega)); rw [Ix_s (by omega) (by omega), nI_clamp (by omega), tb_tn 0 (by omega) (k + 1) (by omega)]
    unfold cF
    by_cases h : d < tn 0 (k + 1)
    · (refine (if_pos ?_).trans ?_; focus ((try simp (disch := omega) only [Int32.le_iff_toInt_le, Int32.lt_iff_toInt_lt, ← Int32.toInt_inj, nI_toInt, nI_addL, nI_Ladd, nI_mulL, nI_Lmul, nI_add, nI_subL, nI_Lsub, nI_sub, Int32.reduceToInt, m1_toInt, ne_eq, Int32.reduceMul, Int32.reduceAdd, Int32.reduceSub]) <;> omega)); rw [if_pos h]
    · (refine (if_neg ?_).trans ?_; focus ((try simp (disch := omega) only [Int32.le_iff_toInt_le, Int32.lt_iff_toInt_lt, ← Int32.toInt_inj, nI_toInt, nI_addL, nI_Ladd, nI_mulL, nI_Lmul, nI_add, nI_subL, nI_Lsub, nI_sub, Int32.reduceToInt, m1_toInt, ne_eq, Int32.reduceMul, Int32.reduceAdd, Int32.reduceSub]) <;> omega)); rw [if_neg h, Lt_s, nI_1]
      exact ih (k + 1) q (by omega) (by omega)
theorem Mo_code_l {d : Nat} (hd : d ≤ 258) : ∀ (j k fuel : Nat), j + k = 28 → j < fuel → lp_Mo_putPair_4 NF (nI d) fuel (nI (257 + k)) = some (nI (257 + cF 0 d j k)) := by
  intro j
  induction j with
  | zero =>
    intro k fuel hk hf
    obtain ⟨q, rfl⟩ : ∃ q, fuel = q + 1 := ⟨fuel - 1, by omega⟩
    rw [ls_Mo_putPair_4]
    unfold lb_Mo_putPair_4
    (refine (if_pos ?_).trans ?_; focus ((try simp (disch := omega) only [Int32.le_iff_toInt_le, Int32.lt_iff_toInt_lt, ← Int32.toInt_inj, nI_toInt, nI_addL, nI_Ladd, nI_mulL, nI_Lmul, nI_add, nI_subL, nI_Lsub, nI_sub, Int32.reduceToInt, m1_toInt, ne_eq, Int32.reduceMul, Int32.reduceAdd, Int32.reduceSub]) <;> omega)); rfl
  | succ j ih =>
    intro k fuel hk hf
    obtain ⟨q, rfl⟩ : ∃ q, fuel = q + 1 := ⟨fuel - 1, by omega⟩
    have hs := tn_small 0 (by omega) (k + 1) (by omega)
    rw [ls_Mo_putPair_4]
    unfold lb_Mo_putPair_4
    (refine (if_neg ?_).trans ?_; focus ((try simp (disch := omega) only [Int32.le_iff_toInt_le, Int32.lt_iff_toInt_lt, ← Int32.toInt_inj, nI_toInt, nI_addL, nI_Ladd, nI_mulL, nI_Lmul, nI_add, nI_subL, nI_Lsub, nI_sub, Int32.reduceToInt, m1_toInt, ne_eq, Int32.reduceMul, Int32.reduceAdd, Int32.reduceSub]) <;> omega)); rw [nI_1, Nat.add_assoc, Bd_s (Mo_lb (k + 1) (by omega))]
    unfold cF
    by_cases h : d < tn 0 (k + 1)
    · (refine (if_pos ?_).trans ?_; focus ((try simp (disch := omega) only [Int32.le_iff_toInt_le, Int32.lt_iff_toInt_lt, ← Int32.toInt_inj, nI_toInt, nI_addL, nI_Ladd, nI_mulL, nI_Lmul, nI_add, nI_subL, nI_Lsub, nI_sub, Int32.reduceToInt, m1_toInt, ne_eq, Int32.reduceMul, Int32.reduceAdd, Int32.reduceSub]) <;> omega)); rw [if_pos h]
    · (refine (if_neg ?_).trans ?_; focus ((try simp (disch := omega) only [Int32.le_iff_toInt_le, Int32.lt_iff_toInt_lt, ← Int32.toInt_inj, nI_toInt, nI_addL, nI_Ladd, nI_mulL, nI_Lmul, nI_add, nI_subL, nI_Lsub, nI_sub, Int32.reduceToInt, m1_toInt, ne_eq, Int32.reduceMul, Int32.reduceAdd, Int32.reduceSub]) <;> omega)); rw [if_neg h, Lt_s]
      exact ih (k + 1) q (by omega) (by omega)
theorem Mo_code_d {d : Nat} (hd : d ≤ 32768) : ∀ (j k fuel : Nat), j + k = 29 → j < fuel → lp_Mo_putPair_49 NF (nI d) fuel (nI k) = some (nI (cF 2 d j k)) := by
  intro j
  induction j with
  | zero =>
    intro k fuel hk hf
    obtain ⟨q, rfl⟩ : ∃ q, fuel = q + 1 := ⟨fuel - 1, by omega⟩
    rw [ls_Mo_putPair_49]
    unfold lb_Mo_putPair_49
    (refine (if_pos ?_).trans ?_; focus ((try simp (disch := omega) only [Int32.le_iff_toInt_le, Int32.lt_iff_toInt_lt, ← Int32.toInt_inj, nI_toInt, nI_addL, nI_Ladd, nI_mulL, nI_Lmul, nI_add, nI_subL, nI_Lsub, nI_sub, Int32.reduceToInt, m1_toInt, ne_eq, Int32.reduceMul, Int32.reduceAdd, Int32.reduceSub]) <;> omega)); rfl
  | succ j ih =>
    intro k fuel hk hf
    obtain ⟨q, rfl⟩ : ∃ q, fuel = q + 1 := ⟨fuel - 1, by omega⟩
    have hs := tn_small 2 (by omega) (k + 1) (by omega)
    rw [ls_Mo_putPair_49]
    unfold lb_Mo_putPair_49
    (refine (if_neg ?_).trans ?_; focus ((try simp (disch := omega) only [Int32.le_iff_toInt_le, Int32.lt_iff_toInt_lt, ← Int32.toInt_inj, nI_toInt, nI_addL, nI_Ladd, nI_mulL, nI_Lmul, nI_add, nI_subL, nI_Lsub, nI_sub, Int32.reduceToInt, m1_toInt, ne_eq, Int32.reduceMul, Int32.reduceAdd, Int32.reduceSub]) <;> omega)); rw [nI_1, Bd_s (Mo_db (k + 1) (by omega))]
    unfold cF
    by_cases h : d < tn 2 (k + 1)
    · (refine (if_pos ?_).trans ?_; focus ((try simp (disch := omega) only [Int32.le_iff_toInt_le, Int32.lt_iff_toInt_lt, ← Int32.toInt_inj, nI_toInt, nI_addL, nI_Ladd, nI_mulL, nI_Lmul, nI_add, nI_subL, nI_Lsub, nI_sub, Int32.reduceToInt, m1_toInt, ne_eq, Int32.reduceMul, Int32.reduceAdd, Int32.reduceSub]) <;> omega)); rw [if_pos h]
    · (refine (if_neg ?_).trans ?_; focus ((try simp (disch := omega) only [Int32.le_iff_toInt_le, Int32.lt_iff_toInt_lt, ← Int32.toInt_inj, nI_toInt, nI_addL, nI_Ladd, nI_mulL, nI_Lmul, nI_add, nI_subL, nI_Lsub, nI_sub, Int32.reduceToInt, m1_toInt, ne_eq, Int32.reduceMul, Int32.reduceAdd, Int32.reduceSub]) <;> omega)); rw [if_neg h, Lt_s]
      exact ih (k + 1) q (by omega) (by omega)
def lcd (d : Nat) : Nat := cF 0 d 28 0
def dcd (d : Nat) : Nat := cF 2 d 29 0
theorem lcd_le (d : Nat) : lcd d ≤ 28 := cF_le 0 d 28 0
theorem dcd_le (d : Nat) : dcd d ≤ 29 := cF_le 2 d 29 0
theorem tn0_step : ∀ k, k < 28 → tn 0 (k + 1) ≤ tn 0 k + 2 ^ tn 1 k := by decide +kernel
theorem tn2_step : ∀ k, k < 29 → tn 2 (k + 1) ≤ tn 2 k + 2 ^ tn 3 k := by decide +kernel
theorem lcd_ext {d : Nat} (h3 : 3 ≤ d) (hd : d ≤ 258) : tn 0 (lcd d) ≤ d ∧ d - tn 0 (lcd d) < 2 ^ tn 1 (lcd d) := by
  have h1 : tn 0 (lcd d) ≤ d := cF_base 0 d 28 0 (by show 3 ≤ d; exact h3)
  refine ⟨h1, ?_⟩
  by_cases h : lcd d < 28
  · have h2 := cF_next 0 d 28 0 (by show lcd d < 28 + 0; omega)
    have h2 : d < tn 0 (lcd d + 1) := h2
    have := tn0_step (lcd d) h
    omega
  · have h28 : lcd d = 28 := by have := lcd_le d; omega
    rw [h28] at h1 ⊢
    have e1 : tn 0 28 = 258 := by decide
    have e2 : tn 1 28 = 0 := by decide
    rw [e1, e2] at *
    omega
theorem dcd_ext {d : Nat} (h1 : 1 ≤ d) (hd : d ≤ 32768) : tn 2 (dcd d) ≤ d ∧ d - tn 2 (dcd d) < 2 ^ tn 3 (dcd d) := by
  have h2 : tn 2 (dcd d) ≤ d := cF_base 2 d 29 0 (by show 1 ≤ d; exact h1)
  refine ⟨h2, ?_⟩
  by_cases h : dcd d < 29
  · have h3 := cF_next 2 d 29 0 (by show dcd d < 29 + 0; omega)
    have h3 : d < tn 2 (dcd d + 1) := h3
    have := tn2_step (dcd d) h
    omega
  · have h29 : dcd d = 29 := by have := dcd_le d; omega
    rw [h29] at h2 ⊢
    have e1 : tn 2 29 = 24577 := by decide
    have e2 : tn 3 29 = 13 := by decide
    rw [e1, e2] at *
    omega
/-- a symbol's code and how many bits it has -/
def scd (s : Nat) : Nat := if s < 144 then 48 + s else if s < 256 then 400 + s - 144 else if s < 280 then s - 256 else 192 + s - 280
def sbn (s : Nat) : Nat := if s < 144 then 8 else if s < 256 then 9 else if s < 280 then 7 else 8
/-- what a symbol does to the stream -/
def pS (q : Nat × Nat) (s : Nat) : Nat × Nat := (q.1 + rv (scd s) (sbn s) * 2 ^ q.2, q.2 + sbn s)
def pN (q : Nat × Nat) (v n : Nat) : Nat × Nat := (q.1 + v * 2 ^ q.2, q.2 + n)
theorem scd_lt (s : Nat) (h : s < 288) : scd s < 2 ^ 16 ∧ sbn s ≤ 9 := by
  unfold scd sbn
  split
  · omega
  · split
    · omega
    · split <;> omega
theorem Pr_putSymbol {pre : List Int32} {q : Nat × Nat} {s : Nat} {held hb len : Int32} {c : Nat} {f : Nat → Int32} (h : BWs pre q.1 q.2 held hb len c f) (hs : s < 286) (hp : pre.length + (q.2 + sbn s) / 8 ≤ 73736) :
    ∃ (held' hb' len' : Int32) (c' : Nat) (f' : Nat → Int32) (k z : Nat), f_Pr_putSymbol NF held hb len c f (nI s) = some ((held', hb', len', c', f'), k, z) ∧ BWs pre (pS q s).1 (pS q s).2 held' hb' len' c' f' ∧ k + kap c' ≤ kap c ∧ z + phi c' ≤ phi c := by
  obtain ⟨hc, hn⟩ := scd_lt s (by omega)
  have hN : 20 < NF := by decide
  have e0 : f_Pr_reversed NF (nI (scd s)) (nI (sbn s)) = some (nI (rv (scd s) (sbn s))) := Pr_rev NF hN hc (by omega)
  obtain ⟨h1, h2, h3, c', f', k, z, e, hB, hk, hz⟩ := BW_put NF (by decide) h (rv_lt (scd s) (sbn s)) (by omega) hp
  refine ⟨h1, h2, h3, c', f', k + 0, z + 0, ?_, hB, hk, hz⟩
  have key : ∀ (cd : Nat) (n : Nat), scd s = cd → sbn s = n → (Bd (f_Pr_reversed NF (nI cd) (nI n)) fun r4 => Bk (f_BW_put NF held hb len c f r4 (nI n)) fun r5 => some ((r5.1, r5.2.1, r5.2.2.1, r5.2.2.2.1, r5.2.2.2.2), 0, 0)) = some ((h1, h2, h3, c', f'), k + 0, z + 0) := by
    intro cd n ec en
    subst ec
    subst en
    rw [Bd_s e0]
    exact Bk_s e rfl
  unfold f_Pr_putSymbol
  by_cases g1 : s < 144
  · (refine (if_neg ?_).trans ?_; focus ((try simp (disch := omega) only [Int32.le_iff_toInt_le, Int32.lt_iff_toInt_lt, ← Int32.toInt_inj, nI_toInt, nI_addL, nI_Ladd, nI_mulL, nI_Lmul, nI_add, nI_subL, nI_Lsub, nI_sub, Int32.reduceToInt, m1_toInt, ne_eq, Int32.reduceMul, Int32.reduceAdd, Int32.reduceSub]) <;> omega)); rw [show (48 : Int32) + nI s = nI (48 + s) from nI_add 48 s]
    exact key _ 8 (by unfold scd; rw [if_pos g1]) (by unfold sbn; rw [if_pos g1])
  · (refine (if_pos ?_).trans ?_; focus ((try simp (disch := omega) only [Int32.le_iff_toInt_le, Int32.lt_iff_toInt_lt, ← Int32.toInt_inj, nI_toInt, nI_addL, nI_Ladd, nI_mulL, nI_Lmul, nI_add, nI_subL, nI_Lsub, nI_sub, Int32.reduceToInt, m1_toInt, ne_eq, Int32.reduceMul, Int32.reduceAdd, Int32.reduceSub]) <;> omega))
    by_cases g2 : s < 256
    · (refine (if_neg ?_).trans ?_; focus ((try simp (disch := omega) only [Int32.le_iff_toInt_le, Int32.lt_iff_toInt_lt, ← Int32.toInt_inj, nI_toInt, nI_addL, nI_Ladd, nI_mulL, nI_Lmul, nI_add, nI_subL, nI_Lsub, nI_sub, Int32.reduceToInt, m1_toInt, ne_eq, Int32.reduceMul, Int32.reduceAdd, Int32.reduceSub]) <;> omega)); rw [show (400 : Int32) + nI s - 144 = nI (400 + s - 144) from by rw [show (400 : Int32) + nI s = nI (400 + s) from nI_add 400 s]; exact nI_sub (b := 144) (by omega)]
      exact key _ 9 (by unfold scd; rw [if_neg g1, if_pos g2]) (by unfold sbn; rw [if_neg g1, if_pos g2])
    · (refine (if_pos ?_).trans ?_; focus ((try simp (disch := omega) only [Int32.le_iff_toInt_le, Int32.lt_iff_toInt_lt, ← Int32.toInt_inj, nI_toInt, nI_addL, nI_Ladd, nI_mulL, nI_Lmul, nI_add, nI_subL, nI_Lsub, nI_sub, Int32.reduceToInt, m1_toInt, ne_eq, Int32.reduceMul, Int32.reduceAdd, Int32.reduceSub]) <;> omega))
      by_cases g3 : s < 280
      · (refine (if_neg ?_).trans ?_; focus ((try simp (disch := omega) only [Int32.le_iff_toInt_le, Int32.lt_iff_toInt_lt, ← Int32.toInt_inj, nI_toInt, nI_addL, nI_Ladd, nI_mulL, nI_Lmul, nI_add, nI_subL, nI_Lsub, nI_sub, Int32.reduceToInt, m1_toInt, ne_eq, Int32.reduceMul, Int32.reduceAdd, Int32.reduceSub]) <;> omega)); rw [show nI s - 256 = nI (s - 256) from nI_sub (b := 256) (by omega)]
        exact key _ 7 (by unfold scd; rw [if_neg g1, if_neg g2, if_pos g3]) (by unfold sbn; rw [if_neg g1, if_neg g2, if_pos g3])
      · (refine (if_pos ?_).trans ?_; focus ((try simp (disch := omega) only [Int32.le_iff_toInt_le, Int32.lt_iff_toInt_lt, ← Int32.toInt_inj, nI_toInt, nI_addL, nI_Ladd, nI_mulL, nI_Lmul, nI_add, nI_subL, nI_Lsub, nI_sub, Int32.reduceToInt, m1_toInt, ne_eq, Int32.reduceMul, Int32.reduceAdd, Int32.reduceSub]) <;> omega)); rw [show (192 : Int32) + nI s - 280 = nI (192 + s - 280) from by rw [show (192 : Int32) + nI s = nI (192 + s) from nI_add 192 s]; exact nI_sub (b := 280) (by omega)]
        exact key _ 8 (by unfold scd; rw [if_neg g1, if_neg g2, if_neg g3]) (by unfold sbn; rw [if_neg g1, if_neg g2, if_neg g3])
theorem Mo_putSign {q : Nat × Nat} {s : Nat} {bits : Int32} {g : Nat → Int32} (h : MWs q.1 q.2 bits g) (hs : s < 286) (hm : (q.2 + sbn s) / 8 < 73900) :
    ∃ g', f_Mo_putSign NF bits 74000 g (nI s) = some (nI (pS q s).2, g') ∧ MWs (pS q s).1 (pS q s).2 (nI (pS q s).2) g' := by
  obtain ⟨hc, hn⟩ := scd_lt s (by omega)
  obtain ⟨g', e, hB⟩ := Mo_putCode NF (by decide) hc (by omega) hm h
  refine ⟨g', ?_, hB⟩
  have key : ∀ (cd : Nat) (n : Nat), scd s = cd → sbn s = n → (Bd (f_Mo_putCode NF bits 74000 g (nI cd) (nI n)) fun r4 => some (r4.1, r4.2)) = some (nI (pS q s).2, g') := by
    intro cd n ec en
    subst ec
    subst en
    rw [Bd_s e]
    rfl
  unfold f_Mo_putSign
  by_cases g1 : s < 144
  · (refine (if_neg ?_).trans ?_; focus ((try simp (disch := omega) only [Int32.le_iff_toInt_le, Int32.lt_iff_toInt_lt, ← Int32.toInt_inj, nI_toInt, nI_addL, nI_Ladd, nI_mulL, nI_Lmul, nI_add, nI_subL, nI_Lsub, nI_sub, Int32.reduceToInt, m1_toInt, ne_eq, Int32.reduceMul, Int32.reduceAdd, Int32.reduceSub]) <;> omega)); rw [show (48 : Int32) + nI s = nI (48 + s) from nI_add 48 s]
    exact key _ 8 (by unfold scd; rw [if_pos g1]) (by unfold sbn; rw [if_pos g1])
  · (refine (if_pos ?_).trans ?_; focus ((try simp (disch := omega) only [Int32.le_iff_toInt_le, Int32.lt_iff_toInt_lt, ← Int32.toInt_inj, nI_toInt, nI_addL, nI_Ladd, nI_mulL, nI_Lmul, nI_add, nI_subL, nI_Lsub, nI_sub, Int32.reduceToInt, m1_toInt, ne_eq, Int32.reduceMul, Int32.reduceAdd, Int32.reduceSub]) <;> omega))
    by_cases g2 : s < 256
    · (refine (if_neg ?_).trans ?_; focus ((try simp (disch := omega) only [Int32.le_iff_toInt_le, Int32.lt_iff_toInt_lt, ← Int32.toInt_inj, nI_toInt, nI_addL, nI_Ladd, nI_mulL, nI_Lmul, nI_add, nI_subL, nI_Lsub, nI_sub, Int32.reduceToInt, m1_toInt, ne_eq, Int32.reduceMul, Int32.reduceAdd, Int32.reduceSub]) <;> omega)); rw [show (400 : Int32) + nI s - 144 = nI (400 + s - 144) from by rw [show (400 : Int32) + nI s = nI (400 + s) from nI_add 400 s]; exact nI_sub (b := 144) (by omega)]
      exact key _ 9 (by unfold scd; rw [if_neg g1, if_pos g2]) (by unfold sbn; rw [if_neg g1, if_pos g2])
    · (refine (if_pos ?_).trans ?_; focus ((try simp (disch := omega) only [Int32.le_iff_toInt_le, Int32.lt_iff_toInt_lt, ← Int32.toInt_inj, nI_toInt, nI_addL, nI_Ladd, nI_mulL, nI_Lmul, nI_add, nI_subL, nI_Lsub, nI_sub, Int32.reduceToInt, m1_toInt, ne_eq, Int32.reduceMul, Int32.reduceAdd, Int32.reduceSub]) <;> omega))
      by_cases g3 : s < 280
      · (refine (if_neg ?_).trans ?_; focus ((try simp (disch := omega) only [Int32.le_iff_toInt_le, Int32.lt_iff_toInt_lt, ← Int32.toInt_inj, nI_toInt, nI_addL, nI_Ladd, nI_mulL, nI_Lmul, nI_add, nI_subL, nI_Lsub, nI_sub, Int32.reduceToInt, m1_toInt, ne_eq, Int32.reduceMul, Int32.reduceAdd, Int32.reduceSub]) <;> omega)); rw [show nI s - 256 = nI (s - 256) from nI_sub (b := 256) (by omega)]
        exact key _ 7 (by unfold scd; rw [if_neg g1, if_neg g2, if_pos g3]) (by unfold sbn; rw [if_neg g1, if_neg g2, if_pos g3])
      · (refine (if_pos ?_).trans ?_; focus ((try simp (disch := omega) only [Int32.le_iff_toInt_le, Int32.lt_iff_toInt_lt, ← Int32.toInt_inj, nI_toInt, nI_addL, nI_Ladd, nI_mulL, nI_Lmul, nI_add, nI_subL, nI_Lsub, nI_sub, Int32.reduceToInt, m1_toInt, ne_eq, Int32.reduceMul, Int32.reduceAdd, Int32.reduceSub]) <;> omega)); rw [show (192 : Int32) + nI s - 280 = nI (192 + s - 280) from by rw [show (192 : Int32) + nI s = nI (192 + s) from nI_add 192 s]; exact nI_sub (b := 280) (by omega)]
        exact key _ 8 (by unfold scd; rw [if_neg g1, if_neg g2, if_neg g3]) (by unfold sbn; rw [if_neg g1, if_neg g2, if_neg g3])
