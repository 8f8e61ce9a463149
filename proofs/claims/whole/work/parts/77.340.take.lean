/-! reading bits: class and reference alike (ours) -/
theorem fit_c {x : Int32} (h : fits .byte (.int x) = true) : ∃ j, j < 256 ∧ x = vb_c j := by
  simp only [fits, Bool.and_eq_true, decide_eq_true_eq] at h
  obtain ⟨j, h1, -, h3⟩ := bx_small (x := x) (Int32.not_lt.mpr h.1) (Int32.not_lt.mpr h.2)
  exact ⟨j, h1, h3⟩
theorem vb_sb : ∀ j, j < 256 → vb_c j = sb_b (bvN (vb_c j)) := by decide +kernel
theorem vb_bB : ∀ j, j < 256 → bB (vb_c j) = vb_c j := by decide +kernel
theorem fit_sb {x : Int32} (h : fits .byte (.int x) = true) : x = sb_b (bvN x) := by
  obtain ⟨j, hj, rfl⟩ := fit_c h
  exact vb_sb j hj
theorem fit_bB {x : Int32} (h : fits .byte (.int x) = true) : bB x = x := by
  obtain ⟨j, hj, rfl⟩ := fit_c h
  exact vb_bB j hj
def sbits : Bool := (List.range 256).all fun b => (List.range 8).all fun r => decide ((sb_b b >>> (nI r &&& 31)) &&& 1 = nI (b / 2 ^ r % 2)) && decide ((us (sb_b b) (nI r)) &&& 1 = nI (b / 2 ^ r % 2))
theorem sbits_ok : sbits = true := by decide +kernel
theorem sb_bit {b r : Nat} (hb : b < 256) (hr : r < 8) : (sb_b b >>> (nI r &&& 31)) &&& 1 = nI (b / 2 ^ r % 2) ∧ (us (sb_b b) (nI r)) &&& 1 = nI (b / 2 ^ r % 2) := by
  have h := List.all_eq_true.mp (List.all_eq_true.mp sbits_ok b (List.mem_range.mpr hb)) r (List.mem_range.mpr hr)
  rw [Bool.and_eq_true] at h
  exact ⟨of_decide_eq_true h.1, of_decide_eq_true h.2⟩
def bitA (L : List Int32) (p : Nat) : Nat := if p < 8 * L.length then bvN (L.getD (p / 8) 0) / 2 ^ (p % 8) % 2 else 0
theorem bitA_lt (L : List Int32) (p : Nat) : bitA L p < 2 := by
  unfold bitA
  split <;> omega
/-- the number of the next k bits; behind the end come zeros -/
def tk (L : List Int32) (p : Nat) : Nat → Nat
  | 0 => 0
  | j + 1 => tk L p j + bitA L (p + j) * 2 ^ j
theorem tk_lt (L : List Int32) (p : Nat) : ∀ k, tk L p k < 2 ^ k
  | 0 => by show 0 < 1; omega
  | k + 1 => by
    have h1 := tk_lt L p k
    have h2 := bitA_lt L (p + k)
    show tk L p k + bitA L (p + k) * 2 ^ k < 2 ^ (k + 1)
    rw [Nat.pow_succ]
    have : bitA L (p + k) = 0 ∨ bitA L (p + k) = 1 := by omega
    rcases this with h | h <;> rw [h] <;> omega
theorem tk_end (L : List Int32) (p k : Nat) (hp : p ≤ 8 * L.length) : ∀ j, 8 * L.length ≤ p + k → tk L p (k + j) = tk L p k
  | 0, _ => rfl
  | j + 1, h => by
    show tk L p (k + j) + bitA L (p + (k + j)) * 2 ^ (k + j) = _
    rw [tk_end L p k hp j h]
    unfold bitA
    rw [if_neg (by omega), Nat.zero_mul, Nat.add_zero]
theorem tk_or {L : List Int32} {p j : Nat} (hj : j < 16) : nI (tk L p j) ||| (nI (bitA L (p + j)) <<< (nI j &&& 31)) = nI (tk L p (j + 1)) := by
  have h1 := tk_lt L p j
  have h2 := bitA_lt L (p + j)
  have h3 : 2 ^ j ≤ 2 ^ 15 := Nat.pow_le_pow_right (by decide) (by omega)
  have h4 : bitA L (p + j) * 2 ^ j < 2 ^ 32 := by
    have : bitA L (p + j) = 0 ∨ bitA L (p + j) = 1 := by omega
    rcases this with h | h <;> rw [h] <;> omega
  rw [n_shl (by omega) h4, n_or_add h1]
  rfl
theorem BR_bit {L : List Int32} {c n q : Nat} {f : Nat → Int32} (hR : Rw c f L) (hl : L.length = n) (hn : n ≤ 65536) (hq : q < 8 * n) : vp_in (nI q >>> ((3 : Int32) &&& 31)) c ∧ ((f (nI q >>> ((3 : Int32) &&& 31)).toNatClampNeg) >>> ((nI q &&& 7) &&& 31)) &&& 1 = nI (bitA L q) := by
  obtain ⟨r1, r2, r3, r4, r5⟩ := hR
  have e1 : nI q >>> ((3 : Int32) &&& 31) = nI (q / 8) := pk_shrN (by omega) _ 3 (by decide)
  have e2 : nI q &&& 7 = nI (q % 8) := pk_andN (k := 3) (by omega) (by decide)
  rw [e1, e2, nI_clamp (by omega)]
  refine ⟨vp_in_nI (by omega) (by omega), ?_⟩
  have hx := fit_sb (r4 (q / 8))
  rw [hx, (sb_bit (bvN_lt _) (by omega)).1, r5 (q / 8) (by omega)]
  unfold bitA
  rw [if_pos (by omega)]
theorem Ix_v {β : Type} {i : Int32} {n : Nat} {x : Option β} (h : vp_in i n) : Ix i n x = x := by
  unfold Ix
  exact if_neg h
theorem BR_take_loop {L : List Int32} {c n p k : Nat} {f : Nat → Int32} (hR : Rw c f L) (hl : L.length = n) (hn : n ≤ 65536) (hk : k ≤ 16) (hp : p ≤ 8 * n) : ∀ (j i fuel : Nat), j + i = k → j < fuel → p + i ≤ 8 * n →
    lp_BR_take_4 NF (nI k) (nI (8 * n)) c f fuel (nI (tk L p i)) (nI i) (nI (p + i)) = some (if p + k ≤ 8 * n then 1 else 0, nI (tk L p k), nI (min (p + k) (8 * n))) := by
  intro j
  induction j with
  | zero =>
    intro i fuel hj hf hi
    obtain ⟨q, rfl⟩ : ∃ q, fuel = q + 1 := ⟨fuel - 1, by omega⟩
    have hik : i = k := by omega
    subst hik
    rw [ls_BR_take_4]
    unfold lb_BR_take_4
    (refine (if_pos ?_).trans ?_; focus ((try simp (disch := omega) only [Int32.le_iff_toInt_le, Int32.lt_iff_toInt_lt, ← Int32.toInt_inj, nI_toInt, nI_addL, nI_Ladd, nI_mulL, nI_Lmul, nI_add, nI_subL, nI_Lsub, nI_sub, Int32.reduceToInt, m1_toInt, ne_eq, Int32.reduceMul, Int32.reduceAdd, Int32.reduceSub]) <;> omega)); rw [if_pos hi, Nat.min_eq_left hi]
  | succ j ih =>
    intro i fuel hj hf hi
    obtain ⟨q, rfl⟩ : ∃ q, fuel = q + 1 := ⟨fuel - 1, by omega⟩
    rw [ls_BR_take_4]
    unfold lb_BR_take_4
    (refine (if_neg ?_).trans ?_; focus ((try simp (disch := omega) only [Int32.le_iff_toInt_le, Int32.lt_iff_toInt_lt, ← Int32.toInt_inj, nI_toInt, nI_addL, nI_Ladd, nI_mulL, nI_Lmul, nI_add, nI_subL, nI_Lsub, nI_sub, Int32.reduceToInt, m1_toInt, ne_eq, Int32.reduceMul, Int32.reduceAdd, Int32.reduceSub]) <;> omega))
    by_cases h : p + i < 8 * n
    · obtain ⟨b1, b2⟩ := BR_bit hR hl hn h
      (refine (if_pos ?_).trans ?_; focus ((try simp (disch := omega) only [Int32.le_iff_toInt_le, Int32.lt_iff_toInt_lt, ← Int32.toInt_inj, nI_toInt, nI_addL, nI_Ladd, nI_mulL, nI_Lmul, nI_add, nI_subL, nI_Lsub, nI_sub, Int32.reduceToInt, m1_toInt, ne_eq, Int32.reduceMul, Int32.reduceAdd, Int32.reduceSub]) <;> omega)); rw [Ix_v b1, b2, Lt_s, Lt_s, Lt_s, tk_or (by omega), nI_1, nI_1]
      exact ih (i + 1) q (by omega) (by omega) (by omega)
    · (refine (if_neg ?_).trans ?_; focus ((try simp (disch := omega) only [Int32.le_iff_toInt_le, Int32.lt_iff_toInt_lt, ← Int32.toInt_inj, nI_toInt, nI_addL, nI_Ladd, nI_mulL, nI_Lmul, nI_add, nI_subL, nI_Lsub, nI_sub, Int32.reduceToInt, m1_toInt, ne_eq, Int32.reduceMul, Int32.reduceAdd, Int32.reduceSub]) <;> omega)); rw [if_neg (by omega), Nat.min_eq_right (by omega)]
      have e : tk L p k = tk L p i := by
        have := tk_end L p i (by omega) (k - i) (by omega)
        rwa [show i + (k - i) = k by omega] at this
      rw [e, show p + i = 8 * n by omega]
/-- place and flag behind k bits -/
def po (n p k : Nat) : Nat := min (p + k) (8 * n)
def ro (n p k : Nat) (r : Int32) : Int32 := if p + k ≤ 8 * n then r else 1
theorem po_le (n p k : Nat) : po n p k ≤ 8 * n := Nat.min_le_right _ _
theorem BR_take {L : List Int32} {c n p k : Nat} {f : Nat → Int32} (hR : Rw c f L) (hl : L.length = n) (hn : n ≤ 65536) (hk : k ≤ 16) (hp : p ≤ 8 * n) (r : Int32) : f_BR_take NF (nI (8 * n)) (nI p) r c f (nI k) = some (nI (tk L p k), nI (po n p k), ro n p k r) := by
  unfold f_BR_take
  have e := BR_take_loop hR hl hn hk hp k 0 NF (by omega) (Nat.lt_of_le_of_lt hk (by decide)) (by omega)
  refine (Bd_s e _).trans ?_
  unfold ro po
  by_cases h : p + k ≤ 8 * n
  · rw [if_pos h, if_pos h, if_neg (show ¬ (1 : Nat) = 0 by decide)]
  · rw [if_neg h, if_neg h, if_pos rfl]
theorem Mo_bit {L : List Int32} {n q : Nat} {g : Nat → Int32} (hM : Md g L) (hl : L.length = n) (hn : n ≤ 65536) (hq : q ≤ 8 * n) (w : Int32) : f_Mo_bit NF (nI n) (nI q) w 65536 g = some (nI (bitA L q), nI (po n q 1), ro n q 1 w) := by
  unfold f_Mo_bit po ro
  rw [show nI n * 8 = nI (8 * n) from (pk_mul n 8).trans (by rw [Nat.mul_comm])]
  by_cases h : q < 8 * n
  · have e1 : nI (q + 1) - 1 = nI q := nI_pred q
    have e2 : nI q / 8 = nI (q / 8) := pk_div (d := 8) (by omega) (by omega) (by omega)
    have e3 : irm (nI q) 8 = nI (q % 8) := pk_rem (d := 8) (by omega) (by omega) (by omega)
    (refine (if_pos ?_).trans ?_; focus ((try simp (disch := omega) only [Int32.le_iff_toInt_le, Int32.lt_iff_toInt_lt, ← Int32.toInt_inj, nI_toInt, nI_addL, nI_Ladd, nI_mulL, nI_Lmul, nI_add, nI_subL, nI_Lsub, nI_sub, Int32.reduceToInt, m1_toInt, ne_eq, Int32.reduceMul, Int32.reduceAdd, Int32.reduceSub]) <;> omega)); rw [Lt_s, nI_1, e1, e2, e3, Ix_s (by omega) (by omega), nI_clamp (by omega), if_pos (by omega), Nat.min_eq_left (by omega)]
    have hx := fit_sb (hM.1 (q / 8))
    rw [hx, (sb_bit (bvN_lt _) (by omega)).2, hM.2 (q / 8) (by omega)]
    unfold bitA
    rw [if_pos (by omega)]
  · (refine (if_neg ?_).trans ?_; focus ((try simp (disch := omega) only [Int32.le_iff_toInt_le, Int32.lt_iff_toInt_lt, ← Int32.toInt_inj, nI_toInt, nI_addL, nI_Ladd, nI_mulL, nI_Lmul, nI_add, nI_subL, nI_Lsub, nI_sub, Int32.reduceToInt, m1_toInt, ne_eq, Int32.reduceMul, Int32.reduceAdd, Int32.reduceSub]) <;> omega)); rw [if_neg (by omega), Nat.min_eq_right (by omega)]
    unfold bitA
    rw [if_neg (by omega), show q = 8 * n by omega]
    rfl
theorem Mo_number_loop {L : List Int32} {n p k : Nat} {g : Nat → Int32} (hM : Md g L) (hl : L.length = n) (hn : n ≤ 65536) (hk : k ≤ 16) (hp : p ≤ 8 * n) (w : Int32) : ∀ (j i fuel : Nat), j + i = k → j < fuel →
    lp_Mo_number_4 NF (nI k) (nI n) 65536 g fuel (nI (tk L p i)) (nI i) (nI (po n p i)) (ro n p i w) = some (nI (tk L p k), nI (po n p k), ro n p k w) := by
  intro j
  induction j with
  | zero =>
    intro i fuel hj hf
    obtain ⟨q, rfl⟩ : ∃ q, fuel = q + 1 := ⟨fuel - 1, by omega⟩
    have hik : i = k := by omega
    subst hik
    rw [ls_Mo_number_4]
    unfold lb_Mo_number_4
    (refine (if_pos ?_).trans ?_; focus ((try simp (disch := omega) only [Int32.le_iff_toInt_le, Int32.lt_iff_toInt_lt, ← Int32.toInt_inj, nI_toInt, nI_addL, nI_Ladd, nI_mulL, nI_Lmul, nI_add, nI_subL, nI_Lsub, nI_sub, Int32.reduceToInt, m1_toInt, ne_eq, Int32.reduceMul, Int32.reduceAdd, Int32.reduceSub]) <;> omega)); rfl
  | succ j ih =>
    intro i fuel hj hf
    obtain ⟨q, rfl⟩ : ∃ q, fuel = q + 1 := ⟨fuel - 1, by omega⟩
    have hpo := po_le n p i
    rw [ls_Mo_number_4]
    unfold lb_Mo_number_4
    have eb : bitA L (po n p i) = bitA L (p + i) := by
      unfold po
      by_cases h : p + i ≤ 8 * n
      · rw [Nat.min_eq_left h]
      · rw [Nat.min_eq_right (by omega)]
        unfold bitA
        rw [if_neg (by omega), if_neg (by omega)]
    have ep : po n (po n p i) 1 = po n p (i + 1) := by unfold po; omega
    have er : ro n (po n p i) 1 (ro n p i w) = ro n p (i + 1) w := by
      unfold ro po
      by_cases h : p + (i + 1) ≤ 8 * n
      · rw [if_pos h, if_pos (by omega), if_pos (by omega)]
      · rw [if_neg h]
        by_cases h2 : p + i ≤ 8 * n
        · rw [if_neg (by omega)]
        · rw [if_neg (by omega)]
    (refine (if_neg ?_).trans ?_; focus ((try simp (disch := omega) only [Int32.le_iff_toInt_le, Int32.lt_iff_toInt_lt, ← Int32.toInt_inj, nI_toInt, nI_addL, nI_Ladd, nI_mulL, nI_Lmul, nI_add, nI_subL, nI_Lsub, nI_sub, Int32.reduceToInt, m1_toInt, ne_eq, Int32.reduceMul, Int32.reduceAdd, Int32.reduceSub]) <;> omega)); rw [Bd_s (Mo_bit hM hl hn hpo _), Lt_s, Lt_s, eb, tk_or (by omega), nI_1, ep, er]
    exact ih (i + 1) q (by omega) (by omega)
theorem Mo_number {L : List Int32} {n p k : Nat} {g : Nat → Int32} (hM : Md g L) (hl : L.length = n) (hn : n ≤ 65536) (hk : k ≤ 16) (hp : p ≤ 8 * n) (w : Int32) : f_Mo_number NF (nI n) (nI p) w 65536 g (nI k) = some (nI (tk L p k), nI (po n p k), ro n p k w) := by
  unfold f_Mo_number
  have e := Mo_number_loop hM hl hn hk hp w k 0 NF (by omega) (Nat.lt_of_le_of_lt hk (by decide))
  have e0 : nI (po n p 0) = nI p := by
    unfold po
    rw [Nat.min_eq_left (by omega)]
    rfl
  have e1 : ro n p 0 w = w := by
    unfold ro
    rw [if_pos (by omega)]
  rw [e0, e1] at e
  exact (Bd_s e _).trans rfl
