/-! the reference's bits; codes with their highest bit first (ours) -/
def rv (c : Nat) : Nat → Nat
  | 0 => 0
  | j + 1 => 2 * rv c j + c / 2 ^ j % 2
theorem rv_lt (c : Nat) : ∀ j, rv c j < 2 ^ j
  | 0 => by show 0 < 1; omega
  | j + 1 => by
    have := rv_lt c j
    show 2 * rv c j + c / 2 ^ j % 2 < 2 ^ (j + 1)
    rw [Nat.pow_succ]
    omega
theorem Pr_rev_loop (N : Nat) {c n : Nat} (hc : c < 2 ^ 16) (hn : n ≤ 15) : ∀ (j k fuel : Nat), j + k = n → j < fuel → lp_Pr_reversed_4 N (nI c) (nI n) fuel (nI (rv c k)) (nI k) = some (nI (rv c n)) := by
  intro j
  induction j with
  | zero =>
    intro k fuel hk hf
    obtain ⟨q, rfl⟩ : ∃ q, fuel = q + 1 := ⟨fuel - 1, by omega⟩
    have hk : k = n := by omega
    subst hk
    rw [ls_Pr_reversed_4]
    unfold lb_Pr_reversed_4
    (refine (if_pos ?_).trans ?_; focus ((try simp (disch := omega) only [Int32.le_iff_toInt_le, Int32.lt_iff_toInt_lt, ← Int32.toInt_inj, nI_toInt, nI_addL, nI_Ladd, nI_mulL, nI_Lmul, nI_add, nI_subL, nI_Lsub, nI_sub, Int32.reduceToInt, m1_toInt, ne_eq, Int32.reduceMul, Int32.reduceAdd, Int32.reduceSub]) <;> omega)); rfl
  | succ j ih =>
    intro k fuel hk hf
    obtain ⟨q, rfl⟩ : ∃ q, fuel = q + 1 := ⟨fuel - 1, by omega⟩
    have hr := rv_lt c k
    have hr2 : 2 ^ k ≤ 2 ^ 15 := Nat.pow_le_pow_right (by decide) (by omega)
    rw [← ih (k + 1) q (by omega) (by omega)]
    rw [ls_Pr_reversed_4]
    unfold lb_Pr_reversed_4
    have e1 : nI (rv c k) <<< ((1 : Int32) &&& 31) = nI (rv c k * 2 ^ 1) := n_shl (k := 1) (by omega) (by omega)
    have e2 : us (nI c) (nI k) &&& 1 = nI (c / 2 ^ k % 2) := by
      rw [n_us (by omega) (by omega), n_and1 (Nat.lt_of_le_of_lt (Nat.div_le_self _ _) (by omega))]
    have e3 : nI (rv c k * 2 ^ 1) ||| nI (c / 2 ^ k % 2) = nI (rv c (k + 1)) := by
      have h := n_or_add (a := c / 2 ^ k % 2) (b := rv c k) (k := 1) (by omega)
      have hc : nI (rv c k * 2 ^ 1) ||| nI (c / 2 ^ k % 2) = nI (c / 2 ^ k % 2) ||| nI (rv c k * 2 ^ 1) := by
        rw [n_or, n_or, Nat.or_comm]
      rw [hc, h]
      congr 1
      show _ = 2 * rv c k + c / 2 ^ k % 2
      omega
    (refine (if_neg ?_).trans ?_; focus ((try simp (disch := omega) only [Int32.le_iff_toInt_le, Int32.lt_iff_toInt_lt, ← Int32.toInt_inj, nI_toInt, nI_addL, nI_Ladd, nI_mulL, nI_Lmul, nI_add, nI_subL, nI_Lsub, nI_sub, Int32.reduceToInt, m1_toInt, ne_eq, Int32.reduceMul, Int32.reduceAdd, Int32.reduceSub]) <;> omega)); rw [Lt_s, Lt_s, e1, e2, e3, nI_1]
theorem Pr_rev (N : Nat) (hN : 20 < N) {c n : Nat} (hc : c < 2 ^ 16) (hn : n ≤ 15) : f_Pr_reversed N (nI c) (nI n) = some (nI (rv c n)) := by
  unfold f_Pr_reversed
  exact (Bd_s (Pr_rev_loop N hc hn n 0 N (by omega) (by omega)) _).trans rfl
/-- the reference's bytes: the head, then the bytes of S, the last one filled with zeros -/
def MWs (S m : Nat) (bits : Int32) (g : Nat → Int32) : Prop := S < 2 ^ m ∧ bits = nI m ∧ sb_Fit g ∧ g 0 = sb_b 120 ∧ g 1 = sb_b 1 ∧ ∀ k, 8 * k < m → g (2 + k) = Sb S k
theorem bB_or (a b : Int32) : bB (bB a ||| b) = bB (a ||| b) := by
  unfold bB
  have h : (a.toInt8.toInt32 ||| b).toInt8 = (a ||| b).toInt8 := by
    apply Int8.toBitVec_inj.mp
    simp only [Int32.toBitVec_toInt8, Int32.toBitVec_or, Int8.toBitVec_toInt32]
    apply BitVec.eq_of_getLsbD_eq
    intro i hi
    have h8 : i < 8 := hi
    simp [BitVec.getLsbD_setWidth, BitVec.getLsbD_or, BitVec.getLsbD_signExtend, BitVec.getElem_signExtend, h8, show i < 32 by omega]
  rw [h]
theorem Mo_putBit (N : Nat) {S m b : Nat} {bits : Int32} {g : Nat → Int32} (h : MWs S m bits g) (hb : b < 2) (hm : m / 8 < 73900) : ∃ g', f_Mo_putBit N bits 74000 g (nI b) = some (nI (m + 1), g') ∧ MWs (S + b * 2 ^ m) (m + 1) (nI (m + 1)) g' := by
  obtain ⟨hS, rfl, hF, h0, h1, hk⟩ := h
  have e1 : 2 + nI m / 8 = nI (2 + m / 8) := by
    rw [show nI m / 8 = nI (m / 8) from pk_div (d := 8) (by omega) (by omega) (by omega)]
    exact nI_add 2 _
  have e2 : irm (nI m) 8 = nI (m % 8) := pk_rem (d := 8) (by omega) (by omega) (by omega)
  have hT : S + b * 2 ^ m < 2 ^ (m + 1) := by
    rw [Nat.pow_succ]
    have : b = 0 ∨ b = 1 := by omega
    rcases this with rfl | rfl <;> omega
  have hlo : S / 2 ^ (8 * (m / 8)) < 2 ^ (m % 8) := by
    rw [Nat.div_lt_iff_lt_mul (Nat.pow_pos (by decide)), ← Nat.pow_add, show m % 8 + 8 * (m / 8) = m by omega]
    exact hS
  have hlo2 : 2 ^ (m % 8) ≤ 128 := by
    have : 2 ^ (m % 8) ≤ 2 ^ 7 := Nat.pow_le_pow_right (by decide) (by omega)
    exact this
  -- the byte as it stands before the bit
  obtain ⟨g1, hg1, hF1, hg0, hgo⟩ : ∃ g1 : Nat → Int32, (∀ kk : (Nat → Int32) → Option (Int32 × (Nat → Int32)), (if irm (nI m) 8 = 0 then (Ix (nI (2 + m / 8)) 74000 <| Lt (upd g (nI (2 + m / 8)).toNatClampNeg (vp_nar .byte 0)) fun g18 => kk g18) else kk g) = kk g1) ∧ sb_Fit g1 ∧ g1 (2 + m / 8) = sb_b (S / 2 ^ (8 * (m / 8))) ∧ ∀ i, i ≠ 2 + m / 8 → g1 i = g i := by
    by_cases hz : m % 8 = 0
    · refine ⟨upd g (2 + m / 8) (bB 0), fun kk => ?_, sb_fitU hF (bB_fit 0), ?_, fun i hi => pk_un hi⟩
      · rw [e2, hz]; (refine (if_pos ?_).trans ?_; focus ((try simp (disch := omega) only [Int32.le_iff_toInt_le, Int32.lt_iff_toInt_lt, ← Int32.toInt_inj, nI_toInt, nI_addL, nI_Ladd, nI_mulL, nI_Lmul, nI_add, nI_subL, nI_Lsub, nI_sub, Int32.reduceToInt, m1_toInt, ne_eq, Int32.reduceMul, Int32.reduceAdd, Int32.reduceSub]) <;> omega)); rw [Ix_s (by omega) (by omega), Lt_s, nI_clamp (by omega)]
        rfl
      · rw [pk_us]
        rw [hz, Nat.pow_zero] at hlo
        have : S / 2 ^ (8 * (m / 8)) = 0 := Nat.lt_one_iff.mp hlo
        rw [this]
        rfl
    · refine ⟨g, fun kk => ?_, hF, ?_, fun i _ => rfl⟩
      · rw [e2]; (refine (if_neg ?_).trans ?_; focus ((try simp (disch := omega) only [Int32.le_iff_toInt_le, Int32.lt_iff_toInt_lt, ← Int32.toInt_inj, nI_toInt, nI_addL, nI_Ladd, nI_mulL, nI_Lmul, nI_add, nI_subL, nI_Lsub, nI_sub, Int32.reduceToInt, m1_toInt, ne_eq, Int32.reduceMul, Int32.reduceAdd, Int32.reduceSub]) <;> omega)); rfl
      · rw [hk (m / 8) (by omega)]
        unfold Sb
        rw [Nat.mod_eq_of_lt (by omega)]
  have hold : ∀ k, k < m / 8 → Sb (S + b * 2 ^ m) k = Sb S k := fun k hk => by
    unfold Sb
    rw [div_mod_pow b rfl (by omega)]
  have hnew : Sb (S + b * 2 ^ m) (m / 8) = sb_b (S / 2 ^ (8 * (m / 8)) + b * 2 ^ (m % 8)) := by
    unfold Sb
    rw [add_div_pow b (by omega), show m - 8 * (m / 8) = m % 8 by omega, Nat.mod_eq_of_lt]
    have : b = 0 ∨ b = 1 := by omega
    rcases this with rfl | rfl <;> omega
  have fin : ∀ g2 : Nat → Int32, sb_Fit g2 → g2 (2 + m / 8) = sb_b (S / 2 ^ (8 * (m / 8)) + b * 2 ^ (m % 8)) → (∀ i, i ≠ 2 + m / 8 → g2 i = g i) → MWs (S + b * 2 ^ m) (m + 1) (nI (m + 1)) g2 := by
    intro g2 hF2 ha ho
    refine ⟨hT, rfl, hF2, by rw [ho 0 (by omega)]; exact h0, by rw [ho 1 (by omega)]; exact h1, fun k hk2 => ?_⟩
    by_cases q : k = m / 8
    · rw [q, ha, hnew]
    · rw [ho (2 + k) (by omega), hold k (by omega)]
      exact hk k (by omega)
  have hb2 : b = 0 ∨ b = 1 := by omega
  rcases hb2 with rfl | rfl
  · refine ⟨g1, ?_, fin g1 hF1 (by rw [hg0]; congr 1; omega) hgo⟩
    unfold f_Mo_putBit
    rw [Lt_s, Jn_s, e1, hg1, Jn_s]; (refine (if_pos ?_).trans ?_; focus ((try simp (disch := omega) only [Int32.le_iff_toInt_le, Int32.lt_iff_toInt_lt, ← Int32.toInt_inj, nI_toInt, nI_addL, nI_Ladd, nI_mulL, nI_Lmul, nI_add, nI_subL, nI_Lsub, nI_sub, Int32.reduceToInt, m1_toInt, ne_eq, Int32.reduceMul, Int32.reduceAdd, Int32.reduceSub]) <;> omega)); simp only [Lt_s, nI_1]
  · refine ⟨upd g1 (2 + m / 8) (sb_b (S / 2 ^ (8 * (m / 8)) + 1 * 2 ^ (m % 8))), ?_, fin _ (sb_fitU hF1 (sb_fitB _)) pk_us (fun i hi => by rw [pk_un hi]; exact hgo i hi)⟩
    unfold f_Mo_putBit
    rw [Lt_s, Jn_s, e1, hg1, Jn_s, if_neg (by decide), Ix_s (by omega) (by omega), Ix_s (by omega) (by omega)]
    simp only [Lt_s]
    rw [nI_1, nI_clamp (by omega), hg0, bB_nar, e2]
    have e3 : (1 : Int32) <<< (nI (m % 8) &&& 31) = nI (1 * 2 ^ (m % 8)) := n_shl (v := 1) (by omega) (by omega)
    rw [e3, ← bB_nI, bB_or, n_or_add hlo, bB_nI]
theorem Mo_putNumber_loop (N : Nat) {v n : Nat} (hv : v < 2 ^ 16) (hn : n ≤ 16) : ∀ (j k fuel : Nat) (S m : Nat) (g : Nat → Int32), j + k = n → j < fuel → (m + j) / 8 < 73900 → MWs S m (nI m) g →
    ∃ g', lp_Mo_putNumber_2 N (nI v) (nI n) 74000 fuel (nI k) (nI m) g = some (nI (m + j), g') ∧ MWs (S + v / 2 ^ k % 2 ^ j * 2 ^ m) (m + j) (nI (m + j)) g' := by
  intro j
  induction j with
  | zero =>
    intro k fuel S m g hk hf hm hM
    obtain ⟨q, rfl⟩ : ∃ q, fuel = q + 1 := ⟨fuel - 1, by omega⟩
    refine ⟨g, ?_, ?_⟩
    · rw [ls_Mo_putNumber_2]
      unfold lb_Mo_putNumber_2
      (refine (if_pos ?_).trans ?_; focus ((try simp (disch := omega) only [Int32.le_iff_toInt_le, Int32.lt_iff_toInt_lt, ← Int32.toInt_inj, nI_toInt, nI_addL, nI_Ladd, nI_mulL, nI_Lmul, nI_add, nI_subL, nI_Lsub, nI_sub, Int32.reduceToInt, m1_toInt, ne_eq, Int32.reduceMul, Int32.reduceAdd, Int32.reduceSub]) <;> omega)); rfl
    · rw [Nat.pow_zero, Nat.mod_one, Nat.zero_mul]
      exact hM
  | succ j ih =>
    intro k fuel S m g hk hf hm hM
    obtain ⟨q, rfl⟩ : ∃ q, fuel = q + 1 := ⟨fuel - 1, by omega⟩
    obtain ⟨g1, e1, h1⟩ := Mo_putBit N hM (b := v / 2 ^ k % 2) (by omega) (by omega)
    obtain ⟨g2, e2, h2⟩ := ih (k + 1) q _ (m + 1) g1 (by omega) (by omega) (by rw [show m + 1 + j = m + (j + 1) by omega]; exact hm) h1
    refine ⟨g2, ?_, ?_⟩
    · rw [show m + (j + 1) = m + 1 + j by omega, ← e2]
      rw [ls_Mo_putNumber_2]
      unfold lb_Mo_putNumber_2
      have e3 : us (nI v) (nI k) &&& 1 = nI (v / 2 ^ k % 2) := by
        rw [n_us (by omega) (by omega), n_and1 (Nat.lt_of_le_of_lt (Nat.div_le_self _ _) (by omega))]
      (refine (if_neg ?_).trans ?_; focus ((try simp (disch := omega) only [Int32.le_iff_toInt_le, Int32.lt_iff_toInt_lt, ← Int32.toInt_inj, nI_toInt, nI_addL, nI_Ladd, nI_mulL, nI_Lmul, nI_add, nI_subL, nI_Lsub, nI_sub, Int32.reduceToInt, m1_toInt, ne_eq, Int32.reduceMul, Int32.reduceAdd, Int32.reduceSub]) <;> omega)); rw [e3, Bd_s e1, Lt_s, nI_1]
    · have e4 : S + v / 2 ^ k % 2 * 2 ^ m + v / 2 ^ (k + 1) % 2 ^ j * 2 ^ (m + 1) = S + v / 2 ^ k % 2 ^ (j + 1) * 2 ^ m := by
        have hd : v / 2 ^ (k + 1) = v / 2 ^ k / 2 := by rw [Nat.pow_succ, Nat.div_div_eq_div_mul]
        have hm2 : v / 2 ^ k % 2 ^ (j + 1) = v / 2 ^ k % 2 + 2 * (v / 2 ^ k / 2 % 2 ^ j) := by
          rw [Nat.pow_succ, Nat.mul_comm (2 ^ j) 2, Nat.mod_mul]
        rw [hd, hm2, Nat.pow_succ, Nat.add_mul, Nat.add_assoc]
        congr 2
        generalize v / 2 ^ k / 2 % 2 ^ j = u
        generalize 2 ^ m = w
        rw [Nat.mul_comm w 2, ← Nat.mul_assoc, Nat.mul_comm u 2]
      rw [e4] at h2
      rw [show m + (j + 1) = m + 1 + j by omega]
      exact h2
theorem Mo_putNumber (N : Nat) (hN : 20 < N) {v n S m : Nat} {bits : Int32} {g : Nat → Int32} (hv : v < 2 ^ n) (hn : n ≤ 16) (hm : (m + n) / 8 < 73900) (h : MWs S m bits g) : ∃ g', f_Mo_putNumber N bits 74000 g (nI v) (nI n) = some (nI (m + n), g') ∧ MWs (S + v * 2 ^ m) (m + n) (nI (m + n)) g' := by
  have hb : bits = nI m := h.2.1
  subst hb
  have h16 : 2 ^ n ≤ 2 ^ 16 := Nat.pow_le_pow_right (by decide) hn
  obtain ⟨g', e, h'⟩ := Mo_putNumber_loop N (v := v) (n := n) (by omega) hn n 0 N S m g (by omega) (by omega) hm h
  refine ⟨g', ?_, ?_⟩
  · unfold f_Mo_putNumber
    exact (Bd_s e _).trans rfl
  · rw [Nat.pow_zero, Nat.div_one, Nat.mod_eq_of_lt hv] at h'
    exact h'
theorem Mo_putCode_loop (N : Nat) {c : Nat} (hc : c < 2 ^ 16) : ∀ (j fuel : Nat) (S m : Nat) (g : Nat → Int32), j ≤ 15 → j < fuel → (m + j) / 8 < 73900 → MWs S m (nI m) g →
    ∃ g', lp_Mo_putCode_4 N (nI c) 74000 fuel (nI j - 1) (nI m) g = some (nI (m + j), g') ∧ MWs (S + rv c j * 2 ^ m) (m + j) (nI (m + j)) g' := by
  intro j
  induction j with
  | zero =>
    intro fuel S m g hj hf hm hM
    obtain ⟨q, rfl⟩ : ∃ q, fuel = q + 1 := ⟨fuel - 1, by omega⟩
    refine ⟨g, ?_, ?_⟩
    · rw [ls_Mo_putCode_4]
      unfold lb_Mo_putCode_4
      exact if_pos (by decide)
    · show MWs (S + 0 * 2 ^ m) (m + 0) (nI (m + 0)) g
      rw [Nat.zero_mul]
      exact hM
  | succ j ih =>
    intro fuel S m g hj hf hm hM
    obtain ⟨q, rfl⟩ : ∃ q, fuel = q + 1 := ⟨fuel - 1, by omega⟩
    obtain ⟨g1, e1, h1⟩ := Mo_putBit N hM (b := c / 2 ^ j % 2) (by omega) (by omega)
    obtain ⟨g2, e2, h2⟩ := ih q _ (m + 1) g1 (by omega) (by omega) (by rw [show m + 1 + j = m + (j + 1) by omega]; exact hm) h1
    refine ⟨g2, ?_, ?_⟩
    · rw [show m + (j + 1) = m + 1 + j by omega, ← e2]
      rw [ls_Mo_putCode_4]
      unfold lb_Mo_putCode_4
      have e3 : us (nI c) (nI j) &&& 1 = nI (c / 2 ^ j % 2) := by
        rw [n_us (by omega) (by omega), n_and1 (Nat.lt_of_le_of_lt (Nat.div_le_self _ _) (by omega))]
      rw [nI_pred]; (refine (if_neg ?_).trans ?_; focus ((try simp (disch := omega) only [Int32.le_iff_toInt_le, Int32.lt_iff_toInt_lt, ← Int32.toInt_inj, nI_toInt, nI_addL, nI_Ladd, nI_mulL, nI_Lmul, nI_add, nI_subL, nI_Lsub, nI_sub, Int32.reduceToInt, m1_toInt, ne_eq, Int32.reduceMul, Int32.reduceAdd, Int32.reduceSub]) <;> omega)); rw [e3, Bd_s e1, Lt_s]
      rw [show nI j + (-1) = nI j - 1 from (Int32.sub_eq_add_neg _ _).symm]
    · have e4 : S + c / 2 ^ j % 2 * 2 ^ m + rv c j * 2 ^ (m + 1) = S + rv c (j + 1) * 2 ^ m := by
        show _ = S + (2 * rv c j + c / 2 ^ j % 2) * 2 ^ m
        rw [Nat.pow_succ, Nat.add_mul, Nat.add_assoc]
        congr 1
        generalize rv c j = u
        generalize 2 ^ m = w
        generalize c / 2 ^ j % 2 = x
        rw [Nat.add_comm, Nat.mul_comm w 2, ← Nat.mul_assoc, Nat.mul_comm u 2]
      rw [e4] at h2
      rw [show m + (j + 1) = m + 1 + j by omega]
      exact h2
theorem Mo_putCode (N : Nat) (hN : 20 < N) {c n S m : Nat} {bits : Int32} {g : Nat → Int32} (hc : c < 2 ^ 16) (hn : n ≤ 15) (hm : (m + n) / 8 < 73900) (h : MWs S m bits g) : ∃ g', f_Mo_putCode N bits 74000 g (nI c) (nI n) = some (nI (m + n), g') ∧ MWs (S + rv c n * 2 ^ m) (m + n) (nI (m + n)) g' := by
  have hb : bits = nI m := h.2.1
  subst hb
  obtain ⟨g', e, h'⟩ := Mo_putCode_loop N hc n N S m g hn (by omega) hm h
  refine ⟨g', ?_, h'⟩
  unfold f_Mo_putCode
  rw [Lt_s]
  exact (Bd_s e _).trans rfl
