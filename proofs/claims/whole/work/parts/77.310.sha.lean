/-! SHA-1: the class's rounds are the reference's (ours) -/
theorem i32_bv {x y : Int32} (h : x.toBitVec = y.toBitVec) : x = y := Int32.toBitVec_inj.mp h
theorem sha_ch (b c d : Int32) : (b &&& c) ||| ((b ^^^ (-1)) &&& d) = (b &&& c) + ((b ^^^ (-1)) &&& d) := by
  apply i32_bv
  rw [Int32.toBitVec_or, Int32.toBitVec_add]
  symm
  apply BitVec.add_eq_or_of_and_eq_zero
  have hm : (-1 : Int32).toBitVec = BitVec.allOnes 32 := by decide
  rw [Int32.toBitVec_and, Int32.toBitVec_and, Int32.toBitVec_xor, hm]
  apply BitVec.eq_of_getLsbD_eq
  intro i hi
  simp only [BitVec.getLsbD_and, BitVec.getLsbD_xor, BitVec.getLsbD_allOnes, BitVec.getLsbD_zero, hi, decide_true]
  cases b.toBitVec.getLsbD i <;> simp
theorem sha_maj (b c d : Int32) : ((b &&& c) ||| (b &&& d)) ||| (c &&& d) = ((b &&& c) ^^^ (b &&& d)) ^^^ (c &&& d) := by
  apply i32_bv
  simp only [Int32.toBitVec_or, Int32.toBitVec_xor, Int32.toBitVec_and]
  apply BitVec.eq_of_getLsbD_eq
  intro i hi
  simp only [BitVec.getLsbD_and, BitVec.getLsbD_xor, BitVec.getLsbD_or]
  cases b.toBitVec.getLsbD i <;> cases c.toBitVec.getLsbD i <;> cases d.toBitVec.getLsbD i <;> rfl
theorem sha_w4 (b0 b1 b2 b3 : Int32) : ((((((((0 : Int32) <<< ((8 : Int32) &&& 31)) ||| b0) <<< ((8 : Int32) &&& 31)) ||| b1) <<< ((8 : Int32) &&& 31)) ||| b2) <<< ((8 : Int32) &&& 31)) ||| b3 = (((b0 <<< ((24 : Int32) &&& 31)) ||| (b1 <<< ((16 : Int32) &&& 31))) ||| (b2 <<< ((8 : Int32) &&& 31))) ||| b3 := by
  have s8 : (((8 : Int32) &&& 31).toBitVec.smod 32) = 8#32 := by decide
  have s16 : (((16 : Int32) &&& 31).toBitVec.smod 32) = 16#32 := by decide
  have s24 : (((24 : Int32) &&& 31).toBitVec.smod 32) = 24#32 := by decide
  have z : (0 : Int32).toBitVec = 0#32 := rfl
  apply i32_bv
  simp only [Int32.toBitVec_or, Int32.toBitVec_shiftLeft, s8, s16, s24, z]
  apply BitVec.eq_of_getLsbD_eq
  intro i hi
  simp only [BitVec.getLsbD_or, BitVec.shiftLeft_eq', BitVec.getLsbD_shiftLeft, BitVec.toNat_ofNat, BitVec.getLsbD_zero, hi, decide_true, Bool.true_and, Bool.and_false, Bool.false_or]
  by_cases h1 : i < 8
  · simp [h1, show i < 16 by omega, show i < 24 by omega]
  · by_cases h2 : i < 16
    · simp [h1, h2, show i < 24 by omega, show i - 8 < 8 by omega, show i - 8 < 32 by omega]
    · by_cases h3 : i < 24
      · simp [h1, h2, h3, show ¬ i - 8 < 8 by omega, show i - 8 - 8 < 8 by omega, show i - 8 < 32 by omega, show i - 8 - 8 < 32 by omega, show i - 8 - 8 = i - 16 by omega, show i - 16 < 8 by omega, show i - 16 < 32 by omega]
      · simp [h1, h2, h3, show ¬ i - 8 < 8 by omega, show ¬ i - 8 - 8 < 8 by omega, show i - 8 - 8 - 8 < 8 by omega, show i - 8 < 32 by omega, show i - 8 - 8 < 32 by omega, show i - 8 - 8 - 8 < 32 by omega, show i - 8 - 8 = i - 16 by omega, show i - 8 - 8 - 8 = i - 24 by omega, show i - 16 - 8 = i - 24 by omega, show ¬ i - 16 < 8 by omega, show i - 16 < 32 by omega]
def rotl (x n : Int32) : Int32 := (x <<< (n &&& 31)) ||| us x (32 - n)
theorem Sha_rot (N : Nat) (x n : Int32) : f_Sha_rotated N x n = some (rotl x n) := rfl
theorem Mo_rot (N : Nat) (x n : Int32) : f_Mo_turned N x n = some (rotl x n) := rfl
/-- the round's function with its addend, as the reference has it -/
def shaF (t : Nat) (b c d : Int32) : Int32 := if t < 20 then ((b &&& c) + 1518500249) + ((b ^^^ (-1)) &&& d) else if t < 40 then ((b ^^^ c) ^^^ d) + 1859775393 else if t < 60 then (((b &&& c) ^^^ (b &&& d)) ^^^ (c &&& d)) + (-1894007588) else ((b ^^^ c) ^^^ d) + (-899497514)
def sha5 : Type := Int32 × Int32 × Int32 × Int32 × Int32
def shaR (w : Nat → Int32) (t : Nat) (q : Int32 × Int32 × Int32 × Int32 × Int32) : Int32 × Int32 × Int32 × Int32 × Int32 := (rotl q.1 5 + shaF t q.2.1 q.2.2.1 q.2.2.2.1 + q.2.2.2.2 + w t, q.1, rotl q.2.1 30, q.2.2.1, q.2.2.2.1)
def shaRs (w : Nat → Int32) : Nat → Nat → Int32 × Int32 × Int32 × Int32 × Int32 → Int32 × Int32 × Int32 × Int32 × Int32
  | 0, _, q => q
  | j + 1, t, q => shaRs w j (t + 1) (shaR w t q)
theorem Mo_rounds (N : Nat) (w : Nat → Int32) : ∀ (j t fuel : Nat) (a b c d e : Int32), j + t = 80 → j < fuel → lp_Mo_chunk_183 N 80 w fuel a b c d e (nI t) = some (shaRs w j t (a, b, c, d, e)) := by
  intro j
  induction j with
  | zero =>
    intro t fuel a b c d e ht hf
    obtain ⟨q, rfl⟩ : ∃ q, fuel = q + 1 := ⟨fuel - 1, by omega⟩
    rw [ls_Mo_chunk_183]
    unfold lb_Mo_chunk_183
    (refine (if_pos ?_).trans ?_; focus ((try simp (disch := omega) only [Int32.le_iff_toInt_le, Int32.lt_iff_toInt_lt, ← Int32.toInt_inj, nI_toInt, nI_addL, nI_Ladd, nI_mulL, nI_Lmul, nI_add, nI_subL, nI_Lsub, nI_sub, Int32.reduceToInt, m1_toInt, ne_eq, Int32.reduceMul, Int32.reduceAdd, Int32.reduceSub]) <;> omega)); rfl
  | succ j ih =>
    intro t fuel a b c d e ht hf
    obtain ⟨q, rfl⟩ : ∃ q, fuel = q + 1 := ⟨fuel - 1, by omega⟩
    rw [ls_Mo_chunk_183]
    unfold lb_Mo_chunk_183
    (refine (if_neg ?_).trans ?_; focus ((try simp (disch := omega) only [Int32.le_iff_toInt_le, Int32.lt_iff_toInt_lt, ← Int32.toInt_inj, nI_toInt, nI_addL, nI_Ladd, nI_mulL, nI_Lmul, nI_add, nI_subL, nI_Lsub, nI_sub, Int32.reduceToInt, m1_toInt, ne_eq, Int32.reduceMul, Int32.reduceAdd, Int32.reduceSub]) <;> omega)); rw [Jn_s]
    have key : ∀ v : Int32, v = shaF t b c d → (Bd (f_Mo_turned N a 5) fun r62 => Ix (nI t) 80 <| Lt (((r62 + v) + e) + (w (nI t).toNatClampNeg)) fun v64 => Bd (f_Mo_turned N b 30) fun r65 => Lt (nI t + 1) fun v66 => lp_Mo_chunk_183 N 80 w q v64 a r65 c d v66) = some (shaRs w (j + 1) t (a, b, c, d, e)) := by
      intro v hv
      rw [Mo_rot, Bd_s rfl, Ix_s (by omega) (by omega), Lt_s, Mo_rot, Bd_s rfl, Lt_s, nI_1, nI_clamp (by omega), ih (t + 1) q _ _ _ _ _ (by omega) (by omega), hv]
      rfl
    by_cases h20 : t < 20
    · (refine (if_neg ?_).trans ?_; focus ((try simp (disch := omega) only [Int32.le_iff_toInt_le, Int32.lt_iff_toInt_lt, ← Int32.toInt_inj, nI_toInt, nI_addL, nI_Ladd, nI_mulL, nI_Lmul, nI_add, nI_subL, nI_Lsub, nI_sub, Int32.reduceToInt, m1_toInt, ne_eq, Int32.reduceMul, Int32.reduceAdd, Int32.reduceSub]) <;> omega))
      exact key _ (by unfold shaF; rw [if_pos h20])
    · (refine (if_pos ?_).trans ?_; focus ((try simp (disch := omega) only [Int32.le_iff_toInt_le, Int32.lt_iff_toInt_lt, ← Int32.toInt_inj, nI_toInt, nI_addL, nI_Ladd, nI_mulL, nI_Lmul, nI_add, nI_subL, nI_Lsub, nI_sub, Int32.reduceToInt, m1_toInt, ne_eq, Int32.reduceMul, Int32.reduceAdd, Int32.reduceSub]) <;> omega))
      by_cases h40 : t < 40
      · (refine (if_neg ?_).trans ?_; focus ((try simp (disch := omega) only [Int32.le_iff_toInt_le, Int32.lt_iff_toInt_lt, ← Int32.toInt_inj, nI_toInt, nI_addL, nI_Ladd, nI_mulL, nI_Lmul, nI_add, nI_subL, nI_Lsub, nI_sub, Int32.reduceToInt, m1_toInt, ne_eq, Int32.reduceMul, Int32.reduceAdd, Int32.reduceSub]) <;> omega))
        exact key _ (by unfold shaF; rw [if_neg h20, if_pos h40])
      · (refine (if_pos ?_).trans ?_; focus ((try simp (disch := omega) only [Int32.le_iff_toInt_le, Int32.lt_iff_toInt_lt, ← Int32.toInt_inj, nI_toInt, nI_addL, nI_Ladd, nI_mulL, nI_Lmul, nI_add, nI_subL, nI_Lsub, nI_sub, Int32.reduceToInt, m1_toInt, ne_eq, Int32.reduceMul, Int32.reduceAdd, Int32.reduceSub]) <;> omega))
        by_cases h60 : t < 60
        · (refine (if_neg ?_).trans ?_; focus ((try simp (disch := omega) only [Int32.le_iff_toInt_le, Int32.lt_iff_toInt_lt, ← Int32.toInt_inj, nI_toInt, nI_addL, nI_Ladd, nI_mulL, nI_Lmul, nI_add, nI_subL, nI_Lsub, nI_sub, Int32.reduceToInt, m1_toInt, ne_eq, Int32.reduceMul, Int32.reduceAdd, Int32.reduceSub]) <;> omega))
          exact key _ (by unfold shaF; rw [if_neg h20, if_neg h40, if_pos h60])
        · (refine (if_pos ?_).trans ?_; focus ((try simp (disch := omega) only [Int32.le_iff_toInt_le, Int32.lt_iff_toInt_lt, ← Int32.toInt_inj, nI_toInt, nI_addL, nI_Ladd, nI_mulL, nI_Lmul, nI_add, nI_subL, nI_Lsub, nI_sub, Int32.reduceToInt, m1_toInt, ne_eq, Int32.reduceMul, Int32.reduceAdd, Int32.reduceSub]) <;> omega))
          exact key _ (by unfold shaF; rw [if_neg h20, if_neg h40, if_neg h60])
theorem Sha_round (N : Nat) (t : Nat) (ht : t < 80) (b c d : Int32) : ∃ u v, f_Sha_chosen N (nI t) b c d = some u ∧ f_Sha_addend N (nI t) = some v ∧ u + v = shaF t b c d := by
  unfold f_Sha_chosen f_Sha_addend shaF
  by_cases h20 : t < 20
  · rw [if_pos h20]
    refine ⟨_, _, by (refine (if_neg ?_).trans ?_; focus ((try simp (disch := omega) only [Int32.le_iff_toInt_le, Int32.lt_iff_toInt_lt, ← Int32.toInt_inj, nI_toInt, nI_addL, nI_Ladd, nI_mulL, nI_Lmul, nI_add, nI_subL, nI_Lsub, nI_sub, Int32.reduceToInt, m1_toInt, ne_eq, Int32.reduceMul, Int32.reduceAdd, Int32.reduceSub]) <;> omega)); rfl, by (refine (if_neg ?_).trans ?_; focus ((try simp (disch := omega) only [Int32.le_iff_toInt_le, Int32.lt_iff_toInt_lt, ← Int32.toInt_inj, nI_toInt, nI_addL, nI_Ladd, nI_mulL, nI_Lmul, nI_add, nI_subL, nI_Lsub, nI_sub, Int32.reduceToInt, m1_toInt, ne_eq, Int32.reduceMul, Int32.reduceAdd, Int32.reduceSub]) <;> omega)); rfl, ?_⟩
    rw [sha_ch]
    ac_rfl
  · rw [if_neg h20, Jn_s]
    by_cases h40 : t < 40
    · rw [if_pos h40]
      exact ⟨_, _, by (refine (if_pos ?_).trans ?_; focus ((try simp (disch := omega) only [Int32.le_iff_toInt_le, Int32.lt_iff_toInt_lt, ← Int32.toInt_inj, nI_toInt, nI_addL, nI_Ladd, nI_mulL, nI_Lmul, nI_add, nI_subL, nI_Lsub, nI_sub, Int32.reduceToInt, m1_toInt, ne_eq, Int32.reduceMul, Int32.reduceAdd, Int32.reduceSub]) <;> omega)); (refine (if_pos ?_).trans ?_; focus ((try simp (disch := omega) only [Int32.le_iff_toInt_le, Int32.lt_iff_toInt_lt, ← Int32.toInt_inj, nI_toInt, nI_addL, nI_Ladd, nI_mulL, nI_Lmul, nI_add, nI_subL, nI_Lsub, nI_sub, Int32.reduceToInt, m1_toInt, ne_eq, Int32.reduceMul, Int32.reduceAdd, Int32.reduceSub]) <;> omega)); rfl, by (refine (if_pos ?_).trans ?_; focus ((try simp (disch := omega) only [Int32.le_iff_toInt_le, Int32.lt_iff_toInt_lt, ← Int32.toInt_inj, nI_toInt, nI_addL, nI_Ladd, nI_mulL, nI_Lmul, nI_add, nI_subL, nI_Lsub, nI_sub, Int32.reduceToInt, m1_toInt, ne_eq, Int32.reduceMul, Int32.reduceAdd, Int32.reduceSub]) <;> omega)); (refine (if_neg ?_).trans ?_; focus ((try simp (disch := omega) only [Int32.le_iff_toInt_le, Int32.lt_iff_toInt_lt, ← Int32.toInt_inj, nI_toInt, nI_addL, nI_Ladd, nI_mulL, nI_Lmul, nI_add, nI_subL, nI_Lsub, nI_sub, Int32.reduceToInt, m1_toInt, ne_eq, Int32.reduceMul, Int32.reduceAdd, Int32.reduceSub]) <;> omega)); rfl, rfl⟩
    · rw [if_neg h40]
      by_cases h60 : t < 60
      · rw [if_pos h60]
        refine ⟨_, _, by (refine (if_pos ?_).trans ?_; focus ((try simp (disch := omega) only [Int32.le_iff_toInt_le, Int32.lt_iff_toInt_lt, ← Int32.toInt_inj, nI_toInt, nI_addL, nI_Ladd, nI_mulL, nI_Lmul, nI_add, nI_subL, nI_Lsub, nI_sub, Int32.reduceToInt, m1_toInt, ne_eq, Int32.reduceMul, Int32.reduceAdd, Int32.reduceSub]) <;> omega)); (refine (if_neg ?_).trans ?_; focus ((try simp (disch := omega) only [Int32.le_iff_toInt_le, Int32.lt_iff_toInt_lt, ← Int32.toInt_inj, nI_toInt, nI_addL, nI_Ladd, nI_mulL, nI_Lmul, nI_add, nI_subL, nI_Lsub, nI_sub, Int32.reduceToInt, m1_toInt, ne_eq, Int32.reduceMul, Int32.reduceAdd, Int32.reduceSub]) <;> omega)); (refine (if_pos ?_).trans ?_; focus ((try simp (disch := omega) only [Int32.le_iff_toInt_le, Int32.lt_iff_toInt_lt, ← Int32.toInt_inj, nI_toInt, nI_addL, nI_Ladd, nI_mulL, nI_Lmul, nI_add, nI_subL, nI_Lsub, nI_sub, Int32.reduceToInt, m1_toInt, ne_eq, Int32.reduceMul, Int32.reduceAdd, Int32.reduceSub]) <;> omega)); rfl, by (refine (if_pos ?_).trans ?_; focus ((try simp (disch := omega) only [Int32.le_iff_toInt_le, Int32.lt_iff_toInt_lt, ← Int32.toInt_inj, nI_toInt, nI_addL, nI_Ladd, nI_mulL, nI_Lmul, nI_add, nI_subL, nI_Lsub, nI_sub, Int32.reduceToInt, m1_toInt, ne_eq, Int32.reduceMul, Int32.reduceAdd, Int32.reduceSub]) <;> omega)); (refine (if_pos ?_).trans ?_; focus ((try simp (disch := omega) only [Int32.le_iff_toInt_le, Int32.lt_iff_toInt_lt, ← Int32.toInt_inj, nI_toInt, nI_addL, nI_Ladd, nI_mulL, nI_Lmul, nI_add, nI_subL, nI_Lsub, nI_sub, Int32.reduceToInt, m1_toInt, ne_eq, Int32.reduceMul, Int32.reduceAdd, Int32.reduceSub]) <;> omega)); (refine (if_neg ?_).trans ?_; focus ((try simp (disch := omega) only [Int32.le_iff_toInt_le, Int32.lt_iff_toInt_lt, ← Int32.toInt_inj, nI_toInt, nI_addL, nI_Ladd, nI_mulL, nI_Lmul, nI_add, nI_subL, nI_Lsub, nI_sub, Int32.reduceToInt, m1_toInt, ne_eq, Int32.reduceMul, Int32.reduceAdd, Int32.reduceSub]) <;> omega)); rfl, ?_⟩
        rw [sha_maj]
      · rw [if_neg h60]
        exact ⟨_, _, by (refine (if_pos ?_).trans ?_; focus ((try simp (disch := omega) only [Int32.le_iff_toInt_le, Int32.lt_iff_toInt_lt, ← Int32.toInt_inj, nI_toInt, nI_addL, nI_Ladd, nI_mulL, nI_Lmul, nI_add, nI_subL, nI_Lsub, nI_sub, Int32.reduceToInt, m1_toInt, ne_eq, Int32.reduceMul, Int32.reduceAdd, Int32.reduceSub]) <;> omega)); (refine (if_neg ?_).trans ?_; focus ((try simp (disch := omega) only [Int32.le_iff_toInt_le, Int32.lt_iff_toInt_lt, ← Int32.toInt_inj, nI_toInt, nI_addL, nI_Ladd, nI_mulL, nI_Lmul, nI_add, nI_subL, nI_Lsub, nI_sub, Int32.reduceToInt, m1_toInt, ne_eq, Int32.reduceMul, Int32.reduceAdd, Int32.reduceSub]) <;> omega)); (refine (if_neg ?_).trans ?_; focus ((try simp (disch := omega) only [Int32.le_iff_toInt_le, Int32.lt_iff_toInt_lt, ← Int32.toInt_inj, nI_toInt, nI_addL, nI_Ladd, nI_mulL, nI_Lmul, nI_add, nI_subL, nI_Lsub, nI_sub, Int32.reduceToInt, m1_toInt, ne_eq, Int32.reduceMul, Int32.reduceAdd, Int32.reduceSub]) <;> omega)); rfl, by (refine (if_pos ?_).trans ?_; focus ((try simp (disch := omega) only [Int32.le_iff_toInt_le, Int32.lt_iff_toInt_lt, ← Int32.toInt_inj, nI_toInt, nI_addL, nI_Ladd, nI_mulL, nI_Lmul, nI_add, nI_subL, nI_Lsub, nI_sub, Int32.reduceToInt, m1_toInt, ne_eq, Int32.reduceMul, Int32.reduceAdd, Int32.reduceSub]) <;> omega)); (refine (if_pos ?_).trans ?_; focus ((try simp (disch := omega) only [Int32.le_iff_toInt_le, Int32.lt_iff_toInt_lt, ← Int32.toInt_inj, nI_toInt, nI_addL, nI_Ladd, nI_mulL, nI_Lmul, nI_add, nI_subL, nI_Lsub, nI_sub, Int32.reduceToInt, m1_toInt, ne_eq, Int32.reduceMul, Int32.reduceAdd, Int32.reduceSub]) <;> omega)); (refine (if_pos ?_).trans ?_; focus ((try simp (disch := omega) only [Int32.le_iff_toInt_le, Int32.lt_iff_toInt_lt, ← Int32.toInt_inj, nI_toInt, nI_addL, nI_Ladd, nI_mulL, nI_Lmul, nI_add, nI_subL, nI_Lsub, nI_sub, Int32.reduceToInt, m1_toInt, ne_eq, Int32.reduceMul, Int32.reduceAdd, Int32.reduceSub]) <;> omega)); rfl, rfl⟩
theorem Sha_rounds (N : Nat) (w : Nat → Int32) : ∀ (j t fuel : Nat) (a b c d e : Int32), j + t = 80 → j < fuel → lp_Sha_mixBlock_40 N 80 w fuel a b c d e (nI t) = some (shaRs w j t (a, b, c, d, e)) := by
  intro j
  induction j with
  | zero =>
    intro t fuel a b c d e ht hf
    obtain ⟨q, rfl⟩ : ∃ q, fuel = q + 1 := ⟨fuel - 1, by omega⟩
    rw [ls_Sha_mixBlock_40]
    unfold lb_Sha_mixBlock_40
    (refine (if_pos ?_).trans ?_; focus ((try simp (disch := omega) only [Int32.le_iff_toInt_le, Int32.lt_iff_toInt_lt, ← Int32.toInt_inj, nI_toInt, nI_addL, nI_Ladd, nI_mulL, nI_Lmul, nI_add, nI_subL, nI_Lsub, nI_sub, Int32.reduceToInt, m1_toInt, ne_eq, Int32.reduceMul, Int32.reduceAdd, Int32.reduceSub]) <;> omega)); rfl
  | succ j ih =>
    intro t fuel a b c d e ht hf
    obtain ⟨q, rfl⟩ : ∃ q, fuel = q + 1 := ⟨fuel - 1, by omega⟩
    rw [ls_Sha_mixBlock_40]
    unfold lb_Sha_mixBlock_40
    obtain ⟨u, v, e1, e2, e3⟩ := Sha_round N t (by omega) b c d
    (refine (if_neg ?_).trans ?_; focus ((try simp (disch := omega) only [Int32.le_iff_toInt_le, Int32.lt_iff_toInt_lt, ← Int32.toInt_inj, nI_toInt, nI_addL, nI_Ladd, nI_mulL, nI_Lmul, nI_add, nI_subL, nI_Lsub, nI_sub, Int32.reduceToInt, m1_toInt, ne_eq, Int32.reduceMul, Int32.reduceAdd, Int32.reduceSub]) <;> omega)); rw [Sha_rot, Bd_s rfl, Bd_s e1, Bd_s e2, Ix_s (by omega) (by omega), Lt_s, Sha_rot, Bd_s rfl, Lt_s, nI_1, nI_clamp (by omega), ih (t + 1) q _ _ _ _ _ (by omega) (by omega)]
    have e4 : rotl a 5 + u + e + v + w t = rotl a 5 + shaF t b c d + e + w t := by
      rw [← e3]
      ac_rfl
    rw [e4]
    rfl
theorem shaRs_eq {w w' : Nat → Int32} (h : ∀ i, i < 80 → w i = w' i) : ∀ (j t : Nat) (q : Int32 × Int32 × Int32 × Int32 × Int32), j + t = 80 → shaRs w j t q = shaRs w' j t q := by
  intro j
  induction j with
  | zero => intro t q _; rfl
  | succ j ih =>
    intro t q ht
    show shaRs w j (t + 1) (shaR w t q) = shaRs w' j (t + 1) (shaR w' t q)
    have : shaR w t q = shaR w' t q := by
      unfold shaR
      rw [h t (by omega)]
    rw [this]
    exact ih (t + 1) _ (by omega)
/-- the padded text's byte -/
def pb (L : List Int32) (P i : Nat) : Int32 := if i < L.length then L.getD i 0 &&& 255 else if i = L.length then 128 else if i + 4 < P then 0 else us (nI (8 * L.length)) (nI (8 * (P - 1 - i))) &&& 255
theorem Mo_pb (N : Nat) {L : List Int32} {g : Nat → Int32} {n P i : Nat} (h : Md g L) (hl : L.length = n) (hn : n ≤ 65536) (hP : 4 ≤ P) (hP2 : P ≤ 100000) (hi : i < P) : f_Mo_padded N (nI n) 65536 g (nI i) (nI P) = some (pb L P i) := by
  unfold f_Mo_padded pb
  rw [hl]
  by_cases h1 : i < n
  · (refine (if_neg ?_).trans ?_; focus ((try simp (disch := omega) only [Int32.le_iff_toInt_le, Int32.lt_iff_toInt_lt, ← Int32.toInt_inj, nI_toInt, nI_addL, nI_Ladd, nI_mulL, nI_Lmul, nI_add, nI_subL, nI_Lsub, nI_sub, Int32.reduceToInt, m1_toInt, ne_eq, Int32.reduceMul, Int32.reduceAdd, Int32.reduceSub]) <;> omega)); rw [if_pos h1, Ix_s (by omega) (by omega), nI_clamp (by omega), h.2 i (by omega)]
  · (refine (if_pos ?_).trans ?_; focus ((try simp (disch := omega) only [Int32.le_iff_toInt_le, Int32.lt_iff_toInt_lt, ← Int32.toInt_inj, nI_toInt, nI_addL, nI_Ladd, nI_mulL, nI_Lmul, nI_add, nI_subL, nI_Lsub, nI_sub, Int32.reduceToInt, m1_toInt, ne_eq, Int32.reduceMul, Int32.reduceAdd, Int32.reduceSub]) <;> omega)); rw [if_neg h1]
    by_cases h2 : i = n
    · rw [if_pos (by rw [h2]), if_pos h2]
    · have h3 : ¬ nI i = nI n := fun q => h2 ((nI_eq (by omega) (by omega)).mp q)
      have e4 : nI P - 4 = nI (P - 4) := nI_sub (b := 4) hP
      have e1 : nI P - 1 - nI i = nI (P - 1 - i) := by
        rw [show nI P - 1 = nI (P - 1) from nI_sub (b := 1) (by omega), nI_sub (by omega)]
      rw [if_neg h3, if_neg h2, e4, e1]
      by_cases h5 : i + 4 < P
      · (refine (if_neg ?_).trans ?_; focus ((try simp (disch := omega) only [Int32.le_iff_toInt_le, Int32.lt_iff_toInt_lt, ← Int32.toInt_inj, nI_toInt, nI_addL, nI_Ladd, nI_mulL, nI_Lmul, nI_add, nI_subL, nI_Lsub, nI_sub, Int32.reduceToInt, m1_toInt, ne_eq, Int32.reduceMul, Int32.reduceAdd, Int32.reduceSub]) <;> omega)); rw [if_pos h5]
      · (refine (if_pos ?_).trans ?_; focus ((try simp (disch := omega) only [Int32.le_iff_toInt_le, Int32.lt_iff_toInt_lt, ← Int32.toInt_inj, nI_toInt, nI_addL, nI_Ladd, nI_mulL, nI_Lmul, nI_add, nI_subL, nI_Lsub, nI_sub, Int32.reduceToInt, m1_toInt, ne_eq, Int32.reduceMul, Int32.reduceAdd, Int32.reduceSub]) <;> omega)); rw [if_neg h5, show nI n * 8 = nI (8 * n) from (pk_mul n 8).trans (by rw [Nat.mul_comm]), show nI (P - 1 - i) * 8 = nI (8 * (P - 1 - i)) from (pk_mul _ 8).trans (by rw [Nat.mul_comm])]
theorem Sha_pb (N : Nat) {L : List Int32} {f : Nat → Int32} {c n P i : Nat} (h : Rw c f L) (hl : L.length = n) (hn : n ≤ 65536) (hP : 4 ≤ P) (hP2 : P ≤ 100000) (hi : i < P) : f_Sha_paddedByte N (nI n) c f (nI i) (nI P) = some (pb L P i) := by
  obtain ⟨r1, r2, r3, r4, r5⟩ := h
  unfold f_Sha_paddedByte f_Row_length pb
  rw [hl, Bd_s rfl]
  by_cases h1 : i < n
  · (refine (if_neg ?_).trans ?_; focus ((try simp (disch := omega) only [Int32.le_iff_toInt_le, Int32.lt_iff_toInt_lt, ← Int32.toInt_inj, nI_toInt, nI_addL, nI_Ladd, nI_mulL, nI_Lmul, nI_add, nI_subL, nI_Lsub, nI_sub, Int32.reduceToInt, m1_toInt, ne_eq, Int32.reduceMul, Int32.reduceAdd, Int32.reduceSub]) <;> omega)); rw [if_pos h1, Bd_s (Row_at_yes N (by omega) (by omega) h1), r5 i (by omega)]
  · (refine (if_pos ?_).trans ?_; focus ((try simp (disch := omega) only [Int32.le_iff_toInt_le, Int32.lt_iff_toInt_lt, ← Int32.toInt_inj, nI_toInt, nI_addL, nI_Ladd, nI_mulL, nI_Lmul, nI_add, nI_subL, nI_Lsub, nI_sub, Int32.reduceToInt, m1_toInt, ne_eq, Int32.reduceMul, Int32.reduceAdd, Int32.reduceSub]) <;> omega)); rw [if_neg h1]
    by_cases h2 : i = n
    · rw [if_pos (by rw [h2]), if_pos h2]
    · have h3 : ¬ nI i = nI n := fun q => h2 ((nI_eq (by omega) (by omega)).mp q)
      have e4 : nI P - 4 = nI (P - 4) := nI_sub (b := 4) hP
      have e1 : nI P - 1 - nI i = nI (P - 1 - i) := by
        rw [show nI P - 1 = nI (P - 1) from nI_sub (b := 1) (by omega), nI_sub (by omega)]
      rw [if_neg h3, if_neg h2, e4, e1]
      by_cases h5 : i + 4 < P
      · (refine (if_pos ?_).trans ?_; focus ((try simp (disch := omega) only [Int32.le_iff_toInt_le, Int32.lt_iff_toInt_lt, ← Int32.toInt_inj, nI_toInt, nI_addL, nI_Ladd, nI_mulL, nI_Lmul, nI_add, nI_subL, nI_Lsub, nI_sub, Int32.reduceToInt, m1_toInt, ne_eq, Int32.reduceMul, Int32.reduceAdd, Int32.reduceSub]) <;> omega)); rw [if_pos h5]
      · (refine (if_neg ?_).trans ?_; focus ((try simp (disch := omega) only [Int32.le_iff_toInt_le, Int32.lt_iff_toInt_lt, ← Int32.toInt_inj, nI_toInt, nI_addL, nI_Ladd, nI_mulL, nI_Lmul, nI_add, nI_subL, nI_Lsub, nI_sub, Int32.reduceToInt, m1_toInt, ne_eq, Int32.reduceMul, Int32.reduceAdd, Int32.reduceSub]) <;> omega)); rw [if_neg h5, show 8 * nI n = nI (8 * n) from pk_mul 8 n, show 8 * nI (P - 1 - i) = nI (8 * (P - 1 - i)) from pk_mul 8 _]
