/-! the stream of bits: a number S of m bits; how class and reference hold it (ours) -/
theorem nI_bv (n : Nat) : (nI n).toBitVec = BitVec.ofNat 32 n := rfl
theorem n_or (a b : Nat) : nI a ||| nI b = nI (a ||| b) := by
  apply i32_bv
  rw [Int32.toBitVec_or, nI_bv, nI_bv, nI_bv]
  apply BitVec.eq_of_getLsbD_eq
  intro i hi
  simp [BitVec.getLsbD_ofNat, Nat.testBit_or]
theorem n_or_add {a b k : Nat} (h : a < 2 ^ k) : nI a ||| nI (b * 2 ^ k) = nI (a + b * 2 ^ k) := by
  rw [n_or, Nat.or_comm, Nat.mul_comm, ← Nat.two_pow_add_eq_or_of_lt h, Nat.add_comm]
theorem n_shl {v k : Nat} (hk : k < 32) (h : v * 2 ^ k < 2 ^ 32) : nI v <<< (nI k &&& 31) = nI (v * 2 ^ k) := by
  have hs : ((nI k &&& 31).toBitVec.smod 32).toNat = k := by
    have : ∀ k, k < 32 → ((nI k &&& 31).toBitVec.smod 32).toNat = k := by decide +kernel
    exact this k hk
  exact pk_shlN _ k hs h
theorem n_us {v k : Nat} (hk : k < 32) (h : v < 2 ^ 32) : us (nI v) (nI k) = nI (v / 2 ^ k) := by
  have hs : (((nI k).toUInt32 &&& Int32.toUInt32 31).toBitVec % 32).toNat = k := by
    have : ∀ k, k < 32 → (((nI k).toUInt32 &&& Int32.toUInt32 31).toBitVec % 32).toNat = k := by decide +kernel
    exact this k hk
  exact pk_ushrN h _ k hs
theorem n_and255 {v : Nat} (h : v < 2 ^ 32) : nI v &&& 255 = nI (v % 256) := pk_andN (k := 8) h (by decide)
theorem n_and1 {v : Nat} (h : v < 2 ^ 32) : nI v &&& 1 = nI (v % 2) := pk_andN (k := 1) h (by decide)
theorem bB_nI (x : Nat) : bB (nI x) = sb_b x := rfl
def Sb (S k : Nat) : Int32 := sb_b (S / 2 ^ (8 * k) % 256)
def Sbs (S c : Nat) : List Int32 := (List.range c).map (Sb S)
theorem Sbs_length (S c : Nat) : (Sbs S c).length = c := by simp [Sbs]
theorem Sbs_succ (S c : Nat) : Sbs S (c + 1) = Sbs S c ++ [Sb S c] := by simp [Sbs, List.range_succ]
theorem div_mod_pow {S T m j : Nat} (v : Nat) (hT : T = S + v * 2 ^ m) (hj : j + 8 ≤ m) : T / 2 ^ j % 256 = S / 2 ^ j % 256 := by
  have e1 : v * 2 ^ m = 2 ^ j * (256 * (v * 2 ^ (m - j - 8))) := by
    have : 2 ^ m = 2 ^ j * (2 ^ 8 * 2 ^ (m - j - 8)) := by
      rw [← Nat.pow_add, ← Nat.pow_add]
      congr 1
      omega
    rw [this]
    have h8 : (2 : Nat) ^ 8 = 256 := by decide
    rw [h8]
    generalize 2 ^ (m - j - 8) = w
    generalize 2 ^ j = u
    rw [Nat.mul_left_comm, Nat.mul_left_comm v 256 w]
  rw [hT, e1, Nat.add_mul_div_left _ _ (Nat.pow_pos (by decide)), Nat.add_mul_mod_self_left]
theorem Sbs_eq {S T m : Nat} (v : Nat) (hT : T = S + v * 2 ^ m) : Sbs T (m / 8) = Sbs S (m / 8) := by
  unfold Sbs
  apply List.map_congr_left
  intro k hk
  have hk := List.mem_range.mp hk
  unfold Sb
  rw [div_mod_pow v hT (by omega)]
theorem add_div_pow {S m e : Nat} (v : Nat) (he : 8 * e ≤ m) : (S + v * 2 ^ m) / 2 ^ (8 * e) = S / 2 ^ (8 * e) + v * 2 ^ (m - 8 * e) := by
  have : 2 ^ m = 2 ^ (8 * e) * 2 ^ (m - 8 * e) := by
    rw [← Nat.pow_add]
    congr 1
    omega
  rw [this, Nat.mul_left_comm, Nat.add_mul_div_left _ _ (Nat.pow_pos (by decide))]
/-- the class's writer: pre, then the whole bytes of S; the rest is held -/
def BWs (pre : List Int32) (S m : Nat) (held hb len : Int32) (c : Nat) (f : Nat → Int32) : Prop := S < 2 ^ m ∧ held = nI (S / 2 ^ (8 * (m / 8))) ∧ hb = nI (m % 8) ∧ len = nI (pre.length + m / 8) ∧ Rw c f (pre ++ Sbs S (m / 8))
theorem BW_loop (N : Nat) {pre : List Int32} {T M : Nat} (hT : T < 2 ^ M) (hp : pre.length + M / 8 ≤ 73736) : ∀ (j e fuel : Nat) (c : Nat) (f : Nat → Int32), j + e = M / 8 → j < fuel → M - 8 * e < 32 → Rw c f (pre ++ Sbs T e) →
    ∃ (c' : Nat) (f' : Nat → Int32) (k z : Nat), lp_BW_put_25 N fuel (nI (T / 2 ^ (8 * e))) (nI (M - 8 * e)) (nI (pre.length + e)) c f = some ((nI (T / 2 ^ (8 * (M / 8))), nI (M % 8), nI (pre.length + M / 8), c', f'), k, z) ∧ Rw c' f' (pre ++ Sbs T (M / 8)) ∧ k + kap c' ≤ kap c ∧ z + phi c' ≤ phi c := by
  intro j
  induction j with
  | zero =>
    intro e fuel c f hj hf hM hR
    obtain ⟨q, rfl⟩ : ∃ q, fuel = q + 1 := ⟨fuel - 1, by omega⟩
    have he : e = M / 8 := by omega
    subst he
    refine ⟨c, f, 0, 0, ?_, hR, by omega, by omega⟩
    rw [ls_BW_put_25]
    unfold lb_BW_put_25
    (refine (if_pos ?_).trans ?_; focus ((try simp (disch := omega) only [Int32.le_iff_toInt_le, Int32.lt_iff_toInt_lt, ← Int32.toInt_inj, nI_toInt, nI_addL, nI_Ladd, nI_mulL, nI_Lmul, nI_add, nI_subL, nI_Lsub, nI_sub, Int32.reduceToInt, m1_toInt, ne_eq, Int32.reduceMul, Int32.reduceAdd, Int32.reduceSub]) <;> omega)); rw [show M - 8 * (M / 8) = M % 8 by omega]
  | succ j ih =>
    intro e fuel c f hj hf hM hR
    obtain ⟨q, rfl⟩ : ∃ q, fuel = q + 1 := ⟨fuel - 1, by omega⟩
    have hx : T / 2 ^ (8 * e) < 2 ^ 32 := by
      rw [Nat.div_lt_iff_lt_mul (Nat.pow_pos (by decide)), ← Nat.pow_add]
      exact Nat.lt_of_lt_of_le hT (Nat.pow_le_pow_right (by decide) (by omega))
    have hlen : (pre ++ Sbs T e).length = pre.length + e := by rw [List.length_append, Sbs_length]
    obtain ⟨c1, f1, k1, z1, e1, R1, hk1, hz1⟩ := Rw_add N hR hlen (by omega) (nI (T / 2 ^ (8 * e) % 256))
    rw [bB_nI, List.append_assoc, show [sb_b (T / 2 ^ (8 * e) % 256)] = [Sb T e] from rfl, ← Sbs_succ] at R1
    obtain ⟨c2, f2, k2, z2, e2, R2, hk2, hz2⟩ := ih (e + 1) q c1 f1 (by omega) (by omega) (by omega) R1
    refine ⟨c2, f2, k1 + k2, z1 + z2, ?_, R2, by omega, by omega⟩
    rw [ls_BW_put_25]
    unfold lb_BW_put_25
    (refine (if_neg ?_).trans ?_; focus ((try simp (disch := omega) only [Int32.le_iff_toInt_le, Int32.lt_iff_toInt_lt, ← Int32.toInt_inj, nI_toInt, nI_addL, nI_Ladd, nI_mulL, nI_Lmul, nI_add, nI_subL, nI_Lsub, nI_sub, Int32.reduceToInt, m1_toInt, ne_eq, Int32.reduceMul, Int32.reduceAdd, Int32.reduceSub]) <;> omega)); rw [n_and255 hx]
    refine Bk_s e1 ?_
    rw [Lt_s, Lt_s, show (8 : Int32) = nI 8 from rfl, n_us (by omega) hx, nI_sub (by omega), Nat.div_div_eq_div_mul, ← Nat.pow_add, show 8 * e + 8 = 8 * (e + 1) by omega, show M - 8 * e - 8 = M - 8 * (e + 1) by omega]
    exact e2
theorem BW_put (N : Nat) (hN : 10 < N) {pre : List Int32} {S m v n : Nat} {held hb len : Int32} {c : Nat} {f : Nat → Int32} (h : BWs pre S m held hb len c f) (hv : v < 2 ^ n) (hn : n ≤ 16) (hp : pre.length + (m + n) / 8 ≤ 73736) :
    ∃ (held' hb' len' : Int32) (c' : Nat) (f' : Nat → Int32) (k z : Nat), f_BW_put N held hb len c f (nI v) (nI n) = some ((held', hb', len', c', f'), k, z) ∧ BWs pre (S + v * 2 ^ m) (m + n) held' hb' len' c' f' ∧ k + kap c' ≤ kap c ∧ z + phi c' ≤ phi c := by
  obtain ⟨hS, rfl, rfl, rfl, hR⟩ := h
  have hT : S + v * 2 ^ m < 2 ^ (m + n) := by
    have h1 : v * 2 ^ m ≤ (2 ^ n - 1) * 2 ^ m := Nat.mul_le_mul_right _ (by omega)
    rw [Nat.pow_add, Nat.mul_comm (2 ^ m)]
    have h2 : (2 ^ n - 1) * 2 ^ m + 2 ^ m = 2 ^ n * 2 ^ m := by
      rw [Nat.sub_mul, Nat.one_mul]
      have : 2 ^ m ≤ 2 ^ n * 2 ^ m := Nat.le_mul_of_pos_left _ (Nat.pow_pos (by decide))
      omega
    omega
  have hlo : S / 2 ^ (8 * (m / 8)) < 2 ^ (m % 8) := by
    rw [Nat.div_lt_iff_lt_mul (Nat.pow_pos (by decide)), ← Nat.pow_add, show m % 8 + 8 * (m / 8) = m by omega]
    exact hS
  have hvv : v * 2 ^ (m % 8) < 2 ^ 32 := by
    have h1 : v * 2 ^ (m % 8) < 2 ^ n * 2 ^ (m % 8) := Nat.mul_lt_mul_of_pos_right hv (Nat.pow_pos (by decide))
    rw [← Nat.pow_add] at h1
    exact Nat.lt_of_lt_of_le h1 (Nat.pow_le_pow_right (by decide) (by omega))
  have e1 : nI (S / 2 ^ (8 * (m / 8))) ||| (nI v <<< (nI (m % 8) &&& 31)) = nI ((S + v * 2 ^ m) / 2 ^ (8 * (m / 8))) := by
    rw [n_shl (by omega) hvv, n_or_add hlo, add_div_pow v (by omega), show m - 8 * (m / 8) = m % 8 by omega]
  obtain ⟨c', f', k, z, e2, R2, hk, hz⟩ := BW_loop N (pre := pre) hT hp ((m + n) / 8 - m / 8) (m / 8) N c f (by omega) (by omega) (by omega) (by rw [Sbs_eq v rfl]; exact hR)
  refine ⟨_, _, _, c', f', k + 0, z + 0, ?_, ⟨hT, rfl, rfl, rfl, R2⟩, hk, hz⟩
  unfold f_BW_put
  rw [Lt_s, Lt_s, e1, nI_add, show m % 8 + n = m + n - 8 * (m / 8) by omega]
  exact Bk_s e2 rfl
