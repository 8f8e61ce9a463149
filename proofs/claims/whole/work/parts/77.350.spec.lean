/-! reading: the place of the reader as a number that may pass the end (ours) -/
def pos (n q : Nat) : Nat := min q (8 * n)
def flg (n q : Nat) : Int32 := if q ≤ 8 * n then 0 else 1
theorem pos_le (n q : Nat) : pos n q ≤ 8 * n := Nat.min_le_right _ _
theorem pos_in {n q : Nat} (h : q ≤ 8 * n) : pos n q = q := Nat.min_eq_left h
theorem flg_in {n q : Nat} (h : q ≤ 8 * n) : flg n q = 0 := if_pos h
theorem flg_out {n q : Nat} (h : 8 * n < q) : flg n q = 1 := if_neg (by omega)
theorem flg_01 (n q : Nat) : flg n q = 0 ∨ flg n q = 1 := by
  unfold flg
  split
  · exact Or.inl rfl
  · exact Or.inr rfl
theorem flg_eq0 (n q : Nat) : flg n q = 0 ↔ q ≤ 8 * n := by
  unfold flg
  by_cases h : q ≤ 8 * n
  · rw [if_pos h]
    exact ⟨fun _ => h, fun _ => rfl⟩
  · rw [if_neg h]
    exact ⟨fun q => absurd q (by decide), fun q => absurd q h⟩
theorem po_pos (n q k : Nat) : po n (pos n q) k = pos n (q + k) := by
  unfold po pos
  omega
theorem ro_flg (n q k : Nat) : ro n (pos n q) k (flg n q) = flg n (q + k) := by
  unfold ro pos flg
  by_cases h : q + k ≤ 8 * n
  · rw [if_pos (by omega), if_pos (by omega), if_pos h]
  · rw [if_neg h]
    by_cases h2 : min q (8 * n) + k ≤ 8 * n
    · rw [if_pos h2, if_neg (by omega)]
    · rw [if_neg h2]
theorem tk_out (L : List Int32) {q : Nat} (h : 8 * L.length ≤ q) : ∀ k, tk L q k = 0
  | 0 => rfl
  | k + 1 => by
    have e : bitA L (q + k) = 0 := by
      unfold bitA
      rw [if_neg (by omega)]
    show tk L q k + bitA L (q + k) * 2 ^ k = 0
    rw [tk_out L h k, e]
    omega
theorem tk_pos (L : List Int32) (q k : Nat) : tk L (pos L.length q) k = tk L q k := by
  by_cases h : q ≤ 8 * L.length
  · rw [pos_in h]
  · rw [tk_out L (q := q) (by omega), tk_out L (q := pos L.length q) (by unfold pos; omega)]
theorem BR_tq {L : List Int32} {c n : Nat} {f : Nat → Int32} (hR : Rw c f L) (hl : L.length = n) (hn : n ≤ 65536) (q : Nat) {k : Nat} (hk : k ≤ 16) : f_BR_take NF (nI (8 * n)) (nI (pos n q)) (flg n q) c f (nI k) = some (nI (tk L q k), nI (pos n (q + k)), flg n (q + k)) := by
  rw [BR_take hR hl hn hk (pos_le n q), po_pos, ro_flg]
  subst hl
  rw [tk_pos]
theorem Mo_nq {L : List Int32} {n : Nat} {g : Nat → Int32} (hM : Md g L) (hl : L.length = n) (hn : n ≤ 65536) (q : Nat) {k : Nat} (hk : k ≤ 16) : f_Mo_number NF (nI n) (nI (pos n q)) (flg n q) 65536 g (nI k) = some (nI (tk L q k), nI (pos n (q + k)), flg n (q + k)) := by
  rw [Mo_number hM hl hn hk (pos_le n q), po_pos, ro_flg]
  subst hl
  rw [tk_pos]
theorem Mo_n1 {L : List Int32} {n p : Nat} {g : Nat → Int32} (hM : Md g L) (hl : L.length = n) (hn : n ≤ 65536) (hp : p ≤ 8 * n) {k : Nat} (hk : k ≤ 16) : ∃ p', p' ≤ 8 * n ∧ f_Mo_number NF (nI n) (nI p) 1 65536 g (nI k) = some (nI (tk L p k), nI p', 1) := by
  refine ⟨po n p k, po_le n p k, ?_⟩
  rw [Mo_number hM hl hn hk hp]
  unfold ro
  split <;> rfl
theorem Mo_bq {L : List Int32} {n : Nat} {g : Nat → Int32} (hM : Md g L) (hl : L.length = n) (hn : n ≤ 65536) {q : Nat} (hq : q ≤ 8 * n) : f_Mo_bit NF (nI n) (nI q) 0 65536 g = some (nI (bitA L q), nI (pos n (q + 1)), flg n (q + 1)) := by
  have h := Mo_bit hM hl hn hq 0
  rw [h]
  have e1 := po_pos n q 1
  have e2 := ro_flg n q 1
  rw [pos_in hq] at e1 e2
  rw [flg_in hq] at e2
  rw [e1, e2]
/-! the codes -/
theorem fco_le (ls : Nat → Nat) (m : Nat) : ∀ k, fco ls m k ≤ 2 ^ k * ofs ls m k
  | 0 => by
    show 0 ≤ _
    omega
  | k + 1 => by
    have ih := fco_le ls m k
    show 2 * (fco ls m k + cn ls m k) ≤ 2 ^ (k + 1) * (ofs ls m k + cn ls m k)
    have h1 : 1 ≤ 2 ^ k := Nat.one_le_two_pow
    rw [Nat.pow_succ, Nat.mul_comm (2 ^ k) 2, Nat.mul_assoc]
    apply Nat.mul_le_mul_left
    rw [Nat.mul_add]
    have h2 : cn ls m k ≤ 2 ^ k * cn ls m k := Nat.le_mul_of_pos_left _ (by omega)
    omega
theorem fco_bound (ls : Nat → Nat) {m k : Nat} (hm : m ≤ 320) (hk : k ≤ 16) : fco ls m k ≤ 20971520 := by
  have h := fco_le ls m k
  have h1 := ofs_le ls m k
  have h2 : 2 ^ k ≤ 2 ^ 16 := Nat.pow_le_pow_right (by decide) hk
  have h3 : 2 ^ k * ofs ls m k ≤ 2 ^ 16 * 320 := Nat.mul_le_mul h2 (by omega)
  omega
theorem cn_le (ls : Nat → Nat) (m l : Nat) : cn ls m l ≤ m := by
  unfold cn
  split
  · omega
  · exact cnt_le ls l m
/-- the symbol of length k and rank r -/
def sy (ls : Nat → Nat) (k r : Nat) : Nat → Nat
  | 0 => 0
  | m + 1 => if ls m = k ∧ cnt ls m k = r then m else sy ls k r m
theorem sy_eq (ls : Nat → Nat) {k r s : Nat} (h1 : ls s = k) (h2 : cnt ls s k = r) : ∀ m, s < m → sy ls k r m = s
  | 0, h => absurd h (by omega)
  | m + 1, h => by
    unfold sy
    by_cases q : ls m = k ∧ cnt ls m k = r
    · rw [if_pos q]
      subst h1
      exact cnt_inj ls q.1 (by rw [q.1, q.2, h2])
    · rw [if_neg q]
      have : s ≠ m := fun e => q ⟨by rw [← e]; exact h1, by rw [← e]; exact h2⟩
      exact sy_eq ls h1 h2 m (by omega)
/-- the code that comes next: its symbol, the place behind it -/
def hxF (ls : Nat → Nat) (m : Nat) (L : List Int32) : Nat → Nat → Nat → Nat → Option (Nat × Nat)
  | 0, _, _, _ => none
  | j + 1, k, v, q => if 2 * v + bitA L q < fco ls m k + cn ls m k then some (sy ls k (2 * v + bitA L q - fco ls m k) m, q + 1) else hxF ls m L j (k + 1) (2 * v + bitA L q) (q + 1)
def hx (ls : Nat → Nat) (m : Nat) (L : List Int32) (q : Nat) : Option (Nat × Nat) := hxF ls m L 15 1 0 q
theorem hxF_q (ls : Nat → Nat) (m : Nat) (L : List Int32) : ∀ j k v q s q', hxF ls m L j k v q = some (s, q') → q < q' ∧ q' ≤ q + j
  | 0, _, _, _, _, _, h => by cases h
  | j + 1, k, v, q, s, q', h => by
    unfold hxF at h
    split at h
    · cases h
      omega
    · have := hxF_q ls m L j _ _ _ _ _ h
      omega
/-- what the class holds of a code -/
def CoC (ls : Nat → Nat) (m : Nat) (num sym : Nat → Int32) (z : Nat) : Prop :=
  (∀ l, l ≤ 15 → num l = nI (cn ls m l)) ∧ (∀ s, s < m → ls s ≠ 0 → sym (ofs ls m (ls s) + cnt ls s (ls s)) = nI s) ∧ (∀ s, s < m → ls s ≤ 15) ∧ m ≤ 288 ∧ ofs ls m 16 ≤ z ∧ z ≤ 288
/-- what the reference holds of a code -/
def CoR (ls : Nat → Nat) (fr m : Nat) (len cod : Nat → Int32) : Prop :=
  (∀ s, s < m → len (fr + s) = nI (ls s)) ∧ (∀ s, s < m → ls s ≠ 0 → cod (fr + s) = nI (fco ls m (ls s) + cnt ls s (ls s))) ∧ (∀ s, s < m → ls s ≤ 15) ∧ m ≤ 288 ∧ fr + m ≤ 340
theorem bit_step {v b : Nat} (hv : v < 2 ^ 16) (hb : b < 2) : (nI v <<< ((1 : Int32) &&& 31)) ||| nI b = nI (2 * v + b) := by
  have e1 : nI v <<< ((1 : Int32) &&& 31) = nI (v * 2 ^ 1) := n_shl (k := 1) (by omega) (by omega)
  have e2 := n_or_add (a := b) (b := v) (k := 1) (by omega)
  rw [e1, n_or, Nat.or_comm, ← n_or, e2]
  congr 1
  omega
theorem dbl_step {x : Nat} (hx : x < 2 ^ 26) : nI x <<< ((1 : Int32) &&& 31) = nI (2 * x) := by
  have e1 : nI x <<< ((1 : Int32) &&& 31) = nI (x * 2 ^ 1) := n_shl (k := 1) (by omega) (by omega)
  rw [e1]
  congr 1
  omega
theorem Co_next_loop {L : List Int32} {c n : Nat} {f : Nat → Int32} (hR : Rw c f L) (hl : L.length = n) (hn : n ≤ 65536) {ls : Nat → Nat} {m z : Nat} {num sym : Nat → Int32} (hC : CoC ls m num sym z) :
    ∀ (j k v x q fuel : Nat), j + k = 16 → 1 ≤ k → j < fuel → 2 * x = fco ls m k → x ≤ v → v < 2 ^ 15 →  v < 2 ^ (k - 1) →
    (hxF ls m L j k v q = none ∧ ∃ a, lp_Co_next_10 NF 16 num (nI (8 * n)) c f fuel (nI v) (nI x) (nI (ofs ls m k)) (nI k) (nI (pos n q)) (flg n q) = some (1, a, 0, nI (pos n (q + j)), flg n (q + j))) ∨
    (∃ s q' a b, hxF ls m L j k v q = some (s, q') ∧ s < m ∧ lp_Co_next_10 NF 16 num (nI (8 * n)) c f fuel (nI v) (nI x) (nI (ofs ls m k)) (nI k) (nI (pos n q)) (flg n q) = some (0, nI a, nI b, nI (pos n q'), flg n q') ∧ a + b < z ∧ sym (a + b) = nI s) := by
  obtain ⟨c1, c2, c3, c4, c5, c6⟩ := hC
  intro j
  induction j with
  | zero =>
    intro k v x q fuel hj hk hf hx hxv hv hv2
    obtain ⟨u, rfl⟩ : ∃ u, fuel = u + 1 := ⟨fuel - 1, by omega⟩
    refine Or.inl ⟨rfl, nI (ofs ls m k), ?_⟩
    rw [ls_Co_next_10]
    unfold lb_Co_next_10
    (refine (if_pos ?_).trans ?_; focus ((try simp (disch := omega) only [Int32.le_iff_toInt_le, Int32.lt_iff_toInt_lt, ← Int32.toInt_inj, nI_toInt, nI_addL, nI_Ladd, nI_mulL, nI_Lmul, nI_add, nI_subL, nI_Lsub, nI_sub, Int32.reduceToInt, m1_toInt, ne_eq, Int32.reduceMul, Int32.reduceAdd, Int32.reduceSub]) <;> omega)); rfl
  | succ j ih =>
    intro k v x q fuel hj hk hf hx hxv hv hv2
    obtain ⟨u, rfl⟩ : ∃ u, fuel = u + 1 := ⟨fuel - 1, by omega⟩
    have hb := bitA_lt L q
    have ht : tk L q 1 = bitA L q := by
      simp [tk]
    have et : f_BR_take NF (nI (8 * n)) (nI (pos n q)) (flg n q) c f 1 = some (nI (bitA L q), nI (pos n (q + 1)), flg n (q + 1)) := by
      have := BR_tq hR hl hn q (k := 1) (by omega)
      rw [ht] at this
      exact this
    have hcm := cn_le ls m k
    have hfb := fco_bound ls (m := m) (k := k) (by omega) (by omega)
    have hob := ofs_le ls m k
    have e0 : lp_Co_next_10 NF 16 num (nI (8 * n)) c f (u + 1) (nI v) (nI x) (nI (ofs ls m k)) (nI k) (nI (pos n q)) (flg n q) = (if nI (cn ls m k) ≤ nI (2 * v + bitA L q - fco ls m k) then (Ix (nI k) 16 <| Lt (nI (ofs ls m k) + nI (cn ls m k)) fun v21 => Ix (nI k) 16 <| Lt (nI (fco ls m k) + nI (cn ls m k)) fun v23 => Lt (nI k + 1) fun v24 => lp_Co_next_10 NF 16 num (nI (8 * n)) c f u (nI (2 * v + bitA L q)) v23 v21 v24 (nI (pos n (q + 1))) (flg n (q + 1))) else some (0, nI (ofs ls m k), nI (2 * v + bitA L q - fco ls m k), nI (pos n (q + 1)), flg n (q + 1))) := by
      rw [ls_Co_next_10]
      unfold lb_Co_next_10
      (refine (if_neg ?_).trans ?_; focus ((try simp (disch := omega) only [Int32.le_iff_toInt_le, Int32.lt_iff_toInt_lt, ← Int32.toInt_inj, nI_toInt, nI_addL, nI_Ladd, nI_mulL, nI_Lmul, nI_add, nI_subL, nI_Lsub, nI_sub, Int32.reduceToInt, m1_toInt, ne_eq, Int32.reduceMul, Int32.reduceAdd, Int32.reduceSub]) <;> omega))
      rw [Bd_s et, Lt_s, bit_step (by omega) hb, Lt_s, dbl_step (by omega), hx, Lt_s, nI_sub (by omega), Ix_s (by omega) (by omega), nI_clamp (by omega), c1 k (by omega)]
    rw [e0]
    unfold hxF
    by_cases h1 : 2 * v + bitA L q < fco ls m k + cn ls m k
    · rw [if_pos h1]
      right
      have hr : 2 * v + bitA L q - fco ls m k < cnt ls m k := by
        have : cn ls m k = cnt ls m k := if_neg (by omega)
        omega
      obtain ⟨s, hs, hs1, hs2⟩ := cnt_find ls k m _ hr
      have es := sy_eq ls hs1 hs2 m hs
      refine ⟨_, _, ofs ls m k, 2 * v + bitA L q - fco ls m k, rfl, by rw [es]; exact hs, ?_, ?_, ?_⟩
      · (refine (if_neg ?_).trans ?_; focus ((try simp (disch := omega) only [Int32.le_iff_toInt_le, Int32.lt_iff_toInt_lt, ← Int32.toInt_inj, nI_toInt, nI_addL, nI_Ladd, nI_mulL, nI_Lmul, nI_add, nI_subL, nI_Lsub, nI_sub, Int32.reduceToInt, m1_toInt, ne_eq, Int32.reduceMul, Int32.reduceAdd, Int32.reduceSub]) <;> omega)); rfl
      · have h2 := ofs_lt ls (n := m) (s := s) hs (by omega)
        have h3 : ofs ls m (ls s + 1) ≤ ofs ls m 16 := ofs_mono ls m (by have := c3 s hs; omega)
        rw [hs1, hs2] at h2
        rw [hs1] at h3
        omega
      · have h2 := c2 s hs (by omega)
        rw [hs1, hs2] at h2
        rw [h2, es]
    · rw [if_neg h1]
      have hp : 2 ^ (k + 1 - 1) = 2 * 2 ^ (k - 1) := by
        rw [show k + 1 - 1 = (k - 1) + 1 by omega, Nat.pow_succ]
        omega
      by_cases hj0 : j = 0
      · -- the last length
        subst hj0
        left
        refine ⟨rfl, nI (ofs ls m (k + 1)), ?_⟩
        have hu : ∃ u', u = u' + 1 := ⟨u - 1, by omega⟩
        obtain ⟨u', rfl⟩ := hu
        (refine (if_pos ?_).trans ?_; focus ((try simp (disch := omega) only [Int32.le_iff_toInt_le, Int32.lt_iff_toInt_lt, ← Int32.toInt_inj, nI_toInt, nI_addL, nI_Ladd, nI_mulL, nI_Lmul, nI_add, nI_subL, nI_Lsub, nI_sub, Int32.reduceToInt, m1_toInt, ne_eq, Int32.reduceMul, Int32.reduceAdd, Int32.reduceSub]) <;> omega)); rw [Ix_s (by omega) (by omega), Lt_s, Ix_s (by omega) (by omega), Lt_s, Lt_s, nI_add, nI_add, nI_1, ls_Co_next_10]
        unfold lb_Co_next_10
        (refine (if_pos ?_).trans ?_; focus ((try simp (disch := omega) only [Int32.le_iff_toInt_le, Int32.lt_iff_toInt_lt, ← Int32.toInt_inj, nI_toInt, nI_addL, nI_Ladd, nI_mulL, nI_Lmul, nI_add, nI_subL, nI_Lsub, nI_sub, Int32.reduceToInt, m1_toInt, ne_eq, Int32.reduceMul, Int32.reduceAdd, Int32.reduceSub]) <;> omega)); rfl
      · have hv' : 2 * v + bitA L q < 2 ^ 15 := by
          have : 2 ^ (k - 1) ≤ 2 ^ 13 := Nat.pow_le_pow_right (by decide) (by omega)
          omega
        have ih' := ih (k + 1) (2 * v + bitA L q) (fco ls m k + cn ls m k) (q + 1) u (by omega) (by omega) (by omega) rfl (by omega) hv' (by rw [hp]; omega)
        have key : ∀ y, (lp_Co_next_10 NF 16 num (nI (8 * n)) c f u (nI (2 * v + bitA L q)) (nI (fco ls m k + cn ls m k)) (nI (ofs ls m (k + 1))) (nI (k + 1)) (nI (pos n (q + 1))) (flg n (q + 1)) = y) → (if nI (cn ls m k) ≤ nI (2 * v + bitA L q - fco ls m k) then (Ix (nI k) 16 <| Lt (nI (ofs ls m k) + nI (cn ls m k)) fun v21 => Ix (nI k) 16 <| Lt (nI (fco ls m k) + nI (cn ls m k)) fun v23 => Lt (nI k + 1) fun v24 => lp_Co_next_10 NF 16 num (nI (8 * n)) c f u (nI (2 * v + bitA L q)) v23 v21 v24 (nI (pos n (q + 1))) (flg n (q + 1))) else some (0, nI (ofs ls m k), nI (2 * v + bitA L q - fco ls m k), nI (pos n (q + 1)), flg n (q + 1))) = y := by
          intro y hy
          (refine (if_pos ?_).trans ?_; focus ((try simp (disch := omega) only [Int32.le_iff_toInt_le, Int32.lt_iff_toInt_lt, ← Int32.toInt_inj, nI_toInt, nI_addL, nI_Ladd, nI_mulL, nI_Lmul, nI_add, nI_subL, nI_Lsub, nI_sub, Int32.reduceToInt, m1_toInt, ne_eq, Int32.reduceMul, Int32.reduceAdd, Int32.reduceSub]) <;> omega)); rw [Ix_s (by omega) (by omega), Lt_s, Ix_s (by omega) (by omega), Lt_s, Lt_s, nI_add, nI_add, nI_1]
          exact hy
        rcases ih' with ⟨hN, a, ha⟩ | ⟨s, q', a, b, hS, hs, ha, hab, hsy⟩
        · left
          refine ⟨hN, a, key _ ?_⟩
          rw [ha, show q + 1 + j = q + (j + 1) by omega]
        · right
          exact ⟨s, q', a, b, hS, hs, key _ ha, hab, hsy⟩
