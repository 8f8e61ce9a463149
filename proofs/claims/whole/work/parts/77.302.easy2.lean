/-! end, change, turn, letter (ours) -/
theorem nI_out {n : Nat} (hn : n + 1 < 2 ^ 31) {p : Int32} (h : nI (n + 1) ≤ p) : ¬ p ≤ nI n := fun q => nI_ge (a := n) (b := n + 1) (by omega) hn (Int32.le_trans h q)
theorem i_nlt {p q : Int32} (h : q ≤ p) : ¬ p < q := Int32.not_lt.mpr h
theorem i_big {n : Nat} (hn : n < 2 ^ 31) {p : Int32} (h : nI n ≤ p) : ¬ p < 0 := fun q => nI_pos hn (Int32.lt_of_le_of_lt h q)
theorem TP_end_no (N : Nat) {n : Nat} (hn : n ≤ 65536) {p : Int32} (h : p < 0 ∨ nI (n + 1) ≤ p) : f_TP_end N (nI n) p = some ((1, 0, nI n), 1, 6) := by
  unfold f_TP_end f_Row_length
  rw [Jn_s]
  by_cases h0 : p < 0
  · rw [if_pos h0]
    exact Ak_s rfl
  · rw [if_neg h0, Bd_s rfl, if_neg (nI_out (by omega) (h.resolve_left h0))]
    exact Ak_s rfl
theorem TP_end_yes (N : Nat) {n j : Nat} (hn : n ≤ 65536) (hj : j ≤ n) : f_TP_end N (nI n) (nI j) = some ((0, nI (n - j), nI (n - j)), 0, 0) := by
  unfold f_TP_end f_Row_length
  rw [Jn_s, if_neg (nI_pos (by omega)), Bd_s rfl, if_pos (nI_le hj (by omega)), Bd_s rfl]
  have e : f_Row_shorten N (nI n) (nI n - nI j) = some (nI (n - j)) := by
    unfold f_Row_shorten
    rw [pk_sub hj, if_neg (nI_pos (by omega)), if_neg (nI_nlt (a := n) (b := n - j) (by omega) (by omega))]
  rw [Bd_s e, Bd_s rfl]
theorem Mo_end_no (N : Nat) {n : Nat} (hn : n ≤ 65536) {p : Int32} (h : p < 0 ∨ nI (n + 1) ≤ p) : f_Mo_end N (nI n) p = some (0, nI n, 1) := by
  unfold f_Mo_end f_Mo_refuse
  rw [Jn_s]
  by_cases h0 : p < 0
  · rw [if_pos h0, Bd_s rfl]
  · rw [if_neg h0, if_neg (nI_out (by omega) (h.resolve_left h0)), Bd_s rfl]
theorem Mo_end_yes (N : Nat) {n j : Nat} (hn : n ≤ 65536) (hj : j ≤ n) : f_Mo_end N (nI n) (nI j) = some (nI (n - j), nI (n - j), 0) := by
  unfold f_Mo_end
  rw [Jn_s, if_neg (nI_pos (by omega)), if_pos (nI_le hj (by omega)), Lt_s, pk_sub hj]
theorem getD_take {L : List Int32} {i k : Nat} (h : i < k) : (L.take k).getD i 0 = L.getD i 0 := by
  simp [List.getD_eq_getElem?_getD, List.getElem?_take, h]
theorem Rw_take {c : Nat} {f : Nat → Int32} {L : List Int32} (k : Nat) (h : Rw c f L) : Rw c f (L.take k) := by
  obtain ⟨h1, h2, h3, h4, h5⟩ := h
  refine ⟨by rw [List.length_take]; omega, h2, h3, h4, fun i hi => ?_⟩
  rw [List.length_take] at hi
  rw [getD_take (by omega)]
  exact h5 i (by omega)
theorem Md_take {f : Nat → Int32} {L : List Int32} (k : Nat) (h : Md f L) : Md f (L.take k) := by
  refine ⟨h.1, fun i hi => ?_⟩
  rw [List.length_take] at hi
  rw [getD_take (by omega)]
  exact h.2 i (by omega)
theorem Row_has_no (N : Nat) {n : Nat} (hn : n < 2 ^ 31) {p : Int32} (h : p < 0 ∨ nI n ≤ p) : f_Row_has N (nI n) p = some 0 := by
  unfold f_Row_has
  by_cases h0 : p < 0
  · rw [if_pos h0]
  · rw [if_neg h0, if_pos (h.resolve_left h0)]
theorem Row_has_yes (N : Nat) {n j : Nat} (hn : n < 2 ^ 31) (hj : j < n) : f_Row_has N (nI n) (nI j) = some 1 := by
  unfold f_Row_has
  rw [if_neg (nI_pos (by omega)), if_neg (nI_ge hj hn)]
theorem Row_at_yes (N : Nat) {c n j : Nat} {f : Nat → Int32} (hc : c < 2 ^ 31) (hn : n ≤ c) (hj : j < n) : f_Row_at N (nI n) c f (nI j) = some (f j &&& 255) := by
  unfold f_Row_at
  rw [Bd_s (Row_has_yes N (by omega) hj), if_neg (by decide), Ix_s (by omega) hc, nI_clamp (by omega)]
theorem Row_put_yes (N : Nat) {c n j : Nat} {f : Nat → Int32} (hc : c < 2 ^ 31) (hn : n ≤ c) (hj : j < n) (x : Int32) : f_Row_put N (nI n) c f (nI j) x = some (upd f j (bB x)) := by
  unfold f_Row_put
  rw [Bd_s (Row_has_yes N (by omega) hj), if_neg (by decide), Ix_s (by omega) hc, Lt_s, nI_clamp (by omega), bB_nar]
theorem TP_change_no (N : Nat) {c n : Nat} {f : Nat → Int32} (hn : n ≤ 65536) {p x : Int32} (h : p < 0 ∨ nI n ≤ p ∨ x < 0 ∨ ¬ x ≤ 255) : f_TP_change N (nI n) c f p x = some ((1, f), 1, 6) := by
  unfold f_TP_change
  by_cases h1 : p < 0 ∨ nI n ≤ p
  · rw [Bd_s (Row_has_no N (by omega) h1), Jn_s, if_pos rfl]
    exact Ak_s rfl
  · obtain ⟨j, hj, rfl⟩ := (pk_ix p (n := n) (by omega)).resolve_left (fun q => h1 (Or.inl q)) |>.resolve_left (fun q => h1 (Or.inr q))
    rw [Bd_s (Row_has_yes N (by omega) hj), Jn_s, if_neg (by decide)]
    have h2 : x < 0 ∨ ¬ x ≤ 255 := by
      rcases h with q | q | q
      · exact absurd (Or.inl q) h1
      · exact absurd (Or.inr q) h1
      · exact q
    by_cases h3 : x < 0
    · rw [if_pos h3]
      exact Ak_s rfl
    · rw [if_neg h3, if_neg (h2.resolve_left h3)]
      exact Ak_s rfl
theorem TP_change_yes (N : Nat) {c n j : Nat} {f : Nat → Int32} (hc : c < 2 ^ 31) (hnc : n ≤ c) (hj : j < n) {x : Int32} (h0 : ¬ x < 0) (h1 : x ≤ 255) : f_TP_change N (nI n) c f (nI j) x = some ((0, upd f j (bB ((f j &&& 255) ^^^ x))), 0, 0) := by
  unfold f_TP_change
  rw [Bd_s (Row_has_yes N (by omega) hj), Jn_s, if_neg (by decide), if_neg h0, if_pos h1, Bd_s (Row_at_yes N hc hnc hj), Bd_s (Row_put_yes N hc hnc hj _)]
theorem Mo_change_no (N : Nat) {n : Nat} {f : Nat → Int32} {p x : Int32} (h : p < 0 ∨ nI n ≤ p ∨ x < 0 ∨ ¬ x ≤ 255) : f_Mo_change N (nI n) 65536 f p x = some (1, f) := by
  unfold f_Mo_change
  rw [Jn_s]
  by_cases h0 : p < 0
  · rw [if_pos h0]
  · rw [if_neg h0]
    by_cases h1 : nI n ≤ p
    · rw [if_pos h1]
    · rw [if_neg h1]
      by_cases h2 : x < 0
      · rw [if_pos h2]
      · rw [if_neg h2, if_neg (((h.resolve_left h0).resolve_left h1).resolve_left h2)]
theorem Mo_change_yes (N : Nat) {n j : Nat} {f : Nat → Int32} (hn : n ≤ 65536) (hj : j < n) {x : Int32} (h0 : ¬ x < 0) (h1 : x ≤ 255) : f_Mo_change N (nI n) 65536 f (nI j) x = some (0, upd f j (bB (f j ^^^ x))) := by
  unfold f_Mo_change
  rw [Jn_s, if_neg (nI_pos (by omega)), if_neg (nI_ge hj (by omega)), if_neg h0, if_pos h1, Ix_s (by omega) (by omega), Ix_s (by omega) (by omega), Lt_s, nI_clamp (by omega), bB_nar]
theorem bB_xor (f x : Int32) : bB ((f &&& 255) ^^^ x) = bB (f ^^^ x) := by
  unfold bB
  have h : ((f &&& 255) ^^^ x).toInt8 = (f ^^^ x).toInt8 := by
    apply Int8.toBitVec_inj.mp
    simp only [Int32.toBitVec_toInt8, Int32.toBitVec_xor, Int32.toBitVec_and]
    apply BitVec.eq_of_getLsbD_eq
    intro i hi
    have h8 : i < 8 := hi
    have e8 : ∀ (i : Nat) (h : i < 8), (255#8 : BitVec 8)[i] = true := by decide
    simp [BitVec.getLsbD_setWidth, BitVec.getLsbD_xor, BitVec.getLsbD_and, h8]
    intro _
    exact e8 i h8
  rw [h]
theorem Rw_set {c j : Nat} {f : Nat → Int32} {L : List Int32} (h : Rw c f L) (hj : j < L.length) (x : Int32) : Rw c (upd f j (bB x)) (L.set j (bB x)) := by
  obtain ⟨h1, h2, h3, h4, h5⟩ := h
  refine ⟨by rw [List.length_set]; exact h1, h2, h3, sb_fitU h4 (bB_fit x), fun i hi => ?_⟩
  rw [List.length_set] at hi
  by_cases q : i = j
  · subst q
    rw [pk_us]
    simp [List.getD_eq_getElem?_getD, hi]
  · rw [pk_un q, h5 i hi]
    simp [List.getD_eq_getElem?_getD, List.getElem?_set, Ne.symm q]
theorem Md_set {j : Nat} {f : Nat → Int32} {L : List Int32} (h : Md f L) (hj : j < L.length) (x : Int32) : Md (upd f j (bB x)) (L.set j (bB x)) := by
  refine ⟨sb_fitU h.1 (bB_fit x), fun i hi => ?_⟩
  rw [List.length_set] at hi
  by_cases q : i = j
  · subst q
    rw [pk_us]
    simp [List.getD_eq_getElem?_getD, hi]
  · rw [pk_un q, h.2 i hi]
    simp [List.getD_eq_getElem?_getD, List.getElem?_set, Ne.symm q]
theorem Rw_copy (N : Nat) {c c2 n : Nat} {f f2 : Nat → Int32} {L L2 : List Int32} (h : Rw c f L) (h2 : Rw c2 f2 L2) (hn : L2.length = n) :
    ∃ (c' : Nat) (f' : Nat → Int32) (k z : Nat), f_Row_copyFrom N (nI n) c f c2 f2 = some ((nI n, c', f'), k, z) ∧ Rw c' f' L2 ∧ k + kap c' ≤ kap c ∧ z + phi c' ≤ phi c := by
  obtain ⟨g1, g2, g3, g4, g5⟩ := id h2
  obtain ⟨c', f', k, z, e, hR, hc, hk, hz⟩ := Rw_room N h (p := n) (by omega)
  obtain ⟨r1, r2, r3, r4, r5⟩ := id hR
  refine ⟨c', va_cpy f2 f' 0 0 n, k + 0, z + 0, ?_, ⟨by omega, r2, r3, sb_fitC g4 r4, fun i hi => ?_⟩, hk, hz⟩
  · unfold f_Row_copyFrom
    refine Bk_s e ?_
    have e1 := Gc_s (β := (Int32 × Nat × (Nat → Int32)) × Nat × Nat) (sp := 0) (dp := 0) (n := n) (n0 := c2) (n1 := c') (f := f2) (x := some ((nI n, c', va_cpy f2 f' 0 0 n), 0, 0)) (by omega) (by omega) (by omega) (by omega) g4
    rw [Lt_s, nI_clamp (by omega)]
    exact e1
  · rw [sb_cpy0 (by omega)]
    exact g5 i hi
theorem TP_turn_no (N : Nat) {n m c c2 : Nat} {f f2 : Nat → Int32} (h : 65536 < m) (hm : m ≤ 73736) : f_TP_turn N (nI m) (nI n) c f c2 f2 = some ((1, 0, nI n, c, f), 1, 6) := by
  unfold f_TP_turn f_Row_length
  rw [Bd_s rfl]
  (refine (if_neg ?_).trans ?_; focus ((try simp (disch := omega) only [Int32.le_iff_toInt_le, Int32.lt_iff_toInt_lt, ← Int32.toInt_inj, nI_toInt, nI_addL, nI_Ladd, nI_mulL, nI_Lmul, nI_add, nI_subL, nI_Lsub, nI_sub, Int32.reduceToInt, m1_toInt, ne_eq, Int32.reduceMul, Int32.reduceAdd, Int32.reduceSub]) <;> omega))
  exact Ak_s rfl
theorem TP_turn_yes (N : Nat) {m c c2 : Nat} {x : Int32} {f f2 : Nat → Int32} {L L2 : List Int32} (h : Rw c f L) (h2 : Rw c2 f2 L2) (hm : L2.length = m) (hs : m ≤ 65536) :
    ∃ (c' : Nat) (f' : Nat → Int32) (k z : Nat), f_TP_turn N (nI m) x c f c2 f2 = some ((0, nI m, nI m, c', f'), k, z) ∧ Rw c' f' L2 ∧ k + kap c' ≤ kap c ∧ z + phi c' ≤ phi c := by
  obtain ⟨c', f', k, z, e, hR, hk, hz⟩ := Rw_copy N h h2 hm
  refine ⟨c', f', k + 0, z + 0, ?_, hR, hk, hz⟩
  unfold f_TP_turn f_Row_length
  rw [Bd_s rfl]
  (refine (if_pos ?_).trans ?_; focus ((try simp (disch := omega) only [Int32.le_iff_toInt_le, Int32.lt_iff_toInt_lt, ← Int32.toInt_inj, nI_toInt, nI_addL, nI_Ladd, nI_mulL, nI_Lmul, nI_add, nI_subL, nI_Lsub, nI_sub, Int32.reduceToInt, m1_toInt, ne_eq, Int32.reduceMul, Int32.reduceAdd, Int32.reduceSub]) <;> omega))
  exact Bk_s e rfl
theorem Mo_turn_no (N : Nat) {n m : Nat} {f f2 : Nat → Int32} (h : 65536 < m) (hm : m ≤ 74000) : f_Mo_turn N (nI n) (nI m) 74000 f 65536 f2 = some (0, nI n, 1, f2) := by
  unfold f_Mo_turn f_Mo_refuse
  (refine (if_neg ?_).trans ?_; focus ((try simp (disch := omega) only [Int32.le_iff_toInt_le, Int32.lt_iff_toInt_lt, ← Int32.toInt_inj, nI_toInt, nI_addL, nI_Ladd, nI_mulL, nI_Lmul, nI_add, nI_subL, nI_Lsub, nI_sub, Int32.reduceToInt, m1_toInt, ne_eq, Int32.reduceMul, Int32.reduceAdd, Int32.reduceSub]) <;> omega))
  rw [Bd_s rfl]
theorem Mo_turn_loop (N : Nat) {L : List Int32} {m : Nat} {f : Nat → Int32} (hf : Md f L) (hl : L.length = m) (hm : m ≤ 65536) (hB : ∀ i, f i = bB (f i)) : ∀ (j k fuel : Nat) (g : Nat → Int32), j + k = m → j < fuel → Md g (L.take k) → ∃ g', lp_Mo_turn_22 N (nI m) 65536 74000 f fuel (nI k) g = some g' ∧ Md g' L := by
  intro j
  induction j with
  | zero =>
    intro k fuel g hk hfu hM
    obtain ⟨q, rfl⟩ : ∃ q, fuel = q + 1 := ⟨fuel - 1, by omega⟩
    refine ⟨g, ?_, ?_⟩
    · show lb_Mo_turn_22 N (nI m) 65536 74000 f _ _ _ = _
      unfold lb_Mo_turn_22
      exact if_pos (nI_le (by omega) (by omega))
    · rw [List.take_of_length_le (by omega)] at hM
      exact hM
  | succ j ih =>
    intro k fuel g hk hfu hM
    obtain ⟨q, rfl⟩ : ∃ q, fuel = q + 1 := ⟨fuel - 1, by omega⟩
    have hlen : (L.take k).length = k := by rw [List.length_take]; omega
    have hM' := Md_add hM hlen (f k)
    have e0 : L.take k ++ [bB (f k)] = L.take (k + 1) := by
      rw [← hB, hf.2 k (by omega), List.take_add_one]
      simp [List.getD_eq_getElem?_getD, show k < L.length by omega]
    rw [e0] at hM'
    obtain ⟨g', e1, hG⟩ := ih (k + 1) q _ (by omega) (by omega) hM'
    refine ⟨g', ?_, hG⟩
    rw [← e1]
    show lb_Mo_turn_22 N (nI m) 65536 74000 f _ _ _ = _
    unfold lb_Mo_turn_22
    rw [if_neg (nI_ge (a := k) (b := m) (by omega) (by omega)), Ix_s (by omega) (by omega), Ix_s (by omega) (by omega), Lt_s, Lt_s, nI_clamp (by omega), nI_1, vp_nar_byte]
    rfl
theorem bB_of {x : Int32} (h : fits .byte (.int x) = true) : bB x = x := by
  have h1 : (decide ((-128 : Int32) ≤ x) && decide (x ≤ (127 : Int32))) = true := h
  rw [Bool.and_eq_true, decide_eq_true_iff, decide_eq_true_iff, Int32.le_iff_toInt_le, Int32.le_iff_toInt_le] at h1
  have a1 : (-128 : Int32).toInt = -128 := rfl
  have a2 : (127 : Int32).toInt = 127 := rfl
  rw [a1, a2] at h1
  apply Int32.toInt_inj.mp
  unfold bB
  rw [Int8.toInt_toInt32, Int32.toInt_toInt8]
  exact Int.bmod_eq_of_le (by omega) (by omega)
theorem Mo_turn_yes (N : Nat) (hN : 65536 < N) {n m : Nat} {f f2 : Nat → Int32} {L : List Int32} (hf : Md f L) (hl : L.length = m) (hm : m ≤ 65536) (h2 : sb_Fit f2) :
    ∃ g', f_Mo_turn N (nI n) (nI m) 74000 f 65536 f2 = some (nI m, nI m, 0, g') ∧ Md g' L := by
  obtain ⟨g', e1, hG⟩ := Mo_turn_loop N hf hl hm (fun i => (bB_of (hf.1 i)).symm) m 0 N f2 (by omega) (by omega) ⟨h2, fun i hi => by simp at hi⟩
  refine ⟨g', ?_, hG⟩
  unfold f_Mo_turn
  (refine (if_pos ?_).trans ?_; focus ((try simp (disch := omega) only [Int32.le_iff_toInt_le, Int32.lt_iff_toInt_lt, ← Int32.toInt_inj, nI_toInt, nI_addL, nI_Ladd, nI_mulL, nI_Lmul, nI_add, nI_subL, nI_Lsub, nI_sub, Int32.reduceToInt, m1_toInt, ne_eq, Int32.reduceMul, Int32.reduceAdd, Int32.reduceSub]) <;> omega))
  exact Bd_s e1 _
