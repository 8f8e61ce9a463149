/-! SHA-1: the words of a chunk, the chunks, the answer (ours) -/
def w0 (L : List Int32) (P fr t : Nat) : Int32 := (((pb L P (fr + 4 * t) <<< ((24 : Int32) &&& 31)) ||| (pb L P (fr + 4 * t + 1) <<< ((16 : Int32) &&& 31))) ||| (pb L P (fr + 4 * t + 2) <<< ((8 : Int32) &&& 31))) ||| pb L P (fr + 4 * t + 3)
def WX (L : List Int32) (P fr : Nat) (w : Nat → Int32) : Prop := (∀ i, i < 16 → w i = w0 L P fr i) ∧ ∀ i, 16 ≤ i → i < 80 → w i = rotl (((w (i - 3) ^^^ w (i - 8)) ^^^ w (i - 14)) ^^^ w (i - 16)) 1
theorem WX_eq {L : List Int32} {P fr : Nat} {w w' : Nat → Int32} (h : WX L P fr w) (h' : WX L P fr w') : ∀ i, i < 80 → w i = w' i := by
  intro i
  induction i using Nat.strongRecOn with
  | ind i ih =>
    intro hi
    by_cases h16 : i < 16
    · rw [h.1 i h16, h'.1 i h16]
    · rw [h.2 i (by omega) hi, h'.2 i (by omega) hi, ih (i - 3) (by omega) (by omega), ih (i - 8) (by omega) (by omega), ih (i - 14) (by omega) (by omega), ih (i - 16) (by omega) (by omega)]
theorem Mo_w16 (N : Nat) {L : List Int32} {g : Nat → Int32} {n P fr : Nat} (h : Md g L) (hl : L.length = n) (hn : n ≤ 65536) (hP2 : P ≤ 100000) (hfr : fr + 64 ≤ P) : ∀ (j t fuel : Nat) (w : Nat → Int32), j + t = 16 → j < fuel → (∀ i, i < t → w i = w0 L P fr i) →
    ∃ w', lp_Mo_chunk_2 N (nI fr) (nI P) (nI n) 65536 g 80 fuel (nI t) w = some w' ∧ ∀ i, i < 16 → w' i = w0 L P fr i := by
  intro j
  induction j with
  | zero =>
    intro t fuel w ht hf hw
    obtain ⟨q, rfl⟩ : ∃ q, fuel = q + 1 := ⟨fuel - 1, by omega⟩
    refine ⟨w, ?_, fun i hi => hw i (by omega)⟩
    rw [ls_Mo_chunk_2]
    unfold lb_Mo_chunk_2
    (refine (if_pos ?_).trans ?_; focus ((try simp (disch := omega) only [Int32.le_iff_toInt_le, Int32.lt_iff_toInt_lt, ← Int32.toInt_inj, nI_toInt, nI_addL, nI_Ladd, nI_mulL, nI_Lmul, nI_add, nI_subL, nI_Lsub, nI_sub, Int32.reduceToInt, m1_toInt, ne_eq, Int32.reduceMul, Int32.reduceAdd, Int32.reduceSub]) <;> omega)); rfl
  | succ j ih =>
    intro t fuel w ht hf hw
    obtain ⟨q, rfl⟩ : ∃ q, fuel = q + 1 := ⟨fuel - 1, by omega⟩
    obtain ⟨w', e1, hG⟩ := ih (t + 1) q (upd w t (w0 L P fr t)) (by omega) (by omega) (fun i hi => by
      by_cases q : i = t
      · rw [q, pk_us]
      · rw [pk_un q]
        exact hw i (by omega))
    refine ⟨w', ?_, hG⟩
    rw [← e1]
    rw [ls_Mo_chunk_2]
    unfold lb_Mo_chunk_2
    have ea : nI fr + nI t * 4 = nI (fr + 4 * t) := by
      rw [show nI t * 4 = nI (t * 4) from pk_mul t 4, nI_add, Nat.mul_comm]
    (refine (if_neg ?_).trans ?_; focus ((try simp (disch := omega) only [Int32.le_iff_toInt_le, Int32.lt_iff_toInt_lt, ← Int32.toInt_inj, nI_toInt, nI_addL, nI_Ladd, nI_mulL, nI_Lmul, nI_add, nI_subL, nI_Lsub, nI_sub, Int32.reduceToInt, m1_toInt, ne_eq, Int32.reduceMul, Int32.reduceAdd, Int32.reduceSub]) <;> omega)); rw [ea, Bd_s (Mo_pb N h hl hn (by omega) hP2 (i := fr + 4 * t) (by omega)), show nI (fr + 4 * t) + 1 = nI (fr + 4 * t + 1) from nI_add _ 1, Bd_s (Mo_pb N h hl hn (by omega) hP2 (i := fr + 4 * t + 1) (by omega)), show nI (fr + 4 * t) + 2 = nI (fr + 4 * t + 2) from nI_add _ 2, Bd_s (Mo_pb N h hl hn (by omega) hP2 (i := fr + 4 * t + 2) (by omega)), show nI (fr + 4 * t) + 3 = nI (fr + 4 * t + 3) from nI_add _ 3, Bd_s (Mo_pb N h hl hn (by omega) hP2 (i := fr + 4 * t + 3) (by omega)), Ix_s (by omega) (by omega), Lt_s, Lt_s, nI_clamp (by omega), nI_1]
    rfl
theorem Mo_w80 (N : Nat) {L : List Int32} {P fr : Nat} : ∀ (j t fuel : Nat) (w : Nat → Int32), j + t = 80 → 16 ≤ t → j < fuel → (∀ i, i < 16 → w i = w0 L P fr i) → (∀ i, 16 ≤ i → i < t → w i = rotl (((w (i - 3) ^^^ w (i - 8)) ^^^ w (i - 14)) ^^^ w (i - 16)) 1) →
    ∃ w', lp_Mo_chunk_81 N 80 fuel (nI t) w = some w' ∧ WX L P fr w' := by
  intro j
  induction j with
  | zero =>
    intro t fuel w ht h16 hf hw hw2
    obtain ⟨q, rfl⟩ : ∃ q, fuel = q + 1 := ⟨fuel - 1, by omega⟩
    refine ⟨w, ?_, hw, fun i h1 h2 => hw2 i h1 (by omega)⟩
    rw [ls_Mo_chunk_81]
    unfold lb_Mo_chunk_81
    (refine (if_pos ?_).trans ?_; focus ((try simp (disch := omega) only [Int32.le_iff_toInt_le, Int32.lt_iff_toInt_lt, ← Int32.toInt_inj, nI_toInt, nI_addL, nI_Ladd, nI_mulL, nI_Lmul, nI_add, nI_subL, nI_Lsub, nI_sub, Int32.reduceToInt, m1_toInt, ne_eq, Int32.reduceMul, Int32.reduceAdd, Int32.reduceSub]) <;> omega)); rfl
  | succ j ih =>
    intro t fuel w ht h16 hf hw hw2
    obtain ⟨q, rfl⟩ : ∃ q, fuel = q + 1 := ⟨fuel - 1, by omega⟩
    have un : ∀ i x, i < t → upd w t x i = w i := fun i x hi => pk_un (by omega)
    obtain ⟨w', e1, hG⟩ := ih (t + 1) q (upd w t (rotl (((w (t - 3) ^^^ w (t - 8)) ^^^ w (t - 14)) ^^^ w (t - 16)) 1)) (by omega) (by omega) (by omega) (fun i hi => by rw [un i _ (by omega)]; exact hw i hi) (fun i h1 h2 => by
      rw [un (i - 3) _ (by omega), un (i - 8) _ (by omega), un (i - 14) _ (by omega), un (i - 16) _ (by omega)]
      by_cases q : i = t
      · rw [q, pk_us]
      · rw [un i _ (by omega)]
        exact hw2 i h1 (by omega))
    refine ⟨w', ?_, hG⟩
    rw [← e1]
    rw [ls_Mo_chunk_81]
    unfold lb_Mo_chunk_81
    (refine (if_neg ?_).trans ?_; focus ((try simp (disch := omega) only [Int32.le_iff_toInt_le, Int32.lt_iff_toInt_lt, ← Int32.toInt_inj, nI_toInt, nI_addL, nI_Ladd, nI_mulL, nI_Lmul, nI_add, nI_subL, nI_Lsub, nI_sub, Int32.reduceToInt, m1_toInt, ne_eq, Int32.reduceMul, Int32.reduceAdd, Int32.reduceSub]) <;> omega)); rw [show nI t - 3 = nI (t - 3) from nI_sub (b := 3) (by omega), show nI t - 8 = nI (t - 8) from nI_sub (b := 8) (by omega), show nI t - 14 = nI (t - 14) from nI_sub (b := 14) (by omega), show nI t - 16 = nI (t - 16) from nI_sub (b := 16) (by omega), Ix_s (by omega) (by omega), Ix_s (by omega) (by omega), Ix_s (by omega) (by omega), Ix_s (by omega) (by omega), Mo_rot, Bd_s rfl, Ix_s (by omega) (by omega), Lt_s, Lt_s, nI_1, nI_clamp (by omega), nI_clamp (by omega), nI_clamp (by omega), nI_clamp (by omega), nI_clamp (by omega)]
theorem Sha_w80 (N : Nat) {L : List Int32} {P fr : Nat} : ∀ (j t fuel : Nat) (w : Nat → Int32), j + t = 80 → 16 ≤ t → j < fuel → (∀ i, i < 16 → w i = w0 L P fr i) → (∀ i, 16 ≤ i → i < t → w i = rotl (((w (i - 3) ^^^ w (i - 8)) ^^^ w (i - 14)) ^^^ w (i - 16)) 1) →
    ∃ w', lp_Sha_fillWords_69 N 80 fuel (nI t) w = some w' ∧ WX L P fr w' := by
  intro j
  induction j with
  | zero =>
    intro t fuel w ht h16 hf hw hw2
    obtain ⟨q, rfl⟩ : ∃ q, fuel = q + 1 := ⟨fuel - 1, by omega⟩
    refine ⟨w, ?_, hw, fun i h1 h2 => hw2 i h1 (by omega)⟩
    rw [ls_Sha_fillWords_69]
    unfold lb_Sha_fillWords_69
    (refine (if_pos ?_).trans ?_; focus ((try simp (disch := omega) only [Int32.le_iff_toInt_le, Int32.lt_iff_toInt_lt, ← Int32.toInt_inj, nI_toInt, nI_addL, nI_Ladd, nI_mulL, nI_Lmul, nI_add, nI_subL, nI_Lsub, nI_sub, Int32.reduceToInt, m1_toInt, ne_eq, Int32.reduceMul, Int32.reduceAdd, Int32.reduceSub]) <;> omega)); rfl
  | succ j ih =>
    intro t fuel w ht h16 hf hw hw2
    obtain ⟨q, rfl⟩ : ∃ q, fuel = q + 1 := ⟨fuel - 1, by omega⟩
    have un : ∀ i x, i < t → upd w t x i = w i := fun i x hi => pk_un (by omega)
    obtain ⟨w', e1, hG⟩ := ih (t + 1) q (upd w t (rotl (((w (t - 3) ^^^ w (t - 8)) ^^^ w (t - 14)) ^^^ w (t - 16)) 1)) (by omega) (by omega) (by omega) (fun i hi => by rw [un i _ (by omega)]; exact hw i hi) (fun i h1 h2 => by
      rw [un (i - 3) _ (by omega), un (i - 8) _ (by omega), un (i - 14) _ (by omega), un (i - 16) _ (by omega)]
      by_cases q : i = t
      · rw [q, pk_us]
      · rw [un i _ (by omega)]
        exact hw2 i h1 (by omega))
    refine ⟨w', ?_, hG⟩
    rw [← e1]
    rw [ls_Sha_fillWords_69]
    unfold lb_Sha_fillWords_69
    (refine (if_neg ?_).trans ?_; focus ((try simp (disch := omega) only [Int32.le_iff_toInt_le, Int32.lt_iff_toInt_lt, ← Int32.toInt_inj, nI_toInt, nI_addL, nI_Ladd, nI_mulL, nI_Lmul, nI_add, nI_subL, nI_Lsub, nI_sub, Int32.reduceToInt, m1_toInt, ne_eq, Int32.reduceMul, Int32.reduceAdd, Int32.reduceSub]) <;> omega)); rw [show nI t - 3 = nI (t - 3) from nI_sub (b := 3) (by omega), show nI t - 8 = nI (t - 8) from nI_sub (b := 8) (by omega), show nI t - 14 = nI (t - 14) from nI_sub (b := 14) (by omega), show nI t - 16 = nI (t - 16) from nI_sub (b := 16) (by omega), Ix_s (by omega) (by omega), Ix_s (by omega) (by omega), Ix_s (by omega) (by omega), Ix_s (by omega) (by omega), Lt_s, Sha_rot, Bd_s rfl, Ix_s (by omega) (by omega), Lt_s, Lt_s, nI_1, nI_clamp (by omega), nI_clamp (by omega), nI_clamp (by omega), nI_clamp (by omega), nI_clamp (by omega)]
theorem Sha_w4 (N : Nat) (hN : 4 < N) {L : List Int32} {f : Nat → Int32} {c n P fr t : Nat} (h : Rw c f L) (hl : L.length = n) (hn : n ≤ 65536) (hP2 : P ≤ 100000) (hfr : fr + 64 ≤ P) (ht : t < 16) : lp_Sha_fillWords_16 N (nI fr) (nI P) (nI t) (nI n) c f N 0 0 = some (w0 L P fr t) := by
  obtain ⟨M, rfl⟩ : ∃ M, N = M + 5 := ⟨N - 5, by omega⟩
  have st : ∀ (fuel k : Nat) (x : Int32), k < 4 → lp_Sha_fillWords_16 (M + 5) (nI fr) (nI P) (nI t) (nI n) c f (fuel + 1) x (nI k) = lp_Sha_fillWords_16 (M + 5) (nI fr) (nI P) (nI t) (nI n) c f fuel ((x <<< ((8 : Int32) &&& 31)) ||| pb L P (fr + 4 * t + k)) (nI (k + 1)) := by
    intro fuel k x hk
    rw [ls_Sha_fillWords_16]
    unfold lb_Sha_fillWords_16
    (refine (if_neg ?_).trans ?_; focus ((try simp (disch := omega) only [Int32.le_iff_toInt_le, Int32.lt_iff_toInt_lt, ← Int32.toInt_inj, nI_toInt, nI_addL, nI_Ladd, nI_mulL, nI_Lmul, nI_add, nI_subL, nI_Lsub, nI_sub, Int32.reduceToInt, m1_toInt, ne_eq, Int32.reduceMul, Int32.reduceAdd, Int32.reduceSub]) <;> omega)); rw [show (4 : Int32) * nI t = nI (4 * t) from pk_mul 4 t, nI_add, nI_add, Bd_s (Sha_pb (M + 5) h hl hn (by omega) hP2 (i := fr + 4 * t + k) (by omega)), Lt_s, Lt_s, nI_1]
  have e0 : lp_Sha_fillWords_16 (M + 5) (nI fr) (nI P) (nI t) (nI n) c f (M + 5) 0 0 = lp_Sha_fillWords_16 (M + 5) (nI fr) (nI P) (nI t) (nI n) c f (M + 4 + 1) 0 (nI 0) := rfl
  rw [e0, st (M + 4) 0 _ (by omega), st (M + 3) 1 _ (by omega), st (M + 2) 2 _ (by omega), st (M + 1) 3 _ (by omega)]
  rw [ls_Sha_fillWords_16]
  unfold lb_Sha_fillWords_16
  (refine (if_pos ?_).trans ?_; focus ((try simp (disch := omega) only [Int32.le_iff_toInt_le, Int32.lt_iff_toInt_lt, ← Int32.toInt_inj, nI_toInt, nI_addL, nI_Ladd, nI_mulL, nI_Lmul, nI_add, nI_subL, nI_Lsub, nI_sub, Int32.reduceToInt, m1_toInt, ne_eq, Int32.reduceMul, Int32.reduceAdd, Int32.reduceSub]) <;> omega)); rw [sha_w4]
  rfl
theorem Sha_w16 (N : Nat) (hN : 4 < N) {L : List Int32} {f : Nat → Int32} {c n P fr : Nat} (h : Rw c f L) (hl : L.length = n) (hn : n ≤ 65536) (hP2 : P ≤ 100000) (hfr : fr + 64 ≤ P) : ∀ (j t fuel : Nat) (w : Nat → Int32), j + t = 16 → j < fuel → (∀ i, i < t → w i = w0 L P fr i) →
    ∃ w', lp_Sha_fillWords_3 N (nI fr) (nI P) 80 (nI n) c f fuel (nI t) w = some w' ∧ ∀ i, i < 16 → w' i = w0 L P fr i := by
  intro j
  induction j with
  | zero =>
    intro t fuel w ht hf hw
    obtain ⟨q, rfl⟩ : ∃ q, fuel = q + 1 := ⟨fuel - 1, by omega⟩
    refine ⟨w, ?_, fun i hi => hw i (by omega)⟩
    rw [ls_Sha_fillWords_3]
    unfold lb_Sha_fillWords_3
    (refine (if_pos ?_).trans ?_; focus ((try simp (disch := omega) only [Int32.le_iff_toInt_le, Int32.lt_iff_toInt_lt, ← Int32.toInt_inj, nI_toInt, nI_addL, nI_Ladd, nI_mulL, nI_Lmul, nI_add, nI_subL, nI_Lsub, nI_sub, Int32.reduceToInt, m1_toInt, ne_eq, Int32.reduceMul, Int32.reduceAdd, Int32.reduceSub]) <;> omega)); rfl
  | succ j ih =>
    intro t fuel w ht hf hw
    obtain ⟨q, rfl⟩ : ∃ q, fuel = q + 1 := ⟨fuel - 1, by omega⟩
    obtain ⟨w', e1, hG⟩ := ih (t + 1) q (upd w t (w0 L P fr t)) (by omega) (by omega) (fun i hi => by
      by_cases q : i = t
      · rw [q, pk_us]
      · rw [pk_un q]
        exact hw i (by omega))
    refine ⟨w', ?_, hG⟩
    rw [← e1]
    rw [ls_Sha_fillWords_3]
    unfold lb_Sha_fillWords_3
    (refine (if_neg ?_).trans ?_; focus ((try simp (disch := omega) only [Int32.le_iff_toInt_le, Int32.lt_iff_toInt_lt, ← Int32.toInt_inj, nI_toInt, nI_addL, nI_Ladd, nI_mulL, nI_Lmul, nI_add, nI_subL, nI_Lsub, nI_sub, Int32.reduceToInt, m1_toInt, ne_eq, Int32.reduceMul, Int32.reduceAdd, Int32.reduceSub]) <;> omega)); rw [Bd_s (Sha_w4 N hN h hl hn hP2 hfr (by omega)), Ix_s (by omega) (by omega), Lt_s, Lt_s, nI_clamp (by omega), nI_1]
theorem Sha_fill (N : Nat) (hN : 100 < N) {L : List Int32} {f : Nat → Int32} {c n P fr : Nat} (h : Rw c f L) (hl : L.length = n) (hn : n ≤ 65536) (hP2 : P ≤ 100000) (hfr : fr + 64 ≤ P) (w : Nat → Int32) : ∃ w', f_Sha_fillWords N (nI n) c f 80 w (nI fr) (nI P) = some w' ∧ WX L P fr w' := by
  obtain ⟨w1, e1, h1⟩ := Sha_w16 N (by omega) h hl hn hP2 hfr 16 0 N w (by omega) (by omega) (fun i hi => absurd hi (by omega))
  obtain ⟨w2, e2, h2⟩ := Sha_w80 N (L := L) (P := P) (fr := fr) 64 16 N w1 (by omega) (by omega) (by omega) h1 (fun i h1 h2 => absurd h2 (by omega))
  refine ⟨w2, ?_, h2⟩
  unfold f_Sha_fillWords
  exact (Bd_s e1 _).trans ((Bd_s e2 _).trans rfl)
