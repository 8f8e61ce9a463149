/-! telling a code by its lengths, on both sides (ours) -/
theorem cnt_self (ls : Nat → Nat) (s : Nat) : cnt ls (s + 1) (ls s) = cnt ls s (ls s) + 1 := by
  show cnt ls s (ls s) + (if ls s = ls s then 1 else 0) = _
  rw [if_pos rfl]
theorem cnt_other (ls : Nat → Nat) {s l : Nat} (h : ls s ≠ l) : cnt ls (s + 1) l = cnt ls s l := by
  show cnt ls s l + (if ls s = l then 1 else 0) = _
  rw [if_neg h]
  rfl
theorem cn_cnt (ls : Nat → Nat) {m l : Nat} (h : l ≠ 0) : cn ls m l = cnt ls m l := if_neg h
theorem cn_0 (ls : Nat → Nat) (m : Nat) : cn ls m 0 = 0 := if_pos rfl
theorem tell_11 {ls : Nat → Nat} {fr m M : Nat} {len : Nat → Int32} (hlen : ∀ s, s < m → len (fr + s) = nI (ls s)) (h15 : ∀ s, s < m → ls s ≤ 15) (hM : fr + m ≤ M) (hM2 : M ≤ 340) :
    ∀ (j s fuel : Nat) (num : Nat → Int32), j + s = m → j < fuel → (∀ l, l ≤ 15 → num l = nI (cnt ls s l)) → ∃ num', lp_Co_tell_11 NF (nI fr) (nI m) 16 M len fuel (nI s) num = some num' ∧ ∀ l, l ≤ 15 → num' l = nI (cnt ls m l) := by
  intro j
  induction j with
  | zero =>
    intro s fuel num hj hf h
    obtain ⟨u, rfl⟩ : ∃ u, fuel = u + 1 := ⟨fuel - 1, by omega⟩
    refine ⟨num, ?_, ?_⟩
    · rw [ls_Co_tell_11]
      unfold lb_Co_tell_11
      (refine (if_pos ?_).trans ?_; focus ((try simp (disch := omega) only [Int32.le_iff_toInt_le, Int32.lt_iff_toInt_lt, ← Int32.toInt_inj, nI_toInt, nI_addL, nI_Ladd, nI_mulL, nI_Lmul, nI_add, nI_subL, nI_Lsub, nI_sub, Int32.reduceToInt, m1_toInt, ne_eq, Int32.reduceMul, Int32.reduceAdd, Int32.reduceSub]) <;> omega)); rfl
    · rw [show m = s by omega]
      exact h
  | succ j ih =>
    intro s fuel num hj hf h
    obtain ⟨u, rfl⟩ : ∃ u, fuel = u + 1 := ⟨fuel - 1, by omega⟩
    have hs := h15 s (by omega)
    obtain ⟨num', e1, h1⟩ := ih (s + 1) u (upd num (ls s) (num (ls s) + 1)) (by omega) (by omega) (fun l hl => by
      by_cases q : l = ls s
      · rw [q, pk_us, h (ls s) hs, nI_1, cnt_self]
      · rw [pk_un q, h l hl, cnt_other ls (Ne.symm q)])
    refine ⟨num', ?_, h1⟩
    rw [ls_Co_tell_11]
    unfold lb_Co_tell_11
    (refine (if_neg ?_).trans ?_; focus ((try simp (disch := omega) only [Int32.le_iff_toInt_le, Int32.lt_iff_toInt_lt, ← Int32.toInt_inj, nI_toInt, nI_addL, nI_Ladd, nI_mulL, nI_Lmul, nI_add, nI_subL, nI_Lsub, nI_sub, Int32.reduceToInt, m1_toInt, ne_eq, Int32.reduceMul, Int32.reduceAdd, Int32.reduceSub]) <;> omega))
    rw [nI_add, Ix_s (by omega) (by omega), nI_clamp (by omega), hlen s (by omega), Ix_s (by omega) (by omega), Ix_s (by omega) (by omega), Lt_s, Lt_s, nI_clamp (by omega), nI_1]
    exact e1
theorem tell_55 {ls : Nat → Nat} {m : Nat} {num : Nat → Int32} (hnum : ∀ l, l ≤ 15 → num l = nI (cn ls m l)) (hm : m ≤ 288) :
    ∀ (j i fuel : Nat) (st : Nat → Int32), j + i = 16 → 1 ≤ i → j < fuel → (∀ l, l < i → st l = nI (ofs ls m l)) → ∃ st', lp_Co_tell_55 NF 16 num 16 fuel (nI i) st = some st' ∧ ∀ l, l ≤ 15 → st' l = nI (ofs ls m l) := by
  intro j
  induction j with
  | zero =>
    intro i fuel st hj hi hf h
    obtain ⟨u, rfl⟩ : ∃ u, fuel = u + 1 := ⟨fuel - 1, by omega⟩
    refine ⟨st, ?_, fun l hl => h l (by omega)⟩
    rw [ls_Co_tell_55]
    unfold lb_Co_tell_55
    (refine (if_pos ?_).trans ?_; focus ((try simp (disch := omega) only [Int32.le_iff_toInt_le, Int32.lt_iff_toInt_lt, ← Int32.toInt_inj, nI_toInt, nI_addL, nI_Ladd, nI_mulL, nI_Lmul, nI_add, nI_subL, nI_Lsub, nI_sub, Int32.reduceToInt, m1_toInt, ne_eq, Int32.reduceMul, Int32.reduceAdd, Int32.reduceSub]) <;> omega)); rfl
  | succ j ih =>
    intro i fuel st hj hi hf h
    obtain ⟨u, rfl⟩ : ∃ u, fuel = u + 1 := ⟨fuel - 1, by omega⟩
    have e2 : ofs ls m i = ofs ls m (i - 1) + cn ls m (i - 1) := by
      conv => lhs; rw [show i = (i - 1) + 1 by omega]
      rfl
    obtain ⟨st', e1, h1⟩ := ih (i + 1) u (upd st i (st (i - 1) + num (i - 1))) (by omega) (by omega) (by omega) (fun l hl => by
      by_cases q : l = i
      · rw [q, pk_us, h (i - 1) (by omega), hnum (i - 1) (by omega), nI_add, e2]
      · rw [pk_un q, h l (by omega)])
    refine ⟨st', ?_, h1⟩
    rw [ls_Co_tell_55]
    unfold lb_Co_tell_55
    (refine (if_neg ?_).trans ?_; focus ((try simp (disch := omega) only [Int32.le_iff_toInt_le, Int32.lt_iff_toInt_lt, ← Int32.toInt_inj, nI_toInt, nI_addL, nI_Ladd, nI_mulL, nI_Lmul, nI_add, nI_subL, nI_Lsub, nI_sub, Int32.reduceToInt, m1_toInt, ne_eq, Int32.reduceMul, Int32.reduceAdd, Int32.reduceSub]) <;> omega))
    rw [show nI i - 1 = nI (i - 1) from nI_sub (b := 1) (by omega), Ix_s (by omega) (by omega), Ix_s (by omega) (by omega), Ix_s (by omega) (by omega), Lt_s, Lt_s, nI_clamp (by omega), nI_clamp (by omega), nI_1]
    exact e1
theorem ofs_16 (ls : Nat → Nat) {m s : Nat} (hs : s < m) (h15 : ls s ≤ 15) (h0 : ls s ≠ 0) : ofs ls m (ls s) + cnt ls s (ls s) < ofs ls m 16 :=
  Nat.lt_of_lt_of_le (ofs_lt ls hs h0) (ofs_mono ls m (by omega))
theorem place_ne (ls : Nat → Nat) {m s t : Nat} (hs : s < m) (hts : t < s) (h0s : ls s ≠ 0) (h0 : ls t ≠ 0) : ofs ls m (ls t) + cnt ls t (ls t) ≠ ofs ls m (ls s) + cnt ls s (ls s) := by
  have a1 := ofs_lt ls (n := m) (s := t) (by omega) h0
  have a2 := ofs_lt ls (n := m) (s := s) hs h0s
  by_cases q : ls t = ls s
  · have := cnt_lt ls (n := s) (s := t) hts
    rw [q] at this ⊢
    omega
  · by_cases q2 : ls t < ls s
    · have := ofs_mono ls m (a := ls t + 1) (b := ls s) (by omega)
      omega
    · have := ofs_mono ls m (a := ls s + 1) (b := ls t) (by omega)
      omega
theorem tell_97 {ls : Nat → Nat} {fr m M z : Nat} {len : Nat → Int32} (hlen : ∀ s, s < m → len (fr + s) = nI (ls s)) (h15 : ∀ s, s < m → ls s ≤ 15) (hM : fr + m ≤ M) (hM2 : M ≤ 340) (hz : ofs ls m 16 ≤ z) (hz2 : z ≤ 288) (hm : m ≤ 288) :
    ∀ (j s fuel : Nat) (st sym : Nat → Int32), j + s = m → j < fuel → (∀ l, 1 ≤ l → l ≤ 15 → st l = nI (ofs ls m l + cnt ls s l)) → (∀ t, t < s → ls t ≠ 0 → sym (ofs ls m (ls t) + cnt ls t (ls t)) = nI t) →
    ∃ st' sym', lp_Co_tell_97 NF (nI fr) (nI m) 16 z M len fuel (nI s) st sym = some (st', sym') ∧ ∀ t, t < m → ls t ≠ 0 → sym' (ofs ls m (ls t) + cnt ls t (ls t)) = nI t := by
  intro j
  induction j with
  | zero =>
    intro s fuel st sym hj hf h1 h2
    obtain ⟨u, rfl⟩ : ∃ u, fuel = u + 1 := ⟨fuel - 1, by omega⟩
    refine ⟨st, sym, ?_, fun t ht => h2 t (by omega)⟩
    rw [ls_Co_tell_97]
    unfold lb_Co_tell_97
    (refine (if_pos ?_).trans ?_; focus ((try simp (disch := omega) only [Int32.le_iff_toInt_le, Int32.lt_iff_toInt_lt, ← Int32.toInt_inj, nI_toInt, nI_addL, nI_Ladd, nI_mulL, nI_Lmul, nI_add, nI_subL, nI_Lsub, nI_sub, Int32.reduceToInt, m1_toInt, ne_eq, Int32.reduceMul, Int32.reduceAdd, Int32.reduceSub]) <;> omega)); rfl
  | succ j ih =>
    intro s fuel st sym hj hf h1 h2
    obtain ⟨u, rfl⟩ : ∃ u, fuel = u + 1 := ⟨fuel - 1, by omega⟩
    have hs := h15 s (by omega)
    by_cases h0 : ls s = 0
    · obtain ⟨st', sym', e1, g1⟩ := ih (s + 1) u st sym (by omega) (by omega) (fun l a b => by rw [h1 l a b, cnt_other ls (show ls s ≠ l by omega)]) (fun t ht hn0 => h2 t (by
        have : t ≠ s := fun e => hn0 (by rw [e]; exact h0)
        omega) hn0)
      refine ⟨st', sym', ?_, g1⟩
      rw [ls_Co_tell_97]
      unfold lb_Co_tell_97
      (refine (if_neg ?_).trans ?_; focus ((try simp (disch := omega) only [Int32.le_iff_toInt_le, Int32.lt_iff_toInt_lt, ← Int32.toInt_inj, nI_toInt, nI_addL, nI_Ladd, nI_mulL, nI_Lmul, nI_add, nI_subL, nI_Lsub, nI_sub, Int32.reduceToInt, m1_toInt, ne_eq, Int32.reduceMul, Int32.reduceAdd, Int32.reduceSub]) <;> omega))
      rw [nI_add, Ix_s (by omega) (by omega), nI_clamp (by omega), hlen s (by omega), Lt_s, h0]
      refine (if_pos rfl).trans ?_
      rw [Lt_s, nI_1]
      exact e1
    · have hpl := ofs_16 ls (m := m) (s := s) (by omega) hs h0
      obtain ⟨st', sym', e1, g1⟩ := ih (s + 1) u (upd st (ls s) (st (ls s) + 1)) (upd sym (ofs ls m (ls s) + cnt ls s (ls s)) (nI s)) (by omega) (by omega) (fun l a b => by
        by_cases q : l = ls s
        · rw [q, pk_us, h1 (ls s) (by omega) hs, nI_1, cnt_self]
          rfl
        · rw [pk_un q, h1 l a b, cnt_other ls (Ne.symm q)]) (fun t ht hn0 => by
        by_cases q : t = s
        · rw [q, pk_us]
        · rw [pk_un (place_ne ls (by omega) (by omega) h0 hn0)]
          exact h2 t (by omega) hn0)
      refine ⟨st', sym', ?_, g1⟩
      rw [ls_Co_tell_97]
      unfold lb_Co_tell_97
      (refine (if_neg ?_).trans ?_; focus ((try simp (disch := omega) only [Int32.le_iff_toInt_le, Int32.lt_iff_toInt_lt, ← Int32.toInt_inj, nI_toInt, nI_addL, nI_Ladd, nI_mulL, nI_Lmul, nI_add, nI_subL, nI_Lsub, nI_sub, Int32.reduceToInt, m1_toInt, ne_eq, Int32.reduceMul, Int32.reduceAdd, Int32.reduceSub]) <;> omega))
      rw [nI_add, Ix_s (by omega) (by omega), nI_clamp (by omega), hlen s (by omega), Lt_s]
      (refine (if_neg ?_).trans ?_; focus ((try simp (disch := omega) only [Int32.le_iff_toInt_le, Int32.lt_iff_toInt_lt, ← Int32.toInt_inj, nI_toInt, nI_addL, nI_Ladd, nI_mulL, nI_Lmul, nI_add, nI_subL, nI_Lsub, nI_sub, Int32.reduceToInt, m1_toInt, ne_eq, Int32.reduceMul, Int32.reduceAdd, Int32.reduceSub]) <;> omega))
      rw [Ix_s (by omega) (by omega), nI_clamp (by omega), h1 (ls s) (by omega) hs, Ix_s (by omega) (by omega), Lt_s, Ix_s (by omega) (by omega), Ix_s (by omega) (by omega), Lt_s, Lt_s, nI_1, nI_clamp (by omega)]
      rw [h1 (ls s) (by omega) hs] at e1
      exact e1
theorem Co_tell {ls : Nat → Nat} {fr m M z : Nat} {len num st sym : Nat → Int32} (hlen : ∀ s, s < m → len (fr + s) = nI (ls s)) (h15 : ∀ s, s < m → ls s ≤ 15) (hM : fr + m ≤ M) (hM2 : M ≤ 340) (hz : m ≤ z) (hz2 : z ≤ 288) :
    ∃ num' st' sym', f_Co_tell NF 16 num M len 16 st z sym (nI fr) (nI m) = some (num', st', sym') ∧ CoC ls m num' sym' z := by
  have ho := ofs_le ls m 16
  obtain ⟨r1, e1, g1⟩ := JA_fill (m := 16) (by omega) num 0
  obtain ⟨r14, e2, g2⟩ := tell_11 hlen h15 hM hM2 m 0 NF r1 (by omega) (Nat.lt_of_le_of_lt (show m ≤ 288 by omega) (by decide)) (fun l hl => by rw [g1 l (by omega)]; rfl)
  have g3 : ∀ l, l ≤ 15 → upd r14 0 0 l = nI (cn ls m l) := fun l hl => by
    by_cases q : l = 0
    · rw [q, pk_us, cn_0]
      rfl
    · rw [pk_un q, g2 l hl, cn_cnt ls q]
  obtain ⟨r31, e3, g4⟩ := tell_55 g3 (by omega) 15 1 NF (upd st 0 0) (by omega) (by omega) (by decide) (fun l hl => by
    rw [show l = 0 by omega, pk_us]
    rfl)
  obtain ⟨st', sym', e4, g5⟩ := tell_97 hlen h15 hM hM2 (z := z) (by omega) hz2 (by omega) m 0 NF r31 sym (by omega) (Nat.lt_of_le_of_lt (show m ≤ 288 by omega) (by decide)) (fun l a b => by
    rw [g4 l b]
    rfl) (fun t ht => absurd ht (by omega))
  refine ⟨upd r14 0 0, st', sym', ?_, g3, g5, h15, by omega, by omega, hz2⟩
  unfold f_Co_tell
  rw [Bd_s e1]
  refine (Bd_s (x := lp_Co_tell_11 NF (nI fr) (nI m) 16 M len NF 0 r1) e2 _).trans ?_
  rw [Ix_0 (by omega) (by omega), Lt_s, Ix_0 (by omega) (by omega), Lt_s]
  refine (Bd_s (x := lp_Co_tell_55 NF 16 (upd r14 0 0) 16 NF 1 (upd st 0 0)) e3 _).trans ?_
  refine (Bd_s (x := lp_Co_tell_97 NF (nI fr) (nI m) 16 z M len NF 0 r31 sym) e4 _).trans ?_
  rfl
/-! the reference -/
theorem as_2 : ∀ (j k fuel : Nat) (g : Nat → Int32), j + k = 17 → j < fuel → (∀ i, i < k → g i = 0) → ∃ g', lp_Mo_assign_2 NF 17 fuel (nI k) g = some g' ∧ ∀ i, i < 17 → g' i = 0 := by
  intro j
  induction j with
  | zero =>
    intro k fuel g hj hf h
    obtain ⟨u, rfl⟩ : ∃ u, fuel = u + 1 := ⟨fuel - 1, by omega⟩
    refine ⟨g, ?_, fun i hi => h i (by omega)⟩
    rw [ls_Mo_assign_2]
    unfold lb_Mo_assign_2
    (refine (if_pos ?_).trans ?_; focus ((try simp (disch := omega) only [Int32.le_iff_toInt_le, Int32.lt_iff_toInt_lt, ← Int32.toInt_inj, nI_toInt, nI_addL, nI_Ladd, nI_mulL, nI_Lmul, nI_add, nI_subL, nI_Lsub, nI_sub, Int32.reduceToInt, m1_toInt, ne_eq, Int32.reduceMul, Int32.reduceAdd, Int32.reduceSub]) <;> omega)); rfl
  | succ j ih =>
    intro k fuel g hj hf h
    obtain ⟨u, rfl⟩ : ∃ u, fuel = u + 1 := ⟨fuel - 1, by omega⟩
    obtain ⟨g', e1, h1⟩ := ih (k + 1) u (upd g k 0) (by omega) (by omega) (fun i hi => by
      by_cases q : i = k
      · rw [q, pk_us]
      · rw [pk_un q, h i (by omega)])
    refine ⟨g', ?_, h1⟩
    rw [ls_Mo_assign_2]
    unfold lb_Mo_assign_2
    (refine (if_neg ?_).trans ?_; focus ((try simp (disch := omega) only [Int32.le_iff_toInt_le, Int32.lt_iff_toInt_lt, ← Int32.toInt_inj, nI_toInt, nI_addL, nI_Ladd, nI_mulL, nI_Lmul, nI_add, nI_subL, nI_Lsub, nI_sub, Int32.reduceToInt, m1_toInt, ne_eq, Int32.reduceMul, Int32.reduceAdd, Int32.reduceSub]) <;> omega))
    rw [Ix_s (by omega) (by omega), Lt_s, Lt_s, nI_1, nI_clamp (by omega)]
    exact e1
theorem as_23 {ls : Nat → Nat} {fr m : Nat} {len : Nat → Int32} (hlen : ∀ s, s < m → len (fr + s) = nI (ls s)) (h15 : ∀ s, s < m → ls s ≤ 15) (hM : fr + m ≤ 340) :
    ∀ (j s fuel : Nat) (num : Nat → Int32), j + s = m → j < fuel → (∀ l, l ≤ 16 → num l = nI (cn ls s l)) → ∃ num', lp_Mo_assign_23 NF (nI fr) (nI m) 340 len 17 fuel (nI s) num = some num' ∧ ∀ l, l ≤ 16 → num' l = nI (cn ls m l) := by
  intro j
  induction j with
  | zero =>
    intro s fuel num hj hf h
    obtain ⟨u, rfl⟩ : ∃ u, fuel = u + 1 := ⟨fuel - 1, by omega⟩
    refine ⟨num, ?_, ?_⟩
    · rw [ls_Mo_assign_23]
      unfold lb_Mo_assign_23
      (refine (if_pos ?_).trans ?_; focus ((try simp (disch := omega) only [Int32.le_iff_toInt_le, Int32.lt_iff_toInt_lt, ← Int32.toInt_inj, nI_toInt, nI_addL, nI_Ladd, nI_mulL, nI_Lmul, nI_add, nI_subL, nI_Lsub, nI_sub, Int32.reduceToInt, m1_toInt, ne_eq, Int32.reduceMul, Int32.reduceAdd, Int32.reduceSub]) <;> omega)); rfl
    · rw [show m = s by omega]
      exact h
  | succ j ih =>
    intro s fuel num hj hf h
    obtain ⟨u, rfl⟩ : ∃ u, fuel = u + 1 := ⟨fuel - 1, by omega⟩
    have hs := h15 s (by omega)
    by_cases h0 : ls s = 0
    · obtain ⟨num', e1, h1⟩ := ih (s + 1) u num (by omega) (by omega) (fun l hl => by
        rw [h l hl]
        by_cases q : l = 0
        · rw [q, cn_0, cn_0]
        · rw [cn_cnt ls q, cn_cnt ls q, cnt_other ls (by omega)])
      refine ⟨num', ?_, h1⟩
      rw [ls_Mo_assign_23]
      unfold lb_Mo_assign_23
      (refine (if_neg ?_).trans ?_; focus ((try simp (disch := omega) only [Int32.le_iff_toInt_le, Int32.lt_iff_toInt_lt, ← Int32.toInt_inj, nI_toInt, nI_addL, nI_Ladd, nI_mulL, nI_Lmul, nI_add, nI_subL, nI_Lsub, nI_sub, Int32.reduceToInt, m1_toInt, ne_eq, Int32.reduceMul, Int32.reduceAdd, Int32.reduceSub]) <;> omega))
      rw [nI_add, Ix_s (by omega) (by omega), nI_clamp (by omega), hlen s (by omega), h0]
      (refine (if_pos ?_).trans ?_; focus ((try simp (disch := omega) only [Int32.le_iff_toInt_le, Int32.lt_iff_toInt_lt, ← Int32.toInt_inj, nI_toInt, nI_addL, nI_Ladd, nI_mulL, nI_Lmul, nI_add, nI_subL, nI_Lsub, nI_sub, Int32.reduceToInt, m1_toInt, ne_eq, Int32.reduceMul, Int32.reduceAdd, Int32.reduceSub]) <;> omega))
      rw [Lt_s, nI_1]
      exact e1
    · obtain ⟨num', e1, h1⟩ := ih (s + 1) u (upd num (ls s) (num (ls s) + 1)) (by omega) (by omega) (fun l hl => by
        by_cases q : l = ls s
        · rw [q, pk_us, h (ls s) (by omega), nI_1, cn_cnt ls h0, cn_cnt ls h0, cnt_self]
        · rw [pk_un q, h l hl]
          by_cases q0 : l = 0
          · rw [q0, cn_0, cn_0]
          · rw [cn_cnt ls q0, cn_cnt ls q0, cnt_other ls (Ne.symm q)])
      refine ⟨num', ?_, h1⟩
      rw [ls_Mo_assign_23]
      unfold lb_Mo_assign_23
      (refine (if_neg ?_).trans ?_; focus ((try simp (disch := omega) only [Int32.le_iff_toInt_le, Int32.lt_iff_toInt_lt, ← Int32.toInt_inj, nI_toInt, nI_addL, nI_Ladd, nI_mulL, nI_Lmul, nI_add, nI_subL, nI_Lsub, nI_sub, Int32.reduceToInt, m1_toInt, ne_eq, Int32.reduceMul, Int32.reduceAdd, Int32.reduceSub]) <;> omega))
      rw [nI_add, Ix_s (by omega) (by omega), nI_clamp (by omega), hlen s (by omega)]
      (refine (if_neg ?_).trans ?_; focus ((try simp (disch := omega) only [Int32.le_iff_toInt_le, Int32.lt_iff_toInt_lt, ← Int32.toInt_inj, nI_toInt, nI_addL, nI_Ladd, nI_mulL, nI_Lmul, nI_add, nI_subL, nI_Lsub, nI_sub, Int32.reduceToInt, m1_toInt, ne_eq, Int32.reduceMul, Int32.reduceAdd, Int32.reduceSub]) <;> omega))
      rw [Ix_s (by omega) (by omega), Ix_s (by omega) (by omega), Ix_s (by omega) (by omega), Lt_s, Lt_s, nI_clamp (by omega), nI_1]
      exact e1
theorem as_67 {ls : Nat → Nat} {m : Nat} {num : Nat → Int32} (hnum : ∀ l, l ≤ 16 → num l = nI (cn ls m l)) (hm : m ≤ 288) :
    ∀ (j i fuel : Nat) (fi : Nat → Int32), j + i = 17 → 1 ≤ i → j < fuel → (∀ l, 1 ≤ l → l < i → fi l = nI (fco ls m l)) → ∃ fi', lp_Mo_assign_67 NF 17 num 17 fuel (nI (fco ls m (i - 1))) (nI i) fi = some fi' ∧ ∀ l, 1 ≤ l → l ≤ 16 → fi' l = nI (fco ls m l) := by
  intro j
  induction j with
  | zero =>
    intro i fuel fi hj hi hf h
    obtain ⟨u, rfl⟩ : ∃ u, fuel = u + 1 := ⟨fuel - 1, by omega⟩
    refine ⟨fi, ?_, fun l a b => h l a (by omega)⟩
    rw [ls_Mo_assign_67]
    unfold lb_Mo_assign_67
    (refine (if_pos ?_).trans ?_; focus ((try simp (disch := omega) only [Int32.le_iff_toInt_le, Int32.lt_iff_toInt_lt, ← Int32.toInt_inj, nI_toInt, nI_addL, nI_Ladd, nI_mulL, nI_Lmul, nI_add, nI_subL, nI_Lsub, nI_sub, Int32.reduceToInt, m1_toInt, ne_eq, Int32.reduceMul, Int32.reduceAdd, Int32.reduceSub]) <;> omega)); rfl
  | succ j ih =>
    intro i fuel fi hj hi hf h
    obtain ⟨u, rfl⟩ : ∃ u, fuel = u + 1 := ⟨fuel - 1, by omega⟩
    have e2 : fco ls m i = 2 * (fco ls m (i - 1) + cn ls m (i - 1)) := by
      conv => lhs; rw [show i = (i - 1) + 1 by omega]
      rfl
    have hb := fco_bound ls (m := m) (k := i - 1) (by omega) (by omega)
    have hc := cn_le ls m (i - 1)
    obtain ⟨fi', e1, h1⟩ := ih (i + 1) u (upd fi i (nI (fco ls m i))) (by omega) (by omega) (by omega) (fun l a b => by
      by_cases q : l = i
      · rw [q, pk_us]
      · rw [pk_un q, h l a (by omega)])
    refine ⟨fi', ?_, h1⟩
    rw [ls_Mo_assign_67]
    unfold lb_Mo_assign_67
    (refine (if_neg ?_).trans ?_; focus ((try simp (disch := omega) only [Int32.le_iff_toInt_le, Int32.lt_iff_toInt_lt, ← Int32.toInt_inj, nI_toInt, nI_addL, nI_Ladd, nI_mulL, nI_Lmul, nI_add, nI_subL, nI_Lsub, nI_sub, Int32.reduceToInt, m1_toInt, ne_eq, Int32.reduceMul, Int32.reduceAdd, Int32.reduceSub]) <;> omega))
    rw [show nI i - 1 = nI (i - 1) from nI_sub (b := 1) (by omega), Ix_s (by omega) (by omega), nI_clamp (by omega), hnum (i - 1) (by omega), nI_add, Lt_s, dbl_step (by omega), ← e2, Ix_s (by omega) (by omega), Lt_s, Lt_s, nI_clamp (by omega), nI_1]
    exact e1
theorem as_105 {ls : Nat → Nat} {fr m : Nat} {len : Nat → Int32} (hlen : ∀ s, s < m → len (fr + s) = nI (ls s)) (h15 : ∀ s, s < m → ls s ≤ 15) (hM : fr + m ≤ 340) (hm : m ≤ 288) {cod0 : Nat → Int32} :
    ∀ (j s fuel : Nat) (cod fi : Nat → Int32), j + s = m → j < fuel → (∀ l, 1 ≤ l → l ≤ 15 → fi l = nI (fco ls m l + cnt ls s l)) → (∀ t, t < s → ls t ≠ 0 → cod (fr + t) = nI (fco ls m (ls t) + cnt ls t (ls t))) → (∀ i, i < fr ∨ fr + m ≤ i → cod i = cod0 i) →
    ∃ cod' fi', lp_Mo_assign_105 NF (nI fr) (nI m) 340 len 340 17 fuel (nI s) cod fi = some (cod', fi') ∧ (∀ t, t < m → ls t ≠ 0 → cod' (fr + t) = nI (fco ls m (ls t) + cnt ls t (ls t))) ∧ (∀ i, i < fr ∨ fr + m ≤ i → cod' i = cod0 i) := by
  intro j
  induction j with
  | zero =>
    intro s fuel cod fi hj hf h1 h2 h3
    obtain ⟨u, rfl⟩ : ∃ u, fuel = u + 1 := ⟨fuel - 1, by omega⟩
    refine ⟨cod, fi, ?_, fun t ht => h2 t (by omega), h3⟩
    rw [ls_Mo_assign_105]
    unfold lb_Mo_assign_105
    (refine (if_pos ?_).trans ?_; focus ((try simp (disch := omega) only [Int32.le_iff_toInt_le, Int32.lt_iff_toInt_lt, ← Int32.toInt_inj, nI_toInt, nI_addL, nI_Ladd, nI_mulL, nI_Lmul, nI_add, nI_subL, nI_Lsub, nI_sub, Int32.reduceToInt, m1_toInt, ne_eq, Int32.reduceMul, Int32.reduceAdd, Int32.reduceSub]) <;> omega)); rfl
  | succ j ih =>
    intro s fuel cod fi hj hf h1 h2 h3
    obtain ⟨u, rfl⟩ : ∃ u, fuel = u + 1 := ⟨fuel - 1, by omega⟩
    have hs := h15 s (by omega)
    by_cases h0 : ls s = 0
    · obtain ⟨cod', fi', e1, g1, g2⟩ := ih (s + 1) u (upd cod (fr + s) (fi (ls s))) fi (by omega) (by omega) (fun l a b => by rw [h1 l a b, cnt_other ls (show ls s ≠ l by omega)]) (fun t ht hn0 => by
        have : t ≠ s := fun e => hn0 (by rw [e]; exact h0)
        rw [pk_un (by omega)]
        exact h2 t (by omega) hn0) (fun i hi => by
        rw [pk_un (by omega)]
        exact h3 i hi)
      refine ⟨cod', fi', ?_, g1, g2⟩
      rw [ls_Mo_assign_105]
      unfold lb_Mo_assign_105
      (refine (if_neg ?_).trans ?_; focus ((try simp (disch := omega) only [Int32.le_iff_toInt_le, Int32.lt_iff_toInt_lt, ← Int32.toInt_inj, nI_toInt, nI_addL, nI_Ladd, nI_mulL, nI_Lmul, nI_add, nI_subL, nI_Lsub, nI_sub, Int32.reduceToInt, m1_toInt, ne_eq, Int32.reduceMul, Int32.reduceAdd, Int32.reduceSub]) <;> omega))
      rw [nI_add, Ix_s (by omega) (by omega), nI_clamp (by omega), hlen s (by omega), Lt_s, Ix_s (by omega) (by omega), Ix_s (by omega) (by omega), Lt_s, nI_clamp (by omega)]
      (refine (if_pos ?_).trans ?_; focus ((try simp (disch := omega) only [Int32.le_iff_toInt_le, Int32.lt_iff_toInt_lt, ← Int32.toInt_inj, nI_toInt, nI_addL, nI_Ladd, nI_mulL, nI_Lmul, nI_add, nI_subL, nI_Lsub, nI_sub, Int32.reduceToInt, m1_toInt, ne_eq, Int32.reduceMul, Int32.reduceAdd, Int32.reduceSub]) <;> omega))
      rw [Lt_s, nI_1]
      exact e1
    · obtain ⟨cod', fi', e1, g1, g2⟩ := ih (s + 1) u (upd cod (fr + s) (fi (ls s))) (upd fi (ls s) (fi (ls s) + 1)) (by omega) (by omega) (fun l a b => by
        by_cases q : l = ls s
        · rw [q, pk_us, h1 (ls s) (by omega) hs, nI_1, cnt_self]
          rfl
        · rw [pk_un q, h1 l a b, cnt_other ls (Ne.symm q)]) (fun t ht hn0 => by
        by_cases q : t = s
        · rw [q, pk_us]
          exact h1 (ls s) (by omega) hs
        · rw [pk_un (by omega)]
          exact h2 t (by omega) hn0) (fun i hi => by
        rw [pk_un (by omega)]
        exact h3 i hi)
      refine ⟨cod', fi', ?_, g1, g2⟩
      rw [ls_Mo_assign_105]
      unfold lb_Mo_assign_105
      (refine (if_neg ?_).trans ?_; focus ((try simp (disch := omega) only [Int32.le_iff_toInt_le, Int32.lt_iff_toInt_lt, ← Int32.toInt_inj, nI_toInt, nI_addL, nI_Ladd, nI_mulL, nI_Lmul, nI_add, nI_subL, nI_Lsub, nI_sub, Int32.reduceToInt, m1_toInt, ne_eq, Int32.reduceMul, Int32.reduceAdd, Int32.reduceSub]) <;> omega))
      rw [nI_add, Ix_s (by omega) (by omega), nI_clamp (by omega), hlen s (by omega), Lt_s, Ix_s (by omega) (by omega), Ix_s (by omega) (by omega), Lt_s, nI_clamp (by omega)]
      (refine (if_neg ?_).trans ?_; focus ((try simp (disch := omega) only [Int32.le_iff_toInt_le, Int32.lt_iff_toInt_lt, ← Int32.toInt_inj, nI_toInt, nI_addL, nI_Ladd, nI_mulL, nI_Lmul, nI_add, nI_subL, nI_Lsub, nI_sub, Int32.reduceToInt, m1_toInt, ne_eq, Int32.reduceMul, Int32.reduceAdd, Int32.reduceSub]) <;> omega))
      rw [Ix_s (by omega) (by omega), Ix_s (by omega) (by omega), Lt_s, Lt_s, nI_1]
      exact e1
theorem Mo_assign {ls : Nat → Nat} {fr m : Nat} {len : Nat → Int32} (hlen : ∀ s, s < m → len (fr + s) = nI (ls s)) (h15 : ∀ s, s < m → ls s ≤ 15) (hM : fr + m ≤ 340) (hm : m ≤ 288) (many fi cod : Nat → Int32) :
    ∃ many' fi' cod', f_Mo_assign NF 17 many 340 len 17 fi 340 cod (nI fr) (nI m) = some (many', fi', cod') ∧ CoR ls fr m len cod' ∧ (∀ i, i < fr ∨ fr + m ≤ i → cod' i = cod i) := by
  obtain ⟨r9, e1, g1⟩ := as_2 17 0 NF many (by omega) (by decide) (fun i hi => absurd hi (by omega))
  obtain ⟨r28, e2, g2⟩ := as_23 hlen h15 hM m 0 NF r9 (by omega) (Nat.lt_of_le_of_lt hm (by decide)) (fun l hl => by
    rw [g1 l (by omega)]
    unfold cn
    split <;> rfl)
  obtain ⟨r41, e3, g3⟩ := as_67 g2 hm 16 1 NF fi (by omega) (by omega) (by decide) (fun l a b => absurd b (by omega))
  obtain ⟨cod', fi', e4, g4, g5⟩ := as_105 hlen h15 hM hm (cod0 := cod) m 0 NF cod r41 (by omega) (Nat.lt_of_le_of_lt hm (by decide)) (fun l a b => by rw [g3 l a (by omega)]; rfl) (fun t ht => absurd ht (by omega)) (fun i _ => rfl)
  refine ⟨r28, fi', cod', ?_, ⟨hlen, g4, h15, hm, hM⟩, g5⟩
  unfold f_Mo_assign
  refine (Bd_s (x := lp_Mo_assign_2 NF 17 NF 0 many) e1 _).trans ?_
  refine (Bd_s (x := lp_Mo_assign_23 NF (nI fr) (nI m) 340 len 17 NF 0 r9) e2 _).trans ?_
  refine (Bd_s (x := lp_Mo_assign_67 NF 17 r28 17 NF 0 1 fi) e3 _).trans ?_
  refine (Bd_s (x := lp_Mo_assign_105 NF (nI fr) (nI m) 340 len 340 17 NF 0 cod r41) e4 _).trans ?_
  rfl
