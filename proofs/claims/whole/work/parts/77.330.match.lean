/-! the longest match: what both searches find (ours) -/
/-- how far place i is alike the place d before it, from k on, at most j steps -/
def cmF (L : List Int32) (i d : Nat) : Nat → Nat → Nat
  | 0, k => k
  | j + 1, k => if i + k < L.length ∧ L.getD (i + k) 0 = L.getD (i + k - d) 0 then cmF L i d j (k + 1) else k
def cm (L : List Int32) (i d : Nat) : Nat := cmF L i d 258 0
theorem cmF_ge (L : List Int32) (i d : Nat) : ∀ j k, k ≤ cmF L i d j k
  | 0, k => Nat.le_refl k
  | j + 1, k => by
    unfold cmF
    split
    · have := cmF_ge L i d j (k + 1)
      omega
    · omega
theorem cmF_le (L : List Int32) (i d : Nat) : ∀ j k, cmF L i d j k ≤ j + k
  | 0, k => by show k ≤ 0 + k; omega
  | j + 1, k => by
    unfold cmF
    split
    · have := cmF_le L i d j (k + 1)
      omega
    · omega
theorem cmF_in (L : List Int32) (i d : Nat) : ∀ j k, i + k ≤ L.length → i + cmF L i d j k ≤ L.length
  | 0, k, h => h
  | j + 1, k, h => by
    unfold cmF
    split
    · rename_i hc
      exact cmF_in L i d j (k + 1) (by omega)
    · exact h
theorem cmF_all (L : List Int32) (i d : Nat) : ∀ j k r, k ≤ r → r < cmF L i d j k → L.getD (i + r) 0 = L.getD (i + r - d) 0
  | 0, k, r, h1, h2 => absurd h2 (by show ¬ r < k; omega)
  | j + 1, k, r, h1, h2 => by
    unfold cmF at h2
    split at h2
    · rename_i hc
      by_cases h : r = k
      · rw [h]
        exact hc.2
      · exact cmF_all L i d j (k + 1) r (by omega) h2
    · omega
theorem cmF_top (L : List Int32) (i d : Nat) : ∀ j k m, m ≤ j + k → i + m ≤ L.length → (∀ r, k ≤ r → r < m → L.getD (i + r) 0 = L.getD (i + r - d) 0) → m ≤ cmF L i d j k ∨ m ≤ k
  | 0, k, m, h1, h2, h3 => Or.inr (by omega)
  | j + 1, k, m, h1, h2, h3 => by
    by_cases hm : m ≤ k
    · exact Or.inr hm
    · left
      unfold cmF
      rw [if_pos ⟨by omega, h3 k (by omega) (by omega)⟩]
      rcases cmF_top L i d j (k + 1) m (by omega) h2 (fun r q1 q2 => h3 r (by omega) q2) with h | h
      · exact h
      · exact Nat.le_trans h (cmF_ge L i d j (k + 1))
theorem cm_le (L : List Int32) (i d : Nat) : cm L i d ≤ 258 := cmF_le L i d 258 0
theorem cm_in {L : List Int32} {i : Nat} (d : Nat) (h : i ≤ L.length) : i + cm L i d ≤ L.length := cmF_in L i d 258 0 h
theorem cm_all {L : List Int32} {i d r : Nat} (h : r < cm L i d) : L.getD (i + r) 0 = L.getD (i + r - d) 0 := cmF_all L i d 258 0 r (Nat.zero_le _) h
theorem cm_top {L : List Int32} {i d m : Nat} (h1 : m ≤ 258) (h2 : i + m ≤ L.length) (h3 : ∀ r, r < m → L.getD (i + r) 0 = L.getD (i + r - d) 0) : m ≤ cm L i d := by
  rcases cmF_top L i d 258 0 m (by omega) h2 (fun r _ q => h3 r q) with h | h
  · exact h
  · omega
/-- a place that differs at b can't do better than b -/
theorem cm_stop {L : List Int32} {i d b : Nat} (h : ¬ L.getD (i + b) 0 = L.getD (i + b - d) 0) : cm L i d ≤ b := by
  apply Nat.le_of_not_lt
  intro q
  exact h (cm_all q)
theorem cm_full {L : List Int32} {i b : Nat} (d : Nat) (hi : i ≤ L.length) (h : 258 ≤ b ∨ L.length ≤ i + b) : cm L i d ≤ b := by
  have h1 := cm_le L i d
  have h2 := cm_in d hi
  omega
/-- the reference's search over the distances 1 .. D -/
def stM (L : List Int32) (i : Nat) (q : Nat × Nat) (d : Nat) : Nat × Nat := if q.1 < cm L i d then (cm L i d, d) else q
def srM (L : List Int32) (i : Nat) : Nat → Nat × Nat
  | 0 => (0, 0)
  | d + 1 => stM L i (srM L i d) (d + 1)
/-- the class's: only lengths of 3 or more count -/
def stC (L : List Int32) (i : Nat) (q : Nat × Nat) (d : Nat) : Nat × Nat := if 3 ≤ cm L i d ∧ q.1 < cm L i d then (cm L i d, d) else q
def srC (L : List Int32) (i : Nat) : Nat → Nat × Nat
  | 0 => (0, 0)
  | d + 1 => stC L i (srC L i d) (d + 1)
theorem sr_eq (L : List Int32) (i : Nat) : ∀ D, (3 ≤ (srM L i D).1 → srC L i D = srM L i D) ∧ ((srM L i D).1 < 3 → srC L i D = (0, 0))
  | 0 => ⟨fun h => absurd h (show ¬ 3 ≤ 0 by decide), fun _ => rfl⟩
  | D + 1 => by
    obtain ⟨h1, h2⟩ := sr_eq L i D
    show (3 ≤ (stM L i (srM L i D) (D + 1)).1 → stC L i (srC L i D) (D + 1) = stM L i (srM L i D) (D + 1)) ∧ ((stM L i (srM L i D) (D + 1)).1 < 3 → stC L i (srC L i D) (D + 1) = (0, 0))
    by_cases h3 : 3 ≤ (srM L i D).1
    · rw [h1 h3]
      unfold stM stC
      by_cases hc : (srM L i D).1 < cm L i (D + 1)
      · rw [if_pos hc, if_pos ⟨by omega, hc⟩]
        exact ⟨fun _ => rfl, fun q => absurd q (by show ¬ cm L i (D + 1) < 3; omega)⟩
      · rw [if_neg hc, if_neg (fun q => hc q.2)]
        exact ⟨fun _ => rfl, fun q => absurd q (by omega)⟩
    · rw [h2 (by omega)]
      unfold stM stC
      by_cases hc : (srM L i D).1 < cm L i (D + 1)
      · rw [if_pos hc]
        by_cases h4 : 3 ≤ cm L i (D + 1)
        · rw [if_pos ⟨h4, by show 0 < cm L i (D + 1); omega⟩]
          exact ⟨fun _ => rfl, fun q => absurd q (by show ¬ cm L i (D + 1) < 3; omega)⟩
        · rw [if_neg (fun q => h4 q.1)]
          exact ⟨fun q => absurd q (by show ¬ 3 ≤ cm L i (D + 1); omega), fun _ => rfl⟩
      · rw [if_neg hc, if_neg (fun q => hc (by have := q.1; omega))]
        exact ⟨fun q => absurd q h3, fun _ => rfl⟩
theorem srM_ok (L : List Int32) {i : Nat} (hi : i ≤ L.length) : ∀ D, (srM L i D).1 ≤ 258 ∧ i + (srM L i D).1 ≤ L.length ∧ (srM L i D).2 ≤ D ∧ (0 < (srM L i D).1 → 1 ≤ (srM L i D).2 ∧ (srM L i D).1 = cm L i (srM L i D).2)
  | 0 => ⟨by show 0 ≤ 258; omega, by show i + 0 ≤ _; omega, Nat.le_refl _, fun h => absurd h (show ¬ 0 < 0 by decide)⟩
  | D + 1 => by
    obtain ⟨h1, h2, h3, h4⟩ := srM_ok L hi D
    have e : srM L i (D + 1) = stM L i (srM L i D) (D + 1) := rfl
    rw [e]
    unfold stM
    split
    · exact ⟨cm_le L i _, cm_in _ hi, Nat.le_refl _, fun _ => ⟨by show 1 ≤ D + 1; omega, rfl⟩⟩
    · exact ⟨h1, h2, by omega, h4⟩
/-- nothing changes any more where the length is full -/
theorem srM_stay (L : List Int32) {i : Nat} (hi : i ≤ L.length) (D : Nat) (h : 258 ≤ (srM L i D).1 ∨ L.length ≤ i + (srM L i D).1) : ∀ j, srM L i (D + j) = srM L i D
  | 0 => rfl
  | j + 1 => by
    show stM L i (srM L i (D + j)) (D + j + 1) = _
    rw [srM_stay L hi D h j]
    unfold stM
    rw [if_neg (Nat.not_lt.mpr (cm_full _ hi h))]
theorem srC_stay (L : List Int32) (i : Nat) (D : Nat) : ∀ j, (∀ d, D < d → d ≤ D + j → ¬ (3 ≤ cm L i d ∧ (srC L i D).1 < cm L i d)) → srC L i (D + j) = srC L i D
  | 0, _ => rfl
  | j + 1, h => by
    show stC L i (srC L i (D + j)) (D + j + 1) = _
    rw [srC_stay L i D j (fun d q1 q2 => h d q1 (by omega))]
    unfold stC
    rw [if_neg (h (D + j + 1) (by omega) (by omega))]
theorem srC_ok (L : List Int32) {i : Nat} (hi : i ≤ L.length) : ∀ D, (srC L i D).1 ≤ 258 ∧ i + (srC L i D).1 ≤ L.length ∧ (srC L i D).2 ≤ D
  | 0 => ⟨by show 0 ≤ 258; omega, by show i + 0 ≤ _; omega, Nat.le_refl _⟩
  | D + 1 => by
    obtain ⟨h1, h2, h3⟩ := srC_ok L hi D
    have e : srC L i (D + 1) = stC L i (srC L i D) (D + 1) := rfl
    rw [e]
    unfold stC
    split
    · exact ⟨cm_le L i _, cm_in _ hi, Nat.le_refl _⟩
    · exact ⟨h1, h2, by omega⟩
/-! the reference's loops -/
theorem Mo_common_loop {L : List Int32} {g : Nat → Int32} {n i d : Nat} (hg : Md g L) (hl : L.length = n) (hn : n ≤ 65536) (hi : i < n) (hd : d ≤ i) : ∀ (j k fuel : Nat), j + k = 258 → j < fuel → lp_Mo_common_2 NF (nI i) (nI d) (nI n) 65536 g fuel (nI k) = some (nI (cmF L i d j k)) := by
  intro j
  induction j with
  | zero =>
    intro k fuel hk hf
    obtain ⟨q, rfl⟩ : ∃ q, fuel = q + 1 := ⟨fuel - 1, by omega⟩
    rw [ls_Mo_common_2]
    unfold lb_Mo_common_2
    (refine (if_pos ?_).trans ?_; focus ((try simp (disch := omega) only [Int32.le_iff_toInt_le, Int32.lt_iff_toInt_lt, ← Int32.toInt_inj, nI_toInt, nI_addL, nI_Ladd, nI_mulL, nI_Lmul, nI_add, nI_subL, nI_Lsub, nI_sub, Int32.reduceToInt, m1_toInt, ne_eq, Int32.reduceMul, Int32.reduceAdd, Int32.reduceSub]) <;> omega)); rfl
  | succ j ih =>
    intro k fuel hk hf
    obtain ⟨q, rfl⟩ : ∃ q, fuel = q + 1 := ⟨fuel - 1, by omega⟩
    rw [ls_Mo_common_2]
    unfold lb_Mo_common_2 cmF
    (refine (if_neg ?_).trans ?_; focus ((try simp (disch := omega) only [Int32.le_iff_toInt_le, Int32.lt_iff_toInt_lt, ← Int32.toInt_inj, nI_toInt, nI_addL, nI_Ladd, nI_mulL, nI_Lmul, nI_add, nI_subL, nI_Lsub, nI_sub, Int32.reduceToInt, m1_toInt, ne_eq, Int32.reduceMul, Int32.reduceAdd, Int32.reduceSub]) <;> omega)); rw [nI_add]
    by_cases h1 : i + k < n
    · (refine (if_neg ?_).trans ?_; focus ((try simp (disch := omega) only [Int32.le_iff_toInt_le, Int32.lt_iff_toInt_lt, ← Int32.toInt_inj, nI_toInt, nI_addL, nI_Ladd, nI_mulL, nI_Lmul, nI_add, nI_subL, nI_Lsub, nI_sub, Int32.reduceToInt, m1_toInt, ne_eq, Int32.reduceMul, Int32.reduceAdd, Int32.reduceSub]) <;> omega)); rw [Ix_s (by omega) (by omega), nI_sub (a := i + k) (b := d) (by omega), Ix_s (by omega) (by omega), nI_clamp (by omega), nI_clamp (by omega), hg.2 (i + k) (by omega), hg.2 (i + k - d) (by omega)]
      by_cases h2 : L.getD (i + k) 0 = L.getD (i + k - d) 0
      · rw [if_pos h2, if_pos ⟨by omega, h2⟩, Lt_s, nI_1]
        exact ih (k + 1) q (by omega) (by omega)
      · rw [if_neg h2, if_neg (fun q => h2 q.2)]
    · (refine (if_pos ?_).trans ?_; focus ((try simp (disch := omega) only [Int32.le_iff_toInt_le, Int32.lt_iff_toInt_lt, ← Int32.toInt_inj, nI_toInt, nI_addL, nI_Ladd, nI_mulL, nI_Lmul, nI_add, nI_subL, nI_Lsub, nI_sub, Int32.reduceToInt, m1_toInt, ne_eq, Int32.reduceMul, Int32.reduceAdd, Int32.reduceSub]) <;> omega)); rw [if_neg (fun q => h1 (by have := q.1; omega))]
theorem Mo_common {L : List Int32} {g : Nat → Int32} {n i d : Nat} (hg : Md g L) (hl : L.length = n) (hn : n ≤ 65536) (hi : i < n) (hd : d ≤ i) : f_Mo_common NF (nI n) 65536 g (nI i) (nI d) = some (nI (cm L i d)) := by
  unfold f_Mo_common
  exact (Bd_s (Mo_common_loop hg hl hn hi hd 258 0 NF (by omega) (by decide)) _).trans rfl
/-- the greatest distance that is looked at -/
def dmx (i : Nat) : Nat := min i 32768
theorem Mo_search {L : List Int32} {g : Nat → Int32} {n i : Nat} (hg : Md g L) (hl : L.length = n) (hn : n ≤ 65536) (hi : i < n) : ∀ (j d fuel : Nat), j + d = dmx i → j < fuel → lp_Mo_press_58 NF (nI i) (nI n) 65536 g fuel (nI (srM L i d).1) (nI (srM L i d).2) (nI (d + 1)) = some (nI (srM L i (dmx i)).1, nI (srM L i (dmx i)).2) := by
  intro j
  induction j with
  | zero =>
    intro d fuel hd hf
    obtain ⟨q, rfl⟩ : ∃ q, fuel = q + 1 := ⟨fuel - 1, by omega⟩
    have hd : d = dmx i := by omega
    subst hd
    rw [ls_Mo_press_58]
    unfold lb_Mo_press_58
    have hdd : dmx i = min i 32768 := rfl
    by_cases h1 : 32768 < dmx i + 1
    · (refine (if_pos ?_).trans ?_; focus ((try simp (disch := omega) only [Int32.le_iff_toInt_le, Int32.lt_iff_toInt_lt, ← Int32.toInt_inj, nI_toInt, nI_addL, nI_Ladd, nI_mulL, nI_Lmul, nI_add, nI_subL, nI_Lsub, nI_sub, Int32.reduceToInt, m1_toInt, ne_eq, Int32.reduceMul, Int32.reduceAdd, Int32.reduceSub]) <;> omega)); rfl
    · (refine (if_neg ?_).trans ?_; focus ((try simp (disch := omega) only [Int32.le_iff_toInt_le, Int32.lt_iff_toInt_lt, ← Int32.toInt_inj, nI_toInt, nI_addL, nI_Ladd, nI_mulL, nI_Lmul, nI_add, nI_subL, nI_Lsub, nI_sub, Int32.reduceToInt, m1_toInt, ne_eq, Int32.reduceMul, Int32.reduceAdd, Int32.reduceSub]) <;> omega))
      (refine (if_pos ?_).trans ?_; focus ((try simp (disch := omega) only [Int32.le_iff_toInt_le, Int32.lt_iff_toInt_lt, ← Int32.toInt_inj, nI_toInt, nI_addL, nI_Ladd, nI_mulL, nI_Lmul, nI_add, nI_subL, nI_Lsub, nI_sub, Int32.reduceToInt, m1_toInt, ne_eq, Int32.reduceMul, Int32.reduceAdd, Int32.reduceSub]) <;> omega)); rfl
  | succ j ih =>
    intro d fuel hd hf
    obtain ⟨q, rfl⟩ : ∃ q, fuel = q + 1 := ⟨fuel - 1, by omega⟩
    have hdi : d + 1 ≤ i ∧ d + 1 ≤ 32768 := by unfold dmx at hd; omega
    obtain ⟨o1, o2, o3, o4⟩ := srM_ok L (i := i) (by omega) d
    obtain ⟨b, w, hbw⟩ : ∃ b w, srM L i d = (b, w) := ⟨_, _, rfl⟩
    rw [hbw] at o1 o2 o3 o4
    dsimp only at o1 o2 o3 o4
    rw [ls_Mo_press_58]
    unfold lb_Mo_press_58
    (refine (if_neg ?_).trans ?_; focus ((try simp (disch := omega) only [Int32.le_iff_toInt_le, Int32.lt_iff_toInt_lt, ← Int32.toInt_inj, nI_toInt, nI_addL, nI_Ladd, nI_mulL, nI_Lmul, nI_add, nI_subL, nI_Lsub, nI_sub, Int32.reduceToInt, m1_toInt, ne_eq, Int32.reduceMul, Int32.reduceAdd, Int32.reduceSub]) <;> omega)); (refine (if_neg ?_).trans ?_; focus ((try simp (disch := omega) only [Int32.le_iff_toInt_le, Int32.lt_iff_toInt_lt, ← Int32.toInt_inj, nI_toInt, nI_addL, nI_Ladd, nI_mulL, nI_Lmul, nI_add, nI_subL, nI_Lsub, nI_sub, Int32.reduceToInt, m1_toInt, ne_eq, Int32.reduceMul, Int32.reduceAdd, Int32.reduceSub]) <;> omega)); rw [hbw]
    dsimp only
    have stay : (258 ≤ b ∨ n ≤ i + b) → some (nI b, nI w) = some (nI (srM L i (dmx i)).1, nI (srM L i (dmx i)).2) := by
      intro h
      have := srM_stay L (i := i) (by omega) d (by rw [hbw]; show 258 ≤ b ∨ L.length ≤ i + b; rw [hl]; exact h) (j + 1)
      rw [show d + (j + 1) = dmx i by omega, hbw] at this
      rw [this]
    by_cases h1 : 258 ≤ b
    · (refine (if_pos ?_).trans ?_; focus ((try simp (disch := omega) only [Int32.le_iff_toInt_le, Int32.lt_iff_toInt_lt, ← Int32.toInt_inj, nI_toInt, nI_addL, nI_Ladd, nI_mulL, nI_Lmul, nI_add, nI_subL, nI_Lsub, nI_sub, Int32.reduceToInt, m1_toInt, ne_eq, Int32.reduceMul, Int32.reduceAdd, Int32.reduceSub]) <;> omega))
      exact stay (Or.inl h1)
    · (refine (if_neg ?_).trans ?_; focus ((try simp (disch := omega) only [Int32.le_iff_toInt_le, Int32.lt_iff_toInt_lt, ← Int32.toInt_inj, nI_toInt, nI_addL, nI_Ladd, nI_mulL, nI_Lmul, nI_add, nI_subL, nI_Lsub, nI_sub, Int32.reduceToInt, m1_toInt, ne_eq, Int32.reduceMul, Int32.reduceAdd, Int32.reduceSub]) <;> omega)); rw [nI_add]
      by_cases h2 : n ≤ i + b
      · (refine (if_pos ?_).trans ?_; focus ((try simp (disch := omega) only [Int32.le_iff_toInt_le, Int32.lt_iff_toInt_lt, ← Int32.toInt_inj, nI_toInt, nI_addL, nI_Ladd, nI_mulL, nI_Lmul, nI_add, nI_subL, nI_Lsub, nI_sub, Int32.reduceToInt, m1_toInt, ne_eq, Int32.reduceMul, Int32.reduceAdd, Int32.reduceSub]) <;> omega))
        exact stay (Or.inr h2)
      · (refine (if_neg ?_).trans ?_; focus ((try simp (disch := omega) only [Int32.le_iff_toInt_le, Int32.lt_iff_toInt_lt, ← Int32.toInt_inj, nI_toInt, nI_addL, nI_Ladd, nI_mulL, nI_Lmul, nI_add, nI_subL, nI_Lsub, nI_sub, Int32.reduceToInt, m1_toInt, ne_eq, Int32.reduceMul, Int32.reduceAdd, Int32.reduceSub]) <;> omega)); rw [Jn_s]
        have e0 : srM L i (d + 1) = stM L i (b, w) (d + 1) := by
          show stM L i (srM L i d) (d + 1) = _
          rw [hbw]
        have ih' := ih (d + 1) q (by omega) (by omega)
        have noch : cm L i (d + 1) ≤ b → (Lt (nI (d + 1) + 1) fun v63 => lp_Mo_press_58 NF (nI i) (nI n) 65536 g q (nI b) (nI w) v63) = some (nI (srM L i (dmx i)).1, nI (srM L i (dmx i)).2) := by
          intro hc
          have e1 : srM L i (d + 1) = (b, w) := by
            rw [e0]
            unfold stM
            rw [if_neg (by show ¬ b < _; omega)]
          rw [e1] at ih'
          rw [Lt_s, nI_1]
          exact ih'
        have look : (Bd (f_Mo_common NF (nI n) 65536 g (nI i) (nI (d + 1))) fun r55 => if nI b < r55 then (Lt (nI (d + 1) + 1) fun v57 => lp_Mo_press_58 NF (nI i) (nI n) 65536 g q r55 (nI (d + 1)) v57) else (Lt (nI (d + 1) + 1) fun v58 => lp_Mo_press_58 NF (nI i) (nI n) 65536 g q (nI b) (nI w) v58)) = some (nI (srM L i (dmx i)).1, nI (srM L i (dmx i)).2) := by
          rw [Bd_s (Mo_common hg hl hn hi (by omega))]
          have hcl := cm_le L i (d + 1)
          by_cases h3 : b < cm L i (d + 1)
          · have e1 : srM L i (d + 1) = (cm L i (d + 1), d + 1) := by
              rw [e0]
              unfold stM
              rw [if_pos (by show b < _; exact h3)]
            rw [e1] at ih'
            (refine (if_pos ?_).trans ?_; focus ((try simp (disch := omega) only [Int32.le_iff_toInt_le, Int32.lt_iff_toInt_lt, ← Int32.toInt_inj, nI_toInt, nI_addL, nI_Ladd, nI_mulL, nI_Lmul, nI_add, nI_subL, nI_Lsub, nI_sub, Int32.reduceToInt, m1_toInt, ne_eq, Int32.reduceMul, Int32.reduceAdd, Int32.reduceSub]) <;> omega)); rw [Lt_s, nI_1]
            exact ih'
          · (refine (if_neg ?_).trans ?_; focus ((try simp (disch := omega) only [Int32.le_iff_toInt_le, Int32.lt_iff_toInt_lt, ← Int32.toInt_inj, nI_toInt, nI_addL, nI_Ladd, nI_mulL, nI_Lmul, nI_add, nI_subL, nI_Lsub, nI_sub, Int32.reduceToInt, m1_toInt, ne_eq, Int32.reduceMul, Int32.reduceAdd, Int32.reduceSub]) <;> omega))
            exact noch (by omega)
        by_cases h4 : b = 0
        · rw [if_pos (by rw [h4]; decide)]
          exact look
        · (refine (if_neg ?_).trans ?_; focus ((try simp (disch := omega) only [Int32.le_iff_toInt_le, Int32.lt_iff_toInt_lt, ← Int32.toInt_inj, nI_toInt, nI_addL, nI_Ladd, nI_mulL, nI_Lmul, nI_add, nI_subL, nI_Lsub, nI_sub, Int32.reduceToInt, m1_toInt, ne_eq, Int32.reduceMul, Int32.reduceAdd, Int32.reduceSub]) <;> omega)); rw [Ix_s (by omega) (by omega), nI_sub (a := i + b) (b := d + 1) (by omega), Ix_s (by omega) (by omega), nI_clamp (by omega), nI_clamp (by omega), hg.2 (i + b) (by omega), hg.2 (i + b - (d + 1)) (by omega)]
          by_cases h5 : L.getD (i + b) 0 = L.getD (i + b - (d + 1)) 0
          · rw [if_pos h5]
            exact look
          · rw [if_neg h5]
            exact noch (cm_stop h5)
