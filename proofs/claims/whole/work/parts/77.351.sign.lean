/-! the next code, on both sides (ours) -/
theorem Co_next {L : List Int32} {c n : Nat} {f : Nat → Int32} (hR : Rw c f L) (hl : L.length = n) (hn : n ≤ 65536) {ls : Nat → Nat} {m z : Nat} {num sym : Nat → Int32} (hC : CoC ls m num sym z) (q : Nat) :
    ∃ (x : Int32) (q' : Nat), f_Co_next NF (nI (8 * n)) (nI (pos n q)) (flg n q) c f 16 num z sym = some (x, nI (pos n q'), flg n q') ∧ q < q' ∧ ((hx ls m L q = none ∧ x = -1) ∨ (∃ s, hx ls m L q = some (s, q') ∧ s < m ∧ x = nI s)) := by
  have h0 : 2 * 0 = fco ls m 1 := by
    show 2 * 0 = 2 * (0 + cn ls m 0)
    unfold cn
    rw [if_pos rfl]
  have ho : ofs ls m 1 = 0 := by
    show 0 + cn ls m 0 = 0
    unfold cn
    rw [if_pos rfl]
  have h := Co_next_loop hR hl hn hC 15 1 0 0 q NF (by omega) (by omega) (by decide) h0 (by omega) (by omega) (by decide)
  rw [ho] at h
  obtain ⟨c1, c2, c3, c4, c5, c6⟩ := hC
  rcases h with ⟨hN, a, ha⟩ | ⟨s, q', a, b, hS, hs, ha, hab, hsy⟩
  · refine ⟨-1, q + 15, ?_, by omega, Or.inl ⟨hN, rfl⟩⟩
    unfold f_Co_next
    refine (Bd_s (x := lp_Co_next_10 NF 16 num (nI (8 * n)) c f NF 0 0 0 1 (nI (pos n q)) (flg n q)) ha _).trans ?_
    rfl
  · refine ⟨nI s, q', ?_, (hxF_q ls m L _ _ _ _ _ _ hS).1, Or.inr ⟨s, hS, hs, rfl⟩⟩
    unfold f_Co_next
    refine (Bd_s (x := lp_Co_next_10 NF 16 num (nI (8 * n)) c f NF 0 0 0 1 (nI (pos n q)) (flg n q)) ha _).trans ?_
    rw [if_pos rfl]
    show (Ix (nI a + nI b) z <| some (sym (nI a + nI b).toNatClampNeg, nI (pos n q'), flg n q')) = _
    rw [nI_add, Ix_s hab (by omega), nI_clamp (by omega), hsy]
/-- does symbol t match k bits of the value v -/
def mt (ls : Nat → Nat) (m k v t : Nat) : Prop := ls t = k ∧ fco ls m k + cnt ls t k = v
theorem Mo_find {ls : Nat → Nat} {fr m : Nat} {len cod : Nat → Int32} (hC : CoR ls fr m len cod) {k v : Nat} (hk1 : 1 ≤ k) (hk : k ≤ 15) (hv : v < 2 ^ 31) :
    ∀ (j s fuel : Nat), j + s = m → j < fuel → ((∀ t, s ≤ t → t < m → ¬ mt ls m k v t) → lp_Mo_sign_31 NF (nI fr) (nI m) (nI v) (nI k) 0 340 len 340 cod fuel (nI s) = some (1, nI m)) ∧ (∀ t, s ≤ t → t < m → mt ls m k v t → lp_Mo_sign_31 NF (nI fr) (nI m) (nI v) (nI k) 0 340 len 340 cod fuel (nI s) = some (0, nI t)) := by
  obtain ⟨c1, c2, c3, c4, c5⟩ := hC
  intro j
  induction j with
  | zero =>
    intro s fuel hj hf
    obtain ⟨u, rfl⟩ : ∃ u, fuel = u + 1 := ⟨fuel - 1, by omega⟩
    refine ⟨fun _ => ?_, fun t h1 h2 => absurd h2 (by omega)⟩
    rw [ls_Mo_sign_31]
    unfold lb_Mo_sign_31
    (refine (if_pos ?_).trans ?_; focus ((try simp (disch := omega) only [Int32.le_iff_toInt_le, Int32.lt_iff_toInt_lt, ← Int32.toInt_inj, nI_toInt, nI_addL, nI_Ladd, nI_mulL, nI_Lmul, nI_add, nI_subL, nI_Lsub, nI_sub, Int32.reduceToInt, m1_toInt, ne_eq, Int32.reduceMul, Int32.reduceAdd, Int32.reduceSub]) <;> omega))
    rw [show s = m by omega]
  | succ j ih =>
    intro s fuel hj hf
    obtain ⟨u, rfl⟩ : ∃ u, fuel = u + 1 := ⟨fuel - 1, by omega⟩
    obtain ⟨i1, i2⟩ := ih (s + 1) u (by omega) (by omega)
    have hls := c3 s (by omega)
    have hfb := fco_bound ls (m := m) (k := k) (by omega) (by omega)
    have hcl := cnt_le ls k s
    have e0 : lp_Mo_sign_31 NF (nI fr) (nI m) (nI v) (nI k) 0 340 len 340 cod (u + 1) (nI s) = (if nI (ls s) = nI k then (if cod (fr + s) = nI v then some (0, nI s) else lp_Mo_sign_31 NF (nI fr) (nI m) (nI v) (nI k) 0 340 len 340 cod u (nI (s + 1))) else lp_Mo_sign_31 NF (nI fr) (nI m) (nI v) (nI k) 0 340 len 340 cod u (nI (s + 1))) := by
      rw [ls_Mo_sign_31]
      unfold lb_Mo_sign_31
      (refine (if_neg ?_).trans ?_; focus ((try simp (disch := omega) only [Int32.le_iff_toInt_le, Int32.lt_iff_toInt_lt, ← Int32.toInt_inj, nI_toInt, nI_addL, nI_Ladd, nI_mulL, nI_Lmul, nI_add, nI_subL, nI_Lsub, nI_sub, Int32.reduceToInt, m1_toInt, ne_eq, Int32.reduceMul, Int32.reduceAdd, Int32.reduceSub]) <;> omega))
      rw [if_pos rfl, nI_add, Ix_s (by omega) (by omega), nI_clamp (by omega), c1 s (by omega), Ix_s (by omega) (by omega), Lt_s, nI_1]
    rw [e0]
    by_cases h1 : ls s = k
    · rw [if_pos (by rw [h1])]
      have h2 := c2 s (by omega) (by omega)
      rw [h1] at h2
      rw [h2]
      by_cases h3 : fco ls m k + cnt ls s k = v
      · rw [if_pos (by rw [h3])]
        refine ⟨fun hno => absurd ⟨h1, h3⟩ (hno s (by omega) (by omega)), fun t ht1 ht2 hm => ?_⟩
        have : s = t := cnt_inj ls (by rw [h1, hm.1]) (by rw [h1, hm.1]; have := hm.2; omega)
        rw [this]
      · rw [if_neg (by rw [nI_eq (by omega) hv]; exact h3)]
        refine ⟨fun hno => i1 (fun t a b => hno t (by omega) b), fun t ht1 ht2 hm => ?_⟩
        have : s ≠ t := fun e => h3 (by rw [e]; exact hm.2)
        exact i2 t (by omega) ht2 hm
    · rw [if_neg (by rw [nI_eq (by omega) (by omega)]; exact h1)]
      refine ⟨fun hno => i1 (fun t a b => hno t (by omega) b), fun t ht1 ht2 hm => ?_⟩
      have : s ≠ t := fun e => h1 (by rw [e]; exact hm.1)
      exact i2 t (by omega) ht2 hm
theorem Mo_find1 {fr m : Nat} {len cod : Nat → Int32} (hm : 1 ≤ m) (hm2 : m ≤ 288) (v k : Int32) : lp_Mo_sign_31 NF (nI fr) (nI m) v k 1 340 len 340 cod NF 0 = some (1, 0) := by
  show lb_Mo_sign_31 NF (nI fr) (nI m) v k 1 340 len 340 cod (lp_Mo_sign_31 NF (nI fr) (nI m) v k 1 340 len 340 cod 999999) 0 = _
  unfold lb_Mo_sign_31
  refine (if_neg (nI_nle (by omega) (by omega))).trans ?_
  exact if_neg (by decide)
theorem Mo_sign_loop {L : List Int32} {n : Nat} {g : Nat → Int32} (hM : Md g L) (hl : L.length = n) (hn : n ≤ 65536) {ls : Nat → Nat} {fr m : Nat} {len cod : Nat → Int32} (hm1 : 1 ≤ m) (hC : CoR ls fr m len cod) :
    ∀ (j k v x q fuel : Nat), j + k = 16 → 1 ≤ k → j + 1 < fuel → 2 * x = fco ls m k → x ≤ v → v < 2 ^ 15 → v < 2 ^ (k - 1) → q ≤ 8 * n →
    (∃ s q', hxF ls m L j k v q = some (s, q') ∧ q' ≤ 8 * n ∧ s < m ∧ lp_Mo_sign_5 NF (nI fr) (nI m) (nI n) 65536 g 340 len 340 cod fuel (nI v) (nI k) (nI q) 0 = some (0, nI s, nI q', 0)) ∨
    ((∀ s q', hxF ls m L j k v q = some (s, q') → 8 * n < q') ∧ ∃ p' w, p' ≤ 8 * n ∧ lp_Mo_sign_5 NF (nI fr) (nI m) (nI n) 65536 g 340 len 340 cod fuel (nI v) (nI k) (nI q) 0 = some (1, 0, nI p', w)) := by
  have hC0 := hC
  obtain ⟨c1, c2, c3, c4, c5⟩ := hC
  intro j
  induction j with
  | zero =>
    intro k v x q fuel hj hk hf hx hxv hv hv2 hq
    obtain ⟨u, rfl⟩ : ∃ u, fuel = u + 1 := ⟨fuel - 1, by omega⟩
    refine Or.inr ⟨fun s q' h => (by cases h), q, 0, hq, ?_⟩
    rw [ls_Mo_sign_5]
    unfold lb_Mo_sign_5
    (refine (if_pos ?_).trans ?_; focus ((try simp (disch := omega) only [Int32.le_iff_toInt_le, Int32.lt_iff_toInt_lt, ← Int32.toInt_inj, nI_toInt, nI_addL, nI_Ladd, nI_mulL, nI_Lmul, nI_add, nI_subL, nI_Lsub, nI_sub, Int32.reduceToInt, m1_toInt, ne_eq, Int32.reduceMul, Int32.reduceAdd, Int32.reduceSub]) <;> omega)); rfl
  | succ j ih =>
    intro k v x q fuel hj hk hf hx hxv hv hv2 hq
    obtain ⟨u, rfl⟩ : ∃ u, fuel = u + 1 := ⟨fuel - 1, by omega⟩
    have hb := bitA_lt L q
    have hcm := cn_le ls m k
    have hfb := fco_bound ls (m := m) (k := k) (by omega) (by omega)
    have e0 : lp_Mo_sign_5 NF (nI fr) (nI m) (nI n) 65536 g 340 len 340 cod (u + 1) (nI v) (nI k) (nI q) 0 = (Bd (lp_Mo_sign_31 NF (nI fr) (nI m) (nI (2 * v + bitA L q)) (nI k) (flg n (q + 1)) 340 len 340 cod NF 0) fun r35 => if r35.1 = 0 then some (0, r35.2, nI (pos n (q + 1)), flg n (q + 1)) else lp_Mo_sign_5 NF (nI fr) (nI m) (nI n) 65536 g 340 len 340 cod u (nI (2 * v + bitA L q)) (nI (k + 1)) (nI (pos n (q + 1))) (flg n (q + 1))) := by
      rw [ls_Mo_sign_5]
      unfold lb_Mo_sign_5
      (refine (if_neg ?_).trans ?_; focus ((try simp (disch := omega) only [Int32.le_iff_toInt_le, Int32.lt_iff_toInt_lt, ← Int32.toInt_inj, nI_toInt, nI_addL, nI_Ladd, nI_mulL, nI_Lmul, nI_add, nI_subL, nI_Lsub, nI_sub, Int32.reduceToInt, m1_toInt, ne_eq, Int32.reduceMul, Int32.reduceAdd, Int32.reduceSub]) <;> omega))
      rw [if_pos rfl, Bd_s (Mo_bq hM hl hn hq), Lt_s, bit_step (by omega) hb, Lt_s, nI_1]
    rw [e0]
    unfold hxF
    by_cases hq1 : q + 1 ≤ 8 * n
    · rw [flg_in hq1, pos_in hq1]
      by_cases h1 : 2 * v + bitA L q < fco ls m k + cn ls m k
      · rw [if_pos h1]
        left
        have hr : 2 * v + bitA L q - fco ls m k < cnt ls m k := by
          have : cn ls m k = cnt ls m k := if_neg (by omega)
          omega
        obtain ⟨s, hs, hs1, hs2⟩ := cnt_find ls k m _ hr
        have es := sy_eq ls hs1 hs2 m hs
        refine ⟨s, q + 1, by rw [es], hq1, hs, ?_⟩
        have hf := (Mo_find hC0 (k := k) (v := 2 * v + bitA L q) (by omega) (by omega) (by omega) m 0 NF (by omega) (Nat.lt_of_le_of_lt c4 (by decide))).2 s (by omega) hs ⟨hs1, by omega⟩
        refine (Bd_s (x := lp_Mo_sign_31 NF (nI fr) (nI m) (nI (2 * v + bitA L q)) (nI k) 0 340 len 340 cod NF 0) hf _).trans ?_
        rfl
      · rw [if_neg h1]
        have hf := (Mo_find hC0 (k := k) (v := 2 * v + bitA L q) (by omega) (by omega) (by omega) m 0 NF (by omega) (Nat.lt_of_le_of_lt c4 (by decide))).1 (fun t _ ht hm => by
          have h2 := cnt_lt ls (n := m) (s := t) ht
          rw [hm.1] at h2
          have : cn ls m k = cnt ls m k := if_neg (by omega)
          have := hm.2
          omega)
        have e1 : ∀ y : Option (Nat × Int32 × Int32 × Int32), lp_Mo_sign_5 NF (nI fr) (nI m) (nI n) 65536 g 340 len 340 cod u (nI (2 * v + bitA L q)) (nI (k + 1)) (nI (q + 1)) 0 = y → (Bd (lp_Mo_sign_31 NF (nI fr) (nI m) (nI (2 * v + bitA L q)) (nI k) 0 340 len 340 cod NF 0) fun r35 => if r35.1 = 0 then some (0, r35.2, nI (q + 1), 0) else lp_Mo_sign_5 NF (nI fr) (nI m) (nI n) 65536 g 340 len 340 cod u (nI (2 * v + bitA L q)) (nI (k + 1)) (nI (q + 1)) 0) = y := by
          intro y hy
          refine (Bd_s (x := lp_Mo_sign_31 NF (nI fr) (nI m) (nI (2 * v + bitA L q)) (nI k) 0 340 len 340 cod NF 0) hf _).trans ?_
          exact hy
        have hp : 2 ^ (k + 1 - 1) = 2 * 2 ^ (k - 1) := by
          rw [show k + 1 - 1 = (k - 1) + 1 by omega, Nat.pow_succ]
          omega
        by_cases hj0 : j = 0
        · subst hj0
          right
          refine ⟨fun s q' h => (by cases h), q + 1, 0, hq1, e1 _ ?_⟩
          obtain ⟨u', rfl⟩ : ∃ u', u = u' + 1 := ⟨u - 1, by omega⟩
          rw [ls_Mo_sign_5]
          unfold lb_Mo_sign_5
          (refine (if_pos ?_).trans ?_; focus ((try simp (disch := omega) only [Int32.le_iff_toInt_le, Int32.lt_iff_toInt_lt, ← Int32.toInt_inj, nI_toInt, nI_addL, nI_Ladd, nI_mulL, nI_Lmul, nI_add, nI_subL, nI_Lsub, nI_sub, Int32.reduceToInt, m1_toInt, ne_eq, Int32.reduceMul, Int32.reduceAdd, Int32.reduceSub]) <;> omega)); rfl
        · have hv' : 2 * v + bitA L q < 2 ^ 15 := by
            have : 2 ^ (k - 1) ≤ 2 ^ 13 := Nat.pow_le_pow_right (by decide) (by omega)
            omega
          rcases ih (k + 1) (2 * v + bitA L q) (fco ls m k + cn ls m k) (q + 1) u (by omega) (by omega) (by omega) rfl (by omega) hv' (by rw [hp]; omega) hq1 with ⟨s, q', hS, hq', hs, ha⟩ | ⟨hN, p', w, hp', ha⟩
          · exact Or.inl ⟨s, q', hS, hq', hs, e1 _ ha⟩
          · exact Or.inr ⟨hN, p', w, hp', e1 _ ha⟩
    · right
      rw [flg_out (by omega)]
      refine ⟨fun s q' h => ?_, pos n (q + 1), 1, pos_le _ _, ?_⟩
      · split at h
        · cases h
          omega
        · have := (hxF_q ls m L _ _ _ _ _ _ h).1
          omega
      · rw [Bd_s (Mo_find1 hm1 c4 _ _), if_neg (by decide)]
        obtain ⟨u', rfl⟩ : ∃ u', u = u' + 1 := ⟨u - 1, by omega⟩
        rw [ls_Mo_sign_5]
        unfold lb_Mo_sign_5
        by_cases hk16 : 16 ≤ k + 1
        · (refine (if_pos ?_).trans ?_; focus ((try simp (disch := omega) only [Int32.le_iff_toInt_le, Int32.lt_iff_toInt_lt, ← Int32.toInt_inj, nI_toInt, nI_addL, nI_Ladd, nI_mulL, nI_Lmul, nI_add, nI_subL, nI_Lsub, nI_sub, Int32.reduceToInt, m1_toInt, ne_eq, Int32.reduceMul, Int32.reduceAdd, Int32.reduceSub]) <;> omega)); rfl
        · (refine (if_neg ?_).trans ?_; focus ((try simp (disch := omega) only [Int32.le_iff_toInt_le, Int32.lt_iff_toInt_lt, ← Int32.toInt_inj, nI_toInt, nI_addL, nI_Ladd, nI_mulL, nI_Lmul, nI_add, nI_subL, nI_Lsub, nI_sub, Int32.reduceToInt, m1_toInt, ne_eq, Int32.reduceMul, Int32.reduceAdd, Int32.reduceSub]) <;> omega))
          exact if_neg (by decide)
theorem Mo_sign {L : List Int32} {n : Nat} {g : Nat → Int32} (hM : Md g L) (hl : L.length = n) (hn : n ≤ 65536) {ls : Nat → Nat} {fr m : Nat} {len cod : Nat → Int32} (hm1 : 1 ≤ m) (hC : CoR ls fr m len cod) {q : Nat} (hq : q ≤ 8 * n) :
    (∃ s q', hx ls m L q = some (s, q') ∧ q < q' ∧ q' ≤ 8 * n ∧ s < m ∧ f_Mo_sign NF (nI n) (nI q) 0 65536 g 340 len 340 cod (nI fr) (nI m) = some (nI s, nI q', 0)) ∨
    ((∀ s q', hx ls m L q = some (s, q') → 8 * n < q') ∧ ∃ p', p' ≤ 8 * n ∧ f_Mo_sign NF (nI n) (nI q) 0 65536 g 340 len 340 cod (nI fr) (nI m) = some (-1, nI p', 1)) := by
  have h0 : 2 * 0 = fco ls m 1 := by
    show 2 * 0 = 2 * (0 + cn ls m 0)
    unfold cn
    rw [if_pos rfl]
  unfold f_Mo_sign
  rcases Mo_sign_loop hM hl hn hm1 hC 15 1 0 0 q NF (by omega) (by omega) (by decide) h0 (by omega) (by omega) (by decide) hq with ⟨s, q', hS, hq', hs, ha⟩ | ⟨hN, p', w, hp', ha⟩
  · left
    refine ⟨s, q', hS, (hxF_q ls m L _ _ _ _ _ _ hS).1, hq', hs, ?_⟩
    exact (Bd_s (x := lp_Mo_sign_5 NF (nI fr) (nI m) (nI n) 65536 g 340 len 340 cod NF 0 1 (nI q) 0) ha _).trans rfl
  · right
    refine ⟨hN, p', hp', ?_⟩
    exact (Bd_s (x := lp_Mo_sign_5 NF (nI fr) (nI m) (nI n) 65536 g 340 len 340 cod NF 0 1 (nI q) 0) ha _).trans rfl
theorem Mo_sign1 {n p : Nat} {g len cod : Nat → Int32} {fr m : Int32} : f_Mo_sign NF (nI n) (nI p) 1 65536 g 340 len 340 cod fr m = some (-1, nI p, 1) := by
  unfold f_Mo_sign
  have ha : lp_Mo_sign_5 NF fr m (nI n) 65536 g 340 len 340 cod NF 0 1 (nI p) 1 = some (1, 0, nI p, 1) := by
    show lb_Mo_sign_5 NF fr m (nI n) 65536 g 340 len 340 cod (lp_Mo_sign_5 NF fr m (nI n) 65536 g 340 len 340 cod 999999) 0 1 (nI p) 1 = _
    unfold lb_Mo_sign_5
    rw [if_neg (by decide), if_neg (by decide)]
  exact (Bd_s ha _).trans rfl
