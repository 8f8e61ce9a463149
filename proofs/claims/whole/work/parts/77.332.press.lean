/-! press (ours) -/
/-- the tokens from place i on: the stream, the pairs, the literals -/
def prF (L : List Int32) : Nat → Nat → (Nat × Nat) × Nat × Nat → (Nat × Nat) × Nat × Nat
  | 0, _, x => x
  | j + 1, i, x => if L.length ≤ i then x else if (srM L i (dmx i)).1 < 3 then prF L j (i + 1) (pS x.1 (bvN (L.getD i 0)), x.2.1, x.2.2 + 1) else prF L j (i + (srM L i (dmx i)).1) (pP x.1 (srM L i (dmx i)).1 (srM L i (dmx i)).2, x.2.1 + 1, x.2.2)
theorem prF_bits (L : List Int32) (n : Nat) (hl : L.length = n) : ∀ j i x, x.1.2 ≤ 3 + 9 * i → i ≤ n → (prF L j i x).1.2 ≤ 3 + 9 * n
  | 0, i, x, h, hi => by show x.1.2 ≤ _; omega
  | j + 1, i, x, h, hi => by
    unfold prF
    by_cases h1 : L.length ≤ i
    · rw [if_pos h1]
      omega
    · rw [if_neg h1]
      obtain ⟨o1, o2, o3, o4⟩ := srM_ok L (i := i) (by omega) (dmx i)
      by_cases h2 : (srM L i (dmx i)).1 < 3
      · rw [if_pos h2]
        refine prF_bits L n hl j (i + 1) _ ?_ (by omega)
        show x.1.2 + sbn _ ≤ _
        have := sbn_le (bvN (L.getD i 0))
        omega
      · rw [if_neg h2]
        refine prF_bits L n hl j _ _ ?_ (by omega)
        have := (pP_bits x.1 (l := (srM L i (dmx i)).1) (d := (srM L i (dmx i)).2) (by omega)).1
        show (pP x.1 _ _).2 ≤ _
        omega
theorem Mo_tokens {L : List Int32} {g : Nat → Int32} {n : Nat} (hg : Md g L) (hl : L.length = n) (hn : n ≤ 65536) : ∀ (j i fuel : Nat) (q : Nat × Nat) (p t : Nat) (o : Nat → Int32), n ≤ i + j → i ≤ n → j < fuel → q.2 ≤ 3 + 9 * i → MWs q.1 q.2 (nI q.2) o →
    ∃ o', lp_Mo_press_43 NF (nI n) 65536 g 74000 fuel (nI i) (nI p) (nI t) (nI q.2) o = some (nI (prF L j i (q, p, t)).2.1, nI (prF L j i (q, p, t)).2.2, nI (prF L j i (q, p, t)).1.2, o') ∧ MWs (prF L j i (q, p, t)).1.1 (prF L j i (q, p, t)).1.2 (nI (prF L j i (q, p, t)).1.2) o' := by
  intro j
  induction j with
  | zero =>
    intro i fuel q p t o hj hi hf hq hM
    obtain ⟨u, rfl⟩ : ∃ u, fuel = u + 1 := ⟨fuel - 1, by omega⟩
    refine ⟨o, ?_, hM⟩
    rw [ls_Mo_press_43]
    unfold lb_Mo_press_43
    (refine (if_pos ?_).trans ?_; focus ((try simp (disch := omega) only [Int32.le_iff_toInt_le, Int32.lt_iff_toInt_lt, ← Int32.toInt_inj, nI_toInt, nI_addL, nI_Ladd, nI_mulL, nI_Lmul, nI_add, nI_subL, nI_Lsub, nI_sub, Int32.reduceToInt, m1_toInt, ne_eq, Int32.reduceMul, Int32.reduceAdd, Int32.reduceSub]) <;> omega)); rfl
  | succ j ih =>
    intro i fuel q p t o hj hi hf hq hM
    obtain ⟨u, rfl⟩ : ∃ u, fuel = u + 1 := ⟨fuel - 1, by omega⟩
    by_cases h1 : n ≤ i
    · have e : prF L (j + 1) i (q, p, t) = (q, p, t) := by
        unfold prF
        rw [if_pos (by omega)]
      rw [e]
      refine ⟨o, ?_, hM⟩
      rw [ls_Mo_press_43]
      unfold lb_Mo_press_43
      (refine (if_pos ?_).trans ?_; focus ((try simp (disch := omega) only [Int32.le_iff_toInt_le, Int32.lt_iff_toInt_lt, ← Int32.toInt_inj, nI_toInt, nI_addL, nI_Ladd, nI_mulL, nI_Lmul, nI_add, nI_subL, nI_Lsub, nI_sub, Int32.reduceToInt, m1_toInt, ne_eq, Int32.reduceMul, Int32.reduceAdd, Int32.reduceSub]) <;> omega)); rfl
    · obtain ⟨o1, o2, o3, o4⟩ := srM_ok L (i := i) (by omega) (dmx i)
      have hdm : dmx i ≤ 32768 := by unfold dmx; omega
      have es := Mo_search hg hl hn (i := i) (by omega) (dmx i) 0 NF (by omega) (Nat.lt_of_le_of_lt hdm (by decide))
      have es : lp_Mo_press_58 NF (nI i) (nI n) 65536 g NF 0 0 1 = some (nI (srM L i (dmx i)).1, nI (srM L i (dmx i)).2) := es
      by_cases h2 : (srM L i (dmx i)).1 < 3
      · have e : prF L (j + 1) i (q, p, t) = prF L j (i + 1) (pS q (bvN (L.getD i 0)), p, t + 1) := by
          conv => lhs; unfold prF
          rw [if_neg (by omega), if_pos h2]
        rw [e]
        have hsb := sbn_le (bvN (L.getD i 0))
        have hbv := bvN_lt (L.getD i 0)
        obtain ⟨o1', e1, M1⟩ := Mo_putSign hM (s := bvN (L.getD i 0)) (by omega) (by omega)
        obtain ⟨o2', e2, M2⟩ := ih (i + 1) u _ p (t + 1) o1' (by omega) (by omega) (by omega) (by show q.2 + sbn _ ≤ _; omega) M1
        refine ⟨o2', ?_, M2⟩
        rw [← e2]
        rw [ls_Mo_press_43]
        unfold lb_Mo_press_43
        (refine (if_neg ?_).trans ?_; focus ((try simp (disch := omega) only [Int32.le_iff_toInt_le, Int32.lt_iff_toInt_lt, ← Int32.toInt_inj, nI_toInt, nI_addL, nI_Ladd, nI_mulL, nI_Lmul, nI_add, nI_subL, nI_Lsub, nI_sub, Int32.reduceToInt, m1_toInt, ne_eq, Int32.reduceMul, Int32.reduceAdd, Int32.reduceSub]) <;> omega)); rw [Bd_s es]; (refine (if_pos ?_).trans ?_; focus ((try simp (disch := omega) only [Int32.le_iff_toInt_le, Int32.lt_iff_toInt_lt, ← Int32.toInt_inj, nI_toInt, nI_addL, nI_Ladd, nI_mulL, nI_Lmul, nI_add, nI_subL, nI_Lsub, nI_sub, Int32.reduceToInt, m1_toInt, ne_eq, Int32.reduceMul, Int32.reduceAdd, Int32.reduceSub]) <;> omega)); rw [Ix_s (by omega) (by omega), nI_clamp (by omega), hg.2 i (by omega), bvN_and, Bd_s e1, Lt_s, Lt_s, nI_1, nI_1]
      · have e : prF L (j + 1) i (q, p, t) = prF L j (i + (srM L i (dmx i)).1) (pP q (srM L i (dmx i)).1 (srM L i (dmx i)).2, p + 1, t) := by
          conv => lhs; unfold prF
          rw [if_neg (by omega), if_neg h2]
        rw [e]
        have h4 := o4 (by omega)
        have hpb := (pP_bits q (l := (srM L i (dmx i)).1) (d := (srM L i (dmx i)).2) (by omega)).1
        obtain ⟨o1', e1, M1⟩ := Mo_putPair hM (l := (srM L i (dmx i)).1) (d := (srM L i (dmx i)).2) (by omega) o1 h4.1 (by omega) (by omega)
        obtain ⟨o2', e2, M2⟩ := ih (i + (srM L i (dmx i)).1) u _ (p + 1) t o1' (by omega) (by omega) (by omega) (by omega) M1
        refine ⟨o2', ?_, M2⟩
        rw [← e2]
        rw [ls_Mo_press_43]
        unfold lb_Mo_press_43
        (refine (if_neg ?_).trans ?_; focus ((try simp (disch := omega) only [Int32.le_iff_toInt_le, Int32.lt_iff_toInt_lt, ← Int32.toInt_inj, nI_toInt, nI_addL, nI_Ladd, nI_mulL, nI_Lmul, nI_add, nI_subL, nI_Lsub, nI_sub, Int32.reduceToInt, m1_toInt, ne_eq, Int32.reduceMul, Int32.reduceAdd, Int32.reduceSub]) <;> omega)); rw [Bd_s es]; (refine (if_neg ?_).trans ?_; focus ((try simp (disch := omega) only [Int32.le_iff_toInt_le, Int32.lt_iff_toInt_lt, ← Int32.toInt_inj, nI_toInt, nI_addL, nI_Ladd, nI_mulL, nI_Lmul, nI_add, nI_subL, nI_Lsub, nI_sub, Int32.reduceToInt, m1_toInt, ne_eq, Int32.reduceMul, Int32.reduceAdd, Int32.reduceSub]) <;> omega)); rw [Bd_s e1, Lt_s, Lt_s, nI_1, nI_add]
theorem Fi_note {L : List Int32} {c cb n i m : Nat} {f nw bf : Nat → Int32} (hR : Rw c f L) (hl : L.length = n) (hn : n ≤ 65536) (hi : i < n) (hm1 : 1 ≤ m) (hm : i + m ≤ n) (hcb : n ≤ cb) (hcb2 : cb ≤ 65536) (hC : Chs L (min i (n - 2)) nw bf) :
    ∃ nw' bf', f_Fi_note NF c f 4096 nw cb bf (nI n) (nI i) (nI m) = some (nw', bf') ∧ Chs L (min (i + m) (n - 2)) nw' bf' := by
  unfold f_Fi_note
  rw [nI_add, Lt_s]
  by_cases h3 : n < 3
  · -- no place has three bytes
    have e1 : ∃ x : Int32, imin (nI (i + m)) (nI n - 3 + 1) = x ∧ x ≤ nI i := by
      refine ⟨_, rfl, ?_⟩
      have : n = 1 ∨ n = 2 := by omega
      unfold imin
      have hlt : nI n - 3 + 1 < nI (i + m) := by
        rcases this with rfl | rfl
        · rw [Int32.lt_iff_toInt_lt, nI_toInt (by omega)]
          have : (nI 1 - 3 + 1 : Int32).toInt = -1 := by decide
          omega
        · by_cases hz : i + m = 0
          · omega
          · rw [Int32.lt_iff_toInt_lt, nI_toInt (by omega)]
            have : (nI 2 - 3 + 1 : Int32).toInt = 0 := by decide
            omega
      rw [if_pos hlt]
      rcases this with rfl | rfl
      · rw [Int32.le_iff_toInt_le, nI_toInt (by omega)]
        have : (nI 1 - 3 + 1 : Int32).toInt = -1 := by decide
        omega
      · rw [Int32.le_iff_toInt_le, nI_toInt (by omega)]
        have : (nI 2 - 3 + 1 : Int32).toInt = 0 := by decide
        omega
    obtain ⟨x, ex, hx⟩ := e1
    rw [ex]
    refine ⟨nw, bf, ?_, ?_⟩
    · have : lp_Fi_note_17 NF x 4096 cb c f NF (nI i) nw bf = some (nw, bf) := by
        show lb_Fi_note_17 NF x 4096 cb c f (lp_Fi_note_17 NF x 4096 cb c f 999999) (nI i) nw bf = _
        unfold lb_Fi_note_17
        exact if_pos hx
      rw [Bd_s this]
    · have e1 : min i (n - 2) = 0 := by omega
      have e2 : min (i + m) (n - 2) = 0 := by omega
      rw [e1] at hC
      rw [e2]
      exact hC
  · have e1 : nI n - 3 + 1 = nI (n - 2) := by
      rw [show nI n - 3 = nI (n - 3) from nI_sub (b := 3) (by omega), nI_1]
      congr 1
      omega
    rw [e1, imin_n (by omega) (by omega)]
    by_cases h4 : min (i + m) (n - 2) ≤ i
    · refine ⟨nw, bf, ?_, ?_⟩
      · have : lp_Fi_note_17 NF (nI (min (i + m) (n - 2))) 4096 cb c f NF (nI i) nw bf = some (nw, bf) := by
          show lb_Fi_note_17 NF (nI (min (i + m) (n - 2))) 4096 cb c f (lp_Fi_note_17 NF (nI (min (i + m) (n - 2))) 4096 cb c f 999999) (nI i) nw bf = _
          unfold lb_Fi_note_17
          (refine (if_pos ?_).trans ?_; focus ((try simp (disch := omega) only [Int32.le_iff_toInt_le, Int32.lt_iff_toInt_lt, ← Int32.toInt_inj, nI_toInt, nI_addL, nI_Ladd, nI_mulL, nI_Lmul, nI_add, nI_subL, nI_Lsub, nI_sub, Int32.reduceToInt, m1_toInt, ne_eq, Int32.reduceMul, Int32.reduceAdd, Int32.reduceSub]) <;> omega)); rfl
        rw [Bd_s this]
      · have : min (i + m) (n - 2) = min i (n - 2) := by omega
        rw [this]
        exact hC
    · have hmin : min i (n - 2) = i := by omega
      rw [hmin] at hC
      obtain ⟨nw', bf', e2, hE⟩ := Fi_note_loop hR hl hn (e := min (i + m) (n - 2)) (by omega) hcb hcb2 (min (i + m) (n - 2) - i) i NF nw bf (by omega) (Nat.lt_of_le_of_lt (show min (i + m) (n - 2) - i ≤ 65536 by omega) (by decide)) hC
      exact ⟨nw', bf', (Bd_s e2 _).trans rfl, hE⟩
theorem Pr_tokens {L : List Int32} {c cb n : Nat} {f : Nat → Int32} (hR : Rw c f L) (hl : L.length = n) (hn : n ≤ 65536) (hcb : n ≤ cb) (hcb2 : cb ≤ 65536) {pre : List Int32} (hpre : pre.length = 2) :
    ∀ (j i fuel : Nat) (q : Nat × Nat) (p t : Nat) (held hb len : Int32) (co : Nat) (fo : Nat → Int32) (x y : Int32) (nw bf : Nat → Int32), n ≤ i + j → i ≤ n → j < fuel → q.2 ≤ 3 + 9 * i → BWs pre q.1 q.2 held hb len co fo → Chs L (min i (n - 2)) nw bf →
    ∃ (held' hb' len' : Int32) (co' : Nat) (fo' : Nat → Int32) (x' y' : Int32) (nw' bf' : Nat → Int32) (k z : Nat), lp_Pr_run_40 NF (nI n) 4096 cb c f fuel (nI i) (nI p) (nI t) held hb len co fo x y nw bf = some ((nI (prF L j i (q, p, t)).2.1, nI (prF L j i (q, p, t)).2.2, held', hb', len', co', fo', x', y', nw', bf'), k, z) ∧
      BWs pre (prF L j i (q, p, t)).1.1 (prF L j i (q, p, t)).1.2 held' hb' len' co' fo' ∧ k + kap co' ≤ kap co ∧ z + phi co' ≤ phi co := by
  intro j
  induction j with
  | zero =>
    intro i fuel q p t held hb len co fo x y nw bf hj hi hf hq hB hC
    obtain ⟨u, rfl⟩ : ∃ u, fuel = u + 1 := ⟨fuel - 1, by omega⟩
    refine ⟨held, hb, len, co, fo, x, y, nw, bf, 0, 0, ?_, hB, by omega, by omega⟩
    rw [ls_Pr_run_40]
    unfold lb_Pr_run_40
    (refine (if_pos ?_).trans ?_; focus ((try simp (disch := omega) only [Int32.le_iff_toInt_le, Int32.lt_iff_toInt_lt, ← Int32.toInt_inj, nI_toInt, nI_addL, nI_Ladd, nI_mulL, nI_Lmul, nI_add, nI_subL, nI_Lsub, nI_sub, Int32.reduceToInt, m1_toInt, ne_eq, Int32.reduceMul, Int32.reduceAdd, Int32.reduceSub]) <;> omega)); rfl
  | succ j ih =>
    intro i fuel q p t held hb len co fo x y nw bf hj hi hf hq hB hC
    obtain ⟨u, rfl⟩ : ∃ u, fuel = u + 1 := ⟨fuel - 1, by omega⟩
    by_cases h1 : n ≤ i
    · have e : prF L (j + 1) i (q, p, t) = (q, p, t) := by
        unfold prF
        rw [if_pos (by omega)]
      rw [e]
      refine ⟨held, hb, len, co, fo, x, y, nw, bf, 0, 0, ?_, hB, by omega, by omega⟩
      rw [ls_Pr_run_40]
      unfold lb_Pr_run_40
      (refine (if_pos ?_).trans ?_; focus ((try simp (disch := omega) only [Int32.le_iff_toInt_le, Int32.lt_iff_toInt_lt, ← Int32.toInt_inj, nI_toInt, nI_addL, nI_Ladd, nI_mulL, nI_Lmul, nI_add, nI_subL, nI_Lsub, nI_sub, Int32.reduceToInt, m1_toInt, ne_eq, Int32.reduceMul, Int32.reduceAdd, Int32.reduceSub]) <;> omega)); rfl
    · obtain ⟨o1, o2, o3, o4⟩ := srM_ok L (i := i) (by omega) (dmx i)
      obtain ⟨s1, s2⟩ := sr_eq L i (dmx i)
      have hdm : dmx i ≤ 32768 := by unfold dmx; omega
      have ef := Fi_find hR hl hn (i := i) (by omega) hcb hcb2 hC
      by_cases h2 : (srM L i (dmx i)).1 < 3
      · have e : prF L (j + 1) i (q, p, t) = prF L j (i + 1) (pS q (bvN (L.getD i 0)), p, t + 1) := by
          conv => lhs; unfold prF
          rw [if_neg (by omega), if_pos h2]
        rw [e]
        rw [s2 h2] at ef
        have ef : f_Fi_find NF c f 4096 nw cb bf (nI n) (nI i) = some (nI 0, nI 0) := ef
        have hsb := sbn_le (bvN (L.getD i 0))
        have hbv := bvN_lt (L.getD i 0)
        obtain ⟨a1, a2, a3, co1, fo1, k1, z1, e1, B1, hk1, hz1⟩ := Pr_putSymbol hB (s := bvN (L.getD i 0)) (by omega) (by rw [hpre]; omega)
        obtain ⟨nw1, bf1, en, C1⟩ := Fi_note hR hl hn (i := i) (m := 1) (by omega) (by omega) (by omega) hcb hcb2 hC
        obtain ⟨a4, a5, a6, co2, fo2, x2, y2, nw2, bf2, k2, z2, e2, B2, hk2, hz2⟩ := ih (i + 1) u _ p (t + 1) a1 a2 a3 co1 fo1 (nI 0) (nI 0) nw1 bf1 (by omega) (by omega) (by omega) (by show q.2 + sbn _ ≤ _; omega) B1 C1
        refine ⟨a4, a5, a6, co2, fo2, x2, y2, nw2, bf2, k1 + k2, z1 + z2, ?_, B2, by omega, by omega⟩
        rw [ls_Pr_run_40]
        unfold lb_Pr_run_40
        (refine (if_neg ?_).trans ?_; focus ((try simp (disch := omega) only [Int32.le_iff_toInt_le, Int32.lt_iff_toInt_lt, ← Int32.toInt_inj, nI_toInt, nI_addL, nI_Ladd, nI_mulL, nI_Lmul, nI_add, nI_subL, nI_Lsub, nI_sub, Int32.reduceToInt, m1_toInt, ne_eq, Int32.reduceMul, Int32.reduceAdd, Int32.reduceSub]) <;> omega)); rw [Bd_s ef]
        unfold f_Fi_length
        rw [Bd_s rfl, Jn_s, if_pos (show nI 0 = 0 from rfl), Ix_s (by have := hR.1; omega) (by have := hR.2.2.1; omega), nI_clamp (by omega), hR.2.2.2.2 i (by omega), bvN_and]
        refine Bk_s e1 ?_
        simp only [Lt_s]
        rw [Bd_s rfl, show imax 1 (nI 0) = nI 1 from by decide, Bd_s en, nI_1, nI_add]
        exact e2
      · have e : prF L (j + 1) i (q, p, t) = prF L j (i + (srM L i (dmx i)).1) (pP q (srM L i (dmx i)).1 (srM L i (dmx i)).2, p + 1, t) := by
          conv => lhs; unfold prF
          rw [if_neg (by omega), if_neg h2]
        rw [e]
        rw [s1 (by omega)] at ef
        have h4 := o4 (by omega)
        have hpb := (pP_bits q (l := (srM L i (dmx i)).1) (d := (srM L i (dmx i)).2) (by omega)).1
        obtain ⟨a1, a2, a3, co1, fo1, k1, z1, e1, B1, hk1, hz1⟩ := Pr_putPair hB (l := (srM L i (dmx i)).1) (d := (srM L i (dmx i)).2) (by omega) o1 h4.1 (by omega) (by rw [hpre]; omega)
        obtain ⟨nw1, bf1, en, C1⟩ := Fi_note hR hl hn (i := i) (m := (srM L i (dmx i)).1) (by omega) (by omega) (by omega) hcb hcb2 hC
        obtain ⟨a4, a5, a6, co2, fo2, x2, y2, nw2, bf2, k2, z2, e2, B2, hk2, hz2⟩ := ih (i + (srM L i (dmx i)).1) u _ (p + 1) t a1 a2 a3 co1 fo1 (nI (srM L i (dmx i)).1) (nI (srM L i (dmx i)).2) nw1 bf1 (by omega) (by omega) (by omega) (by omega) B1 C1
        refine ⟨a4, a5, a6, co2, fo2, x2, y2, nw2, bf2, k1 + k2, z1 + z2, ?_, B2, by omega, by omega⟩
        rw [ls_Pr_run_40]
        unfold lb_Pr_run_40
        (refine (if_neg ?_).trans ?_; focus ((try simp (disch := omega) only [Int32.le_iff_toInt_le, Int32.lt_iff_toInt_lt, ← Int32.toInt_inj, nI_toInt, nI_addL, nI_Ladd, nI_mulL, nI_Lmul, nI_add, nI_subL, nI_Lsub, nI_sub, Int32.reduceToInt, m1_toInt, ne_eq, Int32.reduceMul, Int32.reduceAdd, Int32.reduceSub]) <;> omega)); rw [Bd_s ef]
        unfold f_Fi_length f_Fi_distance
        rw [Bd_s rfl, Jn_s]; (refine (if_neg ?_).trans ?_; focus ((try simp (disch := omega) only [Int32.le_iff_toInt_le, Int32.lt_iff_toInt_lt, ← Int32.toInt_inj, nI_toInt, nI_addL, nI_Ladd, nI_mulL, nI_Lmul, nI_add, nI_subL, nI_Lsub, nI_sub, Int32.reduceToInt, m1_toInt, ne_eq, Int32.reduceMul, Int32.reduceAdd, Int32.reduceSub]) <;> omega)); rw [Bd_s rfl, Bd_s rfl]
        refine Bk_s e1 ?_
        simp only [Lt_s]
        rw [Bd_s rfl, show imax 1 (nI (srM L i (dmx i)).1) = nI (srM L i (dmx i)).1 from by
          rw [show (1 : Int32) = nI 1 from rfl, imax_n (by omega) (by omega), Nat.max_eq_right (by omega)], Bd_s en, nI_1, nI_add]
        exact e2
