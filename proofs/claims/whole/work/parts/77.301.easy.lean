/-! the calls that only move bytes (ours) -/
def num4 (x : Int32) : List Int32 := [bB (us x 24), bB (us x 16), bB (us x 8), bB x]
theorem Rw_addNumber (N : Nat) {c n : Nat} {f : Nat → Int32} {L : List Int32} (h : Rw c f L) (hn : L.length = n) (hp : n + 4 ≤ 73736) (x : Int32) :
    ∃ (c' : Nat) (f' : Nat → Int32) (k z : Nat), f_Row_addNumber N (nI n) c f x = some ((nI (n + 4), c', f'), k, z) ∧ Rw c' f' (L ++ num4 x) ∧ k + kap c' ≤ kap c ∧ z + phi c' ≤ phi c := by
  obtain ⟨c1, f1, k1, z1, e1, R1, hk1, hz1⟩ := Rw_add N h hn (by omega) (us x 24)
  obtain ⟨c2, f2, k2, z2, e2, R2, hk2, hz2⟩ := Rw_add N R1 (n := n + 1) (by simp [hn]) (by omega) (us x 16)
  obtain ⟨c3, f3, k3, z3, e3, R3, hk3, hz3⟩ := Rw_add N R2 (n := n + 2) (by simp [hn]) (by omega) (us x 8)
  obtain ⟨c4, f4, k4, z4, e4, R4, hk4, hz4⟩ := Rw_add N R3 (n := n + 3) (by simp [hn]) (by omega) x
  refine ⟨c4, f4, k1 + (k2 + (k3 + (k4 + 0))), z1 + (z2 + (z3 + (z4 + 0))), ?_, ?_, by omega, by omega⟩
  · unfold f_Row_addNumber
    exact Bk_s e1 (Bk_s e2 (Bk_s e3 (Bk_s e4 rfl)))
  · have : L ++ num4 x = (((L ++ [bB (us x 24)]) ++ [bB (us x 16)]) ++ [bB (us x 8)]) ++ [bB x] := by simp [num4]
    rw [this]
    exact R4
def fed (a b c d e : Int32) : List Int32 := num4 a ++ num4 b ++ num4 c ++ num4 d ++ num4 e
theorem fed_length (a b c d e : Int32) : (fed a b c d e).length = 20 := rfl
theorem TP_feed_no (N : Nat) {c n : Nat} {f : Nat → Int32} (hn : 65536 < n + 20) (hb : n ≤ 65536) (p1 p2 p3 p4 p5 : Int32) : f_TP_feed N (nI n) c f p1 p2 p3 p4 p5 = some ((1, 0, nI n, c, f), 1, 6) := by
  unfold f_TP_feed f_Row_length
  rw [Bd_s rfl]
  have e1 : nI n + 20 = nI (n + 20) := nI_add n 20
  rw [e1]
  (refine (if_neg ?_).trans ?_; focus ((try simp (disch := omega) only [Int32.le_iff_toInt_le, Int32.lt_iff_toInt_lt, ← Int32.toInt_inj, nI_toInt, nI_addL, nI_Ladd, nI_mulL, nI_Lmul, nI_add, nI_subL, nI_Lsub, nI_sub, Int32.reduceToInt, m1_toInt, ne_eq, Int32.reduceMul, Int32.reduceAdd, Int32.reduceSub]) <;> omega))
  exact Ak_s rfl
theorem TP_feed_yes (N : Nat) {c n : Nat} {f : Nat → Int32} {L : List Int32} (h : Rw c f L) (hl : L.length = n) (hn : n + 20 ≤ 65536) (p1 p2 p3 p4 p5 : Int32) :
    ∃ (c' : Nat) (f' : Nat → Int32) (k z : Nat), f_TP_feed N (nI n) c f p1 p2 p3 p4 p5 = some ((0, nI (n + 20), nI (n + 20), c', f'), k, z) ∧ Rw c' f' (L ++ fed p1 p2 p3 p4 p5) ∧ k + kap c' ≤ kap c ∧ z + phi c' ≤ phi c := by
  obtain ⟨c1, f1, k1, z1, e1, R1, hk1, hz1⟩ := Rw_addNumber N h hl (by omega) p1
  obtain ⟨c2, f2, k2, z2, e2, R2, hk2, hz2⟩ := Rw_addNumber N R1 (n := n + 4) (by simp [hl, num4]) (by omega) p2
  obtain ⟨c3, f3, k3, z3, e3, R3, hk3, hz3⟩ := Rw_addNumber N R2 (n := n + 8) (by simp [hl, num4]) (by omega) p3
  obtain ⟨c4, f4, k4, z4, e4, R4, hk4, hz4⟩ := Rw_addNumber N R3 (n := n + 12) (by simp [hl, num4]) (by omega) p4
  obtain ⟨c5, f5, k5, z5, e5, R5, hk5, hz5⟩ := Rw_addNumber N R4 (n := n + 16) (by simp [hl, num4]) (by omega) p5
  refine ⟨c5, f5, k1 + (k2 + (k3 + (k4 + (k5 + 0)))), z1 + (z2 + (z3 + (z4 + (z5 + 0)))), ?_, ?_, by omega, by omega⟩
  · unfold f_TP_feed f_Row_length
    rw [Bd_s rfl]
    have e0 : nI n + 20 = nI (n + 20) := nI_add n 20
    rw [e0]
    (refine (if_pos ?_).trans ?_; focus ((try simp (disch := omega) only [Int32.le_iff_toInt_le, Int32.lt_iff_toInt_lt, ← Int32.toInt_inj, nI_toInt, nI_addL, nI_Ladd, nI_mulL, nI_Lmul, nI_add, nI_subL, nI_Lsub, nI_sub, Int32.reduceToInt, m1_toInt, ne_eq, Int32.reduceMul, Int32.reduceAdd, Int32.reduceSub]) <;> omega))
    exact Bk_s e1 (Bk_s e2 (Bk_s e3 (Bk_s e4 (Bk_s e5 rfl))))
  · have : L ++ fed p1 p2 p3 p4 p5 = ((((L ++ num4 p1) ++ num4 p2) ++ num4 p3) ++ num4 p4) ++ num4 p5 := by simp [fed]
    rw [this]
    exact R5
/-- the reference's rows: an array that holds the bytes L from its first place on -/
def Md (f : Nat → Int32) (L : List Int32) : Prop := sb_Fit f ∧ ∀ i, i < L.length → f i = L.getD i 0
theorem Md_add {f : Nat → Int32} {L : List Int32} {n : Nat} (h : Md f L) (hn : L.length = n) (x : Int32) : Md (upd f n (bB x)) (L ++ [bB x]) := by
  refine ⟨sb_fitU h.1 (bB_fit x), fun i hi => ?_⟩
  rw [List.length_append, List.length_singleton] at hi
  by_cases q : i = n
  · subst q
    rw [pk_us, ← hn]
    simp
  · rw [pk_un q, h.2 i (by omega), gd_l (by omega)]
def fedX (a b c d e : Int32) (k : Nat) : Int32 := bB (us (if k < 4 then a else if k < 8 then b else if k < 12 then c else if k < 16 then d else e) (nI (24 - k % 4 * 8)))
theorem fed_take (a b c d e : Int32) : ∀ k, k < 20 → (fed a b c d e).take (k + 1) = (fed a b c d e).take k ++ [fedX a b c d e k] := by
  intro k hk
  have : k = 0 ∨ k = 1 ∨ k = 2 ∨ k = 3 ∨ k = 4 ∨ k = 5 ∨ k = 6 ∨ k = 7 ∨ k = 8 ∨ k = 9 ∨ k = 10 ∨ k = 11 ∨ k = 12 ∨ k = 13 ∨ k = 14 ∨ k = 15 ∨ k = 16 ∨ k = 17 ∨ k = 18 ∨ k = 19 := by omega
  rcases this with rfl | rfl | rfl | rfl | rfl | rfl | rfl | rfl | rfl | rfl | rfl | rfl | rfl | rfl | rfl | rfl | rfl | rfl | rfl | rfl <;> first | rfl | (simp [fed, num4, fedX]; done) | (simp [fed, num4, fedX, us, nI]; done)
theorem Mo_feed_loop (N : Nat) (a b c d e : Int32) {L : List Int32} {n : Nat} (hl : L.length = n) (hn : n + 20 ≤ 65536) : ∀ (j k : Nat) (fuel : Nat) (g : Nat → Int32), j + k = 20 → j < fuel → Md g (L ++ (fed a b c d e).take k) →
    ∃ g', lp_Mo_feed_26 N a b c d e 65536 fuel (nI k) (nI (n + k)) g = some (nI (n + 20), g') ∧ Md g' (L ++ fed a b c d e) := by
  intro j
  induction j with
  | zero =>
    intro k fuel g hk hf hM
    obtain ⟨q, rfl⟩ : ∃ q, fuel = q + 1 := ⟨fuel - 1, by omega⟩
    have hk : k = 20 := by omega
    subst hk
    refine ⟨g, ?_, ?_⟩
    · show lb_Mo_feed_26 N a b c d e 65536 _ _ _ _ = _
      unfold lb_Mo_feed_26
      (refine (if_pos ?_).trans ?_; focus ((try simp (disch := omega) only [Int32.le_iff_toInt_le, Int32.lt_iff_toInt_lt, ← Int32.toInt_inj, nI_toInt, nI_addL, nI_Ladd, nI_mulL, nI_Lmul, nI_add, nI_subL, nI_Lsub, nI_sub, Int32.reduceToInt, m1_toInt, ne_eq, Int32.reduceMul, Int32.reduceAdd, Int32.reduceSub]) <;> omega))
      rfl
    · rw [List.take_of_length_le (by rw [fed_length]; omega)] at hM
      exact hM
  | succ j ih =>
    intro k fuel g hk hf hM
    obtain ⟨q, rfl⟩ : ∃ q, fuel = q + 1 := ⟨fuel - 1, by omega⟩
    have hlen : (L ++ (fed a b c d e).take k).length = n + k := by
      rw [List.length_append, List.length_take, fed_length, hl]
      omega
    have hM' := Md_add hM hlen (us (if k < 4 then a else if k < 8 then b else if k < 12 then c else if k < 16 then d else e) (nI (24 - k % 4 * 8)))
    rw [List.append_assoc, show [bB (us (if k < 4 then a else if k < 8 then b else if k < 12 then c else if k < 16 then d else e) (nI (24 - k % 4 * 8)))] = [fedX a b c d e k] from rfl, ← fed_take a b c d e k (by omega)] at hM'
    obtain ⟨g', e1, hG⟩ := ih (k + 1) q _ (by omega) (by omega) hM'
    refine ⟨g', ?_, hG⟩
    rw [← e1]
    show lb_Mo_feed_26 N a b c d e 65536 _ _ _ _ = _
    unfold lb_Mo_feed_26
    (refine (if_neg ?_).trans ?_; focus ((try simp (disch := omega) only [Int32.le_iff_toInt_le, Int32.lt_iff_toInt_lt, ← Int32.toInt_inj, nI_toInt, nI_addL, nI_Ladd, nI_mulL, nI_Lmul, nI_add, nI_subL, nI_Lsub, nI_sub, Int32.reduceToInt, m1_toInt, ne_eq, Int32.reduceMul, Int32.reduceAdd, Int32.reduceSub]) <;> omega))
    rw [Jn_s]
    have ek : irm (nI k) 4 * 8 = nI (k % 4 * 8) := by
      rw [show irm (nI k) 4 = nI (k % 4) from pk_rem (d := 4) (by omega) (by omega) (by omega)]
      exact pk_mul _ 8
    have es : (24 : Int32) - irm (nI k) 4 * 8 = nI (24 - k % 4 * 8) := by
      rw [ek]
      exact nI_Lsub (n := 24) (by omega)
    have key : ∀ t : Int32, (Ix (nI (n + k)) 65536 <| Lt (upd g (nI (n + k)).toNatClampNeg (vp_nar .byte ((us t (24 - irm (nI k) 4 * 8)).toInt8.toInt32))) fun g19 => Lt (nI (n + k) + 1) fun v20 => Lt (nI k + 1) fun v21 => lp_Mo_feed_26 N a b c d e 65536 q v21 v20 g19)
        = lp_Mo_feed_26 N a b c d e 65536 q (nI (k + 1)) (nI (n + (k + 1))) (upd g (n + k) (bB (us t (nI (24 - k % 4 * 8))))) := by
      intro t
      rw [Ix_s (by omega) (by omega), Lt_s, Lt_s, Lt_s, nI_clamp (by omega), bB_nar, nI_1, nI_1, es, Nat.add_assoc]
    by_cases h4 : k < 4
    · rw [if_pos h4]; (refine (if_neg ?_).trans ?_; focus ((try simp (disch := omega) only [Int32.le_iff_toInt_le, Int32.lt_iff_toInt_lt, ← Int32.toInt_inj, nI_toInt, nI_addL, nI_Ladd, nI_mulL, nI_Lmul, nI_add, nI_subL, nI_Lsub, nI_sub, Int32.reduceToInt, m1_toInt, ne_eq, Int32.reduceMul, Int32.reduceAdd, Int32.reduceSub]) <;> omega))
      exact key a
    · rw [if_neg h4]; (refine (if_pos ?_).trans ?_; focus ((try simp (disch := omega) only [Int32.le_iff_toInt_le, Int32.lt_iff_toInt_lt, ← Int32.toInt_inj, nI_toInt, nI_addL, nI_Ladd, nI_mulL, nI_Lmul, nI_add, nI_subL, nI_Lsub, nI_sub, Int32.reduceToInt, m1_toInt, ne_eq, Int32.reduceMul, Int32.reduceAdd, Int32.reduceSub]) <;> omega))
      by_cases h8 : k < 8
      · rw [if_pos h8]; (refine (if_neg ?_).trans ?_; focus ((try simp (disch := omega) only [Int32.le_iff_toInt_le, Int32.lt_iff_toInt_lt, ← Int32.toInt_inj, nI_toInt, nI_addL, nI_Ladd, nI_mulL, nI_Lmul, nI_add, nI_subL, nI_Lsub, nI_sub, Int32.reduceToInt, m1_toInt, ne_eq, Int32.reduceMul, Int32.reduceAdd, Int32.reduceSub]) <;> omega))
        exact key b
      · rw [if_neg h8]; (refine (if_pos ?_).trans ?_; focus ((try simp (disch := omega) only [Int32.le_iff_toInt_le, Int32.lt_iff_toInt_lt, ← Int32.toInt_inj, nI_toInt, nI_addL, nI_Ladd, nI_mulL, nI_Lmul, nI_add, nI_subL, nI_Lsub, nI_sub, Int32.reduceToInt, m1_toInt, ne_eq, Int32.reduceMul, Int32.reduceAdd, Int32.reduceSub]) <;> omega))
        by_cases h12 : k < 12
        · rw [if_pos h12]; (refine (if_neg ?_).trans ?_; focus ((try simp (disch := omega) only [Int32.le_iff_toInt_le, Int32.lt_iff_toInt_lt, ← Int32.toInt_inj, nI_toInt, nI_addL, nI_Ladd, nI_mulL, nI_Lmul, nI_add, nI_subL, nI_Lsub, nI_sub, Int32.reduceToInt, m1_toInt, ne_eq, Int32.reduceMul, Int32.reduceAdd, Int32.reduceSub]) <;> omega))
          exact key c
        · rw [if_neg h12]; (refine (if_pos ?_).trans ?_; focus ((try simp (disch := omega) only [Int32.le_iff_toInt_le, Int32.lt_iff_toInt_lt, ← Int32.toInt_inj, nI_toInt, nI_addL, nI_Ladd, nI_mulL, nI_Lmul, nI_add, nI_subL, nI_Lsub, nI_sub, Int32.reduceToInt, m1_toInt, ne_eq, Int32.reduceMul, Int32.reduceAdd, Int32.reduceSub]) <;> omega))
          by_cases h16 : k < 16
          · rw [if_pos h16]; (refine (if_neg ?_).trans ?_; focus ((try simp (disch := omega) only [Int32.le_iff_toInt_le, Int32.lt_iff_toInt_lt, ← Int32.toInt_inj, nI_toInt, nI_addL, nI_Ladd, nI_mulL, nI_Lmul, nI_add, nI_subL, nI_Lsub, nI_sub, Int32.reduceToInt, m1_toInt, ne_eq, Int32.reduceMul, Int32.reduceAdd, Int32.reduceSub]) <;> omega))
            exact key d
          · rw [if_neg h16]; (refine (if_pos ?_).trans ?_; focus ((try simp (disch := omega) only [Int32.le_iff_toInt_le, Int32.lt_iff_toInt_lt, ← Int32.toInt_inj, nI_toInt, nI_addL, nI_Ladd, nI_mulL, nI_Lmul, nI_add, nI_subL, nI_Lsub, nI_sub, Int32.reduceToInt, m1_toInt, ne_eq, Int32.reduceMul, Int32.reduceAdd, Int32.reduceSub]) <;> omega))
            exact key e
theorem Mo_feed_yes (N : Nat) (hN : 20 < N) {n : Nat} {g : Nat → Int32} {L : List Int32} (h : Md g L) (hl : L.length = n) (hn : n + 20 ≤ 65536) (a b c d e : Int32) : ∃ g', f_Mo_feed N (nI n) 65536 g a b c d e = some (nI (n + 20), nI (n + 20), 0, g') ∧ Md g' (L ++ fed a b c d e) := by
  obtain ⟨g', e1, hG⟩ := Mo_feed_loop N a b c d e hl hn 20 0 N g (by omega) hN (by simpa using h)
  refine ⟨g', ?_, hG⟩
  unfold f_Mo_feed
  have e0 : nI n + 20 = nI (n + 20) := nI_add n 20
  rw [e0]
  (refine (if_pos ?_).trans ?_; focus ((try simp (disch := omega) only [Int32.le_iff_toInt_le, Int32.lt_iff_toInt_lt, ← Int32.toInt_inj, nI_toInt, nI_addL, nI_Ladd, nI_mulL, nI_Lmul, nI_add, nI_subL, nI_Lsub, nI_sub, Int32.reduceToInt, m1_toInt, ne_eq, Int32.reduceMul, Int32.reduceAdd, Int32.reduceSub]) <;> omega))
  exact Bd_s e1 _
theorem Mo_feed_no (N : Nat) {n : Nat} {g : Nat → Int32} (hn : 65536 < n + 20) (hb : n ≤ 65536) (a b c d e : Int32) : f_Mo_feed N (nI n) 65536 g a b c d e = some (0, nI n, 1, g) := by
  unfold f_Mo_feed f_Mo_refuse
  have e1 : nI n + 20 = nI (n + 20) := nI_add n 20
  rw [e1]
  (refine (if_neg ?_).trans ?_; focus ((try simp (disch := omega) only [Int32.le_iff_toInt_le, Int32.lt_iff_toInt_lt, ← Int32.toInt_inj, nI_toInt, nI_addL, nI_Ladd, nI_mulL, nI_Lmul, nI_add, nI_subL, nI_Lsub, nI_sub, Int32.reduceToInt, m1_toInt, ne_eq, Int32.reduceMul, Int32.reduceAdd, Int32.reduceSub]) <;> omega))
  rw [Bd_s rfl]
