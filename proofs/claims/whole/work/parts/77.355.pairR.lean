/-! pairs, the reference (ours) -/
theorem Mo_give_ok {room : Nat → Int32} {T : List Int32} (hM : Md room T) (hT : T.length < 65536) (x : Int32) : f_Mo_give NF (nI T.length) 0 65536 room x = some (nI (T.length + 1), 0, upd room T.length (bB x)) := by
  unfold f_Mo_give
  rw [Jn_s]
  (refine (if_neg ?_).trans ?_; focus ((try simp (disch := omega) only [Int32.le_iff_toInt_le, Int32.lt_iff_toInt_lt, ← Int32.toInt_inj, nI_toInt, nI_addL, nI_Ladd, nI_mulL, nI_Lmul, nI_add, nI_subL, nI_Lsub, nI_sub, Int32.reduceToInt, m1_toInt, ne_eq, Int32.reduceMul, Int32.reduceAdd, Int32.reduceSub]) <;> omega))
  refine (if_pos rfl).trans ?_
  rw [Ix_s (by omega) (by omega), Lt_s, Lt_s, nI_1, nI_clamp (by omega), bB_nar]
theorem Mo_give_full {room : Nat → Int32} {w x : Int32} : f_Mo_give NF (nI 65536) w 65536 room x = some (nI 65536, 1, room) := by
  unfold f_Mo_give
  rw [Jn_s]
  refine (if_pos rfl).trans ?_
  exact if_neg (by decide)
theorem Mo_copy {d : Nat} (hd : 1 ≤ d) {len : Nat} (hlen : len ≤ 66000) : ∀ (j k fuel : Nat) (T : List Int32) (room : Nat → Int32), j + k = len → j < fuel → Md room T → d ≤ T.length → T.length ≤ 65536 →
    (T.length + j ≤ 65536 → ∃ room', lp_Mo_pair_95 NF (nI len) (nI d) 65536 fuel (nI k) (nI T.length) 0 room = some (nI (cpy d j T).length, 0, room') ∧ Md room' (cpy d j T)) ∧
    (65536 < T.length + j → ∃ (F : Nat) (room' : Nat → Int32), F ≤ 65536 ∧ lp_Mo_pair_95 NF (nI len) (nI d) 65536 fuel (nI k) (nI T.length) 0 room = some (nI F, 1, room') ∧ sb_Fit room') := by
  intro j
  induction j with
  | zero =>
    intro k fuel T room hj hf hM hdT hT
    obtain ⟨u, rfl⟩ : ∃ u, fuel = u + 1 := ⟨fuel - 1, by omega⟩
    refine ⟨fun _ => ⟨room, ?_, hM⟩, fun h => absurd h (by omega)⟩
    rw [ls_Mo_pair_95]
    unfold lb_Mo_pair_95
    (refine (if_pos ?_).trans ?_; focus ((try simp (disch := omega) only [Int32.le_iff_toInt_le, Int32.lt_iff_toInt_lt, ← Int32.toInt_inj, nI_toInt, nI_addL, nI_Ladd, nI_mulL, nI_Lmul, nI_add, nI_subL, nI_Lsub, nI_sub, Int32.reduceToInt, m1_toInt, ne_eq, Int32.reduceMul, Int32.reduceAdd, Int32.reduceSub]) <;> omega)); rfl
  | succ j ih =>
    intro k fuel T room hj hf hM hdT hT
    obtain ⟨u, rfl⟩ : ∃ u, fuel = u + 1 := ⟨fuel - 1, by omega⟩
    have e0 : lp_Mo_pair_95 NF (nI len) (nI d) 65536 (u + 1) (nI k) (nI T.length) 0 room = (Bd (f_Mo_give NF (nI T.length) 0 65536 room (room (T.length - d))) fun r26 => lp_Mo_pair_95 NF (nI len) (nI d) 65536 u (nI (k + 1)) r26.1 r26.2.1 r26.2.2) := by
      rw [ls_Mo_pair_95]
      unfold lb_Mo_pair_95
      (refine (if_neg ?_).trans ?_; focus ((try simp (disch := omega) only [Int32.le_iff_toInt_le, Int32.lt_iff_toInt_lt, ← Int32.toInt_inj, nI_toInt, nI_addL, nI_Ladd, nI_mulL, nI_Lmul, nI_add, nI_subL, nI_Lsub, nI_sub, Int32.reduceToInt, m1_toInt, ne_eq, Int32.reduceMul, Int32.reduceAdd, Int32.reduceSub]) <;> omega))
      rw [if_pos rfl, nI_sub (by omega), Ix_s (by omega) (by omega), nI_clamp (by omega)]
      simp only [Lt_s, nI_1]
    rw [e0]
    by_cases h : T.length < 65536
    · have ex : bB (room (T.length - d)) = T.getD (T.length - d) 0 := by
        rw [bB_of (hM.1 _)]
        exact hM.2 _ (by omega)
      have M1 := Md_add hM rfl (room (T.length - d))
      rw [ex] at M1
      have eg := Mo_give_ok hM h (room (T.length - d))
      rw [ex] at eg
      rw [Bd_s eg]
      have el : (T ++ [T.getD (T.length - d) 0]).length = T.length + 1 := by rw [List.length_append, List.length_singleton]
      obtain ⟨i1, i2⟩ := ih (k + 1) u _ _ (by omega) (by omega) M1 (by omega) (by omega)
      rw [el] at i1 i2
      refine ⟨fun hh => ?_, fun hh => ?_⟩
      · exact i1 (by omega)
      · exact i2 (by omega)
    · have hT' : T.length = 65536 := by omega
      refine ⟨fun hh => absurd hh (by omega), fun hh => ⟨65536, room, Nat.le_refl _, ?_, hM.1⟩⟩
      rw [hT', Bd_s Mo_give_full]
      obtain ⟨u', rfl⟩ : ∃ u', u = u' + 1 := ⟨u - 1, by omega⟩
      show lp_Mo_pair_95 NF (nI len) (nI d) 65536 (u' + 1) (nI (k + 1)) (nI 65536) 1 room = _
      rw [ls_Mo_pair_95]
      unfold lb_Mo_pair_95
      by_cases hk : len ≤ k + 1
      · (refine (if_pos ?_).trans ?_; focus ((try simp (disch := omega) only [Int32.le_iff_toInt_le, Int32.lt_iff_toInt_lt, ← Int32.toInt_inj, nI_toInt, nI_addL, nI_Ladd, nI_mulL, nI_Lmul, nI_add, nI_subL, nI_Lsub, nI_sub, Int32.reduceToInt, m1_toInt, ne_eq, Int32.reduceMul, Int32.reduceAdd, Int32.reduceSub]) <;> omega)); rfl
      · (refine (if_neg ?_).trans ?_; focus ((try simp (disch := omega) only [Int32.le_iff_toInt_le, Int32.lt_iff_toInt_lt, ← Int32.toInt_inj, nI_toInt, nI_addL, nI_Ladd, nI_mulL, nI_Lmul, nI_add, nI_subL, nI_Lsub, nI_sub, Int32.reduceToInt, m1_toInt, ne_eq, Int32.reduceMul, Int32.reduceAdd, Int32.reduceSub]) <;> omega))
        exact if_neg (by decide)
/-- how the reference's answer stands to what is to be answered -/
def OKr (B p' F : Nat) (w' : Int32) (room' : Nat → Int32) (S : Option (Nat × List Int32)) : Prop :=
  p' ≤ B ∧ F ≤ 65536 ∧ sb_Fit room' ∧ ((w' = 0 ∧ ∃ T', S = some (p', T') ∧ F = T'.length ∧ Md room' T') ∨ (w' = 1 ∧ S = none))
theorem Mo_pair {L : List Int32} {n : Nat} {g : Nat → Int32} (hM : Md g L) (hl : L.length = n) (hn : n ≤ 65536) {ld : Nat → Nat} {len cod : Nat → Int32} (hC : CoR ld 288 32 len cod) {q : Nat} (hq : q ≤ 8 * n) {i : Nat} (hi : i < 31) {T : List Int32} {room : Nat → Int32} (hT : Md room T) (hTl : T.length ≤ 65536) :
    ∃ (p' F : Nat) (w' : Int32) (room' : Nat → Int32), f_Mo_pair NF (nI n) (nI q) (nI T.length) 0 65536 g 340 len 340 cod 65536 room (nI (257 + i)) = some (nI p', nI F, w', room') ∧ OKr (8 * n) p' F w' room' (prS ld L q i T) := by
  unfold f_Mo_pair prS
  rw [Jn_s]
  by_cases h29 : 29 ≤ i
  · refine ⟨q, T.length, 1, room, ?_, hq, hTl, hT.1, Or.inr ⟨rfl, ?_⟩⟩
    · (refine (if_neg ?_).trans ?_; focus ((try simp (disch := omega) only [Int32.le_iff_toInt_le, Int32.lt_iff_toInt_lt, ← Int32.toInt_inj, nI_toInt, nI_addL, nI_Ladd, nI_mulL, nI_Lmul, nI_add, nI_subL, nI_Lsub, nI_sub, Int32.reduceToInt, m1_toInt, ne_eq, Int32.reduceMul, Int32.reduceAdd, Int32.reduceSub]) <;> omega))
      exact if_neg (by decide)
    · rw [if_pos h29]
  · rw [if_neg h29]
    have t1 := tn1_le i (by omega)
    have b0 := tn0_max i (by omega)
    have hk0 := tk_lt L q (tn 1 i)
    have hk0' : 2 ^ tn 1 i ≤ 2 ^ 5 := Nat.pow_le_pow_right (by decide) t1
    have e6 := Mo_nq hM hl hn q (k := tn 1 i) (by omega)
    rw [pos_in hq, flg_in hq] at e6
    have hz : ∀ y : Option (Int32 × Int32 × Int32 × (Nat → Int32)), (Bd (f_Mo_sign NF (nI n) (nI (pos n (q + tn 1 i))) (flg n (q + tn 1 i)) 65536 g 340 len 340 cod 288 32) fun r8 => Jn (fun (t10 : Int32) => if t10 = 0 then (Bd (f_Mo_distanceBase NF r8.1) fun r12 => Bd (f_Mo_distanceBits NF r8.1) fun r13 => Bd (f_Mo_number NF (nI n) r8.2.1 t10 65536 g r13) fun r14 => Lt (r12 + r14.1) fun v15 => Jn (fun (t17 : Int32) => Bd (lp_Mo_pair_95 NF (nI (tn 0 i + tk L q (tn 1 i))) v15 65536 NF 0 (nI T.length) t17 room) fun r28 => some (r14.2.1, r28.1, r28.2.1, r28.2.2)) fun j17 => if v15 ≤ nI T.length then j17 r14.2.2 else j17 1) else some (r8.2.1, nI T.length, t10, room)) fun j10 => if r8.1 ≤ (29 : Int32) then j10 r8.2.2 else j10 1) = y →
      (if nI (257 + i) ≤ (285 : Int32) then (fun (t2 : Int32) => if t2 = 0 then (Bd (f_Mo_lengthBase NF (nI (257 + i))) fun r4 => Bd (f_Mo_lengthBits NF (nI (257 + i))) fun r5 => Bd (f_Mo_number NF (nI n) (nI q) t2 65536 g r5) fun r6 => Lt (r4 + r6.1) fun v7 => Bd (f_Mo_sign NF (nI n) r6.2.1 r6.2.2 65536 g 340 len 340 cod 288 32) fun r8 => Jn (fun (t10 : Int32) => if t10 = 0 then (Bd (f_Mo_distanceBase NF r8.1) fun r12 => Bd (f_Mo_distanceBits NF r8.1) fun r13 => Bd (f_Mo_number NF (nI n) r8.2.1 t10 65536 g r13) fun r14 => Lt (r12 + r14.1) fun v15 => Jn (fun (t17 : Int32) => Bd (lp_Mo_pair_95 NF v7 v15 65536 NF 0 (nI T.length) t17 room) fun r28 => some (r14.2.1, r28.1, r28.2.1, r28.2.2)) fun j17 => if v15 ≤ nI T.length then j17 r14.2.2 else j17 1) else some (r8.2.1, nI T.length, t10, room)) fun j10 => if r8.1 ≤ (29 : Int32) then j10 r8.2.2 else j10 1) else some (nI q, nI T.length, t2, room)) 0 else (fun (t2 : Int32) => if t2 = 0 then (Bd (f_Mo_lengthBase NF (nI (257 + i))) fun r4 => Bd (f_Mo_lengthBits NF (nI (257 + i))) fun r5 => Bd (f_Mo_number NF (nI n) (nI q) t2 65536 g r5) fun r6 => Lt (r4 + r6.1) fun v7 => Bd (f_Mo_sign NF (nI n) r6.2.1 r6.2.2 65536 g 340 len 340 cod 288 32) fun r8 => Jn (fun (t10 : Int32) => if t10 = 0 then (Bd (f_Mo_distanceBase NF r8.1) fun r12 => Bd (f_Mo_distanceBits NF r8.1) fun r13 => Bd (f_Mo_number NF (nI n) r8.2.1 t10 65536 g r13) fun r14 => Lt (r12 + r14.1) fun v15 => Jn (fun (t17 : Int32) => Bd (lp_Mo_pair_95 NF v7 v15 65536 NF 0 (nI T.length) t17 room) fun r28 => some (r14.2.1, r28.1, r28.2.1, r28.2.2)) fun j17 => if v15 ≤ nI T.length then j17 r14.2.2 else j17 1) else some (r8.2.1, nI T.length, t10, room)) fun j10 => if r8.1 ≤ (29 : Int32) then j10 r8.2.2 else j10 1) else some (nI q, nI T.length, t2, room)) 1) = y := by
      intro y hy
      (refine (if_pos ?_).trans ?_; focus ((try simp (disch := omega) only [Int32.le_iff_toInt_le, Int32.lt_iff_toInt_lt, ← Int32.toInt_inj, nI_toInt, nI_addL, nI_Ladd, nI_mulL, nI_Lmul, nI_add, nI_subL, nI_Lsub, nI_sub, Int32.reduceToInt, m1_toInt, ne_eq, Int32.reduceMul, Int32.reduceAdd, Int32.reduceSub]) <;> omega))
      refine (if_pos rfl).trans ?_
      rw [Bd_s (Mo_lb i (by omega)), Bd_s (Mo_le i (by omega)), Bd_s e6, Lt_s, nI_add]
      exact hy
    by_cases hq1 : q + tn 1 i ≤ 8 * n
    · rcases Mo_sign hM hl hn (by omega) hC hq1 with ⟨t, q2, hS, hlt, hq2, ht, es⟩ | ⟨hN, p', hp', es⟩
      · rw [hS]
        show ∃ (p' F : Nat) (w' : Int32) (room' : Nat → Int32), _ = _ ∧ OKr (8 * n) p' F w' room' (if 30 ≤ t then none else if 8 * L.length < q2 + tn 3 t then none else if T.length < tn 2 t + tk L q2 (tn 3 t) then none else
    if 65536 < T.length + (tn 0 i + tk L q (tn 1 i)) then none else some (q2 + tn 3 t, cpy (tn 2 t + tk L q2 (tn 3 t)) (tn 0 i + tk L q (tn 1 i)) T))
        rw [hl]
        have es : f_Mo_sign NF (nI n) (nI (pos n (q + tn 1 i))) (flg n (q + tn 1 i)) 65536 g 340 len 340 cod 288 32 = some (nI t, nI q2, 0) := by
          rw [pos_in hq1, flg_in hq1]
          exact es
        by_cases h30 : 30 ≤ t
        · rw [if_pos h30]
          refine ⟨q2, T.length, 1, room, hz _ ?_, hq2, hTl, hT.1, Or.inr ⟨rfl, rfl⟩⟩
          rw [Bd_s es, Jn_s]
          (refine (if_neg ?_).trans ?_; focus ((try simp (disch := omega) only [Int32.le_iff_toInt_le, Int32.lt_iff_toInt_lt, ← Int32.toInt_inj, nI_toInt, nI_addL, nI_Ladd, nI_mulL, nI_Lmul, nI_add, nI_subL, nI_Lsub, nI_sub, Int32.reduceToInt, m1_toInt, ne_eq, Int32.reduceMul, Int32.reduceAdd, Int32.reduceSub]) <;> omega))
          exact if_neg (by decide)
        · rw [if_neg h30]
          have t3 := tn3_le t (by omega)
          have b2 := tn2_pos t (by omega)
          have b3 := tn2_max t (by omega)
          have hk3 := tk_lt L q2 (tn 3 t)
          have hk3' : 2 ^ tn 3 t ≤ 2 ^ 13 := Nat.pow_le_pow_right (by decide) t3
          have e14 := Mo_nq hM hl hn q2 (k := tn 3 t) (by omega)
          rw [pos_in hq2, flg_in hq2] at e14
          have hz2 : ∀ y : Option (Int32 × Int32 × Int32 × (Nat → Int32)), (Bd (lp_Mo_pair_95 NF (nI (tn 0 i + tk L q (tn 1 i))) (nI (tn 2 t + tk L q2 (tn 3 t))) 65536 NF 0 (nI T.length) (if T.length < tn 2 t + tk L q2 (tn 3 t) then 1 else flg n (q2 + tn 3 t)) room) fun r28 => some (nI (pos n (q2 + tn 3 t)), r28.1, r28.2.1, r28.2.2)) = y → _ := fun y hy => hz y (by
            rw [Bd_s es, Jn_s]
            (refine (if_pos ?_).trans ?_; focus ((try simp (disch := omega) only [Int32.le_iff_toInt_le, Int32.lt_iff_toInt_lt, ← Int32.toInt_inj, nI_toInt, nI_addL, nI_Ladd, nI_mulL, nI_Lmul, nI_add, nI_subL, nI_Lsub, nI_sub, Int32.reduceToInt, m1_toInt, ne_eq, Int32.reduceMul, Int32.reduceAdd, Int32.reduceSub]) <;> omega))
            refine (if_pos rfl).trans ?_
            rw [Bd_s (Mo_db t (by omega)), Bd_s (Mo_de t (by omega)), Bd_s e14, Lt_s, nI_add, Jn_s]
            by_cases hd : T.length < tn 2 t + tk L q2 (tn 3 t)
            · rw [if_pos hd] at hy
              (refine (if_neg ?_).trans ?_; focus ((try simp (disch := omega) only [Int32.le_iff_toInt_le, Int32.lt_iff_toInt_lt, ← Int32.toInt_inj, nI_toInt, nI_addL, nI_Ladd, nI_mulL, nI_Lmul, nI_add, nI_subL, nI_Lsub, nI_sub, Int32.reduceToInt, m1_toInt, ne_eq, Int32.reduceMul, Int32.reduceAdd, Int32.reduceSub]) <;> omega))
              exact hy
            · rw [if_neg hd] at hy
              (refine (if_pos ?_).trans ?_; focus ((try simp (disch := omega) only [Int32.le_iff_toInt_le, Int32.lt_iff_toInt_lt, ← Int32.toInt_inj, nI_toInt, nI_addL, nI_Ladd, nI_mulL, nI_Lmul, nI_add, nI_subL, nI_Lsub, nI_sub, Int32.reduceToInt, m1_toInt, ne_eq, Int32.reduceMul, Int32.reduceAdd, Int32.reduceSub]) <;> omega))
              exact hy)
          have bad : lp_Mo_pair_95 NF (nI (tn 0 i + tk L q (tn 1 i))) (nI (tn 2 t + tk L q2 (tn 3 t))) 65536 NF 0 (nI T.length) 1 room = some (nI T.length, 1, room) := by
            show lb_Mo_pair_95 NF (nI (tn 0 i + tk L q (tn 1 i))) (nI (tn 2 t + tk L q2 (tn 3 t))) 65536 (lp_Mo_pair_95 NF (nI (tn 0 i + tk L q (tn 1 i))) (nI (tn 2 t + tk L q2 (tn 3 t))) 65536 999999) 0 (nI T.length) 1 room = _
            unfold lb_Mo_pair_95
            split
            · rfl
            · exact if_neg (by decide)
          by_cases h8 : 8 * n < q2 + tn 3 t
          · rw [if_pos h8]
            refine ⟨pos n (q2 + tn 3 t), T.length, 1, room, hz2 _ ?_, pos_le _ _, hTl, hT.1, Or.inr ⟨rfl, rfl⟩⟩
            have e1 : (if T.length < tn 2 t + tk L q2 (tn 3 t) then (1 : Int32) else flg n (q2 + tn 3 t)) = 1 := by
              split
              · rfl
              · exact flg_out h8
            rw [e1, Bd_s bad]
          · rw [if_neg h8]
            by_cases hd : T.length < tn 2 t + tk L q2 (tn 3 t)
            · rw [if_pos hd]
              refine ⟨pos n (q2 + tn 3 t), T.length, 1, room, hz2 _ ?_, pos_le _ _, hTl, hT.1, Or.inr ⟨rfl, rfl⟩⟩
              rw [if_pos hd, Bd_s bad]
            · rw [if_neg hd]
              obtain ⟨g1, g2⟩ := Mo_copy (d := tn 2 t + tk L q2 (tn 3 t)) (by omega) (len := tn 0 i + tk L q (tn 1 i)) (by omega) (tn 0 i + tk L q (tn 1 i)) 0 NF T room (by omega) (Nat.lt_of_le_of_lt (show _ ≤ 66000 by omega) (by decide)) hT (by omega) hTl
              by_cases hb : 65536 < T.length + (tn 0 i + tk L q (tn 1 i))
              · rw [if_pos hb]
                obtain ⟨F, room', hF, e2, hf⟩ := g2 hb
                refine ⟨pos n (q2 + tn 3 t), F, 1, room', hz2 _ ?_, pos_le _ _, hF, hf, Or.inr ⟨rfl, rfl⟩⟩
                rw [if_neg hd, flg_in (by omega)]
                exact (Bd_s e2 _).trans rfl
              · rw [if_neg hb]
                obtain ⟨room', e2, hf⟩ := g1 (by omega)
                refine ⟨q2 + tn 3 t, (cpy (tn 2 t + tk L q2 (tn 3 t)) (tn 0 i + tk L q (tn 1 i)) T).length, 0, room', hz2 _ ?_, by omega, by rw [cpy_length]; omega, hf.1, Or.inl ⟨rfl, _, rfl, rfl, hf⟩⟩
                rw [if_neg hd, flg_in (by omega), pos_in (by omega)]
                exact (Bd_s e2 _).trans rfl
      · refine ⟨p', T.length, 1, room, hz _ ?_, hp', hTl, hT.1, Or.inr ⟨rfl, ?_⟩⟩
        · have es : f_Mo_sign NF (nI n) (nI (pos n (q + tn 1 i))) (flg n (q + tn 1 i)) 65536 g 340 len 340 cod 288 32 = some (-1, nI p', 1) := by
            rw [pos_in hq1, flg_in hq1]
            exact es
          rw [Bd_s es, Jn_s]
          refine (if_pos (show (-1 : Int32) ≤ 29 by decide)).trans ?_
          exact if_neg (show ¬ (1 : Int32) = 0 by decide)
        · cases hh : hx ld 32 L (q + tn 1 i) with
          | none => rfl
          | some v =>
            obtain ⟨t, q2⟩ := v
            have := hN t q2 hh
            show (if 30 ≤ t then none else if 8 * L.length < q2 + tn 3 t then none else _) = none
            split
            · rfl
            · rw [if_pos (by omega)]
    · refine ⟨pos n (q + tn 1 i), T.length, 1, room, hz _ ?_, pos_le _ _, hTl, hT.1, Or.inr ⟨rfl, ?_⟩⟩
      · rw [flg_out (by omega), Bd_s Mo_sign1, Jn_s]
        refine (if_pos (show (-1 : Int32) ≤ 29 by decide)).trans ?_
        exact if_neg (show ¬ (1 : Int32) = 0 by decide)
      · cases hh : hx ld 32 L (q + tn 1 i) with
        | none => rfl
        | some v =>
          obtain ⟨t, q2⟩ := v
          have := (hxF_q ld 32 L _ _ _ _ _ _ hh).1
          show (if 30 ≤ t then none else if 8 * L.length < q2 + tn 3 t then none else _) = none
          split
          · rfl
          · rw [if_pos (by omega)]
