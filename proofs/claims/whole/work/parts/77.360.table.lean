/-! told codes, the reference (ours) -/
theorem placeOf_tn : ∀ i, i < 19 → f_Mo_placeOf NF (nI i) = some (nI (tn 4 i)) := by decide +kernel
theorem tb_47 {L : List Int32} {n : Nat} {g : Nat → Int32} (hM : Md g L) (hl : L.length = n) (hn : n ≤ 65536) (q : Nat) {k : Nat} (hk : k ≤ 19) :
    ∀ (j i fuel : Nat) (len : Nat → Int32), j + i = 19 → j < fuel → (∀ x, x < 19 → io x < i → len (320 + x) = nI (zsz L q k x)) → ∃ len', lp_Mo_table_47 NF (nI k) (nI n) 65536 g 340 fuel (nI i) (nI (pos n (q + 3 * min i k))) (flg n (q + 3 * min i k)) len = some (nI (pos n (q + 3 * k)), flg n (q + 3 * k), len') ∧ ∀ x, x < 19 → len' (320 + x) = nI (zsz L q k x) := by
  intro j
  induction j with
  | zero =>
    intro i fuel len hj hf h
    obtain ⟨u, rfl⟩ : ∃ u, fuel = u + 1 := ⟨fuel - 1, by omega⟩
    refine ⟨len, ?_, fun x hx => h x hx (by have := io_lt x hx; omega)⟩
    rw [ls_Mo_table_47]
    unfold lb_Mo_table_47
    (refine (if_pos ?_).trans ?_; focus ((try simp (disch := omega) only [Int32.le_iff_toInt_le, Int32.lt_iff_toInt_lt, ← Int32.toInt_inj, nI_toInt, nI_addL, nI_Ladd, nI_mulL, nI_Lmul, nI_add, nI_subL, nI_Lsub, nI_sub, Int32.reduceToInt, m1_toInt, ne_eq, Int32.reduceMul, Int32.reduceAdd, Int32.reduceSub]) <;> omega))
    rw [show min i k = k by omega]
  | succ j ih =>
    intro i fuel len hj hf h
    obtain ⟨u, rfl⟩ : ∃ u, fuel = u + 1 := ⟨fuel - 1, by omega⟩
    have h4 := tn4_lt i (by omega)
    obtain ⟨len', e, hg⟩ := ih (i + 1) u (upd len (320 + tn 4 i) (nI (zsz L q k (tn 4 i)))) (by omega) (by omega) (fun x hx hi => by
      by_cases hh : x = tn 4 i
      · rw [hh, pk_us]
      · rw [pk_un (by omega)]
        refine h x hx ?_
        have : io x ≠ i := fun e => hh (by rw [← e, tn_io x hx])
        omega)
    refine ⟨len', ?_, hg⟩
    rw [ls_Mo_table_47]
    unfold lb_Mo_table_47
    (refine (if_neg ?_).trans ?_; focus ((try simp (disch := omega) only [Int32.le_iff_toInt_le, Int32.lt_iff_toInt_lt, ← Int32.toInt_inj, nI_toInt, nI_addL, nI_Ladd, nI_mulL, nI_Lmul, nI_add, nI_subL, nI_Lsub, nI_sub, Int32.reduceToInt, m1_toInt, ne_eq, Int32.reduceMul, Int32.reduceAdd, Int32.reduceSub]) <;> omega))
    rw [Bd_s (placeOf_tn i (by omega)), Jn_s]
    simp only [Lt_s]
    rw [show (320 : Int32) + nI (tn 4 i) = nI (320 + tn 4 i) from nI_add 320 _, nI_1]
    by_cases hik : k ≤ i
    · (refine (if_pos ?_).trans ?_; focus ((try simp (disch := omega) only [Int32.le_iff_toInt_le, Int32.lt_iff_toInt_lt, ← Int32.toInt_inj, nI_toInt, nI_addL, nI_Ladd, nI_mulL, nI_Lmul, nI_add, nI_subL, nI_Lsub, nI_sub, Int32.reduceToInt, m1_toInt, ne_eq, Int32.reduceMul, Int32.reduceAdd, Int32.reduceSub]) <;> omega))
      rw [Ix_s (by omega) (by omega), nI_clamp (by omega), show min i k = k by omega]
      rw [show min (i + 1) k = k by omega] at e
      have ez : nI (zsz L q k (tn 4 i)) = 0 := by
        unfold zsz
        rw [io_tn i (by omega), if_neg (by omega)]
        rfl
      rw [ez] at e
      exact e
    · (refine (if_neg ?_).trans ?_; focus ((try simp (disch := omega) only [Int32.le_iff_toInt_le, Int32.lt_iff_toInt_lt, ← Int32.toInt_inj, nI_toInt, nI_addL, nI_Ladd, nI_mulL, nI_Lmul, nI_add, nI_subL, nI_Lsub, nI_sub, Int32.reduceToInt, m1_toInt, ne_eq, Int32.reduceMul, Int32.reduceAdd, Int32.reduceSub]) <;> omega))
      have et : f_Mo_number NF (nI n) (nI (pos n (q + 3 * i))) (flg n (q + 3 * i)) 65536 g 3 = some (nI (tk L (q + 3 * i) 3), nI (pos n (q + 3 * (i + 1))), flg n (q + 3 * (i + 1))) := Mo_nq hM hl hn (q + 3 * i) (k := 3) (by omega)
      rw [show min i k = i by omega, Bd_s et, Ix_s (by omega) (by omega), nI_clamp (by omega)]
      rw [show min (i + 1) k = i + 1 by omega] at e
      have ez : nI (zsz L q k (tn 4 i)) = nI (tk L (q + 3 * i) 3) := by
        unfold zsz
        rw [io_tn i (by omega), if_pos (by omega)]
      rw [ez] at e
      exact e
theorem tb_47b {L : List Int32} {n : Nat} {g : Nat → Int32} (hM : Md g L) (hl : L.length = n) (hn : n ≤ 65536) {k : Nat} (hk : k ≤ 19) :
    ∀ (j i p fuel : Nat) (len : Nat → Int32), j + i = 19 → j < fuel → p ≤ 8 * n → (∀ x, x < 19 → io x < i → ∃ v, v ≤ 7 ∧ len (320 + x) = nI v) → ∃ p' len', p' ≤ 8 * n ∧ lp_Mo_table_47 NF (nI k) (nI n) 65536 g 340 fuel (nI i) (nI p) 1 len = some (nI p', 1, len') ∧ ∀ x, x < 19 → ∃ v, v ≤ 7 ∧ len' (320 + x) = nI v := by
  intro j
  induction j with
  | zero =>
    intro i p fuel len hj hf hp h
    obtain ⟨u, rfl⟩ : ∃ u, fuel = u + 1 := ⟨fuel - 1, by omega⟩
    refine ⟨p, len, hp, ?_, fun x hx => h x hx (by have := io_lt x hx; omega)⟩
    rw [ls_Mo_table_47]
    unfold lb_Mo_table_47
    (refine (if_pos ?_).trans ?_; focus ((try simp (disch := omega) only [Int32.le_iff_toInt_le, Int32.lt_iff_toInt_lt, ← Int32.toInt_inj, nI_toInt, nI_addL, nI_Ladd, nI_mulL, nI_Lmul, nI_add, nI_subL, nI_Lsub, nI_sub, Int32.reduceToInt, m1_toInt, ne_eq, Int32.reduceMul, Int32.reduceAdd, Int32.reduceSub]) <;> omega)); rfl
  | succ j ih =>
    intro i p fuel len hj hf hp h
    obtain ⟨u, rfl⟩ : ∃ u, fuel = u + 1 := ⟨fuel - 1, by omega⟩
    have h4 := tn4_lt i (by omega)
    have nx : ∀ v, v ≤ 7 → ∀ x, x < 19 → io x < i + 1 → ∃ v', v' ≤ 7 ∧ upd len (320 + tn 4 i) (nI v) (320 + x) = nI v' := fun v hv x hx hi => by
      by_cases hh : x = tn 4 i
      · exact ⟨v, hv, by rw [hh, pk_us]⟩
      · rw [pk_un (by omega)]
        refine h x hx ?_
        have : io x ≠ i := fun e => hh (by rw [← e, tn_io x hx])
        omega
    by_cases hik : k ≤ i
    · obtain ⟨p', len', hp', e, hg⟩ := ih (i + 1) p u (upd len (320 + tn 4 i) (nI 0)) (by omega) (by omega) hp (nx 0 (by omega))
      refine ⟨p', len', hp', ?_, hg⟩
      rw [ls_Mo_table_47]
      unfold lb_Mo_table_47
      (refine (if_neg ?_).trans ?_; focus ((try simp (disch := omega) only [Int32.le_iff_toInt_le, Int32.lt_iff_toInt_lt, ← Int32.toInt_inj, nI_toInt, nI_addL, nI_Ladd, nI_mulL, nI_Lmul, nI_add, nI_subL, nI_Lsub, nI_sub, Int32.reduceToInt, m1_toInt, ne_eq, Int32.reduceMul, Int32.reduceAdd, Int32.reduceSub]) <;> omega))
      rw [Bd_s (placeOf_tn i (by omega)), Jn_s]
      simp only [Lt_s]
      rw [show (320 : Int32) + nI (tn 4 i) = nI (320 + tn 4 i) from nI_add 320 _, nI_1]
      (refine (if_pos ?_).trans ?_; focus ((try simp (disch := omega) only [Int32.le_iff_toInt_le, Int32.lt_iff_toInt_lt, ← Int32.toInt_inj, nI_toInt, nI_addL, nI_Ladd, nI_mulL, nI_Lmul, nI_add, nI_subL, nI_Lsub, nI_sub, Int32.reduceToInt, m1_toInt, ne_eq, Int32.reduceMul, Int32.reduceAdd, Int32.reduceSub]) <;> omega))
      rw [Ix_s (by omega) (by omega), nI_clamp (by omega)]
      exact e
    · obtain ⟨p1, hp1, et⟩ := Mo_n1 hM hl hn hp (k := 3) (by omega)
      have htk := tk_lt L p 3
      obtain ⟨p', len', hp', e, hg⟩ := ih (i + 1) p1 u (upd len (320 + tn 4 i) (nI (tk L p 3))) (by omega) (by omega) hp1 (nx _ (by omega))
      refine ⟨p', len', hp', ?_, hg⟩
      rw [ls_Mo_table_47]
      unfold lb_Mo_table_47
      (refine (if_neg ?_).trans ?_; focus ((try simp (disch := omega) only [Int32.le_iff_toInt_le, Int32.lt_iff_toInt_lt, ← Int32.toInt_inj, nI_toInt, nI_addL, nI_Ladd, nI_mulL, nI_Lmul, nI_add, nI_subL, nI_Lsub, nI_sub, Int32.reduceToInt, m1_toInt, ne_eq, Int32.reduceMul, Int32.reduceAdd, Int32.reduceSub]) <;> omega))
      rw [Bd_s (placeOf_tn i (by omega)), Jn_s]
      simp only [Lt_s]
      rw [show (320 : Int32) + nI (tn 4 i) = nI (320 + tn 4 i) from nI_add 320 _, nI_1]
      (refine (if_neg ?_).trans ?_; focus ((try simp (disch := omega) only [Int32.le_iff_toInt_le, Int32.lt_iff_toInt_lt, ← Int32.toInt_inj, nI_toInt, nI_addL, nI_Ladd, nI_mulL, nI_Lmul, nI_add, nI_subL, nI_Lsub, nI_sub, Int32.reduceToInt, m1_toInt, ne_eq, Int32.reduceMul, Int32.reduceAdd, Int32.reduceSub]) <;> omega))
      refine (Bd_s et _).trans ?_
      rw [Ix_s (by omega) (by omega), nI_clamp (by omega)]
      exact e
theorem tb_252 {s t : Nat} (hs : s < 19) (ht : t ≤ 138) {v : Int32} : ∀ (j x i fuel : Nat) (told : Nat → Int32), j + x = t → j < fuel → i + j ≤ 320 → (s = 16 → 1 ≤ i ∧ told (i - 1) = v) → (s ≠ 16 → v = 0) →
    ∃ told', lp_Mo_table_252 NF (nI s) (nI t) 0 320 fuel (nI i) (nI x) told = some (nI (i + j), told') ∧ (∀ y, y < i → told' y = told y) ∧ ∀ y, i ≤ y → y < i + j → told' y = v := by
  intro j
  induction j with
  | zero =>
    intro x i fuel told hj hf hi h1 h2
    obtain ⟨u, rfl⟩ : ∃ u, fuel = u + 1 := ⟨fuel - 1, by omega⟩
    refine ⟨told, ?_, fun _ _ => rfl, fun y a b => absurd b (by omega)⟩
    rw [ls_Mo_table_252]
    unfold lb_Mo_table_252
    (refine (if_pos ?_).trans ?_; focus ((try simp (disch := omega) only [Int32.le_iff_toInt_le, Int32.lt_iff_toInt_lt, ← Int32.toInt_inj, nI_toInt, nI_addL, nI_Ladd, nI_mulL, nI_Lmul, nI_add, nI_subL, nI_Lsub, nI_sub, Int32.reduceToInt, m1_toInt, ne_eq, Int32.reduceMul, Int32.reduceAdd, Int32.reduceSub]) <;> omega)); rfl
  | succ j ih =>
    intro x i fuel told hj hf hi h1 h2
    obtain ⟨u, rfl⟩ : ∃ u, fuel = u + 1 := ⟨fuel - 1, by omega⟩
    obtain ⟨told', e, g1, g2⟩ := ih (x + 1) (i + 1) u (upd told i v) (by omega) (by omega) (by omega) (fun _ => ⟨by omega, by rw [show i + 1 - 1 = i by omega, pk_us]⟩) h2
    refine ⟨told', ?_, fun y hy => by rw [g1 y (by omega), pk_un (by omega)], fun y a b => ?_⟩
    · rw [ls_Mo_table_252]
      unfold lb_Mo_table_252
      (refine (if_neg ?_).trans ?_; focus ((try simp (disch := omega) only [Int32.le_iff_toInt_le, Int32.lt_iff_toInt_lt, ← Int32.toInt_inj, nI_toInt, nI_addL, nI_Ladd, nI_mulL, nI_Lmul, nI_add, nI_subL, nI_Lsub, nI_sub, Int32.reduceToInt, m1_toInt, ne_eq, Int32.reduceMul, Int32.reduceAdd, Int32.reduceSub]) <;> omega))
      refine (if_pos rfl).trans ?_
      rw [Jn_s]
      simp only [Lt_s, nI_1]
      rw [show i + (j + 1) = i + 1 + j by omega]
      by_cases h16 : s = 16
      · obtain ⟨a, b⟩ := h1 h16
        (refine (if_pos ?_).trans ?_; focus ((try simp (disch := omega) only [Int32.le_iff_toInt_le, Int32.lt_iff_toInt_lt, ← Int32.toInt_inj, nI_toInt, nI_addL, nI_Ladd, nI_mulL, nI_Lmul, nI_add, nI_subL, nI_Lsub, nI_sub, Int32.reduceToInt, m1_toInt, ne_eq, Int32.reduceMul, Int32.reduceAdd, Int32.reduceSub]) <;> omega))
        rw [show nI i - 1 = nI (i - 1) from nI_sub (b := 1) (by omega), Ix_s (by omega) (by omega), nI_clamp (n := i - 1) (by omega), b, Ix_s (by omega) (by omega), nI_clamp (by omega)]
        exact e
      · (refine (if_neg ?_).trans ?_; focus ((try simp (disch := omega) only [Int32.le_iff_toInt_le, Int32.lt_iff_toInt_lt, ← Int32.toInt_inj, nI_toInt, nI_addL, nI_Ladd, nI_mulL, nI_Lmul, nI_add, nI_subL, nI_Lsub, nI_sub, Int32.reduceToInt, m1_toInt, ne_eq, Int32.reduceMul, Int32.reduceAdd, Int32.reduceSub]) <;> omega))
        rw [Ix_s (by omega) (by omega), nI_clamp (by omega)]
        have hv := h2 h16
        rw [hv] at e
        exact e
    · by_cases hy : y = i
      · rw [g1 y (by omega), hy, pk_us]
      · exact g2 y (by omega) (by omega)
theorem tb_252w {s t : Int32} {i : Int32} {told : Nat → Int32} : lp_Mo_table_252 NF s t 1 320 NF i 0 told = some (i, told) := by
  show lb_Mo_table_252 NF s t 1 320 (lp_Mo_table_252 NF s t 1 320 999999) i 0 told = _
  unfold lb_Mo_table_252
  split
  · rfl
  · exact if_neg (by decide)
theorem tb_120w {nl nd nn at' : Int32} {g len cod told : Nat → Int32} {i : Int32} (fuel : Nat) : lp_Mo_table_120 NF nl nd nn 65536 g 340 len 340 cod 320 (fuel + 1) i at' 1 told = some (1, at', 1, told) := by
  rw [ls_Mo_table_120]
  unfold lb_Mo_table_120
  split
  · rfl
  · exact if_neg (by decide)
theorem tb_120 {L : List Int32} {n : Nat} {g : Nat → Int32} (hM : Md g L) (hl : L.length = n) (hn : n ≤ 65536) {zs : Nat → Nat} {len cod : Nat → Int32} (hC : CoR zs 320 19 len cod) {nl nd tot : Nat} (htot : nl + nd = tot) (ht316 : tot ≤ 316) :
    ∀ (j q fuel : Nat) (A : List Nat) (told : Nat → Int32), tot < A.length + j → A.length ≤ tot → q ≤ 8 * n → j + 1 < fuel → LA A told →
    ∃ (tg p' : Nat) (w' : Int32) (told' : Nat → Int32), lp_Mo_table_120 NF (nI nl) (nI nd) (nI n) 65536 g 340 len 340 cod 320 fuel (nI A.length) (nI q) 0 told = some (tg, nI p', w', told') ∧ p' ≤ 8 * n ∧
      ((w' = 0 ∧ tg = 1 ∧ ∃ A', lnS zs L tot j q A = some (p', A') ∧ A'.length = tot ∧ LA A' told') ∨ (w' = 1 ∧ (tg = 0 ∨ tg = 1) ∧ lnS zs L tot j q A = none)) := by
  intro j
  induction j with
  | zero =>
    intro q fuel A told hj hA
    omega
  | succ j ih =>
    intro q fuel A told hj hA hq hf hL
    obtain ⟨u, rfl⟩ : ∃ u, fuel = u + 1 + 1 := ⟨fuel - 2, by omega⟩
    have eS : lnS zs L tot (j + 1) q A = (if 8 * L.length < q then none else if tot ≤ A.length then some (q, A) else match hx zs 19 L q with
      | none => none
      | some (s, q1) => if s < 16 then lnS zs L tot j q1 (A ++ [s]) else if s = 16 ∧ A.length = 0 then none else if tot < A.length + rt L q1 s then none else lnS zs L tot j (q1 + re s) (A ++ List.replicate (rt L q1 s) (if s = 16 then A.getD (A.length - 1) 0 else 0))) := rfl
    rw [hl, if_neg (by omega)] at eS
    have vt : nI nl + nI nd = nI tot := by rw [nI_add, htot]
    by_cases hd : tot ≤ A.length
    · rw [if_pos hd] at eS
      refine ⟨1, q, 0, told, ?_, hq, Or.inl ⟨rfl, rfl, A, eS, by omega, hL⟩⟩
      rw [ls_Mo_table_120]
      unfold lb_Mo_table_120
      rw [vt]
      (refine (if_pos ?_).trans ?_; focus ((try simp (disch := omega) only [Int32.le_iff_toInt_le, Int32.lt_iff_toInt_lt, ← Int32.toInt_inj, nI_toInt, nI_addL, nI_Ladd, nI_mulL, nI_Lmul, nI_add, nI_subL, nI_Lsub, nI_sub, Int32.reduceToInt, m1_toInt, ne_eq, Int32.reduceMul, Int32.reduceAdd, Int32.reduceSub]) <;> omega)); rfl
    · rw [if_neg hd] at eS
      rcases Mo_sign hM hl hn (by omega) hC hq with ⟨s, q1, hS, hlt, hq1, hs, es⟩ | ⟨hN, p', hp', es⟩
      · have es : f_Mo_sign NF (nI n) (nI q) 0 65536 g 340 len 340 cod 320 19 = some (nI s, nI q1, 0) := es
        rw [hS] at eS
        have eS : lnS zs L tot (j + 1) q A = (if s < 16 then lnS zs L tot j q1 (A ++ [s]) else if s = 16 ∧ A.length = 0 then none else if tot < A.length + rt L q1 s then none else lnS zs L tot j (q1 + re s) (A ++ List.replicate (rt L q1 s) (if s = 16 then A.getD (A.length - 1) 0 else 0))) := eS
        have hrt := rt_le L q1 s
        by_cases hs16 : s < 16
        · rw [if_pos hs16] at eS
          have hL' : LA (A ++ List.replicate 1 s) (upd told A.length (nI s)) := LA_rep hL (by omega) (fun x hx => pk_un (by omega)) (fun x a b => by rw [show x = A.length by omega, pk_us])
          obtain ⟨tg, p', w', told', e, hp', hO⟩ := ih q1 (u + 1) (A ++ [s]) _ (by rw [List.length_append, List.length_singleton]; omega) (by rw [List.length_append, List.length_singleton]; omega) hq1 (by omega) hL'
          rw [show (A ++ [s]).length = A.length + 1 by rw [List.length_append, List.length_singleton]] at e
          refine ⟨tg, p', w', told', ?_, hp', by rw [eS]; exact hO⟩
          rw [ls_Mo_table_120]
          unfold lb_Mo_table_120
          rw [vt]
          (refine (if_neg ?_).trans ?_; focus ((try simp (disch := omega) only [Int32.le_iff_toInt_le, Int32.lt_iff_toInt_lt, ← Int32.toInt_inj, nI_toInt, nI_addL, nI_Ladd, nI_mulL, nI_Lmul, nI_add, nI_subL, nI_Lsub, nI_sub, Int32.reduceToInt, m1_toInt, ne_eq, Int32.reduceMul, Int32.reduceAdd, Int32.reduceSub]) <;> omega))
          refine (if_pos rfl).trans ?_
          rw [Bd_s es]
          refine (if_pos rfl).trans ?_
          (refine (if_neg ?_).trans ?_; focus ((try simp (disch := omega) only [Int32.le_iff_toInt_le, Int32.lt_iff_toInt_lt, ← Int32.toInt_inj, nI_toInt, nI_addL, nI_Ladd, nI_mulL, nI_Lmul, nI_add, nI_subL, nI_Lsub, nI_sub, Int32.reduceToInt, m1_toInt, ne_eq, Int32.reduceMul, Int32.reduceAdd, Int32.reduceSub]) <;> omega))
          rw [Ix_s (by omega) (by omega), Lt_s, Lt_s, nI_1, nI_clamp (by omega)]
          exact e
        · rw [if_neg hs16] at eS
          have hre := re_le s
          -- what the loop does with the bits behind
          have key : ∀ (w2 : Int32) (y : Option (Nat × Int32 × Int32 × (Nat → Int32))), w2 = (if (s = 16 ∧ A.length = 0) ∨ tot < A.length + rt L q1 s then 1 else flg n (q1 + re s)) → (Bd (lp_Mo_table_252 NF (nI s) (nI (rt L q1 s)) w2 320 NF (nI A.length) 0 told) fun r101 => lp_Mo_table_120 NF (nI nl) (nI nd) (nI n) 65536 g 340 len 340 cod 320 (u + 1) r101.1 (nI (pos n (q1 + re s))) w2 r101.2) = y → lp_Mo_table_120 NF (nI nl) (nI nd) (nI n) 65536 g 340 len 340 cod 320 (u + 1 + 1) (nI A.length) (nI q) 0 told = y := by
            intro w2 y hw hy
            rw [ls_Mo_table_120]
            unfold lb_Mo_table_120
            rw [vt]
            (refine (if_neg ?_).trans ?_; focus ((try simp (disch := omega) only [Int32.le_iff_toInt_le, Int32.lt_iff_toInt_lt, ← Int32.toInt_inj, nI_toInt, nI_addL, nI_Ladd, nI_mulL, nI_Lmul, nI_add, nI_subL, nI_Lsub, nI_sub, Int32.reduceToInt, m1_toInt, ne_eq, Int32.reduceMul, Int32.reduceAdd, Int32.reduceSub]) <;> omega))
            refine (if_pos rfl).trans ?_
            rw [Bd_s es]
            refine (if_pos rfl).trans ?_
            (refine (if_pos ?_).trans ?_; focus ((try simp (disch := omega) only [Int32.le_iff_toInt_le, Int32.lt_iff_toInt_lt, ← Int32.toInt_inj, nI_toInt, nI_addL, nI_Ladd, nI_mulL, nI_Lmul, nI_add, nI_subL, nI_Lsub, nI_sub, Int32.reduceToInt, m1_toInt, ne_eq, Int32.reduceMul, Int32.reduceAdd, Int32.reduceSub]) <;> omega))
            rw [Jn_s]
            have inner : (Jn (fun (t80 : Int32) => Bd (lp_Mo_table_252 NF (nI s) (nI (rt L q1 s)) t80 320 NF (nI A.length) 0 told) fun r101 => lp_Mo_table_120 NF (nI nl) (nI nd) (nI n) 65536 g 340 len 340 cod 320 (u + 1) r101.1 (nI (pos n (q1 + re s))) t80 r101.2) fun j80 => Jn (fun (t106 : Unit) => j80 1) fun j106 => Jn (fun (t109 : Unit) => if nI A.length + nI (rt L q1 s) ≤ nI tot then j80 (flg n (q1 + re s)) else j106 ()) fun j109 => if nI s = (16 : Int32) then (if nI A.length = 0 then j106 () else j109 ()) else j109 ()) = y := by
              rw [Jn_s, Jn_s, Jn_s]
              by_cases h16 : s = 16
              · by_cases hA0 : A.length = 0
                · (refine (if_pos ?_).trans ?_; focus ((try simp (disch := omega) only [Int32.le_iff_toInt_le, Int32.lt_iff_toInt_lt, ← Int32.toInt_inj, nI_toInt, nI_addL, nI_Ladd, nI_mulL, nI_Lmul, nI_add, nI_subL, nI_Lsub, nI_sub, Int32.reduceToInt, m1_toInt, ne_eq, Int32.reduceMul, Int32.reduceAdd, Int32.reduceSub]) <;> omega)); (refine (if_pos ?_).trans ?_; focus ((try simp (disch := omega) only [Int32.le_iff_toInt_le, Int32.lt_iff_toInt_lt, ← Int32.toInt_inj, nI_toInt, nI_addL, nI_Ladd, nI_mulL, nI_Lmul, nI_add, nI_subL, nI_Lsub, nI_sub, Int32.reduceToInt, m1_toInt, ne_eq, Int32.reduceMul, Int32.reduceAdd, Int32.reduceSub]) <;> omega))
                  rw [if_pos (Or.inl ⟨h16, hA0⟩)] at hw
                  rw [hw] at hy
                  exact hy
                · (refine (if_pos ?_).trans ?_; focus ((try simp (disch := omega) only [Int32.le_iff_toInt_le, Int32.lt_iff_toInt_lt, ← Int32.toInt_inj, nI_toInt, nI_addL, nI_Ladd, nI_mulL, nI_Lmul, nI_add, nI_subL, nI_Lsub, nI_sub, Int32.reduceToInt, m1_toInt, ne_eq, Int32.reduceMul, Int32.reduceAdd, Int32.reduceSub]) <;> omega)); (refine (if_neg ?_).trans ?_; focus ((try simp (disch := omega) only [Int32.le_iff_toInt_le, Int32.lt_iff_toInt_lt, ← Int32.toInt_inj, nI_toInt, nI_addL, nI_Ladd, nI_mulL, nI_Lmul, nI_add, nI_subL, nI_Lsub, nI_sub, Int32.reduceToInt, m1_toInt, ne_eq, Int32.reduceMul, Int32.reduceAdd, Int32.reduceSub]) <;> omega))
                  by_cases hb : tot < A.length + rt L q1 s
                  · (refine (if_neg ?_).trans ?_; focus ((try simp (disch := omega) only [Int32.le_iff_toInt_le, Int32.lt_iff_toInt_lt, ← Int32.toInt_inj, nI_toInt, nI_addL, nI_Ladd, nI_mulL, nI_Lmul, nI_add, nI_subL, nI_Lsub, nI_sub, Int32.reduceToInt, m1_toInt, ne_eq, Int32.reduceMul, Int32.reduceAdd, Int32.reduceSub]) <;> omega))
                    rw [if_pos (Or.inr hb)] at hw
                    rw [hw] at hy
                    exact hy
                  · (refine (if_pos ?_).trans ?_; focus ((try simp (disch := omega) only [Int32.le_iff_toInt_le, Int32.lt_iff_toInt_lt, ← Int32.toInt_inj, nI_toInt, nI_addL, nI_Ladd, nI_mulL, nI_Lmul, nI_add, nI_subL, nI_Lsub, nI_sub, Int32.reduceToInt, m1_toInt, ne_eq, Int32.reduceMul, Int32.reduceAdd, Int32.reduceSub]) <;> omega))
                    rw [if_neg (by omega)] at hw
                    rw [hw] at hy
                    exact hy
              · (refine (if_neg ?_).trans ?_; focus ((try simp (disch := omega) only [Int32.le_iff_toInt_le, Int32.lt_iff_toInt_lt, ← Int32.toInt_inj, nI_toInt, nI_addL, nI_Ladd, nI_mulL, nI_Lmul, nI_add, nI_subL, nI_Lsub, nI_sub, Int32.reduceToInt, m1_toInt, ne_eq, Int32.reduceMul, Int32.reduceAdd, Int32.reduceSub]) <;> omega))
                by_cases hb : tot < A.length + rt L q1 s
                · (refine (if_neg ?_).trans ?_; focus ((try simp (disch := omega) only [Int32.le_iff_toInt_le, Int32.lt_iff_toInt_lt, ← Int32.toInt_inj, nI_toInt, nI_addL, nI_Ladd, nI_mulL, nI_Lmul, nI_add, nI_subL, nI_Lsub, nI_sub, Int32.reduceToInt, m1_toInt, ne_eq, Int32.reduceMul, Int32.reduceAdd, Int32.reduceSub]) <;> omega))
                  rw [if_pos (Or.inr hb)] at hw
                  rw [hw] at hy
                  exact hy
                · (refine (if_pos ?_).trans ?_; focus ((try simp (disch := omega) only [Int32.le_iff_toInt_le, Int32.lt_iff_toInt_lt, ← Int32.toInt_inj, nI_toInt, nI_addL, nI_Ladd, nI_mulL, nI_Lmul, nI_add, nI_subL, nI_Lsub, nI_sub, Int32.reduceToInt, m1_toInt, ne_eq, Int32.reduceMul, Int32.reduceAdd, Int32.reduceSub]) <;> omega))
                  rw [if_neg (by omega)] at hw
                  rw [hw] at hy
                  exact hy
            by_cases h16 : s = 16
            · subst h16
              (refine (if_pos ?_).trans ?_; focus ((try simp (disch := omega) only [Int32.le_iff_toInt_le, Int32.lt_iff_toInt_lt, ← Int32.toInt_inj, nI_toInt, nI_addL, nI_Ladd, nI_mulL, nI_Lmul, nI_add, nI_subL, nI_Lsub, nI_sub, Int32.reduceToInt, m1_toInt, ne_eq, Int32.reduceMul, Int32.reduceAdd, Int32.reduceSub]) <;> omega))
              have et : f_Mo_number NF (nI n) (nI q1) 0 65536 g 2 = some (nI (tk L q1 2), nI (pos n (q1 + 2)), flg n (q1 + 2)) := by
                have := Mo_nq hM hl hn q1 (k := 2) (by omega)
                rw [pos_in hq1, flg_in hq1] at this
                exact this
              rw [Bd_s et, show (3 : Int32) + nI (tk L q1 2) = nI (3 + tk L q1 2) from nI_add 3 _]
              exact inner
            · (refine (if_neg ?_).trans ?_; focus ((try simp (disch := omega) only [Int32.le_iff_toInt_le, Int32.lt_iff_toInt_lt, ← Int32.toInt_inj, nI_toInt, nI_addL, nI_Ladd, nI_mulL, nI_Lmul, nI_add, nI_subL, nI_Lsub, nI_sub, Int32.reduceToInt, m1_toInt, ne_eq, Int32.reduceMul, Int32.reduceAdd, Int32.reduceSub]) <;> omega))
              by_cases h17 : s = 17
              · subst h17
                (refine (if_pos ?_).trans ?_; focus ((try simp (disch := omega) only [Int32.le_iff_toInt_le, Int32.lt_iff_toInt_lt, ← Int32.toInt_inj, nI_toInt, nI_addL, nI_Ladd, nI_mulL, nI_Lmul, nI_add, nI_subL, nI_Lsub, nI_sub, Int32.reduceToInt, m1_toInt, ne_eq, Int32.reduceMul, Int32.reduceAdd, Int32.reduceSub]) <;> omega))
                have et : f_Mo_number NF (nI n) (nI q1) 0 65536 g 3 = some (nI (tk L q1 3), nI (pos n (q1 + 3)), flg n (q1 + 3)) := by
                  have := Mo_nq hM hl hn q1 (k := 3) (by omega)
                  rw [pos_in hq1, flg_in hq1] at this
                  exact this
                rw [Bd_s et, show (3 : Int32) + nI (tk L q1 3) = nI (3 + tk L q1 3) from nI_add 3 _]
                exact inner
              · have h18 : s = 18 := by omega
                subst h18
                (refine (if_neg ?_).trans ?_; focus ((try simp (disch := omega) only [Int32.le_iff_toInt_le, Int32.lt_iff_toInt_lt, ← Int32.toInt_inj, nI_toInt, nI_addL, nI_Ladd, nI_mulL, nI_Lmul, nI_add, nI_subL, nI_Lsub, nI_sub, Int32.reduceToInt, m1_toInt, ne_eq, Int32.reduceMul, Int32.reduceAdd, Int32.reduceSub]) <;> omega))
                have et : f_Mo_number NF (nI n) (nI q1) 0 65536 g 7 = some (nI (tk L q1 7), nI (pos n (q1 + 7)), flg n (q1 + 7)) := by
                  have := Mo_nq hM hl hn q1 (k := 7) (by omega)
                  rw [pos_in hq1, flg_in hq1] at this
                  exact this
                rw [Bd_s et, show (11 : Int32) + nI (tk L q1 7) = nI (11 + tk L q1 7) from nI_add 11 _]
                exact inner
          have bad : ∀ w2 : Int32, w2 = 1 → (Bd (lp_Mo_table_252 NF (nI s) (nI (rt L q1 s)) w2 320 NF (nI A.length) 0 told) fun r101 => lp_Mo_table_120 NF (nI nl) (nI nd) (nI n) 65536 g 340 len 340 cod 320 (u + 1) r101.1 (nI (pos n (q1 + re s))) w2 r101.2) = some (1, nI (pos n (q1 + re s)), 1, told) := by
            intro w2 hw
            subst hw
            rw [Bd_s tb_252w]
            exact tb_120w _
          by_cases hz : s = 16 ∧ A.length = 0
          · rw [if_pos hz] at eS
            refine ⟨1, pos n (q1 + re s), 1, told, key 1 _ (by rw [if_pos (Or.inl hz)]) (bad 1 rfl), pos_le _ _, Or.inr ⟨rfl, Or.inr rfl, eS⟩⟩
          · rw [if_neg hz] at eS
            by_cases hb : tot < A.length + rt L q1 s
            · rw [if_pos hb] at eS
              refine ⟨1, pos n (q1 + re s), 1, told, key 1 _ (by rw [if_pos (Or.inr hb)]) (bad 1 rfl), pos_le _ _, Or.inr ⟨rfl, Or.inr rfl, eS⟩⟩
            · rw [if_neg hb] at eS
              have hno : ¬ ((s = 16 ∧ A.length = 0) ∨ tot < A.length + rt L q1 s) := fun e => e.elim hz hb
              by_cases h8 : q1 + re s ≤ 8 * n
              · obtain ⟨v, hv, hv15⟩ : ∃ v : Nat, v = (if s = 16 then A.getD (A.length - 1) 0 else 0) ∧ v ≤ 15 := ⟨_, rfl, by
                  split
                  · by_cases h0 : A.length = 0
                    · exact absurd ⟨‹s = 16›, h0⟩ hz
                    · exact hL.2 _ (by omega)
                  · omega⟩
                rw [← hv] at eS
                obtain ⟨told1, e1, a1, a2⟩ := tb_252 (s := s) (t := rt L q1 s) hs hrt.2 (v := nI v) (rt L q1 s) 0 A.length NF told (by omega) (Nat.lt_of_le_of_lt hrt.2 (by decide)) (by omega) (fun h16 => by
                  have h0 : A.length ≠ 0 := fun e => hz ⟨h16, e⟩
                  exact ⟨by omega, by rw [hL.1 _ (by omega), hv, if_pos h16]⟩) (fun h16 => by rw [hv, if_neg h16]; rfl)
                have hL' : LA (A ++ List.replicate (rt L q1 s) v) told1 := LA_rep hL hv15 a1 a2
                have el : (A ++ List.replicate (rt L q1 s) v).length = A.length + rt L q1 s := by rw [List.length_append, List.length_replicate]
                obtain ⟨tg, p', w', told', e, hp', hO⟩ := ih (q1 + re s) (u + 1) _ told1 (by omega) (by omega) h8 (by omega) hL'
                rw [el] at e
                refine ⟨tg, p', w', told', key 0 _ (by rw [if_neg hno, flg_in h8]) ?_, hp', by rw [eS]; exact hO⟩
                refine (Bd_s e1 _).trans ?_
                rw [pos_in h8]
                exact e
              · rw [show lnS zs L tot j (q1 + re s) (A ++ List.replicate (rt L q1 s) (if s = 16 then A.getD (A.length - 1) 0 else 0)) = none from lnS_out (by omega) j] at eS
                refine ⟨1, pos n (q1 + re s), 1, told, key 1 _ (by rw [if_neg hno, flg_out (by omega)]) (bad 1 rfl), pos_le _ _, Or.inr ⟨rfl, Or.inr rfl, eS⟩⟩
      · have es : f_Mo_sign NF (nI n) (nI q) 0 65536 g 340 len 340 cod 320 19 = some (-1, nI p', 1) := es
        refine ⟨0, p', 1, told, ?_, hp', Or.inr ⟨rfl, Or.inl rfl, ?_⟩⟩
        · rw [ls_Mo_table_120]
          unfold lb_Mo_table_120
          rw [vt]
          (refine (if_neg ?_).trans ?_; focus ((try simp (disch := omega) only [Int32.le_iff_toInt_le, Int32.lt_iff_toInt_lt, ← Int32.toInt_inj, nI_toInt, nI_addL, nI_Ladd, nI_mulL, nI_Lmul, nI_add, nI_subL, nI_Lsub, nI_sub, Int32.reduceToInt, m1_toInt, ne_eq, Int32.reduceMul, Int32.reduceAdd, Int32.reduceSub]) <;> omega))
          refine (if_pos rfl).trans ?_
          rw [Bd_s es]
          exact if_neg (show ¬ (1 : Int32) = 0 by decide)
        · rw [eS]
          cases hh : hx zs 19 L q with
          | none => rfl
          | some v =>
            obtain ⟨s, q1⟩ := v
            have h8 := hN s q1 hh
            show (if s < 16 then lnS zs L tot j q1 (A ++ [s]) else if s = 16 ∧ A.length = 0 then none else if tot < A.length + rt L q1 s then none else lnS zs L tot j (q1 + re s) (A ++ List.replicate (rt L q1 s) (if s = 16 then A.getD (A.length - 1) 0 else 0))) = none
            rw [lnS_out (by omega), lnS_out (by omega)]
            split
            · rfl
            · split
              · rfl
              · split <;> rfl
theorem tb_308 {nl : Nat} (hnl : nl ≤ 288) {told : Nat → Int32} : ∀ (j s fuel : Nat) (len : Nat → Int32), j + s = 288 → j < fuel → ∃ len', lp_Mo_table_308 NF (nI nl) 340 320 told fuel (nI s) len = some len' ∧ (∀ x, x < s ∨ 288 ≤ x → len' x = len x) ∧ ∀ x, s ≤ x → x < 288 → len' x = if x < nl then told x else 0 := by
  intro j
  induction j with
  | zero =>
    intro s fuel len hj hf
    obtain ⟨u, rfl⟩ : ∃ u, fuel = u + 1 := ⟨fuel - 1, by omega⟩
    refine ⟨len, ?_, fun _ _ => rfl, fun x a b => absurd b (by omega)⟩
    rw [ls_Mo_table_308]
    unfold lb_Mo_table_308
    (refine (if_pos ?_).trans ?_; focus ((try simp (disch := omega) only [Int32.le_iff_toInt_le, Int32.lt_iff_toInt_lt, ← Int32.toInt_inj, nI_toInt, nI_addL, nI_Ladd, nI_mulL, nI_Lmul, nI_add, nI_subL, nI_Lsub, nI_sub, Int32.reduceToInt, m1_toInt, ne_eq, Int32.reduceMul, Int32.reduceAdd, Int32.reduceSub]) <;> omega)); rfl
  | succ j ih =>
    intro s fuel len hj hf
    obtain ⟨u, rfl⟩ : ∃ u, fuel = u + 1 := ⟨fuel - 1, by omega⟩
    obtain ⟨len', e, g1, g2⟩ := ih (s + 1) u (upd len s (if s < nl then told s else 0)) (by omega) (by omega)
    refine ⟨len', ?_, fun x hx => by rw [g1 x (by omega), pk_un (by omega)], fun x a b => ?_⟩
    · rw [ls_Mo_table_308]
      unfold lb_Mo_table_308
      (refine (if_neg ?_).trans ?_; focus ((try simp (disch := omega) only [Int32.le_iff_toInt_le, Int32.lt_iff_toInt_lt, ← Int32.toInt_inj, nI_toInt, nI_addL, nI_Ladd, nI_mulL, nI_Lmul, nI_add, nI_subL, nI_Lsub, nI_sub, Int32.reduceToInt, m1_toInt, ne_eq, Int32.reduceMul, Int32.reduceAdd, Int32.reduceSub]) <;> omega))
      rw [Jn_s]
      simp only [Lt_s, nI_1]
      by_cases h : nl ≤ s
      · (refine (if_pos ?_).trans ?_; focus ((try simp (disch := omega) only [Int32.le_iff_toInt_le, Int32.lt_iff_toInt_lt, ← Int32.toInt_inj, nI_toInt, nI_addL, nI_Ladd, nI_mulL, nI_Lmul, nI_add, nI_subL, nI_Lsub, nI_sub, Int32.reduceToInt, m1_toInt, ne_eq, Int32.reduceMul, Int32.reduceAdd, Int32.reduceSub]) <;> omega))
        rw [Ix_s (by omega) (by omega), nI_clamp (by omega)]
        rw [if_neg (by omega)] at e
        exact e
      · (refine (if_neg ?_).trans ?_; focus ((try simp (disch := omega) only [Int32.le_iff_toInt_le, Int32.lt_iff_toInt_lt, ← Int32.toInt_inj, nI_toInt, nI_addL, nI_Ladd, nI_mulL, nI_Lmul, nI_add, nI_subL, nI_Lsub, nI_sub, Int32.reduceToInt, m1_toInt, ne_eq, Int32.reduceMul, Int32.reduceAdd, Int32.reduceSub]) <;> omega))
        rw [Ix_s (by omega) (by omega), Ix_s (by omega) (by omega), nI_clamp (by omega)]
        rw [if_pos (by omega)] at e
        exact e
    · by_cases h : x = s
      · rw [g1 x (by omega), h, pk_us]
      · exact g2 x (by omega) b
theorem tb_349 {nl nd : Nat} (hnl : nl ≤ 288) (hnd : nd ≤ 32) {told : Nat → Int32} : ∀ (j s fuel : Nat) (len : Nat → Int32), j + s = 32 → j < fuel → ∃ len', lp_Mo_table_349 NF (nI nl) (nI nd) 340 320 told fuel (nI s) len = some len' ∧ (∀ x, x < 288 + s → len' x = len x) ∧ ∀ x, s ≤ x → x < 32 → len' (288 + x) = if x < nd then told (nl + x) else 0 := by
  intro j
  induction j with
  | zero =>
    intro s fuel len hj hf
    obtain ⟨u, rfl⟩ : ∃ u, fuel = u + 1 := ⟨fuel - 1, by omega⟩
    refine ⟨len, ?_, fun _ _ => rfl, fun x a b => absurd b (by omega)⟩
    rw [ls_Mo_table_349]
    unfold lb_Mo_table_349
    (refine (if_pos ?_).trans ?_; focus ((try simp (disch := omega) only [Int32.le_iff_toInt_le, Int32.lt_iff_toInt_lt, ← Int32.toInt_inj, nI_toInt, nI_addL, nI_Ladd, nI_mulL, nI_Lmul, nI_add, nI_subL, nI_Lsub, nI_sub, Int32.reduceToInt, m1_toInt, ne_eq, Int32.reduceMul, Int32.reduceAdd, Int32.reduceSub]) <;> omega)); rfl
  | succ j ih =>
    intro s fuel len hj hf
    obtain ⟨u, rfl⟩ : ∃ u, fuel = u + 1 := ⟨fuel - 1, by omega⟩
    obtain ⟨len', e, g1, g2⟩ := ih (s + 1) u (upd len (288 + s) (if s < nd then told (nl + s) else 0)) (by omega) (by omega)
    refine ⟨len', ?_, fun x hx => by rw [g1 x (by omega), pk_un (by omega)], fun x a b => ?_⟩
    · rw [ls_Mo_table_349]
      unfold lb_Mo_table_349
      (refine (if_neg ?_).trans ?_; focus ((try simp (disch := omega) only [Int32.le_iff_toInt_le, Int32.lt_iff_toInt_lt, ← Int32.toInt_inj, nI_toInt, nI_addL, nI_Ladd, nI_mulL, nI_Lmul, nI_add, nI_subL, nI_Lsub, nI_sub, Int32.reduceToInt, m1_toInt, ne_eq, Int32.reduceMul, Int32.reduceAdd, Int32.reduceSub]) <;> omega))
      rw [Jn_s]
      simp only [Lt_s, nI_1]
      rw [show (288 : Int32) + nI s = nI (288 + s) from nI_add 288 _]
      by_cases h : nd ≤ s
      · (refine (if_pos ?_).trans ?_; focus ((try simp (disch := omega) only [Int32.le_iff_toInt_le, Int32.lt_iff_toInt_lt, ← Int32.toInt_inj, nI_toInt, nI_addL, nI_Ladd, nI_mulL, nI_Lmul, nI_add, nI_subL, nI_Lsub, nI_sub, Int32.reduceToInt, m1_toInt, ne_eq, Int32.reduceMul, Int32.reduceAdd, Int32.reduceSub]) <;> omega))
        rw [Ix_s (by omega) (by omega), nI_clamp (by omega)]
        rw [if_neg (by omega)] at e
        exact e
      · (refine (if_neg ?_).trans ?_; focus ((try simp (disch := omega) only [Int32.le_iff_toInt_le, Int32.lt_iff_toInt_lt, ← Int32.toInt_inj, nI_toInt, nI_addL, nI_Ladd, nI_mulL, nI_Lmul, nI_add, nI_subL, nI_Lsub, nI_sub, Int32.reduceToInt, m1_toInt, ne_eq, Int32.reduceMul, Int32.reduceAdd, Int32.reduceSub]) <;> omega))
        rw [nI_add, Ix_s (by omega) (by omega), Ix_s (by omega) (by omega), nI_clamp (by omega), nI_clamp (by omega)]
        rw [if_pos (by omega)] at e
        exact e
    · by_cases h : x = s
      · rw [h, g1 (288 + s) (by omega), pk_us]
      · exact g2 x (by omega) b
