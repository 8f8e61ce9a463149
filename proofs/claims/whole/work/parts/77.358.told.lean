/-! told codes: what is to be read, and the class (ours) -/
def ioL : List Nat := [3, 17, 15, 13, 11, 9, 7, 5, 4, 6, 8, 10, 12, 14, 16, 18, 0, 1, 2]
def io (x : Nat) : Nat := ioL.getD x 0
theorem io_tn : ∀ i, i < 19 → io (tn 4 i) = i := by decide
theorem tn_io : ∀ x, x < 19 → tn 4 (io x) = x := by decide
theorem tn4_lt : ∀ i, i < 19 → tn 4 i < 19 := by decide
theorem io_lt : ∀ x, x < 19 → io x < 19 := by decide
/-- the lengths of the codes of sizes -/
def zsz (L : List Int32) (q k x : Nat) : Nat := if io x < k then tk L (q + 3 * io x) 3 else 0
theorem zsz_le (L : List Int32) (q k x : Nat) : zsz L q k x ≤ 7 := by
  unfold zsz
  split
  · have := tk_lt L (q + 3 * io x) 3
    omega
  · omega
theorem zsz_step (L : List Int32) (q : Nat) {i x : Nat} (hi : i < 19) (hx : x < 19) : zsz L q (i + 1) x = if x = tn 4 i then tk L (q + 3 * i) 3 else zsz L q i x := by
  unfold zsz
  by_cases h : x = tn 4 i
  · rw [if_pos h, h, io_tn i hi, if_pos (by omega)]
  · rw [if_neg h]
    have hne : io x ≠ i := fun e => h (by rw [← e, tn_io x hx])
    by_cases h2 : io x < i
    · rw [if_pos h2, if_pos (by omega)]
    · rw [if_neg h2, if_neg (by omega)]
def re (s : Nat) : Nat := if s = 16 then 2 else if s = 17 then 3 else 7
def rt (L : List Int32) (q s : Nat) : Nat := (if s = 18 then 11 else 3) + tk L q (re s)
theorem re_le (s : Nat) : re s ≤ 7 := by
  unfold re
  split
  · omega
  · split <;> omega
theorem rt_le (L : List Int32) (q s : Nat) : 3 ≤ rt L q s ∧ rt L q s ≤ 138 := by
  unfold rt
  have h1 := tk_lt L q (re s)
  have h2 : 2 ^ re s ≤ 2 ^ 7 := Nat.pow_le_pow_right (by decide) (re_le s)
  split <;> omega
def lnS (zs : Nat → Nat) (L : List Int32) (tot : Nat) : Nat → Nat → List Nat → Option (Nat × List Nat)
  | 0, _, _ => none
  | j + 1, q, A => if 8 * L.length < q then none else if tot ≤ A.length then some (q, A) else match hx zs 19 L q with
    | none => none
    | some (s, q1) => if s < 16 then lnS zs L tot j q1 (A ++ [s]) else if s = 16 ∧ A.length = 0 then none else if tot < A.length + rt L q1 s then none else lnS zs L tot j (q1 + re s) (A ++ List.replicate (rt L q1 s) (if s = 16 then A.getD (A.length - 1) 0 else 0))
theorem lnS_out {zs : Nat → Nat} {L : List Int32} {tot q : Nat} {A : List Nat} (h : 8 * L.length < q) : ∀ j, lnS zs L tot j q A = none
  | 0 => rfl
  | j + 1 => by
    show (if 8 * L.length < q then none else _) = none
    rw [if_pos h]
def LA (A : List Nat) (g : Nat → Int32) : Prop := (∀ x, x < A.length → g x = nI (A.getD x 0)) ∧ ∀ x, x < A.length → A.getD x 0 ≤ 15
theorem LA_rep {A : List Nat} {g g' : Nat → Int32} {t v : Nat} (h : LA A g) (hv : v ≤ 15) (h1 : ∀ x, x < A.length → g' x = g x) (h2 : ∀ x, A.length ≤ x → x < A.length + t → g' x = nI v) : LA (A ++ List.replicate t v) g' := by
  have e : ∀ x, A.length ≤ x → x < A.length + t → (A ++ List.replicate t v).getD x 0 = v := fun x a b => by
    rw [gd_r a]
    simp [List.getD_eq_getElem?_getD, List.getElem?_replicate, show x - A.length < t by omega]
  refine ⟨fun x hx => ?_, fun x hx => ?_⟩
  · rw [List.length_append, List.length_replicate] at hx
    by_cases q : x < A.length
    · rw [gd_l q, h1 x q]
      exact h.1 x q
    · rw [e x (by omega) hx]
      exact h2 x (by omega) hx
  · rw [List.length_append, List.length_replicate] at hx
    by_cases q : x < A.length
    · rw [gd_l q]
      exact h.2 x q
    · rw [e x (by omega) hx]
      exact hv
theorem rl_96 {v : Int32} {b : Nat} (hb : b ≤ 316) : ∀ (j d fuel : Nat) (g : Nat → Int32), j + d = b → j < fuel → ∃ g', lp_Un_readLengths_96 NF v (nI b) 316 fuel (nI d) g = some (nI b, g') ∧ (∀ x, x < d → g' x = g x) ∧ ∀ x, d ≤ x → x < b → g' x = v := by
  intro j
  induction j with
  | zero =>
    intro d fuel g hj hf
    obtain ⟨u, rfl⟩ : ∃ u, fuel = u + 1 := ⟨fuel - 1, by omega⟩
    refine ⟨g, ?_, fun _ _ => rfl, fun x a c => absurd c (by omega)⟩
    rw [ls_Un_readLengths_96]
    unfold lb_Un_readLengths_96
    (refine (if_pos ?_).trans ?_; focus ((try simp (disch := omega) only [Int32.le_iff_toInt_le, Int32.lt_iff_toInt_lt, ← Int32.toInt_inj, nI_toInt, nI_addL, nI_Ladd, nI_mulL, nI_Lmul, nI_add, nI_subL, nI_Lsub, nI_sub, Int32.reduceToInt, m1_toInt, ne_eq, Int32.reduceMul, Int32.reduceAdd, Int32.reduceSub]) <;> omega))
    rw [show d = b by omega]
  | succ j ih =>
    intro d fuel g hj hf
    obtain ⟨u, rfl⟩ : ∃ u, fuel = u + 1 := ⟨fuel - 1, by omega⟩
    obtain ⟨g', e, h1, h2⟩ := ih (d + 1) u (upd g d v) (by omega) (by omega)
    refine ⟨g', ?_, fun x hx => ?_, fun x a c => ?_⟩
    · rw [ls_Un_readLengths_96]
      unfold lb_Un_readLengths_96
      (refine (if_neg ?_).trans ?_; focus ((try simp (disch := omega) only [Int32.le_iff_toInt_le, Int32.lt_iff_toInt_lt, ← Int32.toInt_inj, nI_toInt, nI_addL, nI_Ladd, nI_mulL, nI_Lmul, nI_add, nI_subL, nI_Lsub, nI_sub, Int32.reduceToInt, m1_toInt, ne_eq, Int32.reduceMul, Int32.reduceAdd, Int32.reduceSub]) <;> omega))
      rw [Ix_s (by omega) (by omega), Lt_s, Lt_s, nI_1, nI_clamp (by omega)]
      exact e
    · rw [h1 x (by omega), pk_un (by omega)]
    · by_cases q : x = d
      · rw [h1 x (by omega), q, pk_us]
      · exact h2 x (by omega) c
theorem Un_times {L : List Int32} {c n : Nat} {f : Nat → Int32} (hR : Rw c f L) (hl : L.length = n) (hn : n ≤ 65536) (q : Nat) {s : Nat} (hs : s < 19) : f_Un_readTimes NF (nI (8 * n)) (nI (pos n q)) (flg n q) c f (nI s) = some (nI (if s < 16 then 1 else rt L q s), nI (pos n (if s < 16 then q else q + re s)), flg n (if s < 16 then q else q + re s)) := by
  unfold f_Un_readTimes
  by_cases h16 : s = 16
  · subst h16
    refine (if_pos rfl).trans ?_
    have e := BR_tq hR hl hn q (k := 2) (by omega)
    refine (Bd_s e _).trans ?_
    rw [show (3 : Int32) + nI (tk L q 2) = nI (3 + tk L q 2) from nI_add 3 _]
    rfl
  · by_cases h17 : s = 17
    · subst h17
      refine (if_neg (by decide)).trans ?_
      refine (if_pos rfl).trans ?_
      have e := BR_tq hR hl hn q (k := 3) (by omega)
      refine (Bd_s e _).trans ?_
      rw [show (3 : Int32) + nI (tk L q 3) = nI (3 + tk L q 3) from nI_add 3 _]
      rfl
    · by_cases h18 : s = 18
      · subst h18
        refine (if_neg (by decide)).trans ?_
        refine (if_neg (by decide)).trans ?_
        refine (if_pos rfl).trans ?_
        have e := BR_tq hR hl hn q (k := 7) (by omega)
        refine (Bd_s e _).trans ?_
        rw [show (11 : Int32) + nI (tk L q 7) = nI (11 + tk L q 7) from nI_add 11 _]
        rfl
      · rw [if_pos (show s < 16 by omega), if_pos (show s < 16 by omega)]
        (refine (if_neg ?_).trans ?_; focus ((try simp (disch := omega) only [Int32.le_iff_toInt_le, Int32.lt_iff_toInt_lt, ← Int32.toInt_inj, nI_toInt, nI_addL, nI_Ladd, nI_mulL, nI_Lmul, nI_add, nI_subL, nI_Lsub, nI_sub, Int32.reduceToInt, m1_toInt, ne_eq, Int32.reduceMul, Int32.reduceAdd, Int32.reduceSub]) <;> omega)); (refine (if_neg ?_).trans ?_; focus ((try simp (disch := omega) only [Int32.le_iff_toInt_le, Int32.lt_iff_toInt_lt, ← Int32.toInt_inj, nI_toInt, nI_addL, nI_Ladd, nI_mulL, nI_Lmul, nI_add, nI_subL, nI_Lsub, nI_sub, Int32.reduceToInt, m1_toInt, ne_eq, Int32.reduceMul, Int32.reduceAdd, Int32.reduceSub]) <;> omega)); (refine (if_neg ?_).trans ?_; focus ((try simp (disch := omega) only [Int32.le_iff_toInt_le, Int32.lt_iff_toInt_lt, ← Int32.toInt_inj, nI_toInt, nI_addL, nI_Ladd, nI_mulL, nI_Lmul, nI_add, nI_subL, nI_Lsub, nI_sub, Int32.reduceToInt, m1_toInt, ne_eq, Int32.reduceMul, Int32.reduceAdd, Int32.reduceSub]) <;> omega))
        rfl
theorem Un_lengths_loop {L : List Int32} {c n : Nat} {f : Nat → Int32} (hR : Rw c f L) (hl : L.length = n) (hn : n ≤ 65536) {zs : Nat → Nat} {num sym : Nat → Int32} (hC : CoC zs 19 num sym 19) {tot : Nat} (htot : tot ≤ 316) :
    ∀ (j i q fuel : Nat) (A : List Nat) (g : Nat → Int32), tot < A.length + j → i ≤ A.length → A.length ≤ tot → j < fuel → LA A g →
    ∃ (tg d q' : Nat) (g' : Nat → Int32), lp_Un_readLengths_4 NF (nI tot) (nI (8 * n)) c f 316 16 num 19 sym fuel (nI A.length) (nI i) (nI (pos n q)) (flg n q) g = some (tg, nI d, nI (pos n q'), flg n q', g') ∧ q ≤ q' ∧ d ≤ tot ∧
      ((tg = 0 ∧ lnS zs L tot j q A = none) ∨ (tg = 1 ∧ d = tot ∧ ∃ A', A'.length = tot ∧ LA A' g' ∧ ((q' ≤ 8 * n ∧ lnS zs L tot j q A = some (q', A')) ∨ (8 * n < q' ∧ lnS zs L tot j q A = none)))) := by
  intro j
  induction j with
  | zero =>
    intro i q fuel A g hj hi hA hf hL
    omega
  | succ j ih =>
    intro i q fuel A g hj hi hA hf hL
    obtain ⟨u, rfl⟩ : ∃ u, fuel = u + 1 := ⟨fuel - 1, by omega⟩
    have eS : lnS zs L tot (j + 1) q A = (if 8 * L.length < q then none else if tot ≤ A.length then some (q, A) else match hx zs 19 L q with
      | none => none
      | some (s, q1) => if s < 16 then lnS zs L tot j q1 (A ++ [s]) else if s = 16 ∧ A.length = 0 then none else if tot < A.length + rt L q1 s then none else lnS zs L tot j (q1 + re s) (A ++ List.replicate (rt L q1 s) (if s = 16 then A.getD (A.length - 1) 0 else 0))) := rfl
    rw [hl] at eS
    by_cases hd : tot ≤ A.length
    · refine ⟨1, tot, q, g, ?_, Nat.le_refl _, Nat.le_refl _, Or.inr ⟨rfl, rfl, A, by omega, hL, ?_⟩⟩
      · rw [ls_Un_readLengths_4]
        unfold lb_Un_readLengths_4
        rw [show A.length = tot by omega]
        by_cases h2 : tot ≤ i
        · (refine (if_pos ?_).trans ?_; focus ((try simp (disch := omega) only [Int32.le_iff_toInt_le, Int32.lt_iff_toInt_lt, ← Int32.toInt_inj, nI_toInt, nI_addL, nI_Ladd, nI_mulL, nI_Lmul, nI_add, nI_subL, nI_Lsub, nI_sub, Int32.reduceToInt, m1_toInt, ne_eq, Int32.reduceMul, Int32.reduceAdd, Int32.reduceSub]) <;> omega)); rfl
        · (refine (if_neg ?_).trans ?_; focus ((try simp (disch := omega) only [Int32.le_iff_toInt_le, Int32.lt_iff_toInt_lt, ← Int32.toInt_inj, nI_toInt, nI_addL, nI_Ladd, nI_mulL, nI_Lmul, nI_add, nI_subL, nI_Lsub, nI_sub, Int32.reduceToInt, m1_toInt, ne_eq, Int32.reduceMul, Int32.reduceAdd, Int32.reduceSub]) <;> omega)); (refine (if_pos ?_).trans ?_; focus ((try simp (disch := omega) only [Int32.le_iff_toInt_le, Int32.lt_iff_toInt_lt, ← Int32.toInt_inj, nI_toInt, nI_addL, nI_Ladd, nI_mulL, nI_Lmul, nI_add, nI_subL, nI_Lsub, nI_sub, Int32.reduceToInt, m1_toInt, ne_eq, Int32.reduceMul, Int32.reduceAdd, Int32.reduceSub]) <;> omega)); rfl
      · by_cases h8 : 8 * n < q
        · rw [if_pos h8] at eS
          exact Or.inr ⟨h8, eS⟩
        · rw [if_neg h8, if_pos hd] at eS
          exact Or.inl ⟨by omega, eS⟩
    · rw [if_neg hd] at eS
      obtain ⟨x, q1, ex, hq1, hx1⟩ := Co_next hR hl hn hC q
      rcases hx1 with ⟨hN, rfl⟩ | ⟨s, hS, hs, rfl⟩
      · rw [hN] at eS
        refine ⟨0, A.length, q1, g, ?_, by omega, hA, Or.inl ⟨rfl, ?_⟩⟩
        · rw [ls_Un_readLengths_4]
          unfold lb_Un_readLengths_4
          (refine (if_neg ?_).trans ?_; focus ((try simp (disch := omega) only [Int32.le_iff_toInt_le, Int32.lt_iff_toInt_lt, ← Int32.toInt_inj, nI_toInt, nI_addL, nI_Ladd, nI_mulL, nI_Lmul, nI_add, nI_subL, nI_Lsub, nI_sub, Int32.reduceToInt, m1_toInt, ne_eq, Int32.reduceMul, Int32.reduceAdd, Int32.reduceSub]) <;> omega)); (refine (if_neg ?_).trans ?_; focus ((try simp (disch := omega) only [Int32.le_iff_toInt_le, Int32.lt_iff_toInt_lt, ← Int32.toInt_inj, nI_toInt, nI_addL, nI_Ladd, nI_mulL, nI_Lmul, nI_add, nI_subL, nI_Lsub, nI_sub, Int32.reduceToInt, m1_toInt, ne_eq, Int32.reduceMul, Int32.reduceAdd, Int32.reduceSub]) <;> omega))
          rw [Bd_s ex]
          rfl
        · rw [eS]
          split <;> rfl
      · rw [hS] at eS
        have eS : lnS zs L tot (j + 1) q A = (if 8 * n < q then none else if s < 16 then lnS zs L tot j q1 (A ++ [s]) else if s = 16 ∧ A.length = 0 then none else if tot < A.length + rt L q1 s then none else lnS zs L tot j (q1 + re s) (A ++ List.replicate (rt L q1 s) (if s = 16 then A.getD (A.length - 1) 0 else 0))) := eS
        have hrt := rt_le L q1 s
        have et := Un_times hR hl hn q1 hs
        -- the two ways that fail
        by_cases hz : s = 16 ∧ A.length = 0
        · obtain ⟨rfl, hA0⟩ := hz
          rw [if_neg (show ¬ 16 < 16 by omega), if_pos (show 16 = 16 ∧ A.length = 0 from ⟨rfl, hA0⟩)] at eS
          refine ⟨0, A.length, q1, g, ?_, by omega, hA, Or.inl ⟨rfl, ?_⟩⟩
          · rw [ls_Un_readLengths_4]
            unfold lb_Un_readLengths_4
            (refine (if_neg ?_).trans ?_; focus ((try simp (disch := omega) only [Int32.le_iff_toInt_le, Int32.lt_iff_toInt_lt, ← Int32.toInt_inj, nI_toInt, nI_addL, nI_Ladd, nI_mulL, nI_Lmul, nI_add, nI_subL, nI_Lsub, nI_sub, Int32.reduceToInt, m1_toInt, ne_eq, Int32.reduceMul, Int32.reduceAdd, Int32.reduceSub]) <;> omega)); (refine (if_neg ?_).trans ?_; focus ((try simp (disch := omega) only [Int32.le_iff_toInt_le, Int32.lt_iff_toInt_lt, ← Int32.toInt_inj, nI_toInt, nI_addL, nI_Ladd, nI_mulL, nI_Lmul, nI_add, nI_subL, nI_Lsub, nI_sub, Int32.reduceToInt, m1_toInt, ne_eq, Int32.reduceMul, Int32.reduceAdd, Int32.reduceSub]) <;> omega))
            rw [Bd_s ex]
            (refine (if_neg ?_).trans ?_; focus ((try simp (disch := omega) only [Int32.le_iff_toInt_le, Int32.lt_iff_toInt_lt, ← Int32.toInt_inj, nI_toInt, nI_addL, nI_Ladd, nI_mulL, nI_Lmul, nI_add, nI_subL, nI_Lsub, nI_sub, Int32.reduceToInt, m1_toInt, ne_eq, Int32.reduceMul, Int32.reduceAdd, Int32.reduceSub]) <;> omega))
            rw [Jn_s]
            refine (if_pos rfl).trans ?_
            exact if_pos (by rw [hA0]; rfl)
          · rw [eS]
            split <;> rfl
        · -- the value
          obtain ⟨v, hv, hv15⟩ : ∃ v : Nat, v = (if s < 16 then s else if s = 16 then A.getD (A.length - 1) 0 else 0) ∧ v ≤ 15 := ⟨_, rfl, by
            split
            · omega
            · split
              · by_cases h0 : A.length = 0
                · exact absurd ⟨‹s = 16›, h0⟩ hz
                · exact hL.2 _ (by omega)
              · omega⟩
          have key : ∀ y : Option (Nat × Int32 × Int32 × Int32 × (Nat → Int32)), (if nI A.length + nI (if s < 16 then 1 else rt L q1 s) ≤ nI tot then (Bd (lp_Un_readLengths_96 NF (nI v) (nI A.length + nI (if s < 16 then 1 else rt L q1 s)) 316 NF (nI A.length) g) fun r43 => lp_Un_readLengths_4 NF (nI tot) (nI (8 * n)) c f 316 16 num 19 sym u r43.1 (nI (i + 1)) (nI (pos n (if s < 16 then q1 else q1 + re s))) (flg n (if s < 16 then q1 else q1 + re s)) r43.2) else some (0, nI A.length, nI (pos n (if s < 16 then q1 else q1 + re s)), flg n (if s < 16 then q1 else q1 + re s), g)) = y →
              lp_Un_readLengths_4 NF (nI tot) (nI (8 * n)) c f 316 16 num 19 sym (u + 1) (nI A.length) (nI i) (nI (pos n q)) (flg n q) g = y := by
            intro y hy
            rw [ls_Un_readLengths_4]
            unfold lb_Un_readLengths_4
            (refine (if_neg ?_).trans ?_; focus ((try simp (disch := omega) only [Int32.le_iff_toInt_le, Int32.lt_iff_toInt_lt, ← Int32.toInt_inj, nI_toInt, nI_addL, nI_Ladd, nI_mulL, nI_Lmul, nI_add, nI_subL, nI_Lsub, nI_sub, Int32.reduceToInt, m1_toInt, ne_eq, Int32.reduceMul, Int32.reduceAdd, Int32.reduceSub]) <;> omega)); (refine (if_neg ?_).trans ?_; focus ((try simp (disch := omega) only [Int32.le_iff_toInt_le, Int32.lt_iff_toInt_lt, ← Int32.toInt_inj, nI_toInt, nI_addL, nI_Ladd, nI_mulL, nI_Lmul, nI_add, nI_subL, nI_Lsub, nI_sub, Int32.reduceToInt, m1_toInt, ne_eq, Int32.reduceMul, Int32.reduceAdd, Int32.reduceSub]) <;> omega))
            rw [Bd_s ex]
            (refine (if_neg ?_).trans ?_; focus ((try simp (disch := omega) only [Int32.le_iff_toInt_le, Int32.lt_iff_toInt_lt, ← Int32.toInt_inj, nI_toInt, nI_addL, nI_Ladd, nI_mulL, nI_Lmul, nI_add, nI_subL, nI_Lsub, nI_sub, Int32.reduceToInt, m1_toInt, ne_eq, Int32.reduceMul, Int32.reduceAdd, Int32.reduceSub]) <;> omega))
            rw [Jn_s]
            have inner : (Jn (fun (t31 : Int32) => Bd (f_Un_readTimes NF (nI (8 * n)) (nI (pos n q1)) (flg n q1) c f (nI s)) fun r32 => Lt (nI A.length + r32.1) fun v33 => if v33 ≤ nI tot then (Bd (lp_Un_readLengths_96 NF t31 v33 316 NF (nI A.length) g) fun r43 => Lt (nI i + 1) fun v44 => lp_Un_readLengths_4 NF (nI tot) (nI (8 * n)) c f 316 16 num 19 sym u r43.1 v44 r32.2.1 r32.2.2 r43.2) else some (0, nI A.length, r32.2.1, r32.2.2, g)) fun j31 => if (16 : Int32) ≤ nI s then (if nI s = (16 : Int32) then (Ix (nI A.length - 1) 316 <| j31 (g (nI A.length - 1).toNatClampNeg)) else j31 0) else j31 (nI s)) = y := by
              rw [Jn_s]
              simp only [Lt_s, nI_1]
              rw [Bd_s et, Bd_s et, Bd_s et]
              by_cases hs16 : s < 16
              · (refine (if_neg ?_).trans ?_; focus ((try simp (disch := omega) only [Int32.le_iff_toInt_le, Int32.lt_iff_toInt_lt, ← Int32.toInt_inj, nI_toInt, nI_addL, nI_Ladd, nI_mulL, nI_Lmul, nI_add, nI_subL, nI_Lsub, nI_sub, Int32.reduceToInt, m1_toInt, ne_eq, Int32.reduceMul, Int32.reduceAdd, Int32.reduceSub]) <;> omega))
                rw [show nI s = nI v by rw [hv, if_pos hs16]]
                exact hy
              · (refine (if_pos ?_).trans ?_; focus ((try simp (disch := omega) only [Int32.le_iff_toInt_le, Int32.lt_iff_toInt_lt, ← Int32.toInt_inj, nI_toInt, nI_addL, nI_Ladd, nI_mulL, nI_Lmul, nI_add, nI_subL, nI_Lsub, nI_sub, Int32.reduceToInt, m1_toInt, ne_eq, Int32.reduceMul, Int32.reduceAdd, Int32.reduceSub]) <;> omega))
                by_cases he : s = 16
                · have hA0 : A.length ≠ 0 := fun e => hz ⟨he, e⟩
                  have eg : g (A.length - 1) = nI v := by
                    rw [hL.1 _ (by omega), hv, if_neg hs16, if_pos he]
                  (refine (if_pos ?_).trans ?_; focus ((try simp (disch := omega) only [Int32.le_iff_toInt_le, Int32.lt_iff_toInt_lt, ← Int32.toInt_inj, nI_toInt, nI_addL, nI_Ladd, nI_mulL, nI_Lmul, nI_add, nI_subL, nI_Lsub, nI_sub, Int32.reduceToInt, m1_toInt, ne_eq, Int32.reduceMul, Int32.reduceAdd, Int32.reduceSub]) <;> omega))
                  rw [show nI A.length - 1 = nI (A.length - 1) from nI_sub (b := 1) (by omega), Ix_s (by omega) (by omega), nI_clamp (by omega), eg]
                  exact hy
                · (refine (if_neg ?_).trans ?_; focus ((try simp (disch := omega) only [Int32.le_iff_toInt_le, Int32.lt_iff_toInt_lt, ← Int32.toInt_inj, nI_toInt, nI_addL, nI_Ladd, nI_mulL, nI_Lmul, nI_add, nI_subL, nI_Lsub, nI_sub, Int32.reduceToInt, m1_toInt, ne_eq, Int32.reduceMul, Int32.reduceAdd, Int32.reduceSub]) <;> omega))
                  rw [show (0 : Int32) = nI v by rw [hv, if_neg hs16, if_neg he]; rfl]
                  exact hy
            by_cases he : s = 16
            · have hA0 : A.length ≠ 0 := fun e => hz ⟨he, e⟩
              (refine (if_pos ?_).trans ?_; focus ((try simp (disch := omega) only [Int32.le_iff_toInt_le, Int32.lt_iff_toInt_lt, ← Int32.toInt_inj, nI_toInt, nI_addL, nI_Ladd, nI_mulL, nI_Lmul, nI_add, nI_subL, nI_Lsub, nI_sub, Int32.reduceToInt, m1_toInt, ne_eq, Int32.reduceMul, Int32.reduceAdd, Int32.reduceSub]) <;> omega)); (refine (if_neg ?_).trans ?_; focus ((try simp (disch := omega) only [Int32.le_iff_toInt_le, Int32.lt_iff_toInt_lt, ← Int32.toInt_inj, nI_toInt, nI_addL, nI_Ladd, nI_mulL, nI_Lmul, nI_add, nI_subL, nI_Lsub, nI_sub, Int32.reduceToInt, m1_toInt, ne_eq, Int32.reduceMul, Int32.reduceAdd, Int32.reduceSub]) <;> omega))
              exact inner
            · (refine (if_neg ?_).trans ?_; focus ((try simp (disch := omega) only [Int32.le_iff_toInt_le, Int32.lt_iff_toInt_lt, ← Int32.toInt_inj, nI_toInt, nI_addL, nI_Ladd, nI_mulL, nI_Lmul, nI_add, nI_subL, nI_Lsub, nI_sub, Int32.reduceToInt, m1_toInt, ne_eq, Int32.reduceMul, Int32.reduceAdd, Int32.reduceSub]) <;> omega))
              exact inner
          -- how often
          obtain ⟨t, ht⟩ : ∃ t : Nat, t = (if s < 16 then 1 else rt L q1 s) := ⟨_, rfl⟩
          obtain ⟨q2, hq2⟩ : ∃ q2 : Nat, q2 = (if s < 16 then q1 else q1 + re s) := ⟨_, rfl⟩
          rw [← ht, ← hq2] at key
          have ht1 : 1 ≤ t ∧ t ≤ 138 := by
            rw [ht]
            split <;> omega
          have hqq : q1 ≤ q2 := by
            rw [hq2]
            split <;> omega
          have eS : lnS zs L tot (j + 1) q A = (if 8 * n < q then none else if tot < A.length + t then none else lnS zs L tot j q2 (A ++ List.replicate t v)) := by
            rw [eS]
            by_cases hs16 : s < 16
            · rw [if_pos hs16, ht, hq2, hv, if_pos hs16, if_pos hs16, if_pos hs16, if_neg (show ¬ tot < A.length + 1 by omega)]
              rfl
            · rw [if_neg hs16, if_neg hz, ht, hq2, hv, if_neg hs16, if_neg hs16, if_neg hs16]
          by_cases hbig : tot < A.length + t
          · rw [if_pos hbig] at eS
            refine ⟨0, A.length, q2, g, key _ ?_, by omega, hA, Or.inl ⟨rfl, ?_⟩⟩
            · rw [nI_add]
              (refine (if_neg ?_).trans ?_; focus ((try simp (disch := omega) only [Int32.le_iff_toInt_le, Int32.lt_iff_toInt_lt, ← Int32.toInt_inj, nI_toInt, nI_addL, nI_Ladd, nI_mulL, nI_Lmul, nI_add, nI_subL, nI_Lsub, nI_sub, Int32.reduceToInt, m1_toInt, ne_eq, Int32.reduceMul, Int32.reduceAdd, Int32.reduceSub]) <;> omega)); rfl
            · rw [eS]
              split <;> rfl
          · rw [if_neg hbig] at eS
            obtain ⟨g1, e1, a1, a2⟩ := rl_96 (v := nI v) (b := A.length + t) (by omega) t A.length NF g (by omega) (Nat.lt_of_le_of_lt ht1.2 (by decide))
            have hL' : LA (A ++ List.replicate t v) g1 := LA_rep hL hv15 a1 a2
            have el : (A ++ List.replicate t v).length = A.length + t := by rw [List.length_append, List.length_replicate]
            obtain ⟨tg, d, q', g', e2, hq', hdt, hO⟩ := ih (i + 1) q2 u (A ++ List.replicate t v) g1 (by omega) (by omega) (by omega) (by omega) hL'
            rw [el] at e2
            refine ⟨tg, d, q', g', key _ ?_, by omega, hdt, ?_⟩
            · rw [nI_add]
              (refine (if_pos ?_).trans ?_; focus ((try simp (disch := omega) only [Int32.le_iff_toInt_le, Int32.lt_iff_toInt_lt, ← Int32.toInt_inj, nI_toInt, nI_addL, nI_Ladd, nI_mulL, nI_Lmul, nI_add, nI_subL, nI_Lsub, nI_sub, Int32.reduceToInt, m1_toInt, ne_eq, Int32.reduceMul, Int32.reduceAdd, Int32.reduceSub]) <;> omega))
              rw [Bd_s e1]
              exact e2
            · by_cases h8 : 8 * n < q
              · rw [if_pos h8] at eS
                rcases hO with ⟨a, _⟩ | ⟨a, b, A', c1, c2, c3⟩
                · exact Or.inl ⟨a, eS⟩
                · exact Or.inr ⟨a, b, A', c1, c2, Or.inr ⟨by omega, eS⟩⟩
              · rw [if_neg h8] at eS
                rw [eS]
                exact hO
