/-! open: what is to be read, and the class (ours) -/
def opL (L : List Int32) : Nat → Nat → List Int32 → Nat → Nat → Option (Nat × List Int32 × Nat × Nat)
  | 0, _, _, _, _ => none
  | j + 1, q, T, b, t => if 8 * L.length < q then none else match bkS L (tk L (q + 1) 2) (q + 3) T with
    | none => none
    | some (q', T') => if tk L q 1 = 1 then some (q', T', b + 1, if tk L (q + 1) 2 = 2 then t + 1 else t) else opL L j q' T' (b + 1) (if tk L (q + 1) 2 = 2 then t + 1 else t)
theorem opL_out {L : List Int32} {q : Nat} (h : 8 * L.length ≤ q) (T : List Int32) (b t : Nat) : ∀ j, opL L j q T b t = none
  | 0 => rfl
  | j + 1 => by
    unfold opL
    rw [bkS_out (by omega)]
    split <;> rfl
/-- the rows of the codes that a reading tells -/
abbrev CA : Type := AR × AR × AR × AR × AR × AR × AR × AR × AR × AR
abbrev CA.g (X : CA) : AR := X.1
abbrev CA.a1 (X : CA) : AR := X.2.1
abbrev CA.a2 (X : CA) : AR := X.2.2.1
abbrev CA.a3 (X : CA) : AR := X.2.2.2.1
abbrev CA.b1 (X : CA) : AR := X.2.2.2.2.1
abbrev CA.b2 (X : CA) : AR := X.2.2.2.2.2.1
abbrev CA.b3 (X : CA) : AR := X.2.2.2.2.2.2.1
abbrev CA.d1 (X : CA) : AR := X.2.2.2.2.2.2.2.1
abbrev CA.d2 (X : CA) : AR := X.2.2.2.2.2.2.2.2.1
abbrev CA.d3 (X : CA) : AR := X.2.2.2.2.2.2.2.2.2
theorem Un_read_loop {L : List Int32} {c n : Nat} {f : AR} (hR : Rw c f L) (hl : L.length = n) (hn : n ≤ 65536) {nl sl nd sd : AR} (hC : CoC flL 288 nl sl 288) (hD : CoC flD 32 nd sd 32) :
    ∀ (j i q b t fuel : Nat) (X : CA) (T : List Int32) (ct : Nat) (ft : AR), 8 * n < q + j → i ≤ q → i ≤ 524288 → j + 1 < fuel → Rw ct ft T → T.length ≤ 65536 →
    ∃ (tg : Nat) (la : Int32) (b' t' q' : Nat) (Y : CA) (T' : List Int32) (c' : Nat) (f' : AR) (k z : Nat), lp_Un_read_37 NF (nI (8 * n)) c f 316 16 nl 288 sl 16 nd 32 sd 16 16 19 16 16 286 16 16 30 fuel 0 (nI i) (nI b) (nI t) (nI (pos n q)) (flg n q) X.g X.a1 X.a2 X.a3 X.b1 X.b2 X.b3 X.d1 X.d2 X.d3 (nI T.length) ct ft = some ((tg, la, nI b', nI t', nI (pos n q'), flg n q', Y.g, Y.a1, Y.a2, Y.a3, Y.b1, Y.b2, Y.b3, Y.d1, Y.d2, Y.d3, nI T'.length, c', f'), k, z) ∧
      Rw c' f' T' ∧ T'.length ≤ 65536 ∧ k + kap c' ≤ kap ct ∧ z + phi c' ≤ phi ct ∧ ((tg = 1 ∧ la = 1 ∧ q' ≤ 8 * n ∧ opL L j q T b t = some (q', T', b', t')) ∨ ((tg = 0 ∨ (tg = 1 ∧ la = 0)) ∧ opL L j q T b t = none)) := by
  intro j
  induction j with
  | zero =>
    intro i q b t fuel X T ct ft hq hi hi2 hf hT hTl
    -- the reader has passed the end: one turn more, which fails
    obtain ⟨u, rfl⟩ : ∃ u, fuel = u + 1 := ⟨fuel - 1, by omega⟩
    by_cases hi3 : 524288 ≤ i
    · refine ⟨1, 0, b, t, q, X, T, ct, ft, 0, 0, ?_, hT, hTl, by omega, by omega, Or.inr ⟨Or.inr ⟨rfl, rfl⟩, rfl⟩⟩
      rw [ls_Un_read_37]
      unfold lb_Un_read_37
      (refine (if_pos ?_).trans ?_; focus ((try simp (disch := omega) only [Int32.le_iff_toInt_le, Int32.lt_iff_toInt_lt, ← Int32.toInt_inj, nI_toInt, nI_addL, nI_Ladd, nI_mulL, nI_Lmul, nI_add, nI_subL, nI_Lsub, nI_sub, Int32.reduceToInt, m1_toInt, ne_eq, Int32.reduceMul, Int32.reduceAdd, Int32.reduceSub]) <;> omega)); rfl
    · have e20 : f_BR_take NF (nI (8 * n)) (nI (pos n q)) (flg n q) c f 1 = some (nI (tk L q 1), nI (pos n (q + 1)), flg n (q + 1)) := BR_tq hR hl hn q (k := 1) (by omega)
      have e23 : f_BR_take NF (nI (8 * n)) (nI (pos n (q + 1))) (flg n (q + 1)) c f 2 = some (nI (tk L (q + 1) 2), nI (pos n (q + 3)), flg n (q + 3)) := BR_tq hR hl hn (q + 1) (k := 2) (by omega)
      have hk := tk_lt L (q + 1) 2
      obtain ⟨fl, q', T', c', f', g', a1', a2', a3', b1', b2', b3', d1', d2', d3', k, z, e24, h1, h2, h3, h4, h5, h6, h7⟩ := Un_block hR hl hn hC hD (q + 3) hT hTl hk t X.g X.a1 X.a2 X.a3 X.b1 X.b2 X.b3 X.d1 X.d2 X.d3
      have hfl : flg n q' = 1 := flg_out (by omega)
      have inner : ∀ t22 : Int32, (Bd (f_BR_take NF (nI (8 * n)) (nI (pos n (q + 1))) (flg n (q + 1)) c f 2) fun r23 => Bk (f_Un_readBlock NF (nI t) (nI (8 * n)) r23.2.1 r23.2.2 c f (nI T.length) ct ft 16 nl 288 sl 16 nd 32 sd 316 X.g 16 X.a1 16 X.a2 19 X.a3 16 X.b1 16 X.b2 286 X.b3 16 X.d1 16 X.d2 30 X.d3 r23.1) fun r24 => if r24.1 = 0 then some (((0 : Nat), t22, nI b, r24.2.1, r24.2.2.1, r24.2.2.2.1, r24.2.2.2.2.2.2.2.1, r24.2.2.2.2.2.2.2.2.1, r24.2.2.2.2.2.2.2.2.2.1, r24.2.2.2.2.2.2.2.2.2.2.1, r24.2.2.2.2.2.2.2.2.2.2.2.1, r24.2.2.2.2.2.2.2.2.2.2.2.2.1, r24.2.2.2.2.2.2.2.2.2.2.2.2.2.1, r24.2.2.2.2.2.2.2.2.2.2.2.2.2.2.1, r24.2.2.2.2.2.2.2.2.2.2.2.2.2.2.2.1, r24.2.2.2.2.2.2.2.2.2.2.2.2.2.2.2.2, r24.2.2.2.2.1, r24.2.2.2.2.2.1, r24.2.2.2.2.2.2.1), 0, 0) else (Bd (f_BR_ranOut NF r24.2.2.2.1) fun r27 => if r27 = 0 then (Lt (nI b + 1) fun v29 => Lt (nI i + 1) fun v30 => lp_Un_read_37 NF (nI (8 * n)) c f 316 16 nl 288 sl 16 nd 32 sd 16 16 19 16 16 286 16 16 30 u t22 v30 v29 r24.2.1 r24.2.2.1 r24.2.2.2.1 r24.2.2.2.2.2.2.2.1 r24.2.2.2.2.2.2.2.2.1 r24.2.2.2.2.2.2.2.2.2.1 r24.2.2.2.2.2.2.2.2.2.2.1 r24.2.2.2.2.2.2.2.2.2.2.2.1 r24.2.2.2.2.2.2.2.2.2.2.2.2.1 r24.2.2.2.2.2.2.2.2.2.2.2.2.2.1 r24.2.2.2.2.2.2.2.2.2.2.2.2.2.2.1 r24.2.2.2.2.2.2.2.2.2.2.2.2.2.2.2.1 r24.2.2.2.2.2.2.2.2.2.2.2.2.2.2.2.2 r24.2.2.2.2.1 r24.2.2.2.2.2.1 r24.2.2.2.2.2.2.1) else some ((0, t22, nI b, r24.2.1, r24.2.2.1, r24.2.2.2.1, r24.2.2.2.2.2.2.2.1, r24.2.2.2.2.2.2.2.2.1, r24.2.2.2.2.2.2.2.2.2.1, r24.2.2.2.2.2.2.2.2.2.2.1, r24.2.2.2.2.2.2.2.2.2.2.2.1, r24.2.2.2.2.2.2.2.2.2.2.2.2.1, r24.2.2.2.2.2.2.2.2.2.2.2.2.2.1, r24.2.2.2.2.2.2.2.2.2.2.2.2.2.2.1, r24.2.2.2.2.2.2.2.2.2.2.2.2.2.2.2.1, r24.2.2.2.2.2.2.2.2.2.2.2.2.2.2.2.2, r24.2.2.2.2.1, r24.2.2.2.2.2.1, r24.2.2.2.2.2.2.1), 0, 0))) = some ((0, t22, nI b, nI (if tk L (q + 1) 2 = 2 then t + 1 else t), nI (pos n q'), flg n q', g', a1', a2', a3', b1', b2', b3', d1', d2', d3', nI T'.length, c', f'), k + 0, z + 0) := by
        intro t22
        rw [Bd_s e23]
        refine Bk_s e24 ?_
        rcases h6 with rfl | rfl
        · rfl
        · refine (if_neg (show ¬ (1 : Int32) = 0 by decide)).trans ?_
          have er : f_BR_ranOut NF (flg n q') = some 1 := by
            rw [hfl]
            rfl
          exact (Bd_s er _).trans rfl
      by_cases h1' : tk L q 1 = 1
      · refine ⟨0, 1, b, (if tk L (q + 1) 2 = 2 then t + 1 else t), q', ⟨g', a1', a2', a3', b1', b2', b3', d1', d2', d3'⟩, T', c', f', k + 0, z + 0, ?_, h2, h3, h4, h5, Or.inr ⟨Or.inl rfl, rfl⟩⟩
        rw [ls_Un_read_37]
        unfold lb_Un_read_37
        (refine (if_neg ?_).trans ?_; focus ((try simp (disch := omega) only [Int32.le_iff_toInt_le, Int32.lt_iff_toInt_lt, ← Int32.toInt_inj, nI_toInt, nI_addL, nI_Ladd, nI_mulL, nI_Lmul, nI_add, nI_subL, nI_Lsub, nI_sub, Int32.reduceToInt, m1_toInt, ne_eq, Int32.reduceMul, Int32.reduceAdd, Int32.reduceSub]) <;> omega))
        refine (if_pos rfl).trans ?_
        rw [Bd_s e20, Jn_s]
        refine (if_pos (by show nI (tk L q 1) = 1; rw [h1']; rfl)).trans ?_
        exact inner 1
      · refine ⟨0, 0, b, (if tk L (q + 1) 2 = 2 then t + 1 else t), q', ⟨g', a1', a2', a3', b1', b2', b3', d1', d2', d3'⟩, T', c', f', k + 0, z + 0, ?_, h2, h3, h4, h5, Or.inr ⟨Or.inl rfl, rfl⟩⟩
        have hb1 := tk_lt L q 1
        rw [ls_Un_read_37]
        unfold lb_Un_read_37
        (refine (if_neg ?_).trans ?_; focus ((try simp (disch := omega) only [Int32.le_iff_toInt_le, Int32.lt_iff_toInt_lt, ← Int32.toInt_inj, nI_toInt, nI_addL, nI_Ladd, nI_mulL, nI_Lmul, nI_add, nI_subL, nI_Lsub, nI_sub, Int32.reduceToInt, m1_toInt, ne_eq, Int32.reduceMul, Int32.reduceAdd, Int32.reduceSub]) <;> omega))
        refine (if_pos rfl).trans ?_
        rw [Bd_s e20, Jn_s]
        refine (if_neg (show ¬ nI (tk L q 1) = 1 by ((try simp (disch := omega) only [Int32.le_iff_toInt_le, Int32.lt_iff_toInt_lt, ← Int32.toInt_inj, nI_toInt, nI_addL, nI_Ladd, nI_mulL, nI_Lmul, nI_add, nI_subL, nI_Lsub, nI_sub, Int32.reduceToInt, m1_toInt, ne_eq, Int32.reduceMul, Int32.reduceAdd, Int32.reduceSub]) <;> omega))).trans ?_
        exact inner 0
  | succ j ih =>
    intro i q b t fuel X T ct ft hq hi hi2 hf hT hTl
    obtain ⟨u, rfl⟩ : ∃ u, fuel = u + 1 + 1 := ⟨fuel - 2, by omega⟩
    by_cases hi3 : 524288 ≤ i
    · refine ⟨1, 0, b, t, q, X, T, ct, ft, 0, 0, ?_, hT, hTl, by omega, by omega, Or.inr ⟨Or.inr ⟨rfl, rfl⟩, opL_out (by omega) T b t _⟩⟩
      rw [ls_Un_read_37]
      unfold lb_Un_read_37
      (refine (if_pos ?_).trans ?_; focus ((try simp (disch := omega) only [Int32.le_iff_toInt_le, Int32.lt_iff_toInt_lt, ← Int32.toInt_inj, nI_toInt, nI_addL, nI_Ladd, nI_mulL, nI_Lmul, nI_add, nI_subL, nI_Lsub, nI_sub, Int32.reduceToInt, m1_toInt, ne_eq, Int32.reduceMul, Int32.reduceAdd, Int32.reduceSub]) <;> omega)); rfl
    · have e20 : f_BR_take NF (nI (8 * n)) (nI (pos n q)) (flg n q) c f 1 = some (nI (tk L q 1), nI (pos n (q + 1)), flg n (q + 1)) := BR_tq hR hl hn q (k := 1) (by omega)
      have e23 : f_BR_take NF (nI (8 * n)) (nI (pos n (q + 1))) (flg n (q + 1)) c f 2 = some (nI (tk L (q + 1) 2), nI (pos n (q + 3)), flg n (q + 3)) := BR_tq hR hl hn (q + 1) (k := 2) (by omega)
      have hk := tk_lt L (q + 1) 2
      have hb1 := tk_lt L q 1
      obtain ⟨fl, q', T', c', f', g', a1', a2', a3', b1', b2', b3', d1', d2', d3', k, z, e24, h1, h2, h3, h4, h5, h6, h7⟩ := Un_block hR hl hn hC hD (q + 3) hT hTl hk t X.g X.a1 X.a2 X.a3 X.b1 X.b2 X.b3 X.d1 X.d2 X.d3
      obtain ⟨t2, ht2⟩ : ∃ t2, t2 = (if tk L (q + 1) 2 = 2 then t + 1 else t) := ⟨_, rfl⟩
      rw [← ht2] at e24
      have eS : opL L (j + 1) q T b t = (if 8 * L.length < q then none else match bkS L (tk L (q + 1) 2) (q + 3) T with
        | none => none
        | some (q', T') => if tk L q 1 = 1 then some (q', T', b + 1, if tk L (q + 1) 2 = 2 then t + 1 else t) else opL L j q' T' (b + 1) (if tk L (q + 1) 2 = 2 then t + 1 else t)) := rfl
      rw [← ht2] at eS
      have step : ∀ (t22 : Int32) (y : Option ((Nat × Int32 × Int32 × Int32 × Int32 × Int32 × AR × AR × AR × AR × AR × AR × AR × AR × AR × AR × Int32 × Nat × AR) × Nat × Nat)), t22 = (if tk L q 1 = 1 then 1 else 0) → (Bk (f_Un_readBlock NF (nI t) (nI (8 * n)) (nI (pos n (q + 3))) (flg n (q + 3)) c f (nI T.length) ct ft 16 nl 288 sl 16 nd 32 sd 316 X.g 16 X.a1 16 X.a2 19 X.a3 16 X.b1 16 X.b2 286 X.b3 16 X.d1 16 X.d2 30 X.d3 (nI (tk L (q + 1) 2))) fun r24 => if r24.1 = 0 then some (((0 : Nat), t22, nI b, r24.2.1, r24.2.2.1, r24.2.2.2.1, r24.2.2.2.2.2.2.2.1, r24.2.2.2.2.2.2.2.2.1, r24.2.2.2.2.2.2.2.2.2.1, r24.2.2.2.2.2.2.2.2.2.2.1, r24.2.2.2.2.2.2.2.2.2.2.2.1, r24.2.2.2.2.2.2.2.2.2.2.2.2.1, r24.2.2.2.2.2.2.2.2.2.2.2.2.2.1, r24.2.2.2.2.2.2.2.2.2.2.2.2.2.2.1, r24.2.2.2.2.2.2.2.2.2.2.2.2.2.2.2.1, r24.2.2.2.2.2.2.2.2.2.2.2.2.2.2.2.2, r24.2.2.2.2.1, r24.2.2.2.2.2.1, r24.2.2.2.2.2.2.1), 0, 0) else (Bd (f_BR_ranOut NF r24.2.2.2.1) fun r27 => if r27 = 0 then (Lt (nI b + 1) fun v29 => Lt (nI i + 1) fun v30 => lp_Un_read_37 NF (nI (8 * n)) c f 316 16 nl 288 sl 16 nd 32 sd 16 16 19 16 16 286 16 16 30 (u + 1) t22 v30 v29 r24.2.1 r24.2.2.1 r24.2.2.2.1 r24.2.2.2.2.2.2.2.1 r24.2.2.2.2.2.2.2.2.1 r24.2.2.2.2.2.2.2.2.2.1 r24.2.2.2.2.2.2.2.2.2.2.1 r24.2.2.2.2.2.2.2.2.2.2.2.1 r24.2.2.2.2.2.2.2.2.2.2.2.2.1 r24.2.2.2.2.2.2.2.2.2.2.2.2.2.1 r24.2.2.2.2.2.2.2.2.2.2.2.2.2.2.1 r24.2.2.2.2.2.2.2.2.2.2.2.2.2.2.2.1 r24.2.2.2.2.2.2.2.2.2.2.2.2.2.2.2.2 r24.2.2.2.2.1 r24.2.2.2.2.2.1 r24.2.2.2.2.2.2.1) else some ((0, t22, nI b, r24.2.1, r24.2.2.1, r24.2.2.2.1, r24.2.2.2.2.2.2.2.1, r24.2.2.2.2.2.2.2.2.1, r24.2.2.2.2.2.2.2.2.2.1, r24.2.2.2.2.2.2.2.2.2.2.1, r24.2.2.2.2.2.2.2.2.2.2.2.1, r24.2.2.2.2.2.2.2.2.2.2.2.2.1, r24.2.2.2.2.2.2.2.2.2.2.2.2.2.1, r24.2.2.2.2.2.2.2.2.2.2.2.2.2.2.1, r24.2.2.2.2.2.2.2.2.2.2.2.2.2.2.2.1, r24.2.2.2.2.2.2.2.2.2.2.2.2.2.2.2.2, r24.2.2.2.2.1, r24.2.2.2.2.2.1, r24.2.2.2.2.2.2.1), 0, 0))) = y →
          lp_Un_read_37 NF (nI (8 * n)) c f 316 16 nl 288 sl 16 nd 32 sd 16 16 19 16 16 286 16 16 30 (u + 1 + 1) 0 (nI i) (nI b) (nI t) (nI (pos n q)) (flg n q) X.g X.a1 X.a2 X.a3 X.b1 X.b2 X.b3 X.d1 X.d2 X.d3 (nI T.length) ct ft = y := by
        intro t22 y ht hy
        rw [ls_Un_read_37]
        unfold lb_Un_read_37
        (refine (if_neg ?_).trans ?_; focus ((try simp (disch := omega) only [Int32.le_iff_toInt_le, Int32.lt_iff_toInt_lt, ← Int32.toInt_inj, nI_toInt, nI_addL, nI_Ladd, nI_mulL, nI_Lmul, nI_add, nI_subL, nI_Lsub, nI_sub, Int32.reduceToInt, m1_toInt, ne_eq, Int32.reduceMul, Int32.reduceAdd, Int32.reduceSub]) <;> omega))
        refine (if_pos rfl).trans ?_
        rw [Bd_s e20, Jn_s]
        by_cases h1' : tk L q 1 = 1
        · rw [if_pos h1'] at ht
          subst ht
          refine (if_pos (by show nI (tk L q 1) = 1; rw [h1']; rfl)).trans ?_
          exact (Bd_s e23 _).trans hy
        · rw [if_neg h1'] at ht
          subst ht
          refine (if_neg (show ¬ nI (tk L q 1) = 1 by ((try simp (disch := omega) only [Int32.le_iff_toInt_le, Int32.lt_iff_toInt_lt, ← Int32.toInt_inj, nI_toInt, nI_addL, nI_Ladd, nI_mulL, nI_Lmul, nI_add, nI_subL, nI_Lsub, nI_sub, Int32.reduceToInt, m1_toInt, ne_eq, Int32.reduceMul, Int32.reduceAdd, Int32.reduceSub]) <;> omega))).trans ?_
          exact (Bd_s e23 _).trans hy
      rcases h7 with ⟨rfl, h8, hB⟩ | ⟨hh, hB⟩
      · -- the block is read
        rw [if_neg (by omega), hB] at eS
        have eS : opL L (j + 1) q T b t = (if tk L q 1 = 1 then some (q', T', b + 1, t2) else opL L j q' T' (b + 1) t2) := eS
        have er : f_BR_ranOut NF (flg n q') = some 0 := by
          rw [flg_in h8]
          rfl
        by_cases h1' : tk L q 1 = 1
        · rw [if_pos h1'] at eS
          refine ⟨1, 1, b + 1, t2, q', ⟨g', a1', a2', a3', b1', b2', b3', d1', d2', d3'⟩, T', c', f', k + 0, z + 0, step 1 _ (by rw [if_pos h1']) ?_, h2, h3, h4, h5, Or.inl ⟨rfl, rfl, h8, eS⟩⟩
          refine Bk_s e24 ?_
          refine (if_neg (show ¬ (1 : Int32) = 0 by decide)).trans ?_
          refine (Bd_s er _).trans ?_
          refine (if_pos rfl).trans ?_
          rw [Lt_s, Lt_s, nI_1, nI_1, ls_Un_read_37]
          unfold lb_Un_read_37
          split
          · rfl
          · exact if_neg (by decide)
        · rw [if_neg h1'] at eS
          obtain ⟨tg, la, b', t', q2, Y, T2, c2, f2, k2, z2, e2, R2, hT2, hk2, hz2, hO⟩ := ih (i + 1) q' (b + 1) t2 (u + 1) ⟨g', a1', a2', a3', b1', b2', b3', d1', d2', d3'⟩ T' c' f' (by omega) (by omega) (by omega) (by omega) h2 h3
          refine ⟨tg, la, b', t', q2, Y, T2, c2, f2, k + k2, z + z2, step 0 _ (by rw [if_neg h1']) ?_, R2, hT2, by omega, by omega, by rw [eS]; exact hO⟩
          refine Bk_s e24 ?_
          refine (if_neg (show ¬ (1 : Int32) = 0 by decide)).trans ?_
          refine (Bd_s er _).trans ?_
          refine (if_pos rfl).trans ?_
          rw [Lt_s, Lt_s, nI_1, nI_1]
          exact e2
      · have eS : opL L (j + 1) q T b t = none := by
          rw [eS, hB]
          split <;> rfl
        refine ⟨0, (if tk L q 1 = 1 then 1 else 0), b, t2, q', ⟨g', a1', a2', a3', b1', b2', b3', d1', d2', d3'⟩, T', c', f', k + 0, z + 0, step _ _ rfl ?_, h2, h3, h4, h5, Or.inr ⟨Or.inl rfl, eS⟩⟩
        refine Bk_s e24 ?_
        rcases h6 with rfl | rfl
        · rfl
        · refine (if_neg (show ¬ (1 : Int32) = 0 by decide)).trans ?_
          have h8 : 8 * n < q' := by
            rcases hh with hh | hh
            · exact absurd hh (by decide)
            · exact hh.2
          have er : f_BR_ranOut NF (flg n q') = some 1 := by
            rw [flg_out h8]
            rfl
          exact (Bd_s er _).trans rfl
