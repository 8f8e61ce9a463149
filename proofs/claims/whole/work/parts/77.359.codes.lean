/-! told codes, the class (ours) -/
theorem cnt_ext {ls : Nat → Nat} {n l : Nat} (hl : l ≠ 0) : ∀ d, (∀ s, n ≤ s → s < n + d → ls s = 0) → cnt ls (n + d) l = cnt ls n l
  | 0, _ => rfl
  | d + 1, h => by
    have ih := cnt_ext hl d (fun s a b => h s a (by omega))
    have h0 := h (n + d) (by omega) (by omega)
    show cnt ls (n + d) l + (if ls (n + d) = l then 1 else 0) = _
    rw [ih, h0, if_neg (Ne.symm hl)]
    rfl
theorem cn_ext {ls : Nat → Nat} {n m : Nat} (hnm : n ≤ m) (h : ∀ s, n ≤ s → s < m → ls s = 0) (l : Nat) : cn ls m l = cn ls n l := by
  unfold cn
  by_cases hl : l = 0
  · rw [if_pos hl, if_pos hl]
  · rw [if_neg hl, if_neg hl]
    have := cnt_ext (ls := ls) (n := n) hl (m - n) (fun s a b => h s a (by omega))
    rw [show n + (m - n) = m by omega] at this
    exact this
theorem ofs_ext {ls : Nat → Nat} {n m : Nat} (hnm : n ≤ m) (h : ∀ s, n ≤ s → s < m → ls s = 0) : ∀ l, ofs ls m l = ofs ls n l
  | 0 => rfl
  | l + 1 => by
    show ofs ls m l + cn ls m l = ofs ls n l + cn ls n l
    rw [ofs_ext hnm h l, cn_ext hnm h l]
theorem CoC_ext {ls : Nat → Nat} {n m z : Nat} {num sym : Nat → Int32} (hC : CoC ls n num sym z) (hnm : n ≤ m) (hm : m ≤ 288) (h : ∀ s, n ≤ s → s < m → ls s = 0) : CoC ls m num sym z := by
  obtain ⟨c1, c2, c3, c4, c5, c6⟩ := hC
  refine ⟨fun l hl => by rw [cn_ext hnm h, c1 l hl], fun s hs h0 => ?_, fun s hs => ?_, hm, by rw [ofs_ext hnm h]; exact c5, c6⟩
  · by_cases q : s < n
    · rw [ofs_ext hnm h]
      exact c2 s q h0
    · exact absurd (h s (by omega) hs) h0
  · by_cases q : s < n
    · exact c3 s q
    · rw [h s (by omega) hs]
      omega
def tlL (n : Nat) (A : List Nat) (s : Nat) : Nat := if s < n then A.getD s 0 else 0
def tlD (n m : Nat) (A : List Nat) (s : Nat) : Nat := if s < m then A.getD (n + s) 0 else 0
def tbS (L : List Int32) (q : Nat) : Option (Nat × (Nat → Nat) × (Nat → Nat)) :=
  if 286 < tk L q 5 + 257 ∨ 30 < tk L (q + 5) 5 + 1 then none else
  if krS (zsz L (q + 14) (tk L (q + 10) 4 + 4)) 19 15 ≠ 32768 then none else
  match lnS (zsz L (q + 14) (tk L (q + 10) 4 + 4)) L (tk L q 5 + 257 + (tk L (q + 5) 5 + 1)) 317 (q + 14 + 3 * (tk L (q + 10) 4 + 4)) [] with
  | none => none
  | some (q', A) =>
    if tlL (tk L q 5 + 257) A 256 = 0 then none else if krS (tlL (tk L q 5 + 257) A) 288 15 ≠ 32768 then none else
    if krS (tlD (tk L q 5 + 257) (tk L (q + 5) 5 + 1) A) 32 15 = 32768 ∨ ofs (tlD (tk L q 5 + 257) (tk L (q + 5) 5 + 1) A) 32 16 = 0 ∨ (ofs (tlD (tk L q 5 + 257) (tk L (q + 5) 5 + 1) A) 32 16 = 1 ∧ krS (tlD (tk L q 5 + 257) (tk L (q + 5) 5 + 1) A) 32 15 = 16384) then
    some (q', tlL (tk L q 5 + 257) A, tlD (tk L q 5 + 257) (tk L (q + 5) 5 + 1) A) else none
theorem rc_61 {L : List Int32} {c n : Nat} {f : Nat → Int32} (hR : Rw c f L) (hl : L.length = n) (hn : n ≤ 65536) (q : Nat) {k : Nat} (hk : k ≤ 19) :
    ∀ (j i fuel : Nat) (g : Nat → Int32), j + i = k → j < fuel → (∀ x, x < 19 → g x = nI (zsz L q i x)) → ∃ g', lp_Un_readCodes_61 NF (nI k) (nI (8 * n)) c f 316 fuel (nI i) (nI (pos n (q + 3 * i))) (flg n (q + 3 * i)) g = some (nI (pos n (q + 3 * k)), flg n (q + 3 * k), g') ∧ ∀ x, x < 19 → g' x = nI (zsz L q k x) := by
  intro j
  induction j with
  | zero =>
    intro i fuel g hj hf h
    obtain ⟨u, rfl⟩ : ∃ u, fuel = u + 1 := ⟨fuel - 1, by omega⟩
    have : i = k := by omega
    subst this
    refine ⟨g, ?_, h⟩
    rw [ls_Un_readCodes_61]
    unfold lb_Un_readCodes_61
    (refine (if_pos ?_).trans ?_; focus ((try simp (disch := omega) only [Int32.le_iff_toInt_le, Int32.lt_iff_toInt_lt, ← Int32.toInt_inj, nI_toInt, nI_addL, nI_Ladd, nI_mulL, nI_Lmul, nI_add, nI_subL, nI_Lsub, nI_sub, Int32.reduceToInt, m1_toInt, ne_eq, Int32.reduceMul, Int32.reduceAdd, Int32.reduceSub]) <;> omega)); rfl
  | succ j ih =>
    intro i fuel g hj hf h
    obtain ⟨u, rfl⟩ : ∃ u, fuel = u + 1 := ⟨fuel - 1, by omega⟩
    have h4 := tn4_lt i (by omega)
    obtain ⟨g', e, hg⟩ := ih (i + 1) u (upd g (tn 4 i) (nI (tk L (q + 3 * i) 3))) (by omega) (by omega) (fun x hx => by
      rw [zsz_step L q (by omega) hx]
      by_cases hh : x = tn 4 i
      · rw [if_pos hh, hh, pk_us]
      · rw [if_neg hh, pk_un hh]
        exact h x hx)
    refine ⟨g', ?_, hg⟩
    rw [ls_Un_readCodes_61]
    unfold lb_Un_readCodes_61
    (refine (if_neg ?_).trans ?_; focus ((try simp (disch := omega) only [Int32.le_iff_toInt_le, Int32.lt_iff_toInt_lt, ← Int32.toInt_inj, nI_toInt, nI_addL, nI_Ladd, nI_mulL, nI_Lmul, nI_add, nI_subL, nI_Lsub, nI_sub, Int32.reduceToInt, m1_toInt, ne_eq, Int32.reduceMul, Int32.reduceAdd, Int32.reduceSub]) <;> omega))
    have et : f_BR_take NF (nI (8 * n)) (nI (pos n (q + 3 * i))) (flg n (q + 3 * i)) c f 3 = some (nI (tk L (q + 3 * i) 3), nI (pos n (q + 3 * (i + 1))), flg n (q + 3 * (i + 1))) := BR_tq hR hl hn (q + 3 * i) (k := 3) (by omega)
    rw [Ix_s (by omega) (by omega), nI_clamp (by omega), tb_tn 4 (by omega) _ (by omega), Bd_s et, Ix_s (by omega) (by omega), Lt_s, Lt_s, nI_1, nI_clamp (by omega)]
    exact e
theorem Un_codes {L : List Int32} {c n : Nat} {f : Nat → Int32} (hR : Rw c f L) (hl : L.length = n) (hn : n ≤ 65536) (q : Nat) (g0 a1 a2 a3 b1 b2 b3 d1 d2 d3 : Nat → Int32) :
    ∃ (fl : Int32) (q' : Nat) (g' a1' a2' a3' b1' b2' b3' d1' d2' d3' : Nat → Int32), f_Un_readCodes NF (nI (8 * n)) (nI (pos n q)) (flg n q) c f 316 g0 16 a1 16 a2 19 a3 16 b1 16 b2 286 b3 16 d1 16 d2 30 d3 = some (fl, nI (pos n q'), flg n q', g', a1', a2', a3', b1', b2', b3', d1', d2', d3') ∧ q ≤ q' ∧
      ((fl = 0 ∧ tbS L q = none) ∨ (fl = 1 ∧ ∃ ll ld, CoC ll 288 b1' b3' 286 ∧ CoC ld 32 d1' d3' 30 ∧ ((q' ≤ 8 * n ∧ tbS L q = some (q', ll, ld)) ∨ (8 * n < q' ∧ tbS L q = none)))) := by
  have h5 := tk_lt L q 5
  have h5' := tk_lt L (q + 5) 5
  have h4 := tk_lt L (q + 10) 4
  have e1 : f_BR_take NF (nI (8 * n)) (nI (pos n q)) (flg n q) c f 5 = some (nI (tk L q 5), nI (pos n (q + 5)), flg n (q + 5)) := BR_tq hR hl hn q (k := 5) (by omega)
  have e3 : f_BR_take NF (nI (8 * n)) (nI (pos n (q + 5))) (flg n (q + 5)) c f 5 = some (nI (tk L (q + 5) 5), nI (pos n (q + 10)), flg n (q + 10)) := BR_tq hR hl hn (q + 5) (k := 5) (by omega)
  have e5 : f_BR_take NF (nI (8 * n)) (nI (pos n (q + 10))) (flg n (q + 10)) c f 4 = some (nI (tk L (q + 10) 4), nI (pos n (q + 14)), flg n (q + 14)) := BR_tq hR hl hn (q + 10) (k := 4) (by omega)
  unfold f_Un_readCodes tbS
  obtain ⟨nl, hnl⟩ : ∃ nl, nl = tk L q 5 + 257 := ⟨_, rfl⟩
  obtain ⟨nd, hnd⟩ : ∃ nd, nd = tk L (q + 5) 5 + 1 := ⟨_, rfl⟩
  obtain ⟨k, hk⟩ : ∃ k, k = tk L (q + 10) 4 + 4 := ⟨_, rfl⟩
  have v2 : nI (tk L q 5) + 257 = nI nl := by rw [hnl]; exact nI_add _ 257
  have v4 : nI (tk L (q + 5) 5) + 1 = nI nd := by rw [hnd]; exact nI_add _ 1
  have v6 : nI (tk L (q + 10) 4) + 4 = nI k := by rw [hk]; exact nI_add _ 4
  rw [← hnl, ← hnd, ← hk, Bd_s e1]
  simp only [Lt_s]
  rw [v2, Bd_s e3]
  simp only []
  rw [v4, Bd_s e5]
  simp only []
  rw [v6]
  by_cases hn1 : 286 < nl
  · refine ⟨0, q + 14, g0, a1, a2, a3, b1, b2, b3, d1, d2, d3, ?_, by omega, Or.inl ⟨rfl, ?_⟩⟩
    · (refine (if_pos ?_).trans ?_; focus ((try simp (disch := omega) only [Int32.le_iff_toInt_le, Int32.lt_iff_toInt_lt, ← Int32.toInt_inj, nI_toInt, nI_addL, nI_Ladd, nI_mulL, nI_Lmul, nI_add, nI_subL, nI_Lsub, nI_sub, Int32.reduceToInt, m1_toInt, ne_eq, Int32.reduceMul, Int32.reduceAdd, Int32.reduceSub]) <;> omega)); rfl
    · rw [if_pos (Or.inl hn1)]
  · by_cases hn2 : 30 < nd
    · refine ⟨0, q + 14, g0, a1, a2, a3, b1, b2, b3, d1, d2, d3, ?_, by omega, Or.inl ⟨rfl, ?_⟩⟩
      · (refine (if_neg ?_).trans ?_; focus ((try simp (disch := omega) only [Int32.le_iff_toInt_le, Int32.lt_iff_toInt_lt, ← Int32.toInt_inj, nI_toInt, nI_addL, nI_Ladd, nI_mulL, nI_Lmul, nI_add, nI_subL, nI_Lsub, nI_sub, Int32.reduceToInt, m1_toInt, ne_eq, Int32.reduceMul, Int32.reduceAdd, Int32.reduceSub]) <;> omega)); (refine (if_neg ?_).trans ?_; focus ((try simp (disch := omega) only [Int32.le_iff_toInt_le, Int32.lt_iff_toInt_lt, ← Int32.toInt_inj, nI_toInt, nI_addL, nI_Ladd, nI_mulL, nI_Lmul, nI_add, nI_subL, nI_Lsub, nI_sub, Int32.reduceToInt, m1_toInt, ne_eq, Int32.reduceMul, Int32.reduceAdd, Int32.reduceSub]) <;> omega)); rfl
      · rw [if_pos (Or.inr hn2)]
    · rw [if_neg (show ¬ (286 < nl ∨ 30 < nd) by omega)]
      rw [if_neg (show ¬ (286 : Int32) < nI nl by ((try simp (disch := omega) only [Int32.le_iff_toInt_le, Int32.lt_iff_toInt_lt, ← Int32.toInt_inj, nI_toInt, nI_addL, nI_Ladd, nI_mulL, nI_Lmul, nI_add, nI_subL, nI_Lsub, nI_sub, Int32.reduceToInt, m1_toInt, ne_eq, Int32.reduceMul, Int32.reduceAdd, Int32.reduceSub]) <;> omega)), if_pos (show nI nd ≤ (30 : Int32) by ((try simp (disch := omega) only [Int32.le_iff_toInt_le, Int32.lt_iff_toInt_lt, ← Int32.toInt_inj, nI_toInt, nI_addL, nI_Ladd, nI_mulL, nI_Lmul, nI_add, nI_subL, nI_Lsub, nI_sub, Int32.reduceToInt, m1_toInt, ne_eq, Int32.reduceMul, Int32.reduceAdd, Int32.reduceSub]) <;> omega))]
      obtain ⟨r9, e9, g9⟩ := JA_fill (m := 316) (by omega) g0 0
      obtain ⟨r22, e22, g22⟩ := rc_61 hR hl hn (q + 14) (k := k) (by omega) k 0 NF r9 (by omega) (Nat.lt_of_le_of_lt (show k ≤ 19 by omega) (by decide)) (fun x hx => by rw [g9 x (by omega)]; rfl)
      have e22 : lp_Un_readCodes_61 NF (nI k) (nI (8 * n)) c f 316 NF 0 (nI (pos n (q + 14))) (flg n (q + 14)) r9 = some (nI (pos n (q + 14 + 3 * k)), flg n (q + 14 + 3 * k), r22) := e22
      obtain ⟨a1', a2', a3', e23, C23⟩ := Co_tell (ls := zsz L (q + 14) k) (fr := 0) (m := 19) (M := 316) (z := 19) (len := r22) (num := a1) (st := a2) (sym := a3) (fun s hs => by rw [Nat.zero_add]; exact g22 s hs) (fun s _ => by have := zsz_le L (q + 14) k s; omega) (by omega) (by omega) (by omega) (by omega)
      have e23 : f_Co_tell NF 16 a1 316 r22 16 a2 19 a3 0 19 = some (a1', a2', a3') := e23
      have e24 := Co_isFull C23
      rw [Bd_s e9]
      rw [Bd_s e22, Bd_s e23, Bd_s e24]
      by_cases hfull : krS (zsz L (q + 14) k) 19 15 = 32768
      · rw [if_neg (show ¬ (krS (zsz L (q + 14) k) 19 15 ≠ 32768) by omega)]
        rw [if_pos hfull, if_neg (show ¬ (1 : Int32) = 0 by decide)]
        have vt : nI nl + nI nd = nI (nl + nd) := nI_add _ _
        obtain ⟨tg, d, q', g', e50, hq', hdt, hO⟩ := Un_lengths_loop hR hl hn C23 (tot := nl + nd) (by omega) 317 0 (q + 14 + 3 * k) NF [] r22 (by show _ < 0 + 317; omega) (by show 0 ≤ 0; omega) (by show 0 ≤ _; omega) (by decide) ⟨fun x hx => absurd hx (Nat.not_lt_zero _), fun x hx => absurd hx (Nat.not_lt_zero _)⟩
        have e50 : lp_Un_readLengths_4 NF (nI (nl + nd)) (nI (8 * n)) c f 316 16 a1' 19 a3' NF 0 0 (nI (pos n (q + 14 + 3 * k))) (flg n (q + 14 + 3 * k)) r22 = some (tg, nI d, nI (pos n q'), flg n q', g') := e50
        rw [vt]
        rcases hO with ⟨rfl, hO⟩ | ⟨rfl, rfl, A, hA, hLA, hO⟩
        · rw [hO]
          have er : f_Un_readLengths NF (nI (8 * n)) (nI (pos n (q + 14 + 3 * k))) (flg n (q + 14 + 3 * k)) c f 16 a1' 19 a3' 316 r22 (nI (nl + nd)) = some (0, nI (pos n q'), flg n q', g') := by
            unfold f_Un_readLengths
            rw [Bd_s e50]
            rfl
          refine ⟨0, q', g', a1', a2', a3', b1, b2, b3, d1, d2, d3, ?_, by omega, Or.inl ⟨rfl, rfl⟩⟩
          rw [Bd_s er]
          rfl
        · have er : f_Un_readLengths NF (nI (8 * n)) (nI (pos n (q + 14 + 3 * k))) (flg n (q + 14 + 3 * k)) c f 16 a1' 19 a3' 316 r22 (nI (nl + nd)) = some (1, nI (pos n q'), flg n q', g') := by
            unfold f_Un_readLengths
            rw [Bd_s e50]
            refine (if_neg (show ¬ (1 : Nat) = 0 by decide)).trans ?_
            exact if_pos rfl
          have hl1 : ∀ s, s < nl → g' (0 + s) = nI (tlL nl A s) := fun s hs => by
            rw [Nat.zero_add, hLA.1 s (by omega)]
            unfold tlL
            rw [if_pos hs]
          have hl2 : ∀ s, s < nl → tlL nl A s ≤ 15 := fun s hs => by
            unfold tlL
            rw [if_pos hs]
            exact hLA.2 s (by omega)
          have hd1 : ∀ s, s < nd → g' (nl + s) = nI (tlD nl nd A s) := fun s hs => by
            rw [hLA.1 (nl + s) (by omega)]
            unfold tlD
            rw [if_pos hs]
          have hd2 : ∀ s, s < nd → tlD nl nd A s ≤ 15 := fun s hs => by
            unfold tlD
            rw [if_pos hs]
            exact hLA.2 (nl + s) (by omega)
          obtain ⟨b1', b2', b3', e28, C28⟩ := Co_tell (num := b1) (st := b2) (sym := b3) (z := 286) (M := 316) hl1 hl2 (by omega) (by omega) (by omega) (by omega)
          have e28 : f_Co_tell NF 16 b1 316 g' 16 b2 286 b3 0 (nI nl) = some (b1', b2', b3') := e28
          obtain ⟨d1', d2', d3', e29, C29⟩ := Co_tell (num := d1) (st := d2) (sym := d3) (z := 30) (M := 316) hd1 hd2 (by omega) (by omega) (by omega) (by omega)
          have X28 : CoC (tlL nl A) 288 b1' b3' 286 := CoC_ext C28 (by omega) (by omega) (fun s a b => by unfold tlL; rw [if_neg (by omega)])
          have X29 : CoC (tlD nl nd A) 32 d1' d3' 30 := CoC_ext C29 (by omega) (by omega) (fun s a b => by unfold tlD; rw [if_neg (by omega)])
          have e34 := Co_isFull X28
          have e36 := Co_isFull X29
          have e38 := Co_isScant X29
          have h256 : g' 256 = nI (tlL nl A 256) := by
            have := hl1 256 (by omega)
            rw [Nat.zero_add] at this
            exact this
          have h256b := hl2 256 (by omega)
          rw [Bd_s er]
          rw [if_neg (show ¬ (1 : Int32) = 0 by decide)]
          rw [Bd_s e28, Bd_s e29]
          rw [show Ix (256 : Int32) 316 = Ix (nI 256) 316 from rfl, Ix_s (by omega) (by omega), Jn_s]
          have h256c : g' (256 : Int32).toNatClampNeg = nI (tlL nl A 256) := h256
          -- none, where the reader has passed the end
          have fin : ∀ (S : Option (Nat × (Nat → Nat) × (Nat → Nat))), (q' ≤ 8 * n ∧ lnS (zsz L (q + 14) k) L (nl + nd) 317 (q + 14 + 3 * k) [] = some (q', A)) ∨ (8 * n < q' ∧ lnS (zsz L (q + 14) k) L (nl + nd) 317 (q + 14 + 3 * k) [] = none) → True := fun _ _ => trivial
          by_cases hE : tlL nl A 256 = 0
          · refine ⟨0, q', g', a1', a2', a3', b1', b2', b3', d1', d2', d3', ?_, by omega, Or.inl ⟨rfl, ?_⟩⟩
            · refine (if_pos (by show g' (256 : Int32).toNatClampNeg = 0; rw [h256c, hE]; rfl)).trans ?_
              exact if_pos rfl
            · rcases hO with ⟨_, hO⟩ | ⟨_, hO⟩
              · rw [hO]
                show (if tlL nl A 256 = 0 then none else _) = none
                rw [if_pos hE]
              · rw [hO]
          · rw [if_neg (show ¬ g' (256 : Int32).toNatClampNeg = 0 by rw [h256c]; ((try simp (disch := omega) only [Int32.le_iff_toInt_le, Int32.lt_iff_toInt_lt, ← Int32.toInt_inj, nI_toInt, nI_addL, nI_Ladd, nI_mulL, nI_Lmul, nI_add, nI_subL, nI_Lsub, nI_sub, Int32.reduceToInt, m1_toInt, ne_eq, Int32.reduceMul, Int32.reduceAdd, Int32.reduceSub]) <;> omega))]
            dsimp only
            rw [if_neg (show ¬ (1 : Int32) = 0 by decide), Bd_s e34]
            have eT : (match some (q', A) with
              | none => none
              | some (q', A) =>
                if tlL nl A 256 = 0 then none else if krS (tlL nl A) 288 15 ≠ 32768 then none else
                if krS (tlD nl nd A) 32 15 = 32768 ∨ ofs (tlD nl nd A) 32 16 = 0 ∨ (ofs (tlD nl nd A) 32 16 = 1 ∧ krS (tlD nl nd A) 32 15 = 16384) then
                some (q', tlL nl A, tlD nl nd A) else none) = (if krS (tlL nl A) 288 15 ≠ 32768 then none else
                if krS (tlD nl nd A) 32 15 = 32768 ∨ ofs (tlD nl nd A) 32 16 = 0 ∨ (ofs (tlD nl nd A) 32 16 = 1 ∧ krS (tlD nl nd A) 32 15 = 16384) then
                some (q', tlL nl A, tlD nl nd A) else none) := by
              show (if tlL nl A 256 = 0 then none else _) = _
              rw [if_neg hE]
            by_cases p1 : krS (tlL nl A) 288 15 = 32768
            · rw [if_pos p1, if_neg (show ¬ (1 : Int32) = 0 by decide), Bd_s e36]
              rw [if_neg (show ¬ (krS (tlL nl A) 288 15 ≠ 32768) by omega)] at eT
              by_cases p2 : krS (tlD nl nd A) 32 15 = 32768
              · rw [if_pos p2, if_neg (show ¬ (1 : Int32) = 0 by decide)]
                rw [if_pos (Or.inl p2)] at eT
                refine ⟨1, q', g', a1', a2', a3', b1', b2', b3', d1', d2', d3', rfl, by omega, Or.inr ⟨rfl, tlL nl A, tlD nl nd A, X28, X29, ?_⟩⟩
                rcases hO with ⟨h8, hO⟩ | ⟨h8, hO⟩
                · exact Or.inl ⟨h8, by rw [hO]; exact eT⟩
                · exact Or.inr ⟨h8, by rw [hO]⟩
              · rw [if_neg p2, if_pos (show (0 : Int32) = 0 from rfl), Bd_s e38]
                by_cases p3 : ofs (tlD nl nd A) 32 16 = 0 ∨ (ofs (tlD nl nd A) 32 16 = 1 ∧ krS (tlD nl nd A) 32 15 = 16384)
                · rw [if_pos p3, if_neg (show ¬ (1 : Int32) = 0 by decide)]
                  rw [if_pos (Or.inr p3)] at eT
                  refine ⟨1, q', g', a1', a2', a3', b1', b2', b3', d1', d2', d3', rfl, by omega, Or.inr ⟨rfl, tlL nl A, tlD nl nd A, X28, X29, ?_⟩⟩
                  rcases hO with ⟨h8, hO⟩ | ⟨h8, hO⟩
                  · exact Or.inl ⟨h8, by rw [hO]; exact eT⟩
                  · exact Or.inr ⟨h8, by rw [hO]⟩
                · rw [if_neg p3, if_pos (show (0 : Int32) = 0 from rfl)]
                  rw [if_neg (fun e => e.elim p2 p3)] at eT
                  refine ⟨0, q', g', a1', a2', a3', b1', b2', b3', d1', d2', d3', rfl, by omega, Or.inl ⟨rfl, ?_⟩⟩
                  rcases hO with ⟨h8, hO⟩ | ⟨h8, hO⟩
                  · rw [hO]
                    exact eT
                  · rw [hO]
            · rw [if_neg p1, if_pos (show (0 : Int32) = 0 from rfl)]
              rw [if_pos p1] at eT
              refine ⟨0, q', g', a1', a2', a3', b1', b2', b3', d1', d2', d3', rfl, by omega, Or.inl ⟨rfl, ?_⟩⟩
              rcases hO with ⟨h8, hO⟩ | ⟨h8, hO⟩
              · rw [hO]
                exact eT
              · rw [hO]
      · refine ⟨0, q + 14 + 3 * k, r22, a1', a2', a3', b1, b2, b3, d1, d2, d3, ?_, by omega, Or.inl ⟨rfl, ?_⟩⟩
        · rw [if_neg hfull]
          exact if_pos rfl
        · rw [if_pos hfull]
