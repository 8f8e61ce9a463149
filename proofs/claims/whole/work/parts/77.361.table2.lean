/-! the reference's table as a whole (ours) -/
abbrev AR : Type := Nat → Int32
abbrev TbR : Type := Option (Int32 × Int32 × AR × AR × AR × AR × AR)
/-- behind the lengths -/
noncomputable def tb3 (v2 v4 at' w' : Int32) (len many fi cod told : AR) : TbR :=
  Bd (lp_Mo_table_308 NF v2 340 320 told NF 0 len) fun r138 =>
  Bd (lp_Mo_table_349 NF v2 v4 340 320 told NF 0 r138) fun r155 =>
  Bd (f_Mo_fill NF 340 r155 0 288) fun r156 =>
  Jn (fun (t161 : Int32) =>
  Bd (f_Mo_fill NF 340 r155 288 32) fun r162 =>
  Bd (lp_Mo_table_438 NF 340 r155 NF 0 0) fun r175 =>
  if r162 = (32768 : Int32) then (
  some (at', t161, r155, many, fi, cod, told))
  else (
  if r175 ≤ 0 then (
  some (at', t161, r155, many, fi, cod, told))
  else (
  Jn (fun (t180 : Unit) =>
  some (at', 1, r155, many, fi, cod, told)) fun j180 =>
  if r175 = (1 : Int32) then (
  if r162 = (16384 : Int32) then (
  some (at', t161, r155, many, fi, cod, told))
  else (
  j180 ()))
  else (
  j180 ())))) fun j161 =>
  Jn (fun (t186 : Unit) =>
  j161 1) fun j186 =>
  if r156 = (32768 : Int32) then (
  Ix 256 340 <|
  if (r155 (256 : Int32).toNatClampNeg) = 0 then (
  j186 ())
  else (
  j161 w'))
  else (
  j186 ())
noncomputable def tb2 (nn v2 v4 at' t32 : Int32) (g len many fi cod told : AR) : TbR :=
  Bd (f_Mo_assign NF 17 many 340 len 17 fi 340 cod 320 19) fun r33 =>
  Bd (lp_Mo_table_120 NF v2 v4 nn 65536 g 340 len 340 r33.2.2 320 NF 0 at' t32 told) fun r121 =>
  if r121.1 = 0 then (
  some (r121.2.1, r121.2.2.1, len, r33.1, r33.2.1, r33.2.2, r121.2.2.2))
  else tb3 v2 v4 r121.2.1 r121.2.2.1 len r33.1 r33.2.1 r33.2.2 r121.2.2.2
noncomputable def tb1 (nn v2 v4 v6 at' t10 : Int32) (g len many fi cod told : AR) : TbR :=
  Bd (lp_Mo_table_47 NF v6 nn 65536 g 340 NF 0 at' t10 len) fun r29 =>
  Bd (f_Mo_fill NF 340 r29.2.2 320 19) fun r30 =>
  if r30 = (32768 : Int32) then tb2 nn v2 v4 r29.1 r29.2.1 g r29.2.2 many fi cod told else tb2 nn v2 v4 r29.1 1 g r29.2.2 many fi cod told
theorem tb_eq (nn at' w' : Int32) (g len many fi cod told : AR) : f_Mo_table NF nn at' w' 65536 g 340 len 17 many 17 fi 340 cod 320 told =
    (Bd (f_Mo_number NF nn at' w' 65536 g 5) fun r1 => Bd (f_Mo_number NF nn r1.2.1 r1.2.2 65536 g 5) fun r3 => Bd (f_Mo_number NF nn r3.2.1 r3.2.2 65536 g 4) fun r5 =>
      if (286 : Int32) < 257 + r1.1 then tb1 nn (257 + r1.1) (1 + r3.1) (4 + r5.1) r5.2.1 1 g len many fi cod told else if 1 + r3.1 ≤ (30 : Int32) then tb1 nn (257 + r1.1) (1 + r3.1) (4 + r5.1) r5.2.1 r5.2.2 g len many fi cod told else tb1 nn (257 + r1.1) (1 + r3.1) (4 + r5.1) r5.2.1 1 g len many fi cod told) := rfl
/-- where something is wrong it stays so -/
theorem tb3_1 {nl nd : Nat} (hnl : 257 ≤ nl) (hnl2 : nl ≤ 288) (hnd : nd ≤ 32) (at' : Int32) (len many fi cod told : AR) : ∃ len', tb3 (nI nl) (nI nd) at' 1 len many fi cod told = some (at', 1, len', many, fi, cod, told) := by
  obtain ⟨l1, e1, g1, g2⟩ := tb_308 hnl2 (told := told) 288 0 NF len (by omega) (by decide)
  obtain ⟨l2, e2, g3, g4⟩ := tb_349 hnl2 hnd (told := told) 32 0 NF l1 (by omega) (by decide)
  obtain ⟨x, e3⟩ := Mo_fill_any (fr := 0) (m := 288) l2 (by omega)
  obtain ⟨y, e4⟩ := Mo_fill_any (fr := 288) (m := 32) l2 (by omega)
  obtain ⟨z, e5⟩ := one_any (len := l2) 32 0 NF 0 (by omega) (by decide)
  refine ⟨l2, ?_⟩
  unfold tb3
  refine (Bd_s (x := lp_Mo_table_308 NF (nI nl) 340 320 told NF 0 len) e1 _).trans ?_
  refine (Bd_s (x := lp_Mo_table_349 NF (nI nl) (nI nd) 340 320 told NF 0 l1) e2 _).trans ?_
  refine (Bd_s (x := f_Mo_fill NF 340 l2 0 288) e3 _).trans ?_
  rw [Jn_s, Jn_s]
  have inner : (Bd (f_Mo_fill NF 340 l2 288 32) fun r162 => Bd (lp_Mo_table_438 NF 340 l2 NF 0 0) fun r175 => if r162 = (32768 : Int32) then some (at', (1 : Int32), l2, many, fi, cod, told) else (if r175 ≤ 0 then some (at', 1, l2, many, fi, cod, told) else (Jn (fun (t180 : Unit) => some (at', 1, l2, many, fi, cod, told)) fun j180 => if r175 = (1 : Int32) then (if r162 = (16384 : Int32) then some (at', 1, l2, many, fi, cod, told) else j180 ()) else j180 ()))) = some (at', 1, l2, many, fi, cod, told) := by
    refine (Bd_s (x := f_Mo_fill NF 340 l2 288 32) e4 _).trans ?_
    refine (Bd_s (x := lp_Mo_table_438 NF 340 l2 NF 0 0) e5 _).trans ?_
    rw [Jn_s]
    split
    · rfl
    · split
      · rfl
      · split
        · split <;> rfl
        · rfl
  by_cases p : x = 32768
  · refine (if_pos p).trans ?_
    refine (Ix_s (j := 256) (by omega) (by omega)).trans ?_
    split
    · exact inner
    · exact inner
  · refine (if_neg p).trans ?_
    exact inner
theorem tb2_1 {nl nd n p : Nat} (hnl : 257 ≤ nl) (hnl2 : nl ≤ 288) (hnd : nd ≤ 32) {g len many fi cod told : AR} {zs : Nat → Nat} (hz : ∀ s, s < 19 → len (320 + s) = nI (zs s)) (hz15 : ∀ s, s < 19 → zs s ≤ 15) :
    ∃ len' many' fi' cod' told', tb2 (nI n) (nI nl) (nI nd) (nI p) 1 g len many fi cod told = some (nI p, 1, len', many', fi', cod', told') := by
  obtain ⟨many', fi', cod', e1, hC, hc⟩ := Mo_assign hz hz15 (by omega) (by omega) many fi cod
  obtain ⟨len', e3⟩ := tb3_1 hnl hnl2 hnd (nI p) len many' fi' cod' told
  refine ⟨len', many', fi', cod', told, ?_⟩
  unfold tb2
  refine (Bd_s (x := f_Mo_assign NF 17 many 340 len 17 fi 340 cod 320 19) e1 _).trans ?_
  refine (Bd_s (tb_120w (nl := nI nl) (nd := nI nd) (nn := nI n) (at' := nI p) (g := g) (len := len) (cod := cod') (told := told) (i := 0) 999999) _).trans ?_
  refine (if_neg (show ¬ (1 : Nat) = 0 by decide)).trans ?_
  exact e3
theorem tb1_1 {L : List Int32} {n : Nat} {g : AR} (hM : Md g L) (hl : L.length = n) (hn : n ≤ 65536) {nl nd k p : Nat} (hnl : 257 ≤ nl) (hnl2 : nl ≤ 288) (hnd : nd ≤ 32) (hk : k ≤ 19) (hp : p ≤ 8 * n) (len many fi cod told : AR) :
    ∃ p' len' many' fi' cod' told', p' ≤ 8 * n ∧ tb1 (nI n) (nI nl) (nI nd) (nI k) (nI p) 1 g len many fi cod told = some (nI p', 1, len', many', fi', cod', told') := by
  obtain ⟨p', len1, hp', e1, h1⟩ := tb_47b hM hl hn hk 19 0 p NF len (by omega) (by decide) hp (fun x _ h => absurd h (by omega))
  have hz : ∀ s, s < 19 → len1 (320 + s) = nI ((len1 (320 + s)).toNatClampNeg) ∧ (len1 (320 + s)).toNatClampNeg ≤ 15 := fun s hs => by
    obtain ⟨v, hv, e⟩ := h1 s hs
    rw [e, nI_clamp (by omega)]
    exact ⟨rfl, by omega⟩
  obtain ⟨len', many', fi', cod', told', e2⟩ := tb2_1 (n := n) (p := p') hnl hnl2 hnd (g := g) (len := len1) (many := many) (fi := fi) (cod := cod) (told := told) (fun s hs => (hz s hs).1) (fun s hs => (hz s hs).2)
  obtain ⟨x, e3⟩ := Mo_fill_any (fr := 320) (m := 19) len1 (by omega)
  refine ⟨p', len', many', fi', cod', told', hp', ?_⟩
  unfold tb1
  refine (Bd_s (x := lp_Mo_table_47 NF (nI k) (nI n) 65536 g 340 NF 0 (nI p) 1 len) e1 _).trans ?_
  refine (Bd_s (x := f_Mo_fill NF 340 len1 320 19) e3 _).trans ?_
  split
  · exact e2
  · exact e2
theorem Mo_table1 {L : List Int32} {n p : Nat} {g : AR} (hM : Md g L) (hl : L.length = n) (hn : n ≤ 65536) (hp : p ≤ 8 * n) (len many fi cod told : AR) :
    ∃ p' len' many' fi' cod' told', p' ≤ 8 * n ∧ f_Mo_table NF (nI n) (nI p) 1 65536 g 340 len 17 many 17 fi 340 cod 320 told = some (nI p', 1, len', many', fi', cod', told') := by
  obtain ⟨p1, hp1, e1⟩ := Mo_n1 hM hl hn hp (k := 5) (by omega)
  obtain ⟨p2, hp2, e2⟩ := Mo_n1 hM hl hn hp1 (k := 5) (by omega)
  obtain ⟨p3, hp3, e3⟩ := Mo_n1 hM hl hn hp2 (k := 4) (by omega)
  have t1 := tk_lt L p 5
  have t2 := tk_lt L p1 5
  have t3 := tk_lt L p2 4
  obtain ⟨p', len', many', fi', cod', told', hp', e4⟩ := tb1_1 hM hl hn (nl := 257 + tk L p 5) (nd := 1 + tk L p1 5) (k := 4 + tk L p2 4) (by omega) (by omega) (by omega) (by omega) hp3 len many fi cod told
  refine ⟨p', len', many', fi', cod', told', hp', ?_⟩
  rw [tb_eq]
  refine (Bd_s e1 _).trans ?_
  refine (Bd_s e2 _).trans ?_
  refine (Bd_s e3 _).trans ?_
  dsimp only
  rw [show (257 : Int32) + nI (tk L p 5) = nI (257 + tk L p 5) from nI_add 257 _, show (1 : Int32) + nI (tk L p1 5) = nI (1 + tk L p1 5) from nI_add 1 _, show (4 : Int32) + nI (tk L p2 4) = nI (4 + tk L p2 4) from nI_add 4 _]
  split
  · exact e4
  · split
    · exact e4
    · exact e4
/-- behind the lengths, nothing wrong so far -/
theorem tb3_0 {nl nd : Nat} (hnl : 257 ≤ nl) (hnl2 : nl ≤ 286) (hnd : nd ≤ 30) (at' : Int32) (len many fi cod : AR) {told : AR} {A : List Nat} (hA : A.length = nl + nd) (hLA : LA A told) :
    ∃ (len' : AR) (w' : Int32), tb3 (nI nl) (nI nd) at' 0 len many fi cod told = some (at', w', len', many, fi, cod, told) ∧
      (∀ s, s < 288 → len' (0 + s) = nI (tlL nl A s)) ∧ (∀ s, s < 32 → len' (288 + s) = nI (tlD nl nd A s)) ∧ (∀ s, tlL nl A s ≤ 15) ∧ (∀ s, tlD nl nd A s ≤ 15) ∧
      w' = (if tlL nl A 256 = 0 then 1 else if krS (tlL nl A) 288 15 ≠ 32768 then 1 else if krS (tlD nl nd A) 32 15 = 32768 ∨ ofs (tlD nl nd A) 32 16 = 0 ∨ (ofs (tlD nl nd A) 32 16 = 1 ∧ krS (tlD nl nd A) 32 15 = 16384) then 0 else 1) := by
  obtain ⟨l1, e1, g1, g2⟩ := tb_308 (show nl ≤ 288 by omega) (told := told) 288 0 NF len (by omega) (by decide)
  obtain ⟨l2, e2, g3, g4⟩ := tb_349 (show nl ≤ 288 by omega) (show nd ≤ 32 by omega) (told := told) 32 0 NF l1 (by omega) (by decide)
  have hL : ∀ s, s < 288 → l2 (0 + s) = nI (tlL nl A s) := fun s hs => by
    rw [Nat.zero_add, g3 s (by omega), g2 s (by omega) hs]
    unfold tlL
    by_cases h : s < nl
    · rw [if_pos h, if_pos h]
      exact hLA.1 s (by omega)
    · rw [if_neg h, if_neg h]
      rfl
  have hD : ∀ s, s < 32 → l2 (288 + s) = nI (tlD nl nd A s) := fun s hs => by
    rw [g4 s (by omega) hs]
    unfold tlD
    by_cases h : s < nd
    · rw [if_pos h, if_pos h]
      exact hLA.1 (nl + s) (by omega)
    · rw [if_neg h, if_neg h]
      rfl
  have hL15 : ∀ s, tlL nl A s ≤ 15 := fun s => by
    unfold tlL
    split
    · exact hLA.2 s (by omega)
    · omega
  have hD15 : ∀ s, tlD nl nd A s ≤ 15 := fun s => by
    unfold tlD
    split
    · exact hLA.2 (nl + s) (by omega)
    · omega
  have e3 := Mo_fill hL (fun s _ => hL15 s) (by omega)
  have e4 := Mo_fill hD (fun s _ => hD15 s) (by omega)
  have e5 := one_loop hD (fun s _ => hD15 s) 32 0 NF (by omega) (by decide)
  have e50 : ofs (tlD nl nd A) 0 16 = 0 := by
    have := ofs_le (tlD nl nd A) 0 16
    omega
  rw [e50] at e5
  have b1 := krS_bound (tlL nl A) (m := 288) (by omega) 15
  have b2 := krS_bound (tlD nl nd A) (m := 32) (by omega) 15
  have b3 := ofs_le (tlD nl nd A) 32 16
  have inner : ∀ t161 : Int32, (Bd (f_Mo_fill NF 340 l2 288 32) fun r162 => Bd (lp_Mo_table_438 NF 340 l2 NF 0 0) fun r175 => if r162 = (32768 : Int32) then some (at', t161, l2, many, fi, cod, told) else (if r175 ≤ 0 then some (at', t161, l2, many, fi, cod, told) else (Jn (fun (t180 : Unit) => some (at', (1 : Int32), l2, many, fi, cod, told)) fun j180 => if r175 = (1 : Int32) then (if r162 = (16384 : Int32) then some (at', t161, l2, many, fi, cod, told) else j180 ()) else j180 ()))) = some (at', (if krS (tlD nl nd A) 32 15 = 32768 ∨ ofs (tlD nl nd A) 32 16 = 0 ∨ (ofs (tlD nl nd A) 32 16 = 1 ∧ krS (tlD nl nd A) 32 15 = 16384) then t161 else 1), l2, many, fi, cod, told) := by
    intro t161
    refine (Bd_s (x := f_Mo_fill NF 340 l2 288 32) e4 _).trans ?_
    refine (Bd_s (x := lp_Mo_table_438 NF 340 l2 NF 0 0) e5 _).trans ?_
    rw [Jn_s]
    by_cases p1 : krS (tlD nl nd A) 32 15 = 32768
    · rw [if_pos (Or.inl p1)]
      (refine (if_pos ?_).trans ?_; focus ((try simp (disch := omega) only [Int32.le_iff_toInt_le, Int32.lt_iff_toInt_lt, ← Int32.toInt_inj, nI_toInt, nI_addL, nI_Ladd, nI_mulL, nI_Lmul, nI_add, nI_subL, nI_Lsub, nI_sub, Int32.reduceToInt, m1_toInt, ne_eq, Int32.reduceMul, Int32.reduceAdd, Int32.reduceSub]) <;> omega)); rfl
    · by_cases p2 : ofs (tlD nl nd A) 32 16 = 0
      · rw [if_pos (Or.inr (Or.inl p2))]
        (refine (if_neg ?_).trans ?_; focus ((try simp (disch := omega) only [Int32.le_iff_toInt_le, Int32.lt_iff_toInt_lt, ← Int32.toInt_inj, nI_toInt, nI_addL, nI_Ladd, nI_mulL, nI_Lmul, nI_add, nI_subL, nI_Lsub, nI_sub, Int32.reduceToInt, m1_toInt, ne_eq, Int32.reduceMul, Int32.reduceAdd, Int32.reduceSub]) <;> omega)); (refine (if_pos ?_).trans ?_; focus ((try simp (disch := omega) only [Int32.le_iff_toInt_le, Int32.lt_iff_toInt_lt, ← Int32.toInt_inj, nI_toInt, nI_addL, nI_Ladd, nI_mulL, nI_Lmul, nI_add, nI_subL, nI_Lsub, nI_sub, Int32.reduceToInt, m1_toInt, ne_eq, Int32.reduceMul, Int32.reduceAdd, Int32.reduceSub]) <;> omega)); rfl
      · by_cases p3 : ofs (tlD nl nd A) 32 16 = 1 ∧ krS (tlD nl nd A) 32 15 = 16384
        · rw [if_pos (Or.inr (Or.inr p3))]
          obtain ⟨p4, p5⟩ := p3
          (refine (if_neg ?_).trans ?_; focus ((try simp (disch := omega) only [Int32.le_iff_toInt_le, Int32.lt_iff_toInt_lt, ← Int32.toInt_inj, nI_toInt, nI_addL, nI_Ladd, nI_mulL, nI_Lmul, nI_add, nI_subL, nI_Lsub, nI_sub, Int32.reduceToInt, m1_toInt, ne_eq, Int32.reduceMul, Int32.reduceAdd, Int32.reduceSub]) <;> omega)); (refine (if_neg ?_).trans ?_; focus ((try simp (disch := omega) only [Int32.le_iff_toInt_le, Int32.lt_iff_toInt_lt, ← Int32.toInt_inj, nI_toInt, nI_addL, nI_Ladd, nI_mulL, nI_Lmul, nI_add, nI_subL, nI_Lsub, nI_sub, Int32.reduceToInt, m1_toInt, ne_eq, Int32.reduceMul, Int32.reduceAdd, Int32.reduceSub]) <;> omega)); (refine (if_pos ?_).trans ?_; focus ((try simp (disch := omega) only [Int32.le_iff_toInt_le, Int32.lt_iff_toInt_lt, ← Int32.toInt_inj, nI_toInt, nI_addL, nI_Ladd, nI_mulL, nI_Lmul, nI_add, nI_subL, nI_Lsub, nI_sub, Int32.reduceToInt, m1_toInt, ne_eq, Int32.reduceMul, Int32.reduceAdd, Int32.reduceSub]) <;> omega)); (refine (if_pos ?_).trans ?_; focus ((try simp (disch := omega) only [Int32.le_iff_toInt_le, Int32.lt_iff_toInt_lt, ← Int32.toInt_inj, nI_toInt, nI_addL, nI_Ladd, nI_mulL, nI_Lmul, nI_add, nI_subL, nI_Lsub, nI_sub, Int32.reduceToInt, m1_toInt, ne_eq, Int32.reduceMul, Int32.reduceAdd, Int32.reduceSub]) <;> omega)); rfl
        · have hno : ¬ (krS (tlD nl nd A) 32 15 = 32768 ∨ ofs (tlD nl nd A) 32 16 = 0 ∨ (ofs (tlD nl nd A) 32 16 = 1 ∧ krS (tlD nl nd A) 32 15 = 16384)) := fun e => e.elim p1 (fun e => e.elim p2 p3)
          rw [if_neg hno]
          (refine (if_neg ?_).trans ?_; focus ((try simp (disch := omega) only [Int32.le_iff_toInt_le, Int32.lt_iff_toInt_lt, ← Int32.toInt_inj, nI_toInt, nI_addL, nI_Ladd, nI_mulL, nI_Lmul, nI_add, nI_subL, nI_Lsub, nI_sub, Int32.reduceToInt, m1_toInt, ne_eq, Int32.reduceMul, Int32.reduceAdd, Int32.reduceSub]) <;> omega)); (refine (if_neg ?_).trans ?_; focus ((try simp (disch := omega) only [Int32.le_iff_toInt_le, Int32.lt_iff_toInt_lt, ← Int32.toInt_inj, nI_toInt, nI_addL, nI_Ladd, nI_mulL, nI_Lmul, nI_add, nI_subL, nI_Lsub, nI_sub, Int32.reduceToInt, m1_toInt, ne_eq, Int32.reduceMul, Int32.reduceAdd, Int32.reduceSub]) <;> omega))
          by_cases p4 : ofs (tlD nl nd A) 32 16 = 1
          · have p5 : krS (tlD nl nd A) 32 15 ≠ 16384 := fun e => p3 ⟨p4, e⟩
            (refine (if_pos ?_).trans ?_; focus ((try simp (disch := omega) only [Int32.le_iff_toInt_le, Int32.lt_iff_toInt_lt, ← Int32.toInt_inj, nI_toInt, nI_addL, nI_Ladd, nI_mulL, nI_Lmul, nI_add, nI_subL, nI_Lsub, nI_sub, Int32.reduceToInt, m1_toInt, ne_eq, Int32.reduceMul, Int32.reduceAdd, Int32.reduceSub]) <;> omega)); (refine (if_neg ?_).trans ?_; focus ((try simp (disch := omega) only [Int32.le_iff_toInt_le, Int32.lt_iff_toInt_lt, ← Int32.toInt_inj, nI_toInt, nI_addL, nI_Ladd, nI_mulL, nI_Lmul, nI_add, nI_subL, nI_Lsub, nI_sub, Int32.reduceToInt, m1_toInt, ne_eq, Int32.reduceMul, Int32.reduceAdd, Int32.reduceSub]) <;> omega)); rfl
          · (refine (if_neg ?_).trans ?_; focus ((try simp (disch := omega) only [Int32.le_iff_toInt_le, Int32.lt_iff_toInt_lt, ← Int32.toInt_inj, nI_toInt, nI_addL, nI_Ladd, nI_mulL, nI_Lmul, nI_add, nI_subL, nI_Lsub, nI_sub, Int32.reduceToInt, m1_toInt, ne_eq, Int32.reduceMul, Int32.reduceAdd, Int32.reduceSub]) <;> omega)); rfl
  have h256 : l2 (256 : Int32).toNatClampNeg = nI (tlL nl A 256) := by
    have := hL 256 (by omega)
    rw [Nat.zero_add] at this
    exact this
  have h256b := hL15 256
  refine ⟨l2, _, ?_, hL, hD, hL15, hD15, rfl⟩
  unfold tb3
  refine (Bd_s (x := lp_Mo_table_308 NF (nI nl) 340 320 told NF 0 len) e1 _).trans ?_
  refine (Bd_s (x := lp_Mo_table_349 NF (nI nl) (nI nd) 340 320 told NF 0 l1) e2 _).trans ?_
  refine (Bd_s (x := f_Mo_fill NF 340 l2 0 288) e3 _).trans ?_
  rw [Jn_s, Jn_s]
  have bad : (if krS (tlD nl nd A) 32 15 = 32768 ∨ ofs (tlD nl nd A) 32 16 = 0 ∨ (ofs (tlD nl nd A) 32 16 = 1 ∧ krS (tlD nl nd A) 32 15 = 16384) then (1 : Int32) else 1) = 1 := by split <;> rfl
  have i1 := inner 1
  rw [bad] at i1
  by_cases p : krS (tlL nl A) 288 15 = 32768
  · refine (if_pos (by rw [p]; rfl)).trans ?_
    refine (Ix_s (j := 256) (by omega) (by omega)).trans ?_
    by_cases hE : tlL nl A 256 = 0
    · refine (if_pos (by rw [h256, hE]; rfl)).trans ?_
      rw [if_pos hE]
      exact i1
    · refine (if_neg (by rw [h256]; ((try simp (disch := omega) only [Int32.le_iff_toInt_le, Int32.lt_iff_toInt_lt, ← Int32.toInt_inj, nI_toInt, nI_addL, nI_Ladd, nI_mulL, nI_Lmul, nI_add, nI_subL, nI_Lsub, nI_sub, Int32.reduceToInt, m1_toInt, ne_eq, Int32.reduceMul, Int32.reduceAdd, Int32.reduceSub]) <;> omega))).trans ?_
      rw [if_neg hE, if_neg (show ¬ (krS (tlL nl A) 288 15 ≠ 32768) by omega)]
      exact inner 0
  · refine (if_neg (show ¬ nI (krS (tlL nl A) 288 15) = 32768 by ((try simp (disch := omega) only [Int32.le_iff_toInt_le, Int32.lt_iff_toInt_lt, ← Int32.toInt_inj, nI_toInt, nI_addL, nI_Ladd, nI_mulL, nI_Lmul, nI_add, nI_subL, nI_Lsub, nI_sub, Int32.reduceToInt, m1_toInt, ne_eq, Int32.reduceMul, Int32.reduceAdd, Int32.reduceSub]) <;> omega))).trans ?_
    rw [if_pos p]
    have : (if tlL nl A 256 = 0 then (1 : Int32) else 1) = 1 := by split <;> rfl
    rw [this]
    exact i1
theorem Mo_table {L : List Int32} {n q : Nat} {g : AR} (hM : Md g L) (hl : L.length = n) (hn : n ≤ 65536) (hq : q ≤ 8 * n) (len many fi cod told : AR) :
    ∃ (p' : Nat) (w' : Int32) (len' many' fi' cod' told' : AR), f_Mo_table NF (nI n) (nI q) 0 65536 g 340 len 17 many 17 fi 340 cod 320 told = some (nI p', w', len', many', fi', cod', told') ∧ p' ≤ 8 * n ∧
      ((w' = 0 ∧ ∃ ll ld, tbS L q = some (p', ll, ld) ∧ (∀ s, s < 288 → len' (0 + s) = nI (ll s)) ∧ (∀ s, s < 32 → len' (288 + s) = nI (ld s)) ∧ (∀ s, ll s ≤ 15) ∧ (∀ s, ld s ≤ 15)) ∨ (w' = 1 ∧ tbS L q = none)) := by
  have h5 := tk_lt L q 5
  have h5' := tk_lt L (q + 5) 5
  have h4 := tk_lt L (q + 10) 4
  have e1 := Mo_nq hM hl hn q (k := 5) (by omega)
  rw [pos_in hq, flg_in hq] at e1
  have e1 : f_Mo_number NF (nI n) (nI q) 0 65536 g 5 = some (nI (tk L q 5), nI (pos n (q + 5)), flg n (q + 5)) := e1
  have e3 : f_Mo_number NF (nI n) (nI (pos n (q + 5))) (flg n (q + 5)) 65536 g 5 = some (nI (tk L (q + 5) 5), nI (pos n (q + 10)), flg n (q + 10)) := Mo_nq hM hl hn (q + 5) (k := 5) (by omega)
  have e5 : f_Mo_number NF (nI n) (nI (pos n (q + 10))) (flg n (q + 10)) 65536 g 4 = some (nI (tk L (q + 10) 4), nI (pos n (q + 14)), flg n (q + 14)) := Mo_nq hM hl hn (q + 10) (k := 4) (by omega)
  rw [tb_eq, Bd_s e1]
  dsimp only
  rw [Bd_s e3]
  dsimp only
  rw [Bd_s e5]
  dsimp only
  unfold tbS
  obtain ⟨nl, hnl⟩ : ∃ nl, nl = tk L q 5 + 257 := ⟨_, rfl⟩
  obtain ⟨nd, hnd⟩ : ∃ nd, nd = tk L (q + 5) 5 + 1 := ⟨_, rfl⟩
  obtain ⟨k, hk⟩ : ∃ k, k = tk L (q + 10) 4 + 4 := ⟨_, rfl⟩
  have v2 : (257 : Int32) + nI (tk L q 5) = nI nl := by rw [hnl, Nat.add_comm (tk L q 5) 257]; exact nI_add 257 _
  have v4 : (1 : Int32) + nI (tk L (q + 5) 5) = nI nd := by rw [hnd, Nat.add_comm (tk L (q + 5) 5) 1]; exact nI_add 1 _
  have v6 : (4 : Int32) + nI (tk L (q + 10) 4) = nI k := by rw [hk, Nat.add_comm (tk L (q + 10) 4) 4]; exact nI_add 4 _
  rw [← hnl, ← hnd, ← hk, v2, v4, v6]
  have lost : ∀ p, p ≤ 8 * n → ∃ p' len' many' fi' cod' told', p' ≤ 8 * n ∧ tb1 (nI n) (nI nl) (nI nd) (nI k) (nI p) 1 g len many fi cod told = some (nI p', 1, len', many', fi', cod', told') := fun p hp => tb1_1 hM hl hn (by omega) (by omega) (by omega) (by omega) hp len many fi cod told
  obtain ⟨pl, lenl, manyl, fil, codl, toldl, hpl, el⟩ := lost (pos n (q + 14)) (pos_le _ _)
  by_cases hn1 : 286 < nl
  · rw [if_pos (show (286 : Int32) < nI nl by ((try simp (disch := omega) only [Int32.le_iff_toInt_le, Int32.lt_iff_toInt_lt, ← Int32.toInt_inj, nI_toInt, nI_addL, nI_Ladd, nI_mulL, nI_Lmul, nI_add, nI_subL, nI_Lsub, nI_sub, Int32.reduceToInt, m1_toInt, ne_eq, Int32.reduceMul, Int32.reduceAdd, Int32.reduceSub]) <;> omega)), if_pos (show 286 < nl ∨ 30 < nd from Or.inl hn1)]
    exact ⟨pl, 1, lenl, manyl, fil, codl, toldl, el, hpl, Or.inr ⟨rfl, rfl⟩⟩
  · rw [if_neg (show ¬ (286 : Int32) < nI nl by ((try simp (disch := omega) only [Int32.le_iff_toInt_le, Int32.lt_iff_toInt_lt, ← Int32.toInt_inj, nI_toInt, nI_addL, nI_Ladd, nI_mulL, nI_Lmul, nI_add, nI_subL, nI_Lsub, nI_sub, Int32.reduceToInt, m1_toInt, ne_eq, Int32.reduceMul, Int32.reduceAdd, Int32.reduceSub]) <;> omega))]
    by_cases hn2 : 30 < nd
    · rw [if_neg (show ¬ nI nd ≤ (30 : Int32) by ((try simp (disch := omega) only [Int32.le_iff_toInt_le, Int32.lt_iff_toInt_lt, ← Int32.toInt_inj, nI_toInt, nI_addL, nI_Ladd, nI_mulL, nI_Lmul, nI_add, nI_subL, nI_Lsub, nI_sub, Int32.reduceToInt, m1_toInt, ne_eq, Int32.reduceMul, Int32.reduceAdd, Int32.reduceSub]) <;> omega)), if_pos (show 286 < nl ∨ 30 < nd from Or.inr hn2)]
      exact ⟨pl, 1, lenl, manyl, fil, codl, toldl, el, hpl, Or.inr ⟨rfl, rfl⟩⟩
    · rw [if_pos (show nI nd ≤ (30 : Int32) by ((try simp (disch := omega) only [Int32.le_iff_toInt_le, Int32.lt_iff_toInt_lt, ← Int32.toInt_inj, nI_toInt, nI_addL, nI_Ladd, nI_mulL, nI_Lmul, nI_add, nI_subL, nI_Lsub, nI_sub, Int32.reduceToInt, m1_toInt, ne_eq, Int32.reduceMul, Int32.reduceAdd, Int32.reduceSub]) <;> omega)), if_neg (show ¬ (286 < nl ∨ 30 < nd) by omega)]
      obtain ⟨len1, e47, h47⟩ := tb_47 hM hl hn (q + 14) (k := k) (by omega) 19 0 NF len (by omega) (by decide) (fun x _ h => absurd h (by omega))
      have e47 : lp_Mo_table_47 NF (nI k) (nI n) 65536 g 340 NF 0 (nI (pos n (q + 14))) (flg n (q + 14)) len = some (nI (pos n (q + 14 + 3 * k)), flg n (q + 14 + 3 * k), len1) := by
        rw [Nat.zero_min] at e47
        exact e47
      have hz15 : ∀ s, s < 19 → zsz L (q + 14) k s ≤ 15 := fun s _ => by
        have := zsz_le L (q + 14) k s
        omega
      have e30 := Mo_fill h47 hz15 (by omega)
      have b1 := krS_bound (zsz L (q + 14) k) (m := 19) (by omega) 15
      obtain ⟨lena, manya, fia, coda, tolda, ea⟩ := tb2_1 (n := n) (p := pos n (q + 14 + 3 * k)) (nl := nl) (nd := nd) (by omega) (by omega) (by omega) (g := g) (len := len1) (many := many) (fi := fi) (cod := cod) (told := told) h47 hz15
      have t1 : tb1 (nI n) (nI nl) (nI nd) (nI k) (nI (pos n (q + 14))) (flg n (q + 14)) g len many fi cod told = (if nI (krS (zsz L (q + 14) k) 19 15) = (32768 : Int32) then tb2 (nI n) (nI nl) (nI nd) (nI (pos n (q + 14 + 3 * k))) (flg n (q + 14 + 3 * k)) g len1 many fi cod told else tb2 (nI n) (nI nl) (nI nd) (nI (pos n (q + 14 + 3 * k))) 1 g len1 many fi cod told) := by
        unfold tb1
        refine (Bd_s e47 _).trans ?_
        refine (Bd_s (x := f_Mo_fill NF 340 len1 320 19) e30 _).trans ?_
        rfl
      rw [t1]
      by_cases hfull : krS (zsz L (q + 14) k) 19 15 = 32768
      · rw [if_pos (show nI (krS (zsz L (q + 14) k) 19 15) = 32768 by rw [hfull]; rfl), if_neg (show ¬ (krS (zsz L (q + 14) k) 19 15 ≠ 32768) by omega)]
        by_cases h8 : q + 14 + 3 * k ≤ 8 * n
        · rw [flg_in h8, pos_in h8]
          obtain ⟨many1, fi1, cod1, e33, hC, hc⟩ := Mo_assign h47 hz15 (by omega) (by omega) many fi cod
          obtain ⟨tg, p', w', told', e120, hp', hO⟩ := tb_120 hM hl hn hC (nl := nl) (nd := nd) (tot := nl + nd) rfl (by omega) 317 (q + 14 + 3 * k) NF [] told (by show _ < 0 + 317; omega) (by show 0 ≤ _; omega) h8 (by decide) ⟨fun x hx => absurd hx (Nat.not_lt_zero _), fun x hx => absurd hx (Nat.not_lt_zero _)⟩
          have e120 : lp_Mo_table_120 NF (nI nl) (nI nd) (nI n) 65536 g 340 len1 340 cod1 320 NF 0 (nI (q + 14 + 3 * k)) 0 told = some (tg, nI p', w', told') := e120
          have t2 : tb2 (nI n) (nI nl) (nI nd) (nI (q + 14 + 3 * k)) 0 g len1 many fi cod told = (if tg = 0 then some (nI p', w', len1, many1, fi1, cod1, told') else tb3 (nI nl) (nI nd) (nI p') w' len1 many1 fi1 cod1 told') := by
            unfold tb2
            refine (Bd_s (x := f_Mo_assign NF 17 many 340 len1 17 fi 340 cod 320 19) e33 _).trans ?_
            exact Bd_s e120 _
          rw [t2]
          rcases hO with ⟨rfl, rfl, A, hA, hAl, hLA⟩ | ⟨rfl, htg, hA⟩
          · rw [if_neg (show ¬ (1 : Nat) = 0 by decide), hA]
            obtain ⟨len2, w2, e3, g1, g2, g3, g4, hw⟩ := tb3_0 (nl := nl) (nd := nd) (by omega) (by omega) (by omega) (nI p') len1 many1 fi1 cod1 hAl hLA
            rw [e3]
            refine ⟨p', w2, len2, many1, fi1, cod1, told', rfl, hp', ?_⟩
            show (w2 = 0 ∧ ∃ ll ld, (if tlL nl A 256 = 0 then none else if krS (tlL nl A) 288 15 ≠ 32768 then none else if krS (tlD nl nd A) 32 15 = 32768 ∨ ofs (tlD nl nd A) 32 16 = 0 ∨ (ofs (tlD nl nd A) 32 16 = 1 ∧ krS (tlD nl nd A) 32 15 = 16384) then some (p', tlL nl A, tlD nl nd A) else none) = some (p', ll, ld) ∧ _) ∨ (w2 = 1 ∧ (if tlL nl A 256 = 0 then none else if krS (tlL nl A) 288 15 ≠ 32768 then none else if krS (tlD nl nd A) 32 15 = 32768 ∨ ofs (tlD nl nd A) 32 16 = 0 ∨ (ofs (tlD nl nd A) 32 16 = 1 ∧ krS (tlD nl nd A) 32 15 = 16384) then some (p', tlL nl A, tlD nl nd A) else none) = none)
            by_cases c1 : tlL nl A 256 = 0
            · rw [if_pos c1] at hw ⊢
              exact Or.inr ⟨hw, rfl⟩
            · rw [if_neg c1] at hw ⊢
              by_cases c2 : krS (tlL nl A) 288 15 ≠ 32768
              · rw [if_pos c2] at hw ⊢
                exact Or.inr ⟨hw, rfl⟩
              · rw [if_neg c2] at hw ⊢
                by_cases c3 : krS (tlD nl nd A) 32 15 = 32768 ∨ ofs (tlD nl nd A) 32 16 = 0 ∨ (ofs (tlD nl nd A) 32 16 = 1 ∧ krS (tlD nl nd A) 32 15 = 16384)
                · rw [if_pos c3] at hw ⊢
                  exact Or.inl ⟨hw, _, _, rfl, g1, g2, g3, g4⟩
                · rw [if_neg c3] at hw ⊢
                  exact Or.inr ⟨hw, rfl⟩
          · rw [hA]
            rcases htg with rfl | rfl
            · rw [if_pos rfl]
              exact ⟨p', 1, len1, many1, fi1, cod1, told', rfl, hp', Or.inr ⟨rfl, rfl⟩⟩
            · rw [if_neg (show ¬ (1 : Nat) = 0 by decide)]
              obtain ⟨len2, e3⟩ := tb3_1 (nl := nl) (nd := nd) (by omega) (by omega) (by omega) (nI p') len1 many1 fi1 cod1 told'
              rw [e3]
              exact ⟨p', 1, len2, many1, fi1, cod1, told', rfl, hp', Or.inr ⟨rfl, rfl⟩⟩
        · rw [flg_out (by omega), ea, lnS_out (by omega)]
          exact ⟨_, 1, lena, manya, fia, coda, tolda, rfl, pos_le _ _, Or.inr ⟨rfl, rfl⟩⟩
      · rw [if_neg (show ¬ nI (krS (zsz L (q + 14) k) 19 15) = 32768 by ((try simp (disch := omega) only [Int32.le_iff_toInt_le, Int32.lt_iff_toInt_lt, ← Int32.toInt_inj, nI_toInt, nI_addL, nI_Ladd, nI_mulL, nI_Lmul, nI_add, nI_subL, nI_Lsub, nI_sub, Int32.reduceToInt, m1_toInt, ne_eq, Int32.reduceMul, Int32.reduceAdd, Int32.reduceSub]) <;> omega)), if_pos hfull, ea]
        exact ⟨_, 1, lena, manya, fia, coda, tolda, rfl, pos_le _ _, Or.inr ⟨rfl, rfl⟩⟩
