/-! the chunks, and hash's answer (ours) -/
def s5 (st : Nat → Int32) : Int32 × Int32 × Int32 × Int32 × Int32 := (st 0, st 1, st 2, st 3, st 4)
/-- the state behind a chunk -/
def nxt (w st st' : Nat → Int32) : Prop := st' 0 = st 0 + (shaRs w 80 0 (s5 st)).1 ∧ st' 1 = st 1 + (shaRs w 80 0 (s5 st)).2.1 ∧ st' 2 = st 2 + (shaRs w 80 0 (s5 st)).2.2.1 ∧ st' 3 = st 3 + (shaRs w 80 0 (s5 st)).2.2.2.1 ∧ st' 4 = st 4 + (shaRs w 80 0 (s5 st)).2.2.2.2
theorem nxt_eq {w w2 st sm st' sm' : Nat → Int32} (hw : ∀ i, i < 80 → w i = w2 i) (hs : ∀ i, i < 5 → st i = sm i) (h : nxt w st st') (h2 : nxt w2 sm sm') : ∀ i, i < 5 → st' i = sm' i := by
  have e5 : s5 st = s5 sm := by
    unfold s5
    rw [hs 0 (by omega), hs 1 (by omega), hs 2 (by omega), hs 3 (by omega), hs 4 (by omega)]
  have eR : shaRs w 80 0 (s5 st) = shaRs w2 80 0 (s5 sm) := by
    rw [e5]
    exact shaRs_eq hw 80 0 _ (by omega)
  obtain ⟨a0, a1, a2, a3, a4⟩ := h
  obtain ⟨b0, b1, b2, b3, b4⟩ := h2
  intro i hi
  have : i = 0 ∨ i = 1 ∨ i = 2 ∨ i = 3 ∨ i = 4 := by omega
  rcases this with rfl | rfl | rfl | rfl | rfl
  · rw [a0, b0, eR, hs 0 (by omega)]
  · rw [a1, b1, eR, hs 1 (by omega)]
  · rw [a2, b2, eR, hs 2 (by omega)]
  · rw [a3, b3, eR, hs 3 (by omega)]
  · rw [a4, b4, eR, hs 4 (by omega)]
/-- five sums, one after the other -/
def add5 (st : Nat → Int32) (r : Int32 × Int32 × Int32 × Int32 × Int32) : Nat → Int32 := upd (upd (upd (upd (upd st 0 (st 0 + r.1)) 1 (upd st 0 (st 0 + r.1) 1 + r.2.1)) 2 (upd (upd st 0 (st 0 + r.1)) 1 (upd st 0 (st 0 + r.1) 1 + r.2.1) 2 + r.2.2.1)) 3 (upd (upd (upd st 0 (st 0 + r.1)) 1 (upd st 0 (st 0 + r.1) 1 + r.2.1)) 2 (upd (upd st 0 (st 0 + r.1)) 1 (upd st 0 (st 0 + r.1) 1 + r.2.1) 2 + r.2.2.1) 3 + r.2.2.2.1)) 4 (upd (upd (upd (upd st 0 (st 0 + r.1)) 1 (upd st 0 (st 0 + r.1) 1 + r.2.1)) 2 (upd (upd st 0 (st 0 + r.1)) 1 (upd st 0 (st 0 + r.1) 1 + r.2.1) 2 + r.2.2.1)) 3 (upd (upd (upd st 0 (st 0 + r.1)) 1 (upd st 0 (st 0 + r.1) 1 + r.2.1)) 2 (upd (upd st 0 (st 0 + r.1)) 1 (upd st 0 (st 0 + r.1) 1 + r.2.1) 2 + r.2.2.1) 3 + r.2.2.2.1) 4 + r.2.2.2.2)
theorem add5_nxt (w st : Nat → Int32) : nxt w st (add5 st (shaRs w 80 0 (s5 st))) := by
  unfold nxt add5
  refine ⟨?_, ?_, ?_, ?_, ?_⟩ <;> simp [upd]
theorem Sha_mix (w st : Nat → Int32) : f_Sha_mixBlock NF 5 st 80 w = some (add5 st (shaRs w 80 0 (s5 st))) := by
  have er := Sha_rounds NF w 80 0 NF (st 0) (st 1) (st 2) (st 3) (st 4) (by omega) (by decide)
  have er : lp_Sha_mixBlock_40 NF 80 w NF (st 0) (st 1) (st 2) (st 3) (st 4) 0 = some (shaRs w 80 0 (s5 st)) := er
  unfold f_Sha_mixBlock
  have i0 : ∀ {β : Type} (x : Option β), Ix 0 5 x = x := fun x => Ix_s (j := 0) (by omega) (by omega)
  have i1 : ∀ {β : Type} (x : Option β), Ix 1 5 x = x := fun x => Ix_s (j := 1) (by omega) (by omega)
  have i2 : ∀ {β : Type} (x : Option β), Ix 2 5 x = x := fun x => Ix_s (j := 2) (by omega) (by omega)
  have i3 : ∀ {β : Type} (x : Option β), Ix 3 5 x = x := fun x => Ix_s (j := 3) (by omega) (by omega)
  have i4 : ∀ {β : Type} (x : Option β), Ix 4 5 x = x := fun x => Ix_s (j := 4) (by omega) (by omega)
  simp only [i0, i1, i2, i3, i4, Lt_s]
  refine (Bd_s (x := lp_Sha_mixBlock_40 NF 80 w NF (st 0) (st 1) (st 2) (st 3) (st 4) 0) er _).trans ?_
  rfl
theorem Mo_chunk {L : List Int32} {g : Nat → Int32} {n P fr : Nat} (h : Md g L) (hl : L.length = n) (hn : n ≤ 65536) (hP2 : P ≤ 100000) (hfr : fr + 64 ≤ P) (w sm : Nat → Int32) :
    ∃ w', f_Mo_chunk NF (nI n) 65536 g 80 w 5 sm (nI fr) (nI P) = some (w', add5 sm (shaRs w' 80 0 (s5 sm))) ∧ WX L P fr w' := by
  obtain ⟨w1, e1, h1⟩ := Mo_w16 NF h hl hn hP2 hfr 16 0 NF w (by omega) (by decide) (fun i hi => absurd hi (by omega))
  obtain ⟨w2, e2, h2⟩ := Mo_w80 NF (L := L) (P := P) (fr := fr) 64 16 NF w1 (by omega) (by omega) (by decide) h1 (fun i h1 h2 => absurd h2 (by omega))
  have er := Mo_rounds NF w2 80 0 NF (sm 0) (sm 1) (sm 2) (sm 3) (sm 4) (by omega) (by decide)
  have er : lp_Mo_chunk_183 NF 80 w2 NF (sm 0) (sm 1) (sm 2) (sm 3) (sm 4) 0 = some (shaRs w2 80 0 (s5 sm)) := er
  refine ⟨w2, ?_, h2⟩
  unfold f_Mo_chunk
  have i0 : ∀ {β : Type} (x : Option β), Ix 0 5 x = x := fun x => Ix_s (j := 0) (by omega) (by omega)
  have i1 : ∀ {β : Type} (x : Option β), Ix 1 5 x = x := fun x => Ix_s (j := 1) (by omega) (by omega)
  have i2 : ∀ {β : Type} (x : Option β), Ix 2 5 x = x := fun x => Ix_s (j := 2) (by omega) (by omega)
  have i3 : ∀ {β : Type} (x : Option β), Ix 3 5 x = x := fun x => Ix_s (j := 3) (by omega) (by omega)
  have i4 : ∀ {β : Type} (x : Option β), Ix 4 5 x = x := fun x => Ix_s (j := 4) (by omega) (by omega)
  refine (Bd_s e1 _).trans ?_
  refine (Bd_s e2 _).trans ?_
  simp only [i0, i1, i2, i3, i4, Lt_s]
  refine (Bd_s (x := lp_Mo_chunk_183 NF 80 w2 NF (sm 0) (sm 1) (sm 2) (sm 3) (sm 4) 0) er _).trans ?_
  rfl
theorem hash_loops {L : List Int32} {c n P : Nat} {f g : Nat → Int32} (hR : Rw c f L) (hg : Md g L) (hl : L.length = n) (hn : n ≤ 65536) (hP2 : P ≤ 100000) : ∀ (j fr fuel : Nat) (w st w2 sm : Nat → Int32), fr + 64 * j = P → j < fuel → (∀ i, i < 5 → st i = sm i) →
    ∃ w' st' w2' sm', lp_Sha_run_58 NF (nI P) 80 5 (nI n) c f fuel (nI fr) w st = some (w', st') ∧ lp_Mo_hash_80 NF (nI P) (nI n) 65536 g 80 5 fuel (nI fr) w2 sm = some (w2', sm') ∧ ∀ i, i < 5 → st' i = sm' i := by
  intro j
  induction j with
  | zero =>
    intro fr fuel w st w2 sm hj hf hs
    obtain ⟨q, rfl⟩ : ∃ q, fuel = q + 1 := ⟨fuel - 1, by omega⟩
    refine ⟨w, st, w2, sm, ?_, ?_, hs⟩
    · rw [ls_Sha_run_58]
      unfold lb_Sha_run_58
      (refine (if_pos ?_).trans ?_; focus ((try simp (disch := omega) only [Int32.le_iff_toInt_le, Int32.lt_iff_toInt_lt, ← Int32.toInt_inj, nI_toInt, nI_addL, nI_Ladd, nI_mulL, nI_Lmul, nI_add, nI_subL, nI_Lsub, nI_sub, Int32.reduceToInt, m1_toInt, ne_eq, Int32.reduceMul, Int32.reduceAdd, Int32.reduceSub]) <;> omega)); rfl
    · rw [ls_Mo_hash_80]
      unfold lb_Mo_hash_80
      (refine (if_pos ?_).trans ?_; focus ((try simp (disch := omega) only [Int32.le_iff_toInt_le, Int32.lt_iff_toInt_lt, ← Int32.toInt_inj, nI_toInt, nI_addL, nI_Ladd, nI_mulL, nI_Lmul, nI_add, nI_subL, nI_Lsub, nI_sub, Int32.reduceToInt, m1_toInt, ne_eq, Int32.reduceMul, Int32.reduceAdd, Int32.reduceSub]) <;> omega)); rfl
  | succ j ih =>
    intro fr fuel w st w2 sm hj hf hs
    obtain ⟨q, rfl⟩ : ∃ q, fuel = q + 1 := ⟨fuel - 1, by omega⟩
    obtain ⟨w1, e1, h1⟩ := Sha_fill NF (by decide) hR hl hn hP2 (fr := fr) (by omega) w
    obtain ⟨w3, e3, h3⟩ := Mo_chunk hg hl hn hP2 (fr := fr) (by omega) w2 sm
    obtain ⟨w', st', w2', sm', e4, e5, h5⟩ := ih (fr + 64) q w1 (add5 st (shaRs w1 80 0 (s5 st))) w3 (add5 sm (shaRs w3 80 0 (s5 sm))) (by omega) (by omega) (nxt_eq (WX_eq h1 h3) hs (add5_nxt w1 st) (add5_nxt w3 sm))
    refine ⟨w', st', w2', sm', ?_, ?_, h5⟩
    · rw [← e4]
      rw [ls_Sha_run_58]
      unfold lb_Sha_run_58
      (refine (if_neg ?_).trans ?_; focus ((try simp (disch := omega) only [Int32.le_iff_toInt_le, Int32.lt_iff_toInt_lt, ← Int32.toInt_inj, nI_toInt, nI_addL, nI_Ladd, nI_mulL, nI_Lmul, nI_add, nI_subL, nI_Lsub, nI_sub, Int32.reduceToInt, m1_toInt, ne_eq, Int32.reduceMul, Int32.reduceAdd, Int32.reduceSub]) <;> omega)); rw [Bd_s e1, Bd_s (Sha_mix w1 st), Lt_s, show nI fr + 64 = nI (fr + 64) from nI_add fr 64]
    · rw [← e5]
      rw [ls_Mo_hash_80]
      unfold lb_Mo_hash_80
      (refine (if_neg ?_).trans ?_; focus ((try simp (disch := omega) only [Int32.le_iff_toInt_le, Int32.lt_iff_toInt_lt, ← Int32.toInt_inj, nI_toInt, nI_addL, nI_Ladd, nI_mulL, nI_Lmul, nI_add, nI_subL, nI_Lsub, nI_sub, Int32.reduceToInt, m1_toInt, ne_eq, Int32.reduceMul, Int32.reduceAdd, Int32.reduceSub]) <;> omega)); rw [Bd_s e3, Lt_s, show nI fr + 64 = nI (fr + 64) from nI_add fr 64]
theorem l_shl32 (a : Int64) : (a &&& 4294967295) <<< ((32 : Int32).toInt64 &&& 63) = a <<< ((32 : Int32).toInt64 &&& 63) := by
  have s32 : (((32 : Int32).toInt64 &&& 63).toBitVec.smod 64) = 32#64 := by decide
  have hm : (4294967295 : Int64).toBitVec = BitVec.ofNat 64 (2 ^ 32 - 1) := by decide
  apply Int64.toBitVec_inj.mp
  simp only [Int64.toBitVec_shiftLeft, Int64.toBitVec_and, s32, hm]
  apply BitVec.eq_of_getLsbD_eq
  intro i hi
  simp only [BitVec.shiftLeft_eq', BitVec.getLsbD_shiftLeft, BitVec.getLsbD_and, BitVec.toNat_ofNat, BitVec.getLsbD_ofNat, Nat.testBit_two_pow_sub_one]
  by_cases h : i < 32
  · simp [h]
  · simp [h, show i - 32 < 32 by omega, show i - 32 < 64 by omega]
theorem Sha_word {st : Nat → Int32} {i : Nat} (h : i < 5) : f_Sha_word NF 5 st (nI i) = some ((st i).toInt64 &&& 4294967295) := by
  unfold f_Sha_word
  rw [Jn_s]; (refine (if_neg ?_).trans ?_; focus ((try simp (disch := omega) only [Int32.le_iff_toInt_le, Int32.lt_iff_toInt_lt, ← Int32.toInt_inj, nI_toInt, nI_addL, nI_Ladd, nI_mulL, nI_Lmul, nI_add, nI_subL, nI_Lsub, nI_sub, Int32.reduceToInt, m1_toInt, ne_eq, Int32.reduceMul, Int32.reduceAdd, Int32.reduceSub]) <;> omega)); (refine (if_neg ?_).trans ?_; focus ((try simp (disch := omega) only [Int32.le_iff_toInt_le, Int32.lt_iff_toInt_lt, ← Int32.toInt_inj, nI_toInt, nI_addL, nI_Ladd, nI_mulL, nI_Lmul, nI_add, nI_subL, nI_Lsub, nI_sub, Int32.reduceToInt, m1_toInt, ne_eq, Int32.reduceMul, Int32.reduceAdd, Int32.reduceSub]) <;> omega)); rw [Ix_s h (by omega), nI_clamp (by omega)]
theorem p_012 {p : Int32} (h0 : ¬ p < 0) (h2 : p ≤ 2) : p = nI 0 ∨ p = nI 1 ∨ p = nI 2 := by
  obtain ⟨j, hj, rfl⟩ := nI_of2 (x := p) (M := 2) (n := 2) (by decide) h0 h2
  have : j = 0 ∨ j = 1 ∨ j = 2 := by omega
  rcases this with rfl | rfl | rfl
  · exact Or.inl rfl
  · exact Or.inr (Or.inl rfl)
  · exact Or.inr (Or.inr rfl)
def sh0 (st : Nat → Int32) : Nat → Int32 := upd (upd (upd (upd (upd st 0 1732584193) 1 (-271733879)) 2 (-1732584194)) 3 271733878) 4 (-1009589776)
theorem sh0_eq (st sm : Nat → Int32) : ∀ i, i < 5 → sh0 st i = sh0 sm i := by
  intro i hi
  have : i = 0 ∨ i = 1 ∨ i = 2 ∨ i = 3 ∨ i = 4 := by omega
  rcases this with rfl | rfl | rfl | rfl | rfl <;> simp [sh0, upd]
theorem hash_yes {L : List Int32} {c n : Nat} {f g : Nat → Int32} (hR : Rw c f L) (hg : Md g L) (hl : L.length = n) (hn : n ≤ 65536) (st w sm w2 : Nat → Int32) {p : Int32} (h0 : ¬ p < 0) (h2 : p ≤ 2) :
    ∃ (v : Int64) (st' w' sm' w2' : Nat → Int32), f_TP_hash NF 5 st (nI n) c f 80 w p = some ((0, v, st', w'), 0, 0) ∧ f_Mo_hash NF (nI n) 5 sm 65536 g 80 w2 p = some (v, 0, sm', w2') := by
  obtain ⟨P, hP⟩ : ∃ P, P = ((n + 8) / 64 + 1) * 64 := ⟨_, rfl⟩
  obtain ⟨w', st', w2', sm', e1, e2, hs⟩ := hash_loops hR hg hl hn (P := P) (by omega) ((n + 8) / 64 + 1) 0 NF w (sh0 st) w2 (sh0 sm) (by omega) (Nat.lt_of_le_of_lt (show (n + 8) / 64 + 1 ≤ 65536 by omega) (by decide)) (sh0_eq st sm)
  have eP1 : ((nI n + 8) / 64 + 1) * 64 = nI P := by
    rw [show nI n + 8 = nI (n + 8) from nI_add n 8, show nI (n + 8) / 64 = nI ((n + 8) / 64) from pk_div (d := 64) (by omega) (by omega) (by omega), nI_1, hP]
    exact pk_mul _ 64
  have eP2 : ((nI n + 9) + 63) / 64 * 64 = nI P := by
    rw [show nI n + 9 = nI (n + 9) from nI_add n 9, show nI (n + 9) + 63 = nI (n + 9 + 63) from nI_add (n + 9) 63, show nI (n + 9 + 63) / 64 = nI ((n + 9 + 63) / 64) from pk_div (d := 64) (by omega) (by omega) (by omega), hP, show (n + 8) / 64 + 1 = (n + 9 + 63) / 64 by omega]
    exact pk_mul _ 64
  have i0 : ∀ {β : Type} (x : Option β), Ix 0 5 x = x := fun x => Ix_s (j := 0) (by omega) (by omega)
  have i1 : ∀ {β : Type} (x : Option β), Ix 1 5 x = x := fun x => Ix_s (j := 1) (by omega) (by omega)
  have i2 : ∀ {β : Type} (x : Option β), Ix 2 5 x = x := fun x => Ix_s (j := 2) (by omega) (by omega)
  have i3 : ∀ {β : Type} (x : Option β), Ix 3 5 x = x := fun x => Ix_s (j := 3) (by omega) (by omega)
  have i4 : ∀ {β : Type} (x : Option β), Ix 4 5 x = x := fun x => Ix_s (j := 4) (by omega) (by omega)
  have er : f_Sha_run NF 5 st (nI n) c f 80 w = some (st', w') := by
    unfold f_Sha_run f_Row_length
    simp only [i0, i1, i2, i3, i4, Lt_s]
    rw [Bd_s rfl, eP1]
    exact (Bd_s (x := lp_Sha_run_58 NF (nI P) 80 5 (nI n) c f NF 0 w (sh0 st)) e1 _).trans rfl
  have key : ∀ a : Nat, a < 5 → (st' a).toInt64 = (sm' a).toInt64 := fun a ha => by rw [hs a ha]
  rcases p_012 h0 h2 with rfl | rfl | rfl
  · refine ⟨(((sm' 0).toInt64) <<< ((32 : Int32).toInt64 &&& 63)) ||| ((sm' 1).toInt64 &&& 4294967295), st', w', sm', w2', ?_, ?_⟩
    · unfold f_TP_hash
      rw [Jn_s, if_neg (by decide), if_pos (by decide), Bd_s er, if_neg (by decide), show (2 : Int32) * nI 0 = nI 0 from rfl, Bd_s (Sha_word (by omega)), show nI 0 + 1 = nI 1 from rfl, Bd_s (Sha_word (by omega)), l_shl32, key 0 (by omega), key 1 (by omega)]
    · unfold f_Mo_hash
      simp only [i0, i1, i2, i3, i4, Lt_s]
      rw [Jn_s, if_neg (by decide), if_pos (by decide), eP2]
      refine (Bd_s (x := lp_Mo_hash_80 NF (nI P) (nI n) 65536 g 80 5 NF 0 w2 (sh0 sm)) e2 _).trans ?_
      rw [show nI 0 * 2 = nI 0 from rfl, Ix_s (by omega) (by omega), if_neg (by decide), show nI 0 + 1 = nI 1 from rfl, Ix_s (by omega) (by omega), nI_clamp (by omega), nI_clamp (by omega)]
  · refine ⟨(((sm' 2).toInt64) <<< ((32 : Int32).toInt64 &&& 63)) ||| ((sm' 3).toInt64 &&& 4294967295), st', w', sm', w2', ?_, ?_⟩
    · unfold f_TP_hash
      rw [Jn_s, if_neg (by decide), if_pos (by decide), Bd_s er, if_neg (by decide), show (2 : Int32) * nI 1 = nI 2 from rfl, Bd_s (Sha_word (by omega)), show nI 2 + 1 = nI 3 from rfl, Bd_s (Sha_word (by omega)), l_shl32, key 2 (by omega), key 3 (by omega)]
    · unfold f_Mo_hash
      simp only [i0, i1, i2, i3, i4, Lt_s]
      rw [Jn_s, if_neg (by decide), if_pos (by decide), eP2]
      refine (Bd_s (x := lp_Mo_hash_80 NF (nI P) (nI n) 65536 g 80 5 NF 0 w2 (sh0 sm)) e2 _).trans ?_
      rw [show nI 1 * 2 = nI 2 from rfl, Ix_s (by omega) (by omega), if_neg (by decide), show nI 2 + 1 = nI 3 from rfl, Ix_s (by omega) (by omega), nI_clamp (by omega), nI_clamp (by omega)]
  · refine ⟨(sm' 4).toInt64 &&& 4294967295, st', w', sm', w2', ?_, ?_⟩
    · unfold f_TP_hash
      rw [Jn_s, if_neg (by decide), if_pos (by decide), Bd_s er, if_pos (by decide), show (4 : Int32) = nI 4 from rfl, Bd_s (Sha_word (by omega)), key 4 (by omega)]
    · unfold f_Mo_hash
      simp only [i0, i1, i2, i3, i4, Lt_s]
      rw [Jn_s, if_neg (by decide), if_pos (by decide), eP2]
      refine (Bd_s (x := lp_Mo_hash_80 NF (nI P) (nI n) 65536 g 80 5 NF 0 w2 (sh0 sm)) e2 _).trans ?_
      rw [show nI 2 * 2 = nI 4 from rfl, Ix_s (by omega) (by omega), if_pos (by decide), nI_clamp (by omega)]
theorem hash_no {c n : Nat} {f g st w sm w2 : Nat → Int32} {p : Int32} (h : p < 0 ∨ ¬ p ≤ 2) :
    f_TP_hash NF 5 st (nI n) c f 80 w p = some ((1, 0, st, w), 1, 6) ∧ f_Mo_hash NF (nI n) 5 sm 65536 g 80 w2 p = some (0, 1, sm, w2) := by
  refine ⟨?_, ?_⟩
  · unfold f_TP_hash
    rw [Jn_s]
    by_cases h0 : p < 0
    · rw [if_pos h0]
      exact Ak_s rfl
    · rw [if_neg h0, if_neg (h.resolve_left h0)]
      exact Ak_s rfl
  · unfold f_Mo_hash f_Mo_refuse
    rw [Jn_s]
    by_cases h0 : p < 0
    · rw [if_pos h0]
      rfl
    · rw [if_neg h0, if_neg (h.resolve_left h0)]
      rfl
