/-! the whole of press, on both sides (ours) -/
def adS (q : Int32 × Int32) (x : Int32) : Int32 × Int32 := (irm (q.1 + (x &&& 255)) 65521, irm (q.2 + irm (q.1 + (x &&& 255)) 65521) 65521)
def adF (L : List Int32) : Nat → Nat → Int32 × Int32 → Int32 × Int32
  | 0, _, q => q
  | j + 1, i, q => adF L j (i + 1) (adS q (L.getD i 0))
def adl (L : List Int32) : Int32 := ((adF L L.length 0 (1, 0)).2 <<< ((16 : Int32) &&& 31)) ||| (adF L L.length 0 (1, 0)).1
theorem Row_adler_loop {L : List Int32} {c n : Nat} {f : Nat → Int32} (hR : Rw c f L) (hl : L.length = n) : ∀ (j i fuel : Nat) (a b : Int32), j + i = n → j < fuel → lp_Row_adler32_6 NF (nI n) c f fuel a b (nI i) = some (adF L j i (a, b)) := by
  obtain ⟨r1, r2, r3, r4, r5⟩ := hR
  intro j
  induction j with
  | zero =>
    intro i fuel a b hj hf
    obtain ⟨q, rfl⟩ : ∃ q, fuel = q + 1 := ⟨fuel - 1, by omega⟩
    rw [ls_Row_adler32_6]
    unfold lb_Row_adler32_6
    (refine (if_pos ?_).trans ?_; focus ((try simp (disch := omega) only [Int32.le_iff_toInt_le, Int32.lt_iff_toInt_lt, ← Int32.toInt_inj, nI_toInt, nI_addL, nI_Ladd, nI_mulL, nI_Lmul, nI_add, nI_subL, nI_Lsub, nI_sub, Int32.reduceToInt, m1_toInt, ne_eq, Int32.reduceMul, Int32.reduceAdd, Int32.reduceSub]) <;> omega)); rfl
  | succ j ih =>
    intro i fuel a b hj hf
    obtain ⟨q, rfl⟩ : ∃ q, fuel = q + 1 := ⟨fuel - 1, by omega⟩
    rw [ls_Row_adler32_6]
    unfold lb_Row_adler32_6
    (refine (if_neg ?_).trans ?_; focus ((try simp (disch := omega) only [Int32.le_iff_toInt_le, Int32.lt_iff_toInt_lt, ← Int32.toInt_inj, nI_toInt, nI_addL, nI_Ladd, nI_mulL, nI_Lmul, nI_add, nI_subL, nI_Lsub, nI_sub, Int32.reduceToInt, m1_toInt, ne_eq, Int32.reduceMul, Int32.reduceAdd, Int32.reduceSub]) <;> omega)); rw [Ix_s (by omega) (by omega), Lt_s, Lt_s, Lt_s, nI_1, nI_clamp (by omega), r5 i (by omega)]
    exact ih (i + 1) q _ _ (by omega) (by omega)
theorem Row_adler {L : List Int32} {c n : Nat} {f : Nat → Int32} (hR : Rw c f L) (hl : L.length = n) : f_Row_adler32 NF (nI n) c f = some (adl L) := by
  have h3 := hR.2.2.1
  have h1 := hR.1
  unfold f_Row_adler32
  refine (Bd_s (x := lp_Row_adler32_6 NF (nI n) c f NF 1 0 0) (Row_adler_loop hR hl n 0 NF 1 0 (by omega) (Nat.lt_of_le_of_lt (show n ≤ 73736 by omega) (by decide))) _).trans ?_
  unfold adl
  rw [hl]
theorem Mo_adler_loop {L : List Int32} {n : Nat} {f : Nat → Int32} (hM : Md f L) (hl : L.length = n) (hn : n ≤ 65536) : ∀ (j i fuel : Nat) (a b : Int32), j + i = n → j < fuel → lp_Mo_adler_8 NF (nI n) 65536 f fuel a b (nI i) = some (adF L j i (a, b)) := by
  intro j
  induction j with
  | zero =>
    intro i fuel a b hj hf
    obtain ⟨q, rfl⟩ : ∃ q, fuel = q + 1 := ⟨fuel - 1, by omega⟩
    rw [ls_Mo_adler_8]
    unfold lb_Mo_adler_8
    (refine (if_pos ?_).trans ?_; focus ((try simp (disch := omega) only [Int32.le_iff_toInt_le, Int32.lt_iff_toInt_lt, ← Int32.toInt_inj, nI_toInt, nI_addL, nI_Ladd, nI_mulL, nI_Lmul, nI_add, nI_subL, nI_Lsub, nI_sub, Int32.reduceToInt, m1_toInt, ne_eq, Int32.reduceMul, Int32.reduceAdd, Int32.reduceSub]) <;> omega)); rfl
  | succ j ih =>
    intro i fuel a b hj hf
    obtain ⟨q, rfl⟩ : ∃ q, fuel = q + 1 := ⟨fuel - 1, by omega⟩
    rw [ls_Mo_adler_8]
    unfold lb_Mo_adler_8
    (refine (if_neg ?_).trans ?_; focus ((try simp (disch := omega) only [Int32.le_iff_toInt_le, Int32.lt_iff_toInt_lt, ← Int32.toInt_inj, nI_toInt, nI_addL, nI_Ladd, nI_mulL, nI_Lmul, nI_add, nI_subL, nI_Lsub, nI_sub, Int32.reduceToInt, m1_toInt, ne_eq, Int32.reduceMul, Int32.reduceAdd, Int32.reduceSub]) <;> omega)); rw [Ix_s (by omega) (by omega), Lt_s, Lt_s, Lt_s, nI_1, nI_clamp (by omega), hM.2 i (by omega)]
    exact ih (i + 1) q _ _ (by omega) (by omega)
theorem Mo_adler {L : List Int32} {n : Nat} {f : Nat → Int32} (hM : Md f L) (hl : L.length = n) (hn : n ≤ 65536) : f_Mo_adler NF 65536 f (nI n) = some (adl L) := by
  unfold f_Mo_adler
  refine (Bd_s (x := lp_Mo_adler_8 NF (nI n) 65536 f NF 1 0 0) (Mo_adler_loop hM hl hn n 0 NF 1 0 (by omega) (Nat.lt_of_le_of_lt hn (by decide))) _).trans ?_
  unfold adl
  rw [hl]
/-- the stream, the pairs and the literals of a text -/
def prR (L : List Int32) : (Nat × Nat) × Nat × Nat := prF L L.length 0 ((3, 3), 0, 0)
def prQ (L : List Int32) : Nat × Nat := pS (prR L).1 256
def prPre : List Int32 := [bB 120, bB 1]
/-- the form -/
def prO (L : List Int32) : List Int32 := (prPre ++ Sbs (prQ L).1 (((prQ L).2 + 7) / 8)) ++ num4 (adl L)
theorem prQ_bits {L : List Int32} {n : Nat} (hl : L.length = n) : (prQ L).2 ≤ 10 + 9 * n := by
  have h := prF_bits L n hl L.length 0 ((3, 3), 0, 0) (by show 3 ≤ 3 + 9 * 0; omega) (by omega)
  have h2 : sbn 256 = 7 := by decide
  show (prF L L.length 0 ((3, 3), 0, 0)).1.2 + sbn 256 ≤ _
  omega
theorem prO_length {L : List Int32} {n : Nat} (hl : L.length = n) (hn : n ≤ 65536) : (prO L).length = 6 + ((prQ L).2 + 7) / 8 ∧ (prO L).length ≤ 73736 := by
  have h := prQ_bits hl
  have e : (prO L).length = 6 + ((prQ L).2 + 7) / 8 := by
    unfold prO
    rw [List.length_append, List.length_append, Sbs_length]
    show 2 + _ + 4 = _
    omega
  rw [e]
  refine ⟨rfl, ?_⟩
  omega
/-- the reference's press -/
theorem Mo_tail_step {o : Nat → Int32} {L : List Int32} (N : Nat) (x : Int32) : True := trivial
theorem Mo_tail (x : Int32) {o : Nat → Int32} {L : List Int32} {m : Nat} (hM : Md o L) (hl : L.length = m) (hm : m + 4 ≤ 74000) : ∃ o', lp_Mo_press_244 NF x 74000 NF 24 (nI m) o = some (nI (m + 4), o') ∧ Md o' (L ++ num4 x) := by
  have st : ∀ (fuel k m' : Nat) (o1 : Nat → Int32), k ≤ 24 → m' < 74000 → lp_Mo_press_244 NF x 74000 (fuel + 1) (nI k) (nI m') o1 = lp_Mo_press_244 NF x 74000 fuel (nI k + (-8)) (nI (m' + 1)) (upd o1 m' (bB (us x (nI k)))) := by
    intro fuel k m' o1 hk hm'
    rw [ls_Mo_press_244]
    unfold lb_Mo_press_244
    (refine (if_neg ?_).trans ?_; focus ((try simp (disch := omega) only [Int32.le_iff_toInt_le, Int32.lt_iff_toInt_lt, ← Int32.toInt_inj, nI_toInt, nI_addL, nI_Ladd, nI_mulL, nI_Lmul, nI_add, nI_subL, nI_Lsub, nI_sub, Int32.reduceToInt, m1_toInt, ne_eq, Int32.reduceMul, Int32.reduceAdd, Int32.reduceSub]) <;> omega)); rw [Ix_s (by omega) (by omega), Lt_s, Lt_s, Lt_s, nI_1, nI_clamp (by omega), bB_nar]
  have M1 := Md_add hM hl (us x 24)
  have M2 := Md_add M1 (n := m + 1) (by simp [hl]) (us x 16)
  have M3 := Md_add M2 (n := m + 2) (by simp [hl]) (us x 8)
  have M4 := Md_add M3 (n := m + 3) (by simp [hl]) (us x 0)
  refine ⟨upd (upd (upd (upd o m (bB (us x 24))) (m + 1) (bB (us x 16))) (m + 2) (bB (us x 8))) (m + 3) (bB (us x 0)), ?_, ?_⟩
  · have e0 : lp_Mo_press_244 NF x 74000 NF 24 (nI m) o = lp_Mo_press_244 NF x 74000 (999995 + 1 + 1 + 1 + 1 + 1) (nI 24) (nI m) o := rfl
    rw [e0, st _ 24 m o (by omega) (by omega), show nI 24 + (-8) = nI 16 from by decide, st _ 16 (m + 1) _ (by omega) (by omega), show nI 16 + (-8) = nI 8 from by decide, st _ 8 (m + 2) _ (by omega) (by omega), show nI 8 + (-8) = nI 0 from by decide, st _ 0 (m + 3) _ (by omega) (by omega)]
    rw [ls_Mo_press_244]
    unfold lb_Mo_press_244
    exact if_pos (by decide)
  · have ez : us x 0 = x := by
      have h := x.toBitVec.isLt
      rw [i32_nI x, show (0 : Int32) = nI 0 from rfl, n_us (by omega) h]
      simp
    have : L ++ num4 x = (((L ++ [bB (us x 24)]) ++ [bB (us x 16)]) ++ [bB (us x 8)]) ++ [bB (us x 0)] := by
      rw [ez]
      simp [num4]
    rw [this]
    exact M4
theorem MWs_Md {S m c : Nat} {b : Int32} {o : Nat → Int32} (h : MWs S m b o) (hc : c = (m + 7) / 8) : Md o (prPre ++ Sbs S c) := by
  obtain ⟨hS, -, hF, h0, h1, hk⟩ := h
  refine ⟨hF, fun i hi => ?_⟩
  rw [List.length_append, Sbs_length] at hi
  have hi : i < 2 + c := hi
  by_cases q0 : i = 0
  · subst q0
    rw [h0]
    rfl
  · by_cases q1 : i = 1
    · subst q1
      rw [h1]
      rfl
    · rw [gd_r (by show 2 ≤ i; omega)]
      show o i = (Sbs S c).getD (i - 2) 0
      have e : o i = Sb S (i - 2) := by
        have := hk (i - 2) (by omega)
        rwa [show 2 + (i - 2) = i by omega] at this
      rw [e]
      unfold Sbs
      simp [List.getD_eq_getElem?_getD, List.getElem?_map, List.getElem?_range, show i - 2 < c by omega]
theorem Mo_press_all {L : List Int32} {g o : Nat → Int32} {n : Nat} (hg : Md g L) (hl : L.length = n) (hn : n ≤ 65536) (ho : sb_Fit o) :
    ∃ o', f_Mo_press NF (nI n) 74000 o 65536 g = some (nI (prO L).length, nI (prO L).length, nI (prR L).2.1, nI (prR L).2.2, nI (prQ L).2, o') ∧ Md o' (prO L) := by
  obtain ⟨hlen, hmax⟩ := prO_length hl hn
  have hbits := prQ_bits hl
  have M0 : MWs 0 0 (nI 0) (upd (upd o 0 (bB 120)) 1 (bB 1)) := ⟨by decide, rfl, sb_fitU (sb_fitU ho (bB_fit _)) (bB_fit _), by rw [pk_un (by omega), pk_us]; rfl, pk_us, fun k hk => absurd hk (by omega)⟩
  obtain ⟨o1, e1, M1⟩ := Mo_putNumber NF (by decide) (v := 3) (n := 3) (by decide) (by omega) (by omega) M0
  have M1 : MWs 3 3 (nI 3) o1 := M1
  obtain ⟨o2, e2, M2⟩ := Mo_tokens hg hl hn n 0 NF (3, 3) 0 0 o1 (by omega) (by omega) (Nat.lt_of_le_of_lt hn (by decide)) (by show 3 ≤ 3 + 9 * 0; omega) M1
  have hpr : prF L n 0 ((3, 3), 0, 0) = prR L := by unfold prR; rw [hl]
  rw [hpr] at e2 M2
  obtain ⟨o3, e3, M3⟩ := Mo_putSign M2 (s := 256) (by omega) (by
    have h := prF_bits L n hl L.length 0 ((3, 3), 0, 0) (by show 3 ≤ 3 + 9 * 0; omega) (by omega)
    have h2 : sbn 256 = 7 := by decide
    show ((prR L).1.2 + sbn 256) / 8 < 73900
    have h : (prR L).1.2 ≤ 3 + 9 * n := h
    omega)
  have M3 : MWs (prQ L).1 (prQ L).2 (nI (prQ L).2) o3 := M3
  have hMd := MWs_Md M3 rfl
  obtain ⟨o4, e4, M4⟩ := Mo_tail (adl L) hMd (m := 2 + ((prQ L).2 + 7) / 8) (by rw [List.length_append, Sbs_length]; rfl) (by omega)
  refine ⟨o4, ?_, M4⟩
  unfold f_Mo_press
  rw [Ix_0 (by omega) (by omega), Lt_s, show Ix (1 : Int32) 74000 = Ix (nI 1) 74000 from rfl, Ix_s (by omega) (by omega), Lt_s]
  have ea : upd (upd o (0 : Int32).toNatClampNeg (vp_nar .byte 120)) (1 : Int32).toNatClampNeg (vp_nar .byte 1) = upd (upd o 0 (bB 120)) 1 (bB 1) := rfl
  have ec : nI (pS (prR L).1 256).2 + 7 = nI ((prQ L).2 + 7) := nI_add _ 7
  have ed : 2 + (nI ((prQ L).2 + 7)) / 8 = nI (2 + ((prQ L).2 + 7) / 8) := by
    rw [show nI ((prQ L).2 + 7) / 8 = nI (((prQ L).2 + 7) / 8) from pk_div (d := 8) (by omega) (by omega) (by omega)]
    exact nI_add 2 _
  rw [ea]
  refine (Bd_s e1 _).trans ?_
  refine (Bd_s e2 _).trans ?_
  refine (Bd_s e3 _).trans ?_
  rw [Lt_s, Bd_s (Mo_adler hg hl hn), ec, ed, Bd_s e4, hlen, show 2 + ((prQ L).2 + 7) / 8 + 4 = 6 + ((prQ L).2 + 7) / 8 by omega]
  rfl
/-- the class's press -/
theorem JA_fill_loop {m : Nat} (hm : m ≤ 100000) (v : Int32) : ∀ (j k fuel : Nat) (f : Nat → Int32), j + k = m → j < fuel → (∀ i, i < k → f i = v) → ∃ f', lp_JA_fill_5 NF v (nI m) m fuel (nI k) f = some f' ∧ ∀ i, i < m → f' i = v := by
  intro j
  induction j with
  | zero =>
    intro k fuel f hj hf h
    obtain ⟨q, rfl⟩ : ∃ q, fuel = q + 1 := ⟨fuel - 1, by omega⟩
    refine ⟨f, ?_, fun i hi => h i (by omega)⟩
    rw [ls_JA_fill_5]
    unfold lb_JA_fill_5
    (refine (if_pos ?_).trans ?_; focus ((try simp (disch := omega) only [Int32.le_iff_toInt_le, Int32.lt_iff_toInt_lt, ← Int32.toInt_inj, nI_toInt, nI_addL, nI_Ladd, nI_mulL, nI_Lmul, nI_add, nI_subL, nI_Lsub, nI_sub, Int32.reduceToInt, m1_toInt, ne_eq, Int32.reduceMul, Int32.reduceAdd, Int32.reduceSub]) <;> omega)); rfl
  | succ j ih =>
    intro k fuel f hj hf h
    obtain ⟨q, rfl⟩ : ∃ q, fuel = q + 1 := ⟨fuel - 1, by omega⟩
    obtain ⟨f', e1, hE⟩ := ih (k + 1) q (upd f k v) (by omega) (by omega) (fun i hi => by
      by_cases q : i = k
      · rw [q, pk_us]
      · rw [pk_un q]
        exact h i (by omega))
    refine ⟨f', ?_, hE⟩
    rw [← e1]
    rw [ls_JA_fill_5]
    unfold lb_JA_fill_5
    (refine (if_neg ?_).trans ?_; focus ((try simp (disch := omega) only [Int32.le_iff_toInt_le, Int32.lt_iff_toInt_lt, ← Int32.toInt_inj, nI_toInt, nI_addL, nI_Ladd, nI_mulL, nI_Lmul, nI_add, nI_subL, nI_Lsub, nI_sub, Int32.reduceToInt, m1_toInt, ne_eq, Int32.reduceMul, Int32.reduceAdd, Int32.reduceSub]) <;> omega)); rw [Ix_s (by omega) (by omega), Lt_s, Lt_s, nI_1, nI_clamp (by omega)]
theorem JA_fill {m : Nat} (hm : m ≤ 100000) (f : Nat → Int32) (v : Int32) : ∃ f', f_JA_fill NF m f v = some f' ∧ ∀ i, i < m → f' i = v := by
  obtain ⟨f', e, h⟩ := JA_fill_loop hm v m 0 NF f (by omega) (Nat.lt_of_le_of_lt hm (by decide)) (fun i hi => absurd hi (by omega))
  exact ⟨f', (Bd_s e _).trans rfl, h⟩
def kap2 (c : Nat) : Nat := 65536 - c
def phi2 (c : Nat) : Nat := if 65536 ≤ c then 0 else 196608 - 2 * c
theorem phi2_step {c c' : Nat} (h : c < c') (h4 : c' = 65536 ∨ 4 * c ≤ c') (hm : c' ≤ 65536) : c' + phi2 c' ≤ phi2 c := by
  unfold phi2
  split <;> split <;> omega
theorem Fi_start {n cb : Nat} (hn : n ≤ 65536) (hc1 : 64 ≤ cb) (hc2 : cb ≤ 65536) (nw bf : Nat → Int32) (L : List Int32) :
    ∃ (nw' bf' : Nat → Int32) (cb' k z : Nat), f_Fi_start NF 4096 nw cb bf (nI n) = some ((nw', cb', bf'), k, z) ∧ n ≤ cb' ∧ 64 ≤ cb' ∧ cb' ≤ 65536 ∧ Chs L 0 nw' bf' ∧ k + kap2 cb' ≤ kap2 cb ∧ z + phi2 cb' ≤ phi2 cb := by
  obtain ⟨nw', e1, h1⟩ := JA_fill (m := 4096) (by omega) nw (-1)
  have hC : ∀ b : Nat → Int32, Chs L 0 nw' b := fun b => ⟨fun s hs => Or.inr ⟨h1 s hs, fun r hr => absurd hr (by omega)⟩, fun p hp => absurd hp (by omega)⟩
  unfold f_Fi_start
  rw [Bd_s e1]
  by_cases h : n ≤ cb
  · rw [if_pos (nI_le h (by omega))]
    exact ⟨nw', bf, cb, 0, 0, rfl, h, hc1, hc2, hC _, by omega, by omega⟩
  · rw [if_neg (nI_ge (by omega) (by omega))]
    have e2 : imin (4 * nI cb) 65536 = nI (min (4 * cb) 65536) := by
      rw [show (4 : Int32) * nI cb = nI (4 * cb) from pk_mul 4 cb]
      exact imin_n (b := 65536) (by omega) (by omega)
    obtain ⟨r, hr⟩ : ∃ r, r = max n (min (4 * cb) 65536) := ⟨_, rfl⟩
    have e3 : imax (nI n) (nI (min (4 * cb) 65536)) = nI r := by rw [imax_n (by omega) (by omega), hr]
    refine ⟨nw', fun _ => 0, r, 1 + 0, r + 0, ?_, by omega, by omega, by omega, hC _, by unfold kap2; omega, phi2_step (by omega) (by omega) (by omega)⟩
    rw [Lt_s, e2, Lt_s, e3, Ga_s (by omega), nI_clamp (by omega)]
    exact Ak_s rfl
theorem neg_and7 : ∀ r, r < 8 → (-nI r) &&& 7 = nI ((8 - r) % 8) := by decide +kernel
theorem TP_press_all {L Lo : List Int32} {c co cb n m : Nat} {f fo nw bf : Nat → Int32} (hR : Rw c f L) (hRo : Rw co fo Lo) (hl : L.length = n) (hlo : Lo.length = m) (hn : n ≤ 65536) (hc1 : 64 ≤ cb) (hc2 : cb ≤ 65536) (x y : Int32) :
    ∃ (co' cb' : Nat) (fo' nw' bf' : Nat → Int32) (a1 a2 a3 a4 : Int32) (k z : Nat), f_TP_press NF (nI n) (nI m) co fo x y 4096 nw cb bf c f = some ((nI (prO L).length, nI (prO L).length, co', fo', nI (prR L).2.1, nI (prR L).2.2, a1, a2, a3, a4, nw', cb', bf'), k, z) ∧
      Rw co' fo' (prO L) ∧ 64 ≤ cb' ∧ cb' ≤ 65536 ∧ k + kap co' + kap2 cb' ≤ kap co + kap2 cb ∧ z + phi co' + phi2 cb' ≤ phi co + phi2 cb := by
  obtain ⟨hlen, hmax⟩ := prO_length hl hn
  have hbits := prQ_bits hl
  have hm1 := hRo.1
  have hm2 := hRo.2.2.1
  have R0 : Rw co fo [] := Rw_take 0 hRo
  obtain ⟨c1, f1, k1, z1, e1, R1, hk1, hz1⟩ := Rw_add NF R0 (n := 0) rfl (by omega) 120
  obtain ⟨c2, f2, k2, z2, e2, R2, hk2, hz2⟩ := Rw_add NF R1 (n := 1) rfl (by omega) 1
  have B0 : BWs prPre 0 0 (nI 0) (nI 0) (nI 2) c2 f2 := ⟨by decide, rfl, rfl, rfl, R2⟩
  obtain ⟨u1, u2, u3, c3, f3, k3, z3, e3, B3, hk3, hz3⟩ := BW_put NF (by decide) (v := 1) (n := 1) B0 (by decide) (by omega) (by show 2 + (0 + 1) / 8 ≤ 73736; omega)
  obtain ⟨v1, v2, v3, c4, f4, k4, z4, e4, B4, hk4, hz4⟩ := BW_put NF (by decide) (v := 1) (n := 2) B3 (by decide) (by omega) (by show 2 + (0 + 1 + 2) / 8 ≤ 73736; omega)
  have B4 : BWs prPre 3 3 v1 v2 v3 c4 f4 := B4
  obtain ⟨nw5, bf5, cb5, k5, z5, e5, g1, g2, g3, C5, hk5, hz5⟩ := Fi_start hn hc1 hc2 nw bf L
  obtain ⟨w1, w2, w3, c6, f6, x6, y6, nw6, bf6, k6, z6, e6, B6, hk6, hz6⟩ := Pr_tokens (cb := cb5) hR hl hn g1 g3 (pre := prPre) rfl n 0 NF (3, 3) 0 0 v1 v2 v3 c4 f4 x y nw5 bf5 (by omega) (by omega) (Nat.lt_of_le_of_lt hn (by decide)) (by show 3 ≤ 3 + 9 * 0; omega) B4 (by rw [Nat.zero_min]; exact C5)
  have hpr : prF L n 0 ((3, 3), 0, 0) = prR L := by unfold prR; rw [hl]
  rw [hpr] at e6 B6
  have hb3 : (prR L).1.2 ≤ 3 + 9 * n := by
    have h := prF_bits L n hl L.length 0 ((3, 3), 0, 0) (by show 3 ≤ 3 + 9 * 0; omega) (by omega)
    exact h
  have hs7 : sbn 256 = 7 := by decide
  obtain ⟨s1, s2, s3, c7, f7, k7, z7, e7, B7, hk7, hz7⟩ := Pr_putSymbol B6 (s := 256) (by omega) (by show 2 + ((prR L).1.2 + sbn 256) / 8 ≤ 73736; omega)
  have B7 : BWs prPre (prQ L).1 (prQ L).2 s1 s2 s3 c7 f7 := B7
  have eh : s2 = nI ((prQ L).2 % 8) := B7.2.2.1
  have en : (-s2) &&& 7 = nI ((8 - (prQ L).2 % 8) % 8) := by rw [eh]; exact neg_and7 _ (by omega)
  obtain ⟨t1, t2, t3, c8, f8, k8, z8, e8, B8, hk8, hz8⟩ := BW_put NF (by decide) (v := 0) (n := (8 - (prQ L).2 % 8) % 8) B7 (Nat.pow_pos (by decide)) (by omega) (by show 2 + ((prQ L).2 + (8 - (prQ L).2 % 8) % 8) / 8 ≤ 73736; omega)
  have h8 : ((prQ L).2 + (8 - (prQ L).2 % 8) % 8) / 8 = ((prQ L).2 + 7) / 8 := by omega
  obtain ⟨-, -, -, el8, R8⟩ := B8
  rw [h8, Nat.zero_mul, Nat.add_zero] at R8
  rw [h8] at el8
  obtain ⟨c9, f9, k9, z9, e9, R9, hk9, hz9⟩ := Rw_addNumber NF R8 (n := 2 + ((prQ L).2 + 7) / 8) (by rw [List.length_append, Sbs_length]; rfl) (by omega) (adl L)
  have ef : f_BW_fillByte NF s1 s2 s3 c7 f7 = some ((t1, t2, t3, c8, f8), k8 + 0, z8 + 0) := by
    unfold f_BW_fillByte
    rw [en]
    exact Bk_s e8 rfl
  have est : f_Pr_startForm NF (nI m) co fo = some ((v3, c4, f4, v1, v2), k1 + (k2 + (k3 + (k4 + 0))), z1 + (z2 + (z3 + (z4 + 0)))) := by
    unfold f_Pr_startForm
    have es : f_Row_shorten NF (nI m) 0 = some (nI 0) := by
      unfold f_Row_shorten
      rw [if_neg (by decide)]; (refine (if_neg ?_).trans ?_; focus ((try simp (disch := omega) only [Int32.le_iff_toInt_le, Int32.lt_iff_toInt_lt, ← Int32.toInt_inj, nI_toInt, nI_addL, nI_Ladd, nI_mulL, nI_Lmul, nI_add, nI_subL, nI_Lsub, nI_sub, Int32.reduceToInt, m1_toInt, ne_eq, Int32.reduceMul, Int32.reduceAdd, Int32.reduceSub]) <;> omega))
      rfl
    rw [Bd_s es]
    refine Bk_s e1 ?_
    refine Bk_s e2 ?_
    unfold f_BW_start
    rw [Bd_s rfl]
    exact Bk_s e3 (Bk_s e4 rfl)
  refine ⟨c9, cb5, f9, nw6, bf6, t1, t2, x6, y6, (k1 + (k2 + (k3 + (k4 + 0)))) + (k5 + (k6 + (k7 + (k8 + 0 + (k9 + 0))))) + 0, (z1 + (z2 + (z3 + (z4 + 0)))) + (z5 + (z6 + (z7 + (z8 + 0 + (z9 + 0))))) + 0, ?_, R9, g2, g3, by omega, by omega⟩
  unfold f_TP_press
  refine Bk_s (a := (nI (prO L).length, c9, f9, nI (prR L).2.1, nI (prR L).2.2, t1, t2, x6, y6, nw6, cb5, bf6)) ?_ rfl
  unfold f_Pr_run f_Row_length f_Row_bytes
  rw [Bd_s rfl, Bd_s rfl]
  refine Bk_s est ?_
  refine Bk_s e5 ?_
  refine Bk_s e6 ?_
  refine Bk_s e7 ?_
  refine Bk_s ef ?_
  rw [Bd_s (Row_adler hR hl)]
  have el9 : t3 = nI (2 + ((prQ L).2 + 7) / 8) := el8
  rw [el9]
  refine (Bk_s e9 rfl).trans ?_
  rw [hlen, show 2 + ((prQ L).2 + 7) / 8 + 4 = 6 + ((prQ L).2 + 7) / 8 by omega]
