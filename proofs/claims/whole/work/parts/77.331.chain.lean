/-! the class's search along its chains (ours) -/
def three (L : List Int32) (p : Nat) : Int32 := (((L.getD p 0 &&& 255) <<< ((16 : Int32) &&& 31)) ||| ((L.getD (p + 1) 0 &&& 255) <<< ((8 : Int32) &&& 31))) ||| (L.getD (p + 2) 0 &&& 255)
def slot (L : List Int32) (p : Nat) : Nat := (three L p * (-1640531535)).toBitVec.toNat / 2 ^ 20
theorem i32_nI (x : Int32) : x = nI x.toBitVec.toNat := by
  apply i32_bv
  rw [nI_bv, BitVec.ofNat_toNat, BitVec.setWidth_eq]
theorem slot_lt (L : List Int32) (p : Nat) : slot L p < 4096 := by
  unfold slot
  have := (three L p * (-1640531535)).toBitVec.isLt
  omega
theorem slot_eq {L : List Int32} {p q : Nat} (h : ∀ r, r < 3 → L.getD (p + r) 0 = L.getD (q + r) 0) : slot L p = slot L q := by
  have h0 := h 0 (by omega)
  have h1 := h 1 (by omega)
  have h2 := h 2 (by omega)
  simp only [Nat.add_zero] at h0
  unfold slot three
  rw [h0, h1, h2]
theorem Fi_slot {L : List Int32} {c p : Nat} {f : Nat → Int32} (hR : Rw c f L) (hp : p + 2 < L.length) : f_Fi_slot NF c f (nI p) = some (nI (slot L p)) := by
  obtain ⟨r1, r2, r3, r4, r5⟩ := hR
  unfold f_Fi_slot
  rw [Ix_s (by omega) (by omega), nI_1, Ix_s (by omega) (by omega), show nI p + 2 = nI (p + 2) from nI_add p 2, Ix_s (by omega) (by omega), Lt_s, nI_clamp (by omega), nI_clamp (by omega), nI_clamp (by omega), r5 p (by omega), r5 (p + 1) (by omega), r5 (p + 2) (by omega)]
  have e : us (three L p * (-1640531535)) 20 = nI (slot L p) := by
    have h := (three L p * (-1640531535)).toBitVec.isLt
    unfold slot
    rw [← n_us (k := 20) (by omega) h, ← i32_nI]
    rfl
  rw [← e]
  rfl
theorem cmF_cut (L : List Int32) (i d : Nat) (x : Nat) : ∀ j k, L.length ≤ i + (j + k) → cmF L i d (j + x) k = cmF L i d j k
  | 0, k, h => by
    cases x with
    | zero => rfl
    | succ x =>
      rw [Nat.zero_add]
      show cmF L i d (x + 1) k = k
      unfold cmF
      rw [if_neg (fun q => by have := q.1; omega)]
  | j + 1, k, h => by
    rw [show j + 1 + x = (j + x) + 1 by omega]
    unfold cmF
    rw [cmF_cut L i d x j (k + 1) (by omega)]
def most (L : List Int32) (i : Nat) : Nat := min 258 (L.length - i)
theorem cm_most (L : List Int32) (i d : Nat) : cmF L i d (most L i) 0 = cm L i d := by
  unfold cm most
  by_cases h : 258 ≤ L.length - i
  · rw [Nat.min_eq_left h]
  · rw [Nat.min_eq_right (by omega)]
    have := cmF_cut L i d (258 - (L.length - i)) (L.length - i) 0 (by omega)
    rw [← this]
    congr 1
    omega
theorem Fi_same_loop {L : List Int32} {c n i p : Nat} {f : Nat → Int32} (hR : Rw c f L) (hl : L.length = n) (hn : n ≤ 65536) (hi : i < n) (hp : p < i) : ∀ (j k fuel : Nat), j + k = most L i → j < fuel → lp_Fi_sameBytes_3 NF (nI p) (nI i) (nI (most L i)) c f fuel (nI k) = some (nI (cmF L i (i - p) j k)) := by
  obtain ⟨r1, r2, r3, r4, r5⟩ := hR
  have hm : most L i ≤ 258 ∧ i + most L i ≤ n := by unfold most; omega
  intro j
  induction j with
  | zero =>
    intro k fuel hk hf
    obtain ⟨q, rfl⟩ : ∃ q, fuel = q + 1 := ⟨fuel - 1, by omega⟩
    rw [ls_Fi_sameBytes_3]
    unfold lb_Fi_sameBytes_3
    (refine (if_pos ?_).trans ?_; focus ((try simp (disch := omega) only [Int32.le_iff_toInt_le, Int32.lt_iff_toInt_lt, ← Int32.toInt_inj, nI_toInt, nI_addL, nI_Ladd, nI_mulL, nI_Lmul, nI_add, nI_subL, nI_Lsub, nI_sub, Int32.reduceToInt, m1_toInt, ne_eq, Int32.reduceMul, Int32.reduceAdd, Int32.reduceSub]) <;> omega)); rfl
  | succ j ih =>
    intro k fuel hk hf
    obtain ⟨q, rfl⟩ : ∃ q, fuel = q + 1 := ⟨fuel - 1, by omega⟩
    rw [ls_Fi_sameBytes_3]
    unfold lb_Fi_sameBytes_3 cmF
    (refine (if_neg ?_).trans ?_; focus ((try simp (disch := omega) only [Int32.le_iff_toInt_le, Int32.lt_iff_toInt_lt, ← Int32.toInt_inj, nI_toInt, nI_addL, nI_Ladd, nI_mulL, nI_Lmul, nI_add, nI_subL, nI_Lsub, nI_sub, Int32.reduceToInt, m1_toInt, ne_eq, Int32.reduceMul, Int32.reduceAdd, Int32.reduceSub]) <;> omega)); rw [nI_add, nI_add, Ix_s (by omega) (by omega), Ix_s (by omega) (by omega), nI_clamp (by omega), nI_clamp (by omega), r5 (p + k) (by omega), r5 (i + k) (by omega), show i + k - (i - p) = p + k by omega]
    by_cases h2 : L.getD (p + k) 0 = L.getD (i + k) 0
    · rw [if_pos h2, if_pos ⟨by omega, h2.symm⟩, Lt_s, nI_1]
      exact ih (k + 1) q (by omega) (by omega)
    · rw [if_neg h2, if_neg (fun q => h2 q.2.symm)]
theorem Fi_same {L : List Int32} {c n i p : Nat} {f : Nat → Int32} (hR : Rw c f L) (hl : L.length = n) (hn : n ≤ 65536) (hi : i < n) (hp : p < i) : f_Fi_sameBytes NF c f (nI p) (nI i) (nI (most L i)) = some (nI (cm L i (i - p))) := by
  have hm : most L i ≤ 258 := by unfold most; omega
  unfold f_Fi_sameBytes
  refine (Bd_s (Fi_same_loop hR hl hn hi hp (most L i) 0 NF (by omega) (Nat.lt_of_le_of_lt hm (by decide))) _).trans ?_
  rw [cm_most]
/-- x is the last place before u of slot s, -1 if there is none -/
def lastP (L : List Int32) (u s : Nat) (x : Int32) : Prop := (∃ p, p < u ∧ slot L p = s ∧ x = nI p ∧ ∀ r, p < r → r < u → slot L r ≠ s) ∨ (x = -1 ∧ ∀ r, r < u → slot L r ≠ s)
/-- the chains when the places before u are known -/
def Chs (L : List Int32) (u : Nat) (nw bf : Nat → Int32) : Prop := (∀ s, s < 4096 → lastP L u s (nw s)) ∧ ∀ p, p < u → lastP L p (slot L p) (bf p)
theorem cm_slot {L : List Int32} {i d : Nat} (hd : d ≤ i) (h : slot L (i - d) ≠ slot L i) : cm L i d < 3 := by
  apply Nat.lt_of_not_le
  intro q
  apply h
  apply slot_eq
  intro r hr
  have := cm_all (L := L) (i := i) (d := d) (r := r) (by omega)
  rw [this]
  congr 1
  omega
theorem Fi_better (b w m d : Nat) (hb : b ≤ 258) (hm : m ≤ 258) : f_Fi_better NF (nI b) (nI w) (nI m) (nI d) = some (nI (if 3 ≤ m ∧ b < m then (m, d) else (b, w)).1, nI (if 3 ≤ m ∧ b < m then (m, d) else (b, w)).2) := by
  unfold f_Fi_better
  by_cases h1 : m < 3
  · (refine (if_pos ?_).trans ?_; focus ((try simp (disch := omega) only [Int32.le_iff_toInt_le, Int32.lt_iff_toInt_lt, ← Int32.toInt_inj, nI_toInt, nI_addL, nI_Ladd, nI_mulL, nI_Lmul, nI_add, nI_subL, nI_Lsub, nI_sub, Int32.reduceToInt, m1_toInt, ne_eq, Int32.reduceMul, Int32.reduceAdd, Int32.reduceSub]) <;> omega)); rw [if_neg (fun q => by omega)]
  · (refine (if_neg ?_).trans ?_; focus ((try simp (disch := omega) only [Int32.le_iff_toInt_le, Int32.lt_iff_toInt_lt, ← Int32.toInt_inj, nI_toInt, nI_addL, nI_Ladd, nI_mulL, nI_Lmul, nI_add, nI_subL, nI_Lsub, nI_sub, Int32.reduceToInt, m1_toInt, ne_eq, Int32.reduceMul, Int32.reduceAdd, Int32.reduceSub]) <;> omega))
    by_cases h2 : m ≤ b
    · (refine (if_pos ?_).trans ?_; focus ((try simp (disch := omega) only [Int32.le_iff_toInt_le, Int32.lt_iff_toInt_lt, ← Int32.toInt_inj, nI_toInt, nI_addL, nI_Ladd, nI_mulL, nI_Lmul, nI_add, nI_subL, nI_Lsub, nI_sub, Int32.reduceToInt, m1_toInt, ne_eq, Int32.reduceMul, Int32.reduceAdd, Int32.reduceSub]) <;> omega)); rw [if_neg (fun q => by omega)]
    · (refine (if_neg ?_).trans ?_; focus ((try simp (disch := omega) only [Int32.le_iff_toInt_le, Int32.lt_iff_toInt_lt, ← Int32.toInt_inj, nI_toInt, nI_addL, nI_Ladd, nI_mulL, nI_Lmul, nI_add, nI_subL, nI_Lsub, nI_sub, Int32.reduceToInt, m1_toInt, ne_eq, Int32.reduceMul, Int32.reduceAdd, Int32.reduceSub]) <;> omega)); rw [if_pos ⟨by omega, by omega⟩]
theorem Fi_find_loop {L : List Int32} {c cb n i : Nat} {f bf : Nat → Int32} (hR : Rw c f L) (hl : L.length = n) (hn : n ≤ 65536) (hi : i + 2 < n) (hcb : i ≤ cb) (hcb2 : cb ≤ 65536) (hb : ∀ p, p < i → lastP L p (slot L p) (bf p)) :
    ∀ (u k fuel : Nat) (e : Int32), u < fuel → i - dmx i ≤ u → u + k ≤ i → lastP L u (slot L i) e → lp_Fi_find_53 NF (nI i) (nI (most L i)) (nI (i - dmx i)) cb bf c f fuel e (nI k) (nI (srC L i (i - u)).1) (nI (srC L i (i - u)).2) = some (nI (srC L i (dmx i)).1, nI (srC L i (dmx i)).2) := by
  have hm : most L i ≤ 258 ∧ i + most L i ≤ n := by unfold most; omega
  have hdm : dmx i ≤ i ∧ dmx i ≤ 32768 ∧ (dmx i = i ∨ dmx i = 32768) := by unfold dmx; omega
  intro u
  induction u using Nat.strongRecOn with
  | ind u ih =>
    intro k fuel e hf hlo hk hlast
    obtain ⟨q, rfl⟩ : ∃ q, fuel = q + 1 := ⟨fuel - 1, by omega⟩
    obtain ⟨o1, o2, o3⟩ := srC_ok L (i := i) (by omega) (i - u)
    obtain ⟨b, w, hbw⟩ : ∃ b w, srC L i (i - u) = (b, w) := ⟨_, _, rfl⟩
    rw [hbw] at o1 o2 o3
    dsimp only at o1 o2 o3
    have stay : (∀ d, i - u < d → d ≤ dmx i → ¬ (3 ≤ cm L i d ∧ b < cm L i d)) → some (nI b, nI w) = some (nI (srC L i (dmx i)).1, nI (srC L i (dmx i)).2) := by
      intro h
      have := srC_stay L i (i - u) (dmx i - (i - u)) (fun d q1 q2 => by rw [hbw]; exact h d q1 (by omega))
      rw [show i - u + (dmx i - (i - u)) = dmx i by omega, hbw] at this
      rw [this]
    rw [ls_Fi_find_53]
    unfold lb_Fi_find_53
    rw [hbw]
    dsimp only
    by_cases h1 : 32768 ≤ k
    · (refine (if_pos ?_).trans ?_; focus ((try simp (disch := omega) only [Int32.le_iff_toInt_le, Int32.lt_iff_toInt_lt, ← Int32.toInt_inj, nI_toInt, nI_addL, nI_Ladd, nI_mulL, nI_Lmul, nI_add, nI_subL, nI_Lsub, nI_sub, Int32.reduceToInt, m1_toInt, ne_eq, Int32.reduceMul, Int32.reduceAdd, Int32.reduceSub]) <;> omega))
      exact stay (fun d q1 q2 => absurd q2 (by omega))
    · (refine (if_neg ?_).trans ?_; focus ((try simp (disch := omega) only [Int32.le_iff_toInt_le, Int32.lt_iff_toInt_lt, ← Int32.toInt_inj, nI_toInt, nI_addL, nI_Ladd, nI_mulL, nI_Lmul, nI_add, nI_subL, nI_Lsub, nI_sub, Int32.reduceToInt, m1_toInt, ne_eq, Int32.reduceMul, Int32.reduceAdd, Int32.reduceSub]) <;> omega))
      have none_left : (∀ r, i - dmx i ≤ r → r < u → slot L r ≠ slot L i) → some (nI b, nI w) = some (nI (srC L i (dmx i)).1, nI (srC L i (dmx i)).2) := fun h => stay (fun d q1 q2 => by
        have := cm_slot (L := L) (i := i) (d := d) (by omega) (h (i - d) (by omega) (by omega))
        omega)
      rcases hlast with ⟨p, hpu, hps, rfl, hgap⟩ | ⟨rfl, hnone⟩
      · by_cases h2 : p < i - dmx i
        · (refine (if_pos ?_).trans ?_; focus ((try simp (disch := omega) only [Int32.le_iff_toInt_le, Int32.lt_iff_toInt_lt, ← Int32.toInt_inj, nI_toInt, nI_addL, nI_Ladd, nI_mulL, nI_Lmul, nI_add, nI_subL, nI_Lsub, nI_sub, Int32.reduceToInt, m1_toInt, ne_eq, Int32.reduceMul, Int32.reduceAdd, Int32.reduceSub]) <;> omega))
          exact none_left (fun r q1 q2 => hgap r (by omega) q2)
        · (refine (if_neg ?_).trans ?_; focus ((try simp (disch := omega) only [Int32.le_iff_toInt_le, Int32.lt_iff_toInt_lt, ← Int32.toInt_inj, nI_toInt, nI_addL, nI_Ladd, nI_mulL, nI_Lmul, nI_add, nI_subL, nI_Lsub, nI_sub, Int32.reduceToInt, m1_toInt, ne_eq, Int32.reduceMul, Int32.reduceAdd, Int32.reduceSub]) <;> omega))
          by_cases h3 : most L i ≤ b
          · (refine (if_pos ?_).trans ?_; focus ((try simp (disch := omega) only [Int32.le_iff_toInt_le, Int32.lt_iff_toInt_lt, ← Int32.toInt_inj, nI_toInt, nI_addL, nI_Ladd, nI_mulL, nI_Lmul, nI_add, nI_subL, nI_Lsub, nI_sub, Int32.reduceToInt, m1_toInt, ne_eq, Int32.reduceMul, Int32.reduceAdd, Int32.reduceSub]) <;> omega))
            exact stay (fun d q1 q2 q3 => by
              have h4 := cm_le L i d
              have h5 := cm_in (L := L) (i := i) d (by omega)
              have : most L i = min 258 (L.length - i) := rfl
              omega)
          · (refine (if_neg ?_).trans ?_; focus ((try simp (disch := omega) only [Int32.le_iff_toInt_le, Int32.lt_iff_toInt_lt, ← Int32.toInt_inj, nI_toInt, nI_addL, nI_Ladd, nI_mulL, nI_Lmul, nI_add, nI_subL, nI_Lsub, nI_sub, Int32.reduceToInt, m1_toInt, ne_eq, Int32.reduceMul, Int32.reduceAdd, Int32.reduceSub]) <;> omega)); rw [nI_add, nI_add]
            obtain ⟨r1, r2, r3, r4, r5⟩ := id hR
            rw [Ix_s (j := p + b) (by omega) (by omega), Ix_s (j := i + b) (by omega) (by omega), Jn_s, nI_clamp (n := p + b) (by omega), nI_clamp (n := i + b) (by omega), r5 (p + b) (by omega), r5 (i + b) (by omega)]
            have e1 : srC L i (i - p - 1) = (b, w) := by
              have := srC_stay L i (i - u) (u - p - 1) (fun d q1 q2 q3 => by
                have := cm_slot (L := L) (i := i) (d := d) (by omega) (hgap (i - d) (by omega) (by omega))
                omega)
              rw [show i - u + (u - p - 1) = i - p - 1 by omega, hbw] at this
              exact this
            have e2 : srC L i (i - p) = if 3 ≤ cm L i (i - p) ∧ b < cm L i (i - p) then (cm L i (i - p), i - p) else (b, w) := by
              have h : srC L i (i - p - 1 + 1) = stC L i (srC L i (i - p - 1)) (i - p - 1 + 1) := rfl
              rw [e1, show i - p - 1 + 1 = i - p by omega] at h
              exact h
            have next : ∀ t : Nat × Nat, srC L i (i - p) = t → (Ix (nI p) cb <| Lt (bf (nI p).toNatClampNeg) fun v29 => Lt (nI k + 1) fun v30 => lp_Fi_find_53 NF (nI i) (nI (most L i)) (nI (i - dmx i)) cb bf c f q v29 v30 (nI t.1) (nI t.2)) = some (nI (srC L i (dmx i)).1, nI (srC L i (dmx i)).2) := by
              intro t ht
              subst ht
              rw [Ix_s (by omega) (by omega), Lt_s, Lt_s, nI_1, nI_clamp (by omega)]
              exact ih p hpu (k + 1) q (bf p) (by omega) (by omega) (by omega) (by rw [← hps]; exact hb p (by omega))
            by_cases h4 : L.getD (p + b) 0 = L.getD (i + b) 0
            · rw [if_pos h4, Bd_s (Fi_same hR hl hn (by omega) (by omega)), nI_sub (a := i) (b := p) (by omega), Bd_s (Fi_better b w _ _ o1 (cm_le L i _))]
              exact next _ e2
            · rw [if_neg h4]
              refine next (b, w) ?_
              rw [e2, if_neg]
              intro q
              have := cm_stop (L := L) (i := i) (d := i - p) (b := b) (fun z => h4 (by rw [show i + b - (i - p) = p + b by omega] at z; exact z.symm))
              omega
      · have hneg : (-1 : Int32) < nI (i - dmx i) := by
          rw [Int32.lt_iff_toInt_lt, nI_toInt (by omega)]
          have : (-1 : Int32).toInt = -1 := by decide
          omega
        rw [if_pos hneg]
        exact none_left (fun r _ q2 => hnone r q2)
theorem imax_low {i : Nat} (hi : i ≤ 65536) : imax 0 (nI i - 32768) = nI (i - dmx i) := by
  unfold imax dmx
  by_cases h : 32768 < i
  · have e : nI i - 32768 = nI (i - 32768) := nI_sub (b := 32768) (by omega)
    rw [e, show min i 32768 = 32768 by omega]; (refine (if_pos ?_).trans ?_; focus ((try simp (disch := omega) only [Int32.le_iff_toInt_le, Int32.lt_iff_toInt_lt, ← Int32.toInt_inj, nI_toInt, nI_addL, nI_Ladd, nI_mulL, nI_Lmul, nI_add, nI_subL, nI_Lsub, nI_sub, Int32.reduceToInt, m1_toInt, ne_eq, Int32.reduceMul, Int32.reduceAdd, Int32.reduceSub]) <;> omega))
    rfl
  · by_cases h2 : i = 32768
    · subst h2
      decide
    · have hn : nI i - 32768 < 0 := pk_sneg (a := i) (b := 32768) (by omega) (by omega)
      rw [if_neg (fun q => by
        have := Int32.lt_trans q hn
        exact absurd this (by decide))]
      rw [show i - min i 32768 = 0 by omega]
      rfl
theorem Fi_find {L : List Int32} {c cb n i : Nat} {f nw bf : Nat → Int32} (hR : Rw c f L) (hl : L.length = n) (hn : n ≤ 65536) (hi : i < n) (hcb : n ≤ cb) (hcb2 : cb ≤ 65536) (hC : Chs L (min i (n - 2)) nw bf) :
    f_Fi_find NF c f 4096 nw cb bf (nI n) (nI i) = some (nI (srC L i (dmx i)).1, nI (srC L i (dmx i)).2) := by
  unfold f_Fi_find
  have e1 : imin 258 (nI n - nI i) = nI (most L i) := by
    rw [nI_sub (by omega)]
    unfold most
    rw [hl]
    exact imin_n (a := 258) (by omega) (by omega)
  have hm : most L i = min 258 (L.length - i) := rfl
  rw [Lt_s, e1]
  by_cases h3 : 3 ≤ most L i
  · (refine (if_pos ?_).trans ?_; focus ((try simp (disch := omega) only [Int32.le_iff_toInt_le, Int32.lt_iff_toInt_lt, ← Int32.toInt_inj, nI_toInt, nI_addL, nI_Ladd, nI_mulL, nI_Lmul, nI_add, nI_subL, nI_Lsub, nI_sub, Int32.reduceToInt, m1_toInt, ne_eq, Int32.reduceMul, Int32.reduceAdd, Int32.reduceSub]) <;> omega)); rw [Lt_s, imax_low (by omega), Bd_s (Fi_slot hR (by omega)), Ix_s (slot_lt L i) (by omega), Lt_s, nI_clamp (by have := slot_lt L i; omega)]
    have hmin : min i (n - 2) = i := by omega
    rw [hmin] at hC
    have hdm : dmx i ≤ i := by unfold dmx; omega
    have := Fi_find_loop (cb := cb) hR hl hn (i := i) (by omega) (by omega) hcb2 hC.2 i 0 NF (nw (slot L i)) (Nat.lt_of_le_of_lt (show i ≤ 65536 by omega) (by decide)) (by omega) (by omega) (hC.1 _ (slot_lt L i))
    rw [show i - i = 0 by omega] at this
    exact (Bd_s this _).trans rfl
  · (refine (if_neg ?_).trans ?_; focus ((try simp (disch := omega) only [Int32.le_iff_toInt_le, Int32.lt_iff_toInt_lt, ← Int32.toInt_inj, nI_toInt, nI_addL, nI_Ladd, nI_mulL, nI_Lmul, nI_add, nI_subL, nI_Lsub, nI_sub, Int32.reduceToInt, m1_toInt, ne_eq, Int32.reduceMul, Int32.reduceAdd, Int32.reduceSub]) <;> omega))
    have := srC_stay L i 0 (dmx i) (fun d _ _ q => by
      have h4 := cm_in (L := L) (i := i) d (by omega)
      have h5 := cm_le L i d
      omega)
    rw [Nat.zero_add] at this
    rw [this]
    rfl
/-- the places i .. e - 1 become known -/
theorem Fi_note_loop {L : List Int32} {c cb n e : Nat} {f : Nat → Int32} (hR : Rw c f L) (hl : L.length = n) (hn : n ≤ 65536) (he : e ≤ n - 2) (hcb : n ≤ cb) (hcb2 : cb ≤ 65536) : ∀ (j i fuel : Nat) (nw bf : Nat → Int32), j + i = e → j < fuel → Chs L i nw bf → ∃ nw' bf', lp_Fi_note_17 NF (nI e) 4096 cb c f fuel (nI i) nw bf = some (nw', bf') ∧ Chs L e nw' bf' := by
  intro j
  induction j with
  | zero =>
    intro i fuel nw bf hj hf hC
    obtain ⟨q, rfl⟩ : ∃ q, fuel = q + 1 := ⟨fuel - 1, by omega⟩
    have hi : i = e := by omega
    subst hi
    refine ⟨nw, bf, ?_, hC⟩
    rw [ls_Fi_note_17]
    unfold lb_Fi_note_17
    (refine (if_pos ?_).trans ?_; focus ((try simp (disch := omega) only [Int32.le_iff_toInt_le, Int32.lt_iff_toInt_lt, ← Int32.toInt_inj, nI_toInt, nI_addL, nI_Ladd, nI_mulL, nI_Lmul, nI_add, nI_subL, nI_Lsub, nI_sub, Int32.reduceToInt, m1_toInt, ne_eq, Int32.reduceMul, Int32.reduceAdd, Int32.reduceSub]) <;> omega)); rfl
  | succ j ih =>
    intro i fuel nw bf hj hf hC
    obtain ⟨q, rfl⟩ : ∃ q, fuel = q + 1 := ⟨fuel - 1, by omega⟩
    have hs := slot_lt L i
    have hC' : Chs L (i + 1) (upd nw (slot L i) (nI i)) (upd bf i (nw (slot L i))) := by
      refine ⟨fun s hs2 => ?_, fun p hp => ?_⟩
      · by_cases h : s = slot L i
        · subst h
          rw [pk_us]
          exact Or.inl ⟨i, by omega, rfl, rfl, fun r q1 q2 => absurd q1 (by omega)⟩
        · rw [pk_un h]
          rcases hC.1 s hs2 with ⟨p, h1, h2, h3, h4⟩ | ⟨h1, h2⟩
          · refine Or.inl ⟨p, by omega, h2, h3, fun r q1 q2 => ?_⟩
            by_cases hr : r = i
            · rw [hr]
              exact fun z => h z.symm
            · exact h4 r q1 (by omega)
          · refine Or.inr ⟨h1, fun r q2 => ?_⟩
            by_cases hr : r = i
            · rw [hr]
              exact fun z => h z.symm
            · exact h2 r (by omega)
      · by_cases h : p = i
        · subst h
          rw [pk_us]
          exact hC.1 _ hs
        · rw [pk_un h]
          exact hC.2 p (by omega)
    obtain ⟨nw', bf', e1, hE⟩ := ih (i + 1) q _ _ (by omega) (by omega) hC'
    refine ⟨nw', bf', ?_, hE⟩
    rw [← e1]
    rw [ls_Fi_note_17]
    unfold lb_Fi_note_17
    (refine (if_neg ?_).trans ?_; focus ((try simp (disch := omega) only [Int32.le_iff_toInt_le, Int32.lt_iff_toInt_lt, ← Int32.toInt_inj, nI_toInt, nI_addL, nI_Ladd, nI_mulL, nI_Lmul, nI_add, nI_subL, nI_Lsub, nI_sub, Int32.reduceToInt, m1_toInt, ne_eq, Int32.reduceMul, Int32.reduceAdd, Int32.reduceSub]) <;> omega)); rw [Bd_s (Fi_slot hR (by omega)), Ix_s hs (by omega), Ix_s (by omega) (by omega), Lt_s, Ix_s hs (by omega), Lt_s, Lt_s, nI_1, nI_clamp (by omega), nI_clamp (by omega)]
