/-! The pure side (ours): the words of the functions, forwards. -/
def NF : Nat := 1000000
theorem Lt_s {α β : Type} (e : α) (k : α → Option β) : Lt e k = k e := rfl
theorem Jn_s {α β : Type} (j : α → Option β) (k : (α → Option β) → Option β) : Jn j k = k j := rfl
theorem Ix_s {β : Type} {j n : Nat} {x : Option β} (h : j < n) (hn : n < 2 ^ 31) : Ix (nI j) n x = x := by
  unfold Ix
  exact if_neg (nI_in h hn)
theorem Ix_0 {β : Type} {n : Nat} {x : Option β} (h : 0 < n) (hn : n < 2 ^ 31) : Ix 0 n x = x := Ix_s h hn
theorem Bd_s {α β : Type} {x : Option α} {a : α} (h : x = some a) (k : α → Option β) : Bd x k = k a := by
  rw [h]
  rfl
theorem Bk_s {α β : Type} {x : Option (α × Nat × Nat)} {a : α} {k1 z1 : Nat} (h : x = some (a, k1, z1)) {k : α → Option (β × Nat × Nat)} {b : β} {k2 z2 : Nat} (h2 : k a = some (b, k2, z2)) : Bk x k = some (b, k1 + k2, z1 + z2) := by
  rw [h]
  unfold Bk
  simp only [h2]
theorem Ak_s {β : Type} {n : Nat} {x : Option (β × Nat × Nat)} {b : β} {k z : Nat} (h : x = some (b, k, z)) : Ak n x = some (b, 1 + k, n + z) := by
  rw [h]
  rfl
theorem Ga_s {β : Type} {j : Nat} {x : Option β} (h : j ≤ 60000000) : Ga (nI j) x = x := by
  unfold Ga
  rw [nI_clamp (by omega)]
  refine if_neg (fun q => ?_)
  rcases q with q | q
  · exact nI_pos (by omega) q
  · omega
theorem Gb_s {β : Type} {i : Int32} {x : Option β} (h : i = 0 ∨ i = 1) : Gb i x = x := by
  unfold Gb
  exact if_pos h
theorem Gc_s {β : Type} {sp dp n n0 n1 : Nat} {f : Nat → Int32} {x : Option β} (h0 : sp + n ≤ n0) (h1 : dp + n ≤ n1) (hn0 : n0 < 2 ^ 31) (hn1 : n1 < 2 ^ 31) (hf : sb_Fit f) : Gc (nI sp) (nI dp) (nI n) n0 n1 f x = x := by
  unfold Gc
  rw [nI_clamp (by omega), nI_clamp (by omega), nI_clamp (by omega)]
  exact if_pos ⟨nI_pos (by omega), nI_pos (by omega), nI_pos (by omega), h0, h1, fun i _ => hf _⟩
theorem imin_n {a b : Nat} (ha : a < 2 ^ 31) (hb : b < 2 ^ 31) : imin (nI a) (nI b) = nI (min a b) := by
  unfold imin
  by_cases h : b < a
  · rw [if_pos (nI_lt h ha), Nat.min_eq_right (Nat.le_of_lt h)]
  · rw [if_neg (nI_nlt (Nat.le_of_not_lt h) hb), Nat.min_eq_left (Nat.le_of_not_lt h)]
theorem imax_n {a b : Nat} (ha : a < 2 ^ 31) (hb : b < 2 ^ 31) : imax (nI a) (nI b) = nI (max a b) := by
  unfold imax
  by_cases h : a < b
  · rw [if_pos (nI_lt h hb), Nat.max_eq_right (Nat.le_of_lt h)]
  · rw [if_neg (nI_nlt (Nat.le_of_not_lt h) ha), Nat.max_eq_left (Nat.le_of_not_lt h)]
theorem gd_l {α : Type} {L M : List α} {i : Nat} {d : α} (h : i < L.length) : (L ++ M).getD i d = L.getD i d := by
  rw [List.getD_eq_getElem?_getD, List.getD_eq_getElem?_getD, List.getElem?_append_left h]
theorem gd_r {α : Type} {L M : List α} {i : Nat} {d : α} (h : L.length ≤ i) : (L ++ M).getD i d = M.getD (i - L.length) d := by
  rw [List.getD_eq_getElem?_getD, List.getD_eq_getElem?_getD, List.getElem?_append_right h]
/-! rows of bytes -/
def bB (x : Int32) : Int32 := x.toInt8.toInt32
theorem bB_nar (x : Int32) : vp_nar .byte x.toInt8.toInt32 = bB x := pk_vb x
theorem bB_fit (x : Int32) : fits .byte (.int (bB x)) = true := pk_fb x
/-- a row of c places holds the bytes L -/
def Rw (c : Nat) (f : Nat → Int32) (L : List Int32) : Prop := L.length ≤ c ∧ 64 ≤ c ∧ c ≤ 73736 ∧ sb_Fit f ∧ ∀ i, i < L.length → f i = L.getD i 0
/-- what a row may still take: cells, places -/
def kap (c : Nat) : Nat := 73736 - c
def phi (c : Nat) : Nat := if 73736 ≤ c then 0 else 221208 - 2 * c
theorem phi_step {c c' : Nat} (h : c < c') (h4 : c' = 73736 ∨ 4 * c ≤ c') (hm : c' ≤ 73736) : c' + phi c' ≤ phi c := by
  unfold phi
  split <;> split <;> omega
theorem Rw_room (N : Nat) {c p : Nat} {f : Nat → Int32} {L : List Int32} (h : Rw c f L) (hp : p ≤ 73736) :
    ∃ (c' : Nat) (f' : Nat → Int32) (k z : Nat), f_Row_makeRoom N c f (nI p) = some ((c', f'), k, z) ∧ Rw c' f' L ∧ p ≤ c' ∧ k + kap c' ≤ kap c ∧ z + phi c' ≤ phi c := by
  obtain ⟨h1, h2, h3, h4, h5⟩ := id h
  unfold f_Row_makeRoom
  by_cases hle : p ≤ c
  · rw [if_pos (nI_le hle (by omega))]
    exact ⟨c, f, 0, 0, rfl, h, hle, by omega, by omega⟩
  · rw [if_neg (nI_ge (Nat.lt_of_not_le hle) (by omega))]
    have e0 : (4 : Int32) * nI c = nI (4 * c) := pk_mul 4 c
    have e1 : imin (4 * nI c) 73736 = nI (min (4 * c) 73736) := by
      rw [e0]
      exact imin_n (b := 73736) (by omega) (by omega)
    obtain ⟨r, hr⟩ : ∃ r, r = max p (min (4 * c) 73736) := ⟨_, rfl⟩
    have hcr : c < r := by omega
    have hrm : r ≤ 73736 := by omega
    have hr4 : r = 73736 ∨ 4 * c ≤ r := by omega
    have e2 : imax (nI p) (nI (min (4 * c) 73736)) = nI r := by
      rw [imax_n (by omega) (by omega), hr]
    have e3 : f_JA_copyOf N c f (nI r) = some ((r, va_cpy f (fun _ => 0) 0 0 c), 1 + 0, r + 0) := by
      unfold f_JA_copyOf
      rw [if_neg (fun q => by rw [nI_eq (by omega) (by omega)] at q; omega), Ga_s (by omega), nI_clamp (by omega)]
      refine Ak_s ?_
      have e4 : imin (nI c) (nI r) = nI c := by rw [imin_n (by omega) (by omega), Nat.min_eq_left (by omega)]
      rw [Lt_s, e4, nI_clamp (by omega)]
      exact (Gc_s (sp := 0) (dp := 0) (by omega) (by omega) (by omega) (by omega) h4).trans rfl
    refine ⟨r, va_cpy f (fun _ => 0) 0 0 c, 1, r, ?_, ⟨by omega, by omega, hrm, sb_fitC h4 sb_fit0, fun i hi => ?_⟩, by omega, by unfold kap; omega, phi_step hcr hr4 hrm⟩
    · rw [Lt_s, e1, Lt_s, e2]
      exact Bk_s (k2 := 0) (z2 := 0) e3 rfl
    · rw [sb_cpy0 (by omega)]
      exact h5 i hi
theorem Rw_add (N : Nat) {c n : Nat} {f : Nat → Int32} {L : List Int32} (h : Rw c f L) (hn : L.length = n) (hp : n + 1 ≤ 73736) (x : Int32) :
    ∃ (c' : Nat) (f' : Nat → Int32) (k z : Nat), f_Row_add N (nI n) c f x = some ((nI (n + 1), c', f'), k, z) ∧ Rw c' f' (L ++ [bB x]) ∧ k + kap c' ≤ kap c ∧ z + phi c' ≤ phi c := by
  obtain ⟨c', f', k, z, e, hR, hc, hk, hz⟩ := Rw_room N h hp
  obtain ⟨h1, h2, h3, h4, h5⟩ := id hR
  refine ⟨c', upd f' n (bB x), k + 0, z + 0, ?_, ⟨by rw [List.length_append, List.length_singleton]; omega, h2, h3, sb_fitU h4 (bB_fit x), fun i hi => ?_⟩, hk, hz⟩
  · unfold f_Row_add
    rw [nI_1]
    refine Bk_s e ?_
    rw [Ix_s (by omega) (by omega), Lt_s, Lt_s, nI_clamp (by omega), bB_nar]
  · rw [List.length_append, List.length_singleton] at hi
    by_cases q : i = n
    · subst q
      rw [pk_us, ← hn]
      simp
    · rw [pk_un q, h5 i (by omega)]
      rw [gd_l (by omega)]

/-! small tactics (ours): conditions over numbers -/
theorem nI_addL (a n : Nat) : nI a + (no_index (OfNat.ofNat n : Int32)) = nI (a + n) := nI_add a n
theorem nI_Ladd (a n : Nat) : (no_index (OfNat.ofNat n : Int32)) + nI a = nI (n + a) := nI_add n a
theorem nI_mulL (a n : Nat) : nI a * (no_index (OfNat.ofNat n : Int32)) = nI (a * n) := pk_mul a n
theorem nI_Lmul (a n : Nat) : (no_index (OfNat.ofNat n : Int32)) * nI a = nI (n * a) := pk_mul n a
theorem nI_sub {a b : Nat} (h : b ≤ a) : nI a - nI b = nI (a - b) := by
  have e : nI a = nI (a - b) + nI b := by rw [nI_add, Nat.sub_add_cancel h]
  rw [e, Int32.add_sub_cancel]
theorem nI_subL {a n : Nat} (h : n ≤ a) : nI a - (no_index (OfNat.ofNat n : Int32)) = nI (a - n) := nI_sub h
theorem nI_Lsub {a n : Nat} (h : a ≤ n) : (no_index (OfNat.ofNat n : Int32)) - nI a = nI (n - a) := nI_sub h
theorem m1_toInt : (-1 : Int32).toInt = -1 := rfl
theorem Ix_i {β : Type} {i : Int32} {j n : Nat} {x : Option β} (e : i = nI j) (h : j < n) (hn : n < 2 ^ 31) : Ix i n x = x := by
  rw [e]
  exact Ix_s h hn
def bvN (x : Int32) : Nat := x.toBitVec.toNat % 256
theorem bvN_and (x : Int32) : x &&& 255 = nI (bvN x) := pk_and x 8 (by decide)
theorem bvN_lt (x : Int32) : bvN x < 256 := Nat.mod_lt _ (by decide)
