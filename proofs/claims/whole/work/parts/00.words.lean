/-! The words of the pure functions, and the rows that the generated walks stand on (ours). -/
abbrev irm (x y : Int32) : Int32 := x - x / y * y
abbrev us (x y : Int32) : Int32 := (x.toUInt32 >>> (y.toUInt32 &&& Int32.toUInt32 31)).toInt32
abbrev imin (x y : Int32) : Int32 := if y < x then y else x
abbrev imax (x y : Int32) : Int32 := if x < y then y else x
def Lt {α β : Type} (e : α) (k : α → Option β) : Option β := k e
def Ix {β : Type} (i : Int32) (n : Nat) (x : Option β) : Option β := if i < 0 ∨ n ≤ i.toNatClampNeg then none else x
def Gb {β : Type} (i : Int32) (x : Option β) : Option β := if i = 0 ∨ i = 1 then x else none
def Ga {β : Type} (i : Int32) (x : Option β) : Option β := if i < 0 ∨ 60000000 < i.toNatClampNeg then none else x
def Gc {β : Type} (sp dp n : Int32) (n0 n1 : Nat) (f : Nat → Int32) (x : Option β) : Option β :=
  if (¬ sp < 0 ∧ ¬ dp < 0 ∧ ¬ n < 0 ∧ sp.toNatClampNeg + n.toNatClampNeg ≤ n0 ∧ dp.toNatClampNeg + n.toNatClampNeg ≤ n1 ∧ ∀ i, i < n.toNatClampNeg → fits .byte (.int (f (sp.toNatClampNeg + i))) = true) then x else none
def Bd {α β : Type} (x : Option α) (k : α → Option β) : Option β := match x with
  | none => none
  | some a => k a
def Bk {α β : Type} (x : Option (α × Nat × Nat)) (k : α → Option (β × Nat × Nat)) : Option (β × Nat × Nat) := match x with
  | none => none
  | some a => match k a.1 with
    | none => none
    | some b => some (b.1, a.2.1 + b.2.1, a.2.2 + b.2.2)
def Ak {β : Type} (n : Nat) (x : Option (β × Nat × Nat)) : Option (β × Nat × Nat) := match x with
  | none => none
  | some b => some (b.1, 1 + b.2.1, n + b.2.2)
def Jn {α β : Type} (j : α → Option β) (k : (α → Option β) → Option β) : Option β := k j
theorem Lt_e {α β : Type} {e x : α} {k : α → Option β} {r : β} (h : Lt e k = some r) (ex : x = e) : k x = some r := by
  rw [ex]
  exact h
theorem Ix_e {β : Type} {i : Int32} {n : Nat} {x : Option β} {r : β} (h : Ix i n x = some r) : vp_in i n ∧ x = some r := by
  unfold Ix at h
  split at h
  · cases h
  · rename_i hn
    exact ⟨hn, h⟩
theorem Gb_e {β : Type} {i : Int32} {x : Option β} {r : β} (h : Gb i x = some r) : (i = 0 ∨ i = 1) ∧ x = some r := by
  unfold Gb at h
  split at h
  · rename_i hn
    exact ⟨hn, h⟩
  · cases h
theorem Gb_n {i : Int32} (h : i = 0 ∨ i = 1) : narrow .boolean (.int i) = .int i := by
  rcases h with rfl | rfl <;> rfl
theorem Gb_f {i : Int32} (h : i = 0 ∨ i = 1) : fits .boolean (.int i) = true := by
  rcases h with rfl | rfl <;> rfl
theorem Ga_e {β : Type} {i : Int32} {x : Option β} {r : β} (h : Ga i x = some r) : (¬ i < 0 ∧ i.toNatClampNeg ≤ 60000000) ∧ x = some r := by
  unfold Ga at h
  split at h
  · cases h
  · rename_i hn
    exact ⟨⟨fun q => hn (Or.inl q), Nat.le_of_not_lt fun q => hn (Or.inr q)⟩, h⟩
theorem Gc_e {β : Type} {sp dp n : Int32} {n0 n1 : Nat} {f : Nat → Int32} {x : Option β} {r : β} (h : Gc sp dp n n0 n1 f x = some r) :
    (¬ sp < 0 ∧ ¬ dp < 0 ∧ ¬ n < 0 ∧ sp.toNatClampNeg + n.toNatClampNeg ≤ n0 ∧ dp.toNatClampNeg + n.toNatClampNeg ≤ n1 ∧ ∀ i, i < n.toNatClampNeg → fits .byte (.int (f (sp.toNatClampNeg + i))) = true) ∧ x = some r := by
  unfold Gc at h
  split at h
  · rename_i hn
    exact ⟨hn, h⟩
  · cases h
theorem Bd_e {α β : Type} {x : Option α} {k : α → Option β} {r : β} (h : Bd x k = some r) : ∃ a, x = some a ∧ k a = some r := by
  cases x with
  | none => cases h
  | some a => exact ⟨a, rfl, h⟩
theorem Bk_e {α β : Type} {x : Option (α × Nat × Nat)} {k : α → Option (β × Nat × Nat)} {V : β} {K Z : Nat} (h : Bk x k = some (V, K, Z)) :
    ∃ (a : α) (k1 z1 k2 z2 : Nat), x = some (a, k1, z1) ∧ k a = some (V, k2, z2) ∧ K = k1 + k2 ∧ Z = z1 + z2 := by
  cases x with
  | none => cases h
  | some a =>
    obtain ⟨a, k1, z1⟩ := a
    cases hk : k a with
    | none =>
      unfold Bk at h
      simp only [hk] at h
      cases h
    | some b =>
      obtain ⟨b, k2, z2⟩ := b
      unfold Bk at h
      simp only [hk] at h
      cases h
      exact ⟨a, k1, z1, k2, z2, rfl, hk, rfl, rfl⟩
theorem Ak_e {β : Type} {n : Nat} {x : Option (β × Nat × Nat)} {V : β} {K Z : Nat} (h : Ak n x = some (V, K, Z)) :
    ∃ (k2 z2 : Nat), x = some (V, k2, z2) ∧ K = 1 + k2 ∧ Z = n + z2 := by
  cases x with
  | none => cases h
  | some b =>
    obtain ⟨b, k2, z2⟩ := b
    cases h
    exact ⟨k2, z2, rfl, rfl, rfl⟩
theorem Jn_e {α β : Type} {j : α → Option β} {k : (α → Option β) → Option β} {r : β} (h : Jn j k = some r) : ∃ j0 : α → Option β, (∀ t r', j0 t = some r' → j t = some r') ∧ k j0 = some r := ⟨j, fun _ _ q => q, h⟩
theorem so1 {α : Type} {a b : α} (h : some a = some b) : a = b := Option.some.inj h
theorem so3 {α : Type} {a V : α} {k z : Nat} (h : some (a, 0, 0) = some (V, k, z)) : a = V ∧ 0 = k ∧ 0 = z := by
  cases h
  exact ⟨rfl, rfl, rfl⟩
def tbL : List (List Int32) := [[3, 4, 5, 6, 7, 8, 9, 10, 11, 13, 15, 17, 19, 23, 27, 31, 35, 43, 51, 59, 67, 83, 99, 115, 131, 163, 195, 227, 258],
  [0, 0, 0, 0, 0, 0, 0, 0, 1, 1, 1, 1, 2, 2, 2, 2, 3, 3, 3, 3, 4, 4, 4, 4, 5, 5, 5, 5, 0],
  [1, 2, 3, 4, 5, 7, 9, 13, 17, 25, 33, 49, 65, 97, 129, 193, 257, 385, 513, 769, 1025, 1537, 2049, 3073, 4097, 6145, 8193, 12289, 16385, 24577],
  [0, 0, 0, 0, 1, 1, 2, 2, 3, 3, 4, 4, 5, 5, 6, 6, 7, 7, 8, 8, 9, 9, 10, 10, 11, 11, 12, 12, 13, 13],
  [16, 17, 18, 0, 8, 7, 9, 6, 10, 5, 11, 4, 12, 3, 13, 2, 14, 1, 15]]
def tb (k j : Nat) : Int32 := (tbL.getD k []).getD j 0

