/-! canonical codes (ours): counts, offsets, first codes -/
def cnt (ls : Nat → Nat) : Nat → Nat → Nat
  | 0, _ => 0
  | n + 1, l => cnt ls n l + if ls n = l then 1 else 0
def cn (ls : Nat → Nat) (n l : Nat) : Nat := if l = 0 then 0 else cnt ls n l
/-- how many codes are shorter than l; the first code of length l -/
def ofs (ls : Nat → Nat) (n : Nat) : Nat → Nat
  | 0 => 0
  | l + 1 => ofs ls n l + cn ls n l
def fco (ls : Nat → Nat) (n : Nat) : Nat → Nat
  | 0 => 0
  | l + 1 => 2 * (fco ls n l + cn ls n l)
theorem cnt_le (ls : Nat → Nat) (l : Nat) : ∀ n, cnt ls n l ≤ n
  | 0 => Nat.le_refl _
  | n + 1 => by
    have := cnt_le ls l n
    show cnt ls n l + (if ls n = l then 1 else 0) ≤ n + 1
    split <;> omega
theorem cnt_mono (ls : Nat → Nat) (l : Nat) {m n : Nat} (h : m ≤ n) : cnt ls m l ≤ cnt ls n l := by
  induction n with
  | zero =>
    have : m = 0 := by omega
    subst this
    exact Nat.le_refl _
  | succ n ih =>
    by_cases q : m = n + 1
    · rw [q]
      exact Nat.le_refl _
    · have := ih (by omega)
      show _ ≤ cnt ls n l + (if ls n = l then 1 else 0)
      omega
theorem cnt_lt (ls : Nat → Nat) {n s : Nat} (h : s < n) : cnt ls s (ls s) < cnt ls n (ls s) := by
  have h1 := cnt_mono ls (ls s) (m := s + 1) (n := n) (by omega)
  have h2 : cnt ls (s + 1) (ls s) = cnt ls s (ls s) + 1 := by
    show cnt ls s (ls s) + (if ls s = ls s then 1 else 0) = _
    rw [if_pos rfl]
  omega
theorem cnt_find (ls : Nat → Nat) (l : Nat) : ∀ n r, r < cnt ls n l → ∃ s, s < n ∧ ls s = l ∧ cnt ls s l = r
  | 0, r, h => absurd h (Nat.not_lt_zero r)
  | n + 1, r, h => by
    by_cases q : r < cnt ls n l
    · obtain ⟨s, h1, h2, h3⟩ := cnt_find ls l n r q
      exact ⟨s, by omega, h2, h3⟩
    · have h' : r < cnt ls n l + (if ls n = l then 1 else 0) := h
      by_cases e : ls n = l
      · rw [if_pos e] at h'
        exact ⟨n, by omega, e, by omega⟩
      · rw [if_neg e] at h'
        omega
theorem cnt_inj (ls : Nat → Nat) {s t : Nat} (h : ls s = ls t) (h2 : cnt ls s (ls s) = cnt ls t (ls t)) : s = t := by
  by_cases q : s < t
  · have := cnt_lt ls q
    rw [h] at this h2
    omega
  · by_cases q2 : t < s
    · have := cnt_lt ls q2
      rw [← h] at this h2
      omega
    · omega
theorem ofs_mono (ls : Nat → Nat) (n : Nat) {a b : Nat} (h : a ≤ b) : ofs ls n a ≤ ofs ls n b := by
  induction b with
  | zero =>
    have : a = 0 := by omega
    subst this
    exact Nat.le_refl _
  | succ b ih =>
    by_cases q : a = b + 1
    · rw [q]
      exact Nat.le_refl _
    · have := ih (by omega)
      show _ ≤ ofs ls n b + cn ls n b
      omega
/-- all codes together are no more than the symbols -/
def tot (ls : Nat → Nat) : Nat → Nat → Nat
  | 0, _ => 0
  | n + 1, l => tot ls n l + if 1 ≤ ls n ∧ ls n < l then 1 else 0
theorem tot_le (ls : Nat → Nat) (l : Nat) : ∀ n, tot ls n l ≤ n
  | 0 => Nat.le_refl _
  | n + 1 => by
    have := tot_le ls l n
    show tot ls n l + (if 1 ≤ ls n ∧ ls n < l then 1 else 0) ≤ n + 1
    split <;> omega
theorem tot_succ (ls : Nat → Nat) (l : Nat) : ∀ n, tot ls n (l + 1) = tot ls n l + cn ls n l
  | 0 => by
    show 0 = 0 + cn ls 0 l
    unfold cn cnt
    split <;> rfl
  | n + 1 => by
    have ih := tot_succ ls l n
    show tot ls n (l + 1) + (if 1 ≤ ls n ∧ ls n < l + 1 then 1 else 0) = (tot ls n l + if 1 ≤ ls n ∧ ls n < l then 1 else 0) + cn ls (n + 1) l
    have e : cn ls (n + 1) l = cn ls n l + if l = 0 then 0 else if ls n = l then 1 else 0 := by
      unfold cn
      by_cases h : l = 0
      · rw [if_pos h, if_pos h, if_pos h]
      · rw [if_neg h, if_neg h, if_neg h]
        rfl
    rw [e, ih]
    by_cases h0 : l = 0
    · subst h0
      rw [if_pos rfl, if_neg (by omega), if_neg (by omega)]
      omega
    · rw [if_neg h0]
      by_cases h1 : ls n = l
      · rw [if_pos h1, if_pos (by omega), if_neg (by omega)]
        omega
      · rw [if_neg h1]
        by_cases h2 : 1 ≤ ls n ∧ ls n < l
        · rw [if_pos (by omega), if_pos h2]
          omega
        · rw [if_neg (by omega), if_neg h2]
          omega
theorem ofs_tot (ls : Nat → Nat) (n : Nat) : ∀ l, ofs ls n l = tot ls n l
  | 0 => by
    have : ∀ n, tot ls n 0 = 0 := by
      intro n
      induction n with
      | zero => rfl
      | succ n ih =>
        show tot ls n 0 + (if 1 ≤ ls n ∧ ls n < 0 then 1 else 0) = 0
        rw [ih, if_neg (by omega)]
    rw [this]
    rfl
  | l + 1 => by
    rw [tot_succ, ← ofs_tot ls n l]
    rfl
theorem ofs_le (ls : Nat → Nat) (n l : Nat) : ofs ls n l ≤ n := by
  rw [ofs_tot]
  exact tot_le ls l n
theorem ofs_lt (ls : Nat → Nat) {n s : Nat} (h : s < n) (h0 : ls s ≠ 0) : ofs ls n (ls s) + cnt ls s (ls s) < ofs ls n (ls s + 1) := by
  have := cnt_lt ls h
  show _ < ofs ls n (ls s) + cn ls n (ls s)
  unfold cn
  rw [if_neg h0]
  omega
