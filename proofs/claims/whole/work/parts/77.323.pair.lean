/-! a pair into the stream (ours) -/
def pP (q : Nat × Nat) (l d : Nat) : Nat × Nat := pN (pN (pN (pS q (257 + lcd l)) (l - tn 0 (lcd l)) (tn 1 (lcd l))) (rv (dcd d) 5) 5) (d - tn 2 (dcd d)) (tn 3 (dcd d))
theorem tn1_le : ∀ k, k < 30 → tn 1 k ≤ 5 := by decide +kernel
theorem tn3_le : ∀ k, k < 30 → tn 3 k ≤ 13 := by decide +kernel
theorem sbn_le (s : Nat) : sbn s ≤ 9 := by
  unfold sbn
  split
  · omega
  · split
    · omega
    · split <;> omega
theorem sbn_len {k : Nat} (h : k ≤ 28) : sbn (257 + k) ≤ 8 := by
  unfold sbn
  rw [if_neg (by omega), if_neg (by omega)]
  split <;> omega
theorem pP_bits (q : Nat × Nat) {l d : Nat} (h3 : 3 ≤ l) : (pP q l d).2 ≤ q.2 + 9 * l ∧ q.2 + sbn (257 + lcd l) ≤ (pP q l d).2 ∧ q.2 + sbn (257 + lcd l) + tn 1 (lcd l) ≤ (pP q l d).2 ∧ q.2 + sbn (257 + lcd l) + tn 1 (lcd l) + 5 ≤ (pP q l d).2 := by
  have h1 := tn1_le (lcd l) (by have := lcd_le l; omega)
  have h2 := tn3_le (dcd d) (by have := dcd_le d; omega)
  have h8 := sbn_len (lcd_le l)
  have e : (pP q l d).2 = q.2 + sbn (257 + lcd l) + tn 1 (lcd l) + 5 + tn 3 (dcd d) := rfl
  rw [e]
  refine ⟨?_, by omega, by omega, by omega⟩
  by_cases h : l = 3
  · subst h
    have e1 : lcd 3 = 0 := by decide
    have e2 : sbn (257 + 0) = 7 := by decide
    have e3 : tn 1 0 = 0 := by decide
    rw [e1, e2, e3]
    omega
  · omega
theorem Pr_putPair {pre : List Int32} {q : Nat × Nat} {l d : Nat} {held hb len : Int32} {c : Nat} {f : Nat → Int32} (h : BWs pre q.1 q.2 held hb len c f) (h3 : 3 ≤ l) (hl : l ≤ 258) (h1 : 1 ≤ d) (hd : d ≤ 32768) (hp : pre.length + (pP q l d).2 / 8 ≤ 73736) :
    ∃ (held' hb' len' : Int32) (c' : Nat) (f' : Nat → Int32) (k z : Nat), f_Pr_putPair NF held hb len c f (nI l) (nI d) = some ((held', hb', len', c', f'), k, z) ∧ BWs pre (pP q l d).1 (pP q l d).2 held' hb' len' c' f' ∧ k + kap c' ≤ kap c ∧ z + phi c' ≤ phi c := by
  obtain ⟨b1, b2, b3, b4⟩ := pP_bits q (l := l) (d := d) h3
  obtain ⟨x1, x2⟩ := lcd_ext h3 hl
  obtain ⟨y1, y2⟩ := dcd_ext h1 hd
  have hlc := lcd_le l
  have hdc := dcd_le d
  have t1 := tn1_le (lcd l) (by omega)
  have t3 := tn3_le (dcd d) (by omega)
  have ec : f_Pr_codeOf_p10 NF (nI l) = some (nI (lcd l)) := by
    unfold f_Pr_codeOf_p10
    exact (Bd_s (Pr_code_l hl 28 0 NF (by omega) (by decide)) _).trans rfl
  have ed : f_Pr_codeOf_p12 NF (nI d) = some (nI (dcd d)) := by
    unfold f_Pr_codeOf_p12
    exact (Bd_s (Pr_code_d hd 29 0 NF (by omega) (by decide)) _).trans rfl
  obtain ⟨p1, p2, p3, c1, f1, k1, z1, e1, B1, hk1, hz1⟩ := Pr_putSymbol h (s := 257 + lcd l) (by omega) (by omega)
  obtain ⟨q1, q2, q3, c2, f2, k2, z2, e2, B2, hk2, hz2⟩ := BW_put NF (by decide) B1 x2 (by omega) (by show pre.length + (q.2 + sbn (257 + lcd l) + tn 1 (lcd l)) / 8 ≤ 73736; omega)
  obtain ⟨r1, r2, r3, c3, f3, k3, z3, e3, B3, hk3, hz3⟩ := BW_put NF (by decide) B2 (rv_lt (dcd d) 5) (by omega) (by show pre.length + (q.2 + sbn (257 + lcd l) + tn 1 (lcd l) + 5) / 8 ≤ 73736; omega)
  obtain ⟨s1, s2, s3, c4, f4, k4, z4, e4, B4, hk4, hz4⟩ := BW_put NF (by decide) B3 y2 (by omega) (by show pre.length + (pP q l d).2 / 8 ≤ 73736; exact hp)
  refine ⟨s1, s2, s3, c4, f4, k1 + (k2 + (k3 + (k4 + 0))), z1 + (z2 + (z3 + (z4 + 0))), ?_, B4, by omega, by omega⟩
  unfold f_Pr_putPair
  rw [Bd_s ec, show (257 : Int32) + nI (lcd l) = nI (257 + lcd l) from nI_add 257 _]
  refine Bk_s e1 ?_
  rw [Ix_s (by omega) (by omega), Ix_s (by omega) (by omega), nI_clamp (by omega), tb_tn 0 (by omega) _ (by omega), tb_tn 1 (by omega) _ (by omega), nI_sub x1]
  refine Bk_s e2 ?_
  have er5 : f_Pr_reversed NF (nI (dcd d)) 5 = some (nI (rv (dcd d) 5)) := Pr_rev NF (by decide) (c := dcd d) (n := 5) (by omega) (by omega)
  rw [Bd_s ed, Bd_s er5]
  refine Bk_s e3 ?_
  rw [Ix_s (by omega) (by omega), Ix_s (by omega) (by omega), nI_clamp (by omega), tb_tn 2 (by omega) _ (by omega), tb_tn 3 (by omega) _ (by omega), nI_sub y1]
  exact Bk_s e4 rfl
theorem Mo_putPair {q : Nat × Nat} {l d : Nat} {bits : Int32} {g : Nat → Int32} (h : MWs q.1 q.2 bits g) (h3 : 3 ≤ l) (hl : l ≤ 258) (h1 : 1 ≤ d) (hd : d ≤ 32768) (hm : (pP q l d).2 / 8 < 73900) :
    ∃ g', f_Mo_putPair NF bits 74000 g (nI l) (nI d) = some (nI (pP q l d).2, g') ∧ MWs (pP q l d).1 (pP q l d).2 (nI (pP q l d).2) g' := by
  obtain ⟨b1, b2, b3, b4⟩ := pP_bits q (l := l) (d := d) h3
  obtain ⟨x1, x2⟩ := lcd_ext h3 hl
  obtain ⟨y1, y2⟩ := dcd_ext h1 hd
  have hlc := lcd_le l
  have hdc := dcd_le d
  have t1 := tn1_le (lcd l) (by omega)
  have t3 := tn3_le (dcd d) (by omega)
  obtain ⟨g1, e1, M1⟩ := Mo_putSign h (s := 257 + lcd l) (by omega) (by omega)
  obtain ⟨g2, e2, M2⟩ := Mo_putNumber NF (by decide) x2 (by omega) (by show (q.2 + sbn (257 + lcd l) + tn 1 (lcd l)) / 8 < 73900; omega) M1
  obtain ⟨g3, e3, M3⟩ := Mo_putCode NF (by decide) (c := dcd d) (n := 5) (by omega) (by omega) (by show (q.2 + sbn (257 + lcd l) + tn 1 (lcd l) + 5) / 8 < 73900; omega) M2
  obtain ⟨g4, e4, M4⟩ := Mo_putNumber NF (by decide) y2 (by omega) (by show (pP q l d).2 / 8 < 73900; exact hm) M3
  refine ⟨g4, ?_, M4⟩
  unfold f_Mo_putPair
  have el : lp_Mo_putPair_4 NF (nI l) NF 257 = some (nI (257 + lcd l)) := Mo_code_l hl 28 0 NF (by omega) (by decide)
  have ed : lp_Mo_putPair_49 NF (nI d) NF 0 = some (nI (dcd d)) := Mo_code_d hd 29 0 NF (by omega) (by decide)
  have e3 : f_Mo_putCode NF (nI (q.2 + sbn (257 + lcd l) + tn 1 (lcd l))) 74000 g2 (nI (dcd d)) 5 = _ := e3
  rw [Bd_s el, Bd_s e1, Bd_s (Mo_lb (lcd l) (by omega)), Bd_s (Mo_le (lcd l) (by omega)), nI_sub x1, Bd_s e2, Bd_s ed]
  refine (Bd_s e3 _).trans ?_
  rw [ Bd_s (Mo_db (dcd d) (by omega)), Bd_s (Mo_de (dcd d) (by omega)), nI_sub y1, Bd_s e4]
  rfl
