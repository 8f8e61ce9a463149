/-! the makings, letter and count (ours) -/
theorem in_40 : ∀ (j s fuel : Nat) (len : AR), j + s = 288 → j < fuel → (∀ x, x < s → len x = nI (flL x)) → ∃ len', lp_Un_init_40 NF 316 fuel (nI s) len = some len' ∧ ∀ x, x < 288 → len' x = nI (flL x) := by
  intro j
  induction j with
  | zero =>
    intro s fuel len hj hf h
    obtain ⟨u, rfl⟩ : ∃ u, fuel = u + 1 := ⟨fuel - 1, by omega⟩
    refine ⟨len, ?_, fun x hx => h x (by omega)⟩
    rw [ls_Un_init_40]
    unfold lb_Un_init_40
    (refine (if_pos ?_).trans ?_; focus ((try simp (disch := omega) only [Int32.le_iff_toInt_le, Int32.lt_iff_toInt_lt, ← Int32.toInt_inj, nI_toInt, nI_addL, nI_Ladd, nI_mulL, nI_Lmul, nI_add, nI_subL, nI_Lsub, nI_sub, Int32.reduceToInt, m1_toInt, ne_eq, Int32.reduceMul, Int32.reduceAdd, Int32.reduceSub]) <;> omega)); rfl
  | succ j ih =>
    intro s fuel len hj hf h
    obtain ⟨u, rfl⟩ : ∃ u, fuel = u + 1 := ⟨fuel - 1, by omega⟩
    obtain ⟨len', e, g⟩ := ih (s + 1) u (upd len s (nI (flL s))) (by omega) (by omega) (fun x hx => by
      by_cases q : x = s
      · rw [q, pk_us]
      · rw [pk_un q]
        exact h x (by omega))
    refine ⟨len', ?_, g⟩
    rw [ls_Un_init_40]
    unfold lb_Un_init_40
    (refine (if_neg ?_).trans ?_; focus ((try simp (disch := omega) only [Int32.le_iff_toInt_le, Int32.lt_iff_toInt_lt, ← Int32.toInt_inj, nI_toInt, nI_addL, nI_Ladd, nI_mulL, nI_Lmul, nI_add, nI_subL, nI_Lsub, nI_sub, Int32.reduceToInt, m1_toInt, ne_eq, Int32.reduceMul, Int32.reduceAdd, Int32.reduceSub]) <;> omega))
    rw [Jn_s]
    simp only [Lt_s, nI_1]
    rw [Ix_s (by omega) (by omega), Ix_s (by omega) (by omega), Ix_s (by omega) (by omega), nI_clamp (by omega)]
    unfold flL at e
    by_cases h1 : s < 144
    · rw [if_pos h1] at e
      (refine (if_neg ?_).trans ?_; focus ((try simp (disch := omega) only [Int32.le_iff_toInt_le, Int32.lt_iff_toInt_lt, ← Int32.toInt_inj, nI_toInt, nI_addL, nI_Ladd, nI_mulL, nI_Lmul, nI_add, nI_subL, nI_Lsub, nI_sub, Int32.reduceToInt, m1_toInt, ne_eq, Int32.reduceMul, Int32.reduceAdd, Int32.reduceSub]) <;> omega))
      exact e
    · rw [if_neg h1] at e
      (refine (if_pos ?_).trans ?_; focus ((try simp (disch := omega) only [Int32.le_iff_toInt_le, Int32.lt_iff_toInt_lt, ← Int32.toInt_inj, nI_toInt, nI_addL, nI_Ladd, nI_mulL, nI_Lmul, nI_add, nI_subL, nI_Lsub, nI_sub, Int32.reduceToInt, m1_toInt, ne_eq, Int32.reduceMul, Int32.reduceAdd, Int32.reduceSub]) <;> omega))
      by_cases h2 : s < 256
      · rw [if_pos h2] at e
        (refine (if_neg ?_).trans ?_; focus ((try simp (disch := omega) only [Int32.le_iff_toInt_le, Int32.lt_iff_toInt_lt, ← Int32.toInt_inj, nI_toInt, nI_addL, nI_Ladd, nI_mulL, nI_Lmul, nI_add, nI_subL, nI_Lsub, nI_sub, Int32.reduceToInt, m1_toInt, ne_eq, Int32.reduceMul, Int32.reduceAdd, Int32.reduceSub]) <;> omega))
        exact e
      · rw [if_neg h2] at e
        (refine (if_pos ?_).trans ?_; focus ((try simp (disch := omega) only [Int32.le_iff_toInt_le, Int32.lt_iff_toInt_lt, ← Int32.toInt_inj, nI_toInt, nI_addL, nI_Ladd, nI_mulL, nI_Lmul, nI_add, nI_subL, nI_Lsub, nI_sub, Int32.reduceToInt, m1_toInt, ne_eq, Int32.reduceMul, Int32.reduceAdd, Int32.reduceSub]) <;> omega))
        by_cases h3 : s < 280
        · rw [if_pos h3] at e
          (refine (if_neg ?_).trans ?_; focus ((try simp (disch := omega) only [Int32.le_iff_toInt_le, Int32.lt_iff_toInt_lt, ← Int32.toInt_inj, nI_toInt, nI_addL, nI_Ladd, nI_mulL, nI_Lmul, nI_add, nI_subL, nI_Lsub, nI_sub, Int32.reduceToInt, m1_toInt, ne_eq, Int32.reduceMul, Int32.reduceAdd, Int32.reduceSub]) <;> omega))
          exact e
        · rw [if_neg h3] at e
          (refine (if_pos ?_).trans ?_; focus ((try simp (disch := omega) only [Int32.le_iff_toInt_le, Int32.lt_iff_toInt_lt, ← Int32.toInt_inj, nI_toInt, nI_addL, nI_Ladd, nI_mulL, nI_Lmul, nI_add, nI_subL, nI_Lsub, nI_sub, Int32.reduceToInt, m1_toInt, ne_eq, Int32.reduceMul, Int32.reduceAdd, Int32.reduceSub]) <;> omega))
          exact e
theorem Co_init {m : Nat} (hm : m ≤ 400) : f_Co_init NF (nI m) = some (m, 3, 32 + m) := by
  unfold f_Co_init
  rw [Ga_s (by omega), nI_clamp (by omega)]
  have e1 : Ak m (some (m, 0, 0)) = some (m, 1 + 0, m + 0) := Ak_s rfl
  have e2 := Ak_s (n := 16) (Ak_s (n := 16) e1)
  rw [e2]
  congr 3
  omega
theorem Un_init : ∃ g nl stl sl nd std sd : AR, f_Un_init NF = some ((g, nl, stl, 288, sl, nd, std, 32, sd, 19, 286, 30), 23, 1150) ∧ CoC flL 288 nl sl 288 ∧ CoC flD 32 nd sd 32 := by
  obtain ⟨l1, e1, g1⟩ := in_40 288 0 NF (fun _ => 0) (by omega) (by decide) (fun x hx => absurd hx (by omega))
  have e1 : lp_Un_init_40 NF 316 NF 0 (fun _ => 0) = some l1 := e1
  obtain ⟨nl, stl, sl, e2, C2⟩ := Co_tell (ls := flL) (fr := 0) (m := 288) (M := 316) (z := 288) (len := l1) (num := fun _ => 0) (st := fun _ => 0) (sym := fun _ => 0) (fun s hs => by rw [Nat.zero_add]; exact g1 s hs) (fun s _ => flL_le s) (by omega) (by omega) (by omega) (by omega)
  have e2 : f_Co_tell NF 16 (fun _ => 0) 316 l1 16 (fun _ => 0) 288 (fun _ => 0) 0 288 = some (nl, stl, sl) := e2
  obtain ⟨l2, e3, g3⟩ := JA_fill (m := 316) (by omega) l1 5
  obtain ⟨nd, std, sd, e4, C4⟩ := Co_tell (ls := flD) (fr := 0) (m := 32) (M := 316) (z := 32) (len := l2) (num := fun _ => 0) (st := fun _ => 0) (sym := fun _ => 0) (fun s hs => by rw [Nat.zero_add, g3 s (by omega)]; rfl) (fun s _ => by show 5 ≤ 15; omega) (by omega) (by omega) (by omega) (by omega)
  have e4 : f_Co_tell NF 16 (fun _ => 0) 316 l2 16 (fun _ => 0) 32 (fun _ => 0) 0 32 = some (nd, std, sd) := e4
  have k1 : f_Co_init NF 288 = some (288, 3, 32 + 288) := Co_init (m := 288) (by omega)
  have k2 : f_Co_init NF 32 = some (32, 3, 32 + 32) := Co_init (m := 32) (by omega)
  have k3 : f_Co_init NF 19 = some (19, 3, 32 + 19) := Co_init (m := 19) (by omega)
  have k4 : f_Co_init NF 286 = some (286, 3, 32 + 286) := Co_init (m := 286) (by omega)
  have k5 : f_Co_init NF 30 = some (30, 3, 32 + 30) := Co_init (m := 30) (by omega)
  have k0 : f_BR_init NF = some ((), 1 + 0, 0 + 0) := Ak_s rfl
  refine ⟨l2, nl, stl, sl, nd, std, sd, ?_, C2, C4⟩
  unfold f_Un_init
  have t5 := Ak_s (n := 3) (Bk_s k5 (k := fun r56 : Nat => some ((l2, nl, stl, 288, sl, nd, std, 32, sd, 19, 286, r56), 0, 0)) (b := (l2, nl, stl, 288, sl, nd, std, 32, sd, 19, 286, 30)) (k2 := 0) (z2 := 0) rfl)
  have t4 := Ak_s (n := 3) (Bk_s k4 (k := fun r50 : Nat => Ak 3 <| Bk (f_Co_init NF 30) fun r56 : Nat => some ((l2, nl, stl, 288, sl, nd, std, 32, sd, 19, r50, r56), 0, 0)) t5)
  have t3 := Ak_s (n := 3) (Bk_s k3 (k := fun r44 : Nat => Ak 3 <| Bk (f_Co_init NF 286) fun r50 : Nat => Ak 3 <| Bk (f_Co_init NF 30) fun r56 : Nat => some ((l2, nl, stl, 288, sl, nd, std, 32, sd, r44, r50, r56), 0, 0)) t4)
  have t2 := Ak_s (n := 3) (Bk_s k2 (k := fun r36 : Nat => Bd (f_JA_fill NF 316 l1 5) fun r40 => Bd (f_Co_tell NF 16 ((fun _ => 0)) 316 r40 16 ((fun _ => 0)) r36 ((fun _ => 0)) 0 32) fun r41 => Ak 3 <| Bk (f_Co_init NF 19) fun r44 : Nat => Ak 3 <| Bk (f_Co_init NF 286) fun r50 : Nat => Ak 3 <| Bk (f_Co_init NF 30) fun r56 : Nat => some ((r40, nl, stl, 288, sl, r41.1, r41.2.1, r36, r41.2.2, r44, r50, r56), 0, 0)) ((Bd_s e3 _).trans ((Bd_s e4 _).trans t3)))
  have t1 := Ak_s (n := 316) (Ak_s (n := 3) (Bk_s k1 (k := fun r9 : Nat => Bd (lp_Un_init_40 NF 316 NF 0 ((fun _ => 0))) fun r32 => Bd (f_Co_tell NF 16 ((fun _ => 0)) 316 r32 16 ((fun _ => 0)) r9 ((fun _ => 0)) 0 288) fun r33 => Ak 3 <| Bk (f_Co_init NF 32) fun r36 : Nat => Bd (f_JA_fill NF 316 r32 5) fun r40 => Bd (f_Co_tell NF 16 ((fun _ => 0)) 316 r40 16 ((fun _ => 0)) r36 ((fun _ => 0)) 0 32) fun r41 => Ak 3 <| Bk (f_Co_init NF 19) fun r44 : Nat => Ak 3 <| Bk (f_Co_init NF 286) fun r50 : Nat => Ak 3 <| Bk (f_Co_init NF 30) fun r56 : Nat => some ((r40, r33.1, r33.2.1, r9, r33.2.2, r41.1, r41.2.1, r36, r41.2.2, r44, r50, r56), 0, 0)) ((Bd_s e1 _).trans ((Bd_s e2 _).trans t2))))
  have t0 := Ak_s (n := 4) (Bk_s k0 (k := fun _ : Unit => Ak 316 <| Ak 3 <| Bk (f_Co_init NF 288) fun r9 : Nat => Bd (lp_Un_init_40 NF 316 NF 0 ((fun _ => 0))) fun r32 => Bd (f_Co_tell NF 16 ((fun _ => 0)) 316 r32 16 ((fun _ => 0)) r9 ((fun _ => 0)) 0 288) fun r33 => Ak 3 <| Bk (f_Co_init NF 32) fun r36 : Nat => Bd (f_JA_fill NF 316 r32 5) fun r40 => Bd (f_Co_tell NF 16 ((fun _ => 0)) 316 r40 16 ((fun _ => 0)) r36 ((fun _ => 0)) 0 32) fun r41 => Ak 3 <| Bk (f_Co_init NF 19) fun r44 : Nat => Ak 3 <| Bk (f_Co_init NF 286) fun r50 : Nat => Ak 3 <| Bk (f_Co_init NF 30) fun r56 : Nat => some ((r40, r33.1, r33.2.1, r9, r33.2.2, r41.1, r41.2.1, r36, r41.2.2, r44, r50, r56), 0, 0)) t1)
  exact t0
theorem TP_letter_no {o co : Nat} {fo : AR} (ho : o < 2 ^ 31) {p : Int32} (h : p < 0 ∨ nI o ≤ p) : f_TP_letter NF (nI o) co fo p = some ((1, 0), 1, 6) := by
  unfold f_TP_letter
  rw [Bd_s (Row_has_no NF ho h)]
  refine (if_pos rfl).trans ?_
  exact Ak_s rfl
theorem TP_letter_yes {o co j : Nat} {fo : AR} (hc : co < 2 ^ 31) (ho : o ≤ co) (hj : j < o) : f_TP_letter NF (nI o) co fo (nI j) = some ((0, fo j &&& 255), 0, 0) := by
  unfold f_TP_letter
  rw [Bd_s (Row_has_yes NF (by omega) hj)]
  refine (if_neg (by decide)).trans ?_
  exact Bd_s (Row_at_yes NF hc ho hj) _
theorem Mo_letter_no {o : Nat} {g : AR} {p : Int32} (h : p < 0 ∨ nI o ≤ p) : f_Mo_letter NF (nI o) 74000 g p = some (0, 1) := by
  unfold f_Mo_letter f_Mo_refuse
  rw [Jn_s]
  by_cases h0 : p < 0
  · rw [if_pos h0]
    rfl
  · rw [if_neg h0, if_neg (i_nlt (h.resolve_left h0))]
    rfl
theorem Mo_letter_yes {o j : Nat} {g : AR} (ho : o ≤ 74000) (hj : j < o) : f_Mo_letter NF (nI o) 74000 g (nI j) = some (g j &&& 255, 0) := by
  unfold f_Mo_letter
  rw [Jn_s, if_neg (nI_pos (by omega)), if_pos (nI_lt hj (by omega)), Ix_s (by omega) (by omega), nI_clamp (by omega)]
theorem count_eq (a b c d e f g x : Int32) : f_TP_count NF a b c d e f g x = f_Mo_count NF d e f g a b c x := by
  unfold f_TP_count f_Mo_count f_Row_length f_Pr_pairs f_Pr_literals
  rfl
theorem count_some (a b c d e f g x : Int32) : ∃ v, f_Mo_count NF a b c d e f g x = some v := by
  unfold f_Mo_count
  repeat' split
  all_goals exact ⟨_, rfl⟩
