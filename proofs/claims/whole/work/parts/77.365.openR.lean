/-! the reference's blocks and its open (ours) -/
theorem fx_2 : ∀ (j s fuel : Nat) (len : AR), j + s = 288 → j < fuel → (∀ x, x < s → len x = nI (flL x)) → ∃ len', lp_Mo_fixed_2 NF 340 fuel (nI s) len = some len' ∧ ∀ x, x < 288 → len' x = nI (flL x) := by
  intro j
  induction j with
  | zero =>
    intro s fuel len hj hf h
    obtain ⟨u, rfl⟩ : ∃ u, fuel = u + 1 := ⟨fuel - 1, by omega⟩
    refine ⟨len, ?_, fun x hx => h x (by omega)⟩
    rw [ls_Mo_fixed_2]
    unfold lb_Mo_fixed_2
    (refine (if_pos ?_).trans ?_; focus ((try simp (disch := omega) only [Int32.le_iff_toInt_le, Int32.lt_iff_toInt_lt, ← Int32.toInt_inj, nI_toInt, nI_addL, nI_Ladd, nI_mulL, nI_Lmul, nI_add, nI_subL, nI_Lsub, nI_sub, Int32.reduceToInt, m1_toInt, ne_eq, Int32.reduceMul, Int32.reduceAdd, Int32.reduceSub]) <;> omega)); rfl
  | succ j ih =>
    intro s fuel len hj hf h
    obtain ⟨u, rfl⟩ : ∃ u, fuel = u + 1 := ⟨fuel - 1, by omega⟩
    obtain ⟨len', e, g⟩ := ih (s + 1) u (upd len s (nI (flL s))) (by omega) (by omega) (fun x hx => by
      by_cases q : x = s
      · rw [q, pk_us]
      · rw [pk_un q]
        exact h x (by omega))
    refine ⟨len', ?_, g⟩
    rw [ls_Mo_fixed_2]
    unfold lb_Mo_fixed_2
    (refine (if_neg ?_).trans ?_; focus ((try simp (disch := omega) only [Int32.le_iff_toInt_le, Int32.lt_iff_toInt_lt, ← Int32.toInt_inj, nI_toInt, nI_addL, nI_Ladd, nI_mulL, nI_Lmul, nI_add, nI_subL, nI_Lsub, nI_sub, Int32.reduceToInt, m1_toInt, ne_eq, Int32.reduceMul, Int32.reduceAdd, Int32.reduceSub]) <;> omega))
    rw [Jn_s]
    simp only [Lt_s, nI_1]
    rw [Ix_s (by omega) (by omega), Ix_s (by omega) (by omega), Ix_s (by omega) (by omega), nI_clamp (by omega)]
    unfold flL at e
    by_cases h1 : s < 144
    · rw [if_pos h1] at e
      (refine (if_neg ?_).trans ?_; focus ((try simp (disch := omega) only [Int32.le_iff_toInt_le, Int32.lt_iff_toInt_lt, ← Int32.toInt_inj, nI_toInt, nI_addL, nI_Ladd, nI_mulL, nI_Lmul, nI_add, nI_subL, nI_Lsub, nI_sub, Int32.reduceToInt, m1_toInt, ne_eq, Int32.reduceMul, Int32.reduceAdd, Int32.reduceSub]) <;> omega))
      exact e
    · rw [if_neg h1] at e
      (refine (if_pos ?_).trans ?_; focus ((try simp (disch := omega) only [Int32.le_iff_toInt_le, Int32.lt_iff_toInt_lt, ← Int32.toInt_inj, nI_toInt, nI_addL, nI_Ladd, nI_mulL, nI_Lmul, nI_add, nI_subL, nI_Lsub, nI_sub, Int32.reduceToInt, m1_toInt, ne_eq, Int32.reduceMul, Int32.reduceAdd, Int32.reduceSub]) <;> omega))
      by_cases h2 : s < 256
      · rw [if_pos h2] at e
        (refine (if_neg ?_).trans ?_; focus ((try simp (disch := omega) only [Int32.le_iff_toInt_le, Int32.lt_iff_toInt_lt, ← Int32.toInt_inj, nI_toInt, nI_addL, nI_Ladd, nI_mulL, nI_Lmul, nI_add, nI_subL, nI_Lsub, nI_sub, Int32.reduceToInt, m1_toInt, ne_eq, Int32.reduceMul, Int32.reduceAdd, Int32.reduceSub]) <;> omega))
        exact e
      · rw [if_neg h2] at e
        (refine (if_pos ?_).trans ?_; focus ((try simp (disch := omega) only [Int32.le_iff_toInt_le, Int32.lt_iff_toInt_lt, ← Int32.toInt_inj, nI_toInt, nI_addL, nI_Ladd, nI_mulL, nI_Lmul, nI_add, nI_subL, nI_Lsub, nI_sub, Int32.reduceToInt, m1_toInt, ne_eq, Int32.reduceMul, Int32.reduceAdd, Int32.reduceSub]) <;> omega))
        by_cases h3 : s < 280
        · rw [if_pos h3] at e
          (refine (if_neg ?_).trans ?_; focus ((try simp (disch := omega) only [Int32.le_iff_toInt_le, Int32.lt_iff_toInt_lt, ← Int32.toInt_inj, nI_toInt, nI_addL, nI_Ladd, nI_mulL, nI_Lmul, nI_add, nI_subL, nI_Lsub, nI_sub, Int32.reduceToInt, m1_toInt, ne_eq, Int32.reduceMul, Int32.reduceAdd, Int32.reduceSub]) <;> omega))
          exact e
        · rw [if_neg h3] at e
          (refine (if_pos ?_).trans ?_; focus ((try simp (disch := omega) only [Int32.le_iff_toInt_le, Int32.lt_iff_toInt_lt, ← Int32.toInt_inj, nI_toInt, nI_addL, nI_Ladd, nI_mulL, nI_Lmul, nI_add, nI_subL, nI_Lsub, nI_sub, Int32.reduceToInt, m1_toInt, ne_eq, Int32.reduceMul, Int32.reduceAdd, Int32.reduceSub]) <;> omega))
          exact e
theorem fx_61 : ∀ (j s fuel : Nat) (len : AR), j + s = 32 → j < fuel → (∀ x, x < s → len (288 + x) = nI 5) → ∃ len', lp_Mo_fixed_61 NF 340 fuel (nI s) len = some len' ∧ (∀ x, x < 288 → len' x = len x) ∧ ∀ x, x < 32 → len' (288 + x) = nI 5 := by
  intro j
  induction j with
  | zero =>
    intro s fuel len hj hf h
    obtain ⟨u, rfl⟩ : ∃ u, fuel = u + 1 := ⟨fuel - 1, by omega⟩
    refine ⟨len, ?_, fun _ _ => rfl, fun x hx => h x (by omega)⟩
    rw [ls_Mo_fixed_61]
    unfold lb_Mo_fixed_61
    (refine (if_pos ?_).trans ?_; focus ((try simp (disch := omega) only [Int32.le_iff_toInt_le, Int32.lt_iff_toInt_lt, ← Int32.toInt_inj, nI_toInt, nI_addL, nI_Ladd, nI_mulL, nI_Lmul, nI_add, nI_subL, nI_Lsub, nI_sub, Int32.reduceToInt, m1_toInt, ne_eq, Int32.reduceMul, Int32.reduceAdd, Int32.reduceSub]) <;> omega)); rfl
  | succ j ih =>
    intro s fuel len hj hf h
    obtain ⟨u, rfl⟩ : ∃ u, fuel = u + 1 := ⟨fuel - 1, by omega⟩
    obtain ⟨len', e, g1, g2⟩ := ih (s + 1) u (upd len (288 + s) (nI 5)) (by omega) (by omega) (fun x hx => by
      by_cases q : x = s
      · rw [q, pk_us]
      · rw [pk_un (by omega)]
        exact h x (by omega))
    refine ⟨len', ?_, fun x hx => by rw [g1 x hx, pk_un (by omega)], g2⟩
    rw [ls_Mo_fixed_61]
    unfold lb_Mo_fixed_61
    (refine (if_neg ?_).trans ?_; focus ((try simp (disch := omega) only [Int32.le_iff_toInt_le, Int32.lt_iff_toInt_lt, ← Int32.toInt_inj, nI_toInt, nI_addL, nI_Ladd, nI_mulL, nI_Lmul, nI_add, nI_subL, nI_Lsub, nI_sub, Int32.reduceToInt, m1_toInt, ne_eq, Int32.reduceMul, Int32.reduceAdd, Int32.reduceSub]) <;> omega))
    rw [show (288 : Int32) + nI s = nI (288 + s) from nI_add 288 _, Ix_s (by omega) (by omega), Lt_s, Lt_s, nI_1, nI_clamp (by omega)]
    exact e
theorem flL_le (s : Nat) : flL s ≤ 15 := by
  unfold flL
  split
  · omega
  · split
    · omega
    · split <;> omega
theorem Mo_fixed (len : AR) : ∃ len', f_Mo_fixed NF 340 len = some len' ∧ (∀ s, s < 288 → len' (0 + s) = nI (flL s)) ∧ ∀ s, s < 32 → len' (288 + s) = nI (flD s) := by
  obtain ⟨l1, e1, g1⟩ := fx_2 288 0 NF len (by omega) (by decide) (fun x hx => absurd hx (by omega))
  obtain ⟨l2, e2, g2, g3⟩ := fx_61 32 0 NF l1 (by omega) (by decide) (fun x hx => absurd hx (by omega))
  refine ⟨l2, ?_, fun s hs => by rw [Nat.zero_add, g2 s hs, g1 s hs], g3⟩
  unfold f_Mo_fixed
  refine (Bd_s (x := lp_Mo_fixed_2 NF 340 NF 0 len) e1 _).trans ?_
  exact (Bd_s (x := lp_Mo_fixed_61 NF 340 NF 0 l1) e2 _).trans rfl
/-- codes told, then the symbols -/
theorem Mo_tell_signs {L : List Int32} {n : Nat} {g : AR} (hM : Md g L) (hl : L.length = n) (hn : n ≤ 65536) {ll ld : Nat → Nat} {len : AR} (h1 : ∀ s, s < 288 → len (0 + s) = nI (ll s)) (h2 : ∀ s, s < 32 → len (288 + s) = nI (ld s)) (h3 : ∀ s, ll s ≤ 15) (h4 : ∀ s, ld s ≤ 15) {q : Nat} (hq : q ≤ 8 * n) {T : List Int32} {room : AR} (hT : Md room T) (hTl : T.length ≤ 65536) (many fi cod : AR) :
    ∃ (p' F : Nat) (w' : Int32) (room' many' fi' cod' : AR), (∀ y : Option (Int32 × Int32 × Int32 × Int32 × Int32 × AR × AR × AR × AR × AR × AR), ∀ (k : AR → AR → AR → Int32 → Int32 → Int32 → AR → Option (Int32 × Int32 × Int32 × Int32 × Int32 × AR × AR × AR × AR × AR × AR)), k many' fi' cod' (nI p') (nI F) w' room' = y → (Bd (f_Mo_assign NF 17 many 340 len 17 fi 340 cod 0 288) fun r16 => Bd (f_Mo_assign NF 17 r16.1 340 len 17 r16.2.1 340 r16.2.2 288 32) fun r17 => Bd (f_Mo_signs NF (nI n) (nI q) (nI T.length) 0 65536 g 340 len 340 r17.2.2 65536 room) fun r18 => k r17.1 r17.2.1 r17.2.2 r18.1 r18.2.1 r18.2.2.1 r18.2.2.2) = y) ∧
      OKr (8 * n) p' F w' room' (cdS ll ld L (8 * n + 1) q T) := by
  obtain ⟨m1, f1, c1, e1, C1, k1⟩ := Mo_assign h1 (fun s _ => h3 s) (by omega) (by omega) many fi cod
  obtain ⟨m2, f2, c2, e2, C2, k2⟩ := Mo_assign h2 (fun s _ => h4 s) (by omega) (by omega) m1 f1 c1
  have C3 : CoR ll 0 288 len c2 := by
    obtain ⟨a, b, c, d, e⟩ := C1
    exact ⟨a, fun s hs h0 => by rw [k2 (0 + s) (by omega)]; exact b s hs h0, c, d, e⟩
  obtain ⟨p', F, w', room', e3, hO⟩ := Mo_signs hM hl hn C3 C2 hq hT hTl
  refine ⟨p', F, w', room', m2, f2, c2, fun y k hy => ?_, hO⟩
  refine (Bd_s (x := f_Mo_assign NF 17 many 340 len 17 fi 340 cod 0 288) e1 _).trans ?_
  refine (Bd_s (x := f_Mo_assign NF 17 m1 340 len 17 f1 340 c1 288 32) e2 _).trans ?_
  exact (Bd_s e3 _).trans hy
/-- the rows of the reference's codes -/
abbrev RA : Type := AR × AR × AR × AR × AR
abbrev RA.len (X : RA) : AR := X.1
abbrev RA.many (X : RA) : AR := X.2.1
abbrev RA.fi (X : RA) : AR := X.2.2.1
abbrev RA.cod (X : RA) : AR := X.2.2.2.1
abbrev RA.told (X : RA) : AR := X.2.2.2.2
theorem Mo_block {L : List Int32} {n : Nat} {g : AR} (hM : Md g L) (hl : L.length = n) (hn : n ≤ 65536) {q : Nat} (hq : q ≤ 8 * n) {kind : Nat} (hk : kind < 4) {T : List Int32} {room : AR} (hT : Md room T) (hTl : T.length ≤ 65536) (b t : Nat) (X : RA) :
    ∃ (p' F : Nat) (w' : Int32) (room' : AR) (Y : RA), f_Mo_block NF (nI n) (nI q) (nI T.length) (nI b) (nI t) 0 65536 g 65536 room 340 X.len 17 X.many 17 X.fi 340 X.cod 320 X.told (nI kind) = some (nI p', nI F, nI (b + 1), nI (if kind = 2 then t + 1 else t), w', room', Y.len, Y.many, Y.fi, Y.cod, Y.told) ∧ OKr (8 * n) p' F w' room' (bkS L kind q T) := by
  unfold f_Mo_block bkS
  rw [Lt_s, nI_1, Jn_s]
  by_cases h0 : kind = 0
  · subst h0
    obtain ⟨p', F, w', room', e, hO⟩ := Mo_stored hM hl hn hq hT hTl
    refine ⟨p', F, w', room', X, ?_, by rw [if_pos rfl]; exact hO⟩
    refine (if_neg (by decide)).trans ?_
    refine (Jn_s _ _).trans ?_
    refine (if_pos rfl).trans ?_
    refine (Bd_s e _).trans ?_
    refine (Jn_s _ _).trans ?_
    refine (if_neg (by decide)).trans ?_
    refine (Jn_s _ _).trans ?_
    refine (if_neg (by decide)).trans ?_
    rcases hO.2.2.2 with ⟨rfl, _⟩ | ⟨rfl, _⟩
    · rfl
    · rfl
  · rw [if_neg h0]
    by_cases h1 : kind = 1
    · subst h1
      obtain ⟨len', e1, g1, g2⟩ := Mo_fixed X.len
      obtain ⟨p', F, w', room', many', fi', cod', e2, hO⟩ := Mo_tell_signs hM hl hn g1 g2 flL_le (fun _ => by show 5 ≤ 15; omega) hq hT hTl X.many X.fi X.cod
      refine ⟨p', F, w', room', ⟨len', many', fi', cod', X.told⟩, ?_, by rw [if_pos rfl, hl]; exact hO⟩
      refine (if_neg (by decide)).trans ?_
      refine (Jn_s _ _).trans ?_
      refine (if_neg (by decide)).trans ?_
      refine (Jn_s _ _).trans ?_
      refine (if_pos rfl).trans ?_
      refine (Bd_s e1 _).trans ?_
      refine (Jn_s _ _).trans ?_
      refine (if_neg (by decide)).trans ?_
      refine (if_pos rfl).trans ?_
      refine (if_neg (by decide)).trans ?_
      exact e2 _ (fun a1 a2 a3 b1 b2 b3 b4 => some (b1, b2, nI (b + 1), nI t, b3, b4, len', a1, a2, a3, X.told)) rfl
    · rw [if_neg h1]
      by_cases h2 : kind = 2
      · subst h2
        rw [if_pos rfl]
        obtain ⟨p1, w1, len', many', fi', cod', told', e1, hp1, hO⟩ := Mo_table hM hl hn hq X.len X.many X.fi X.cod X.told
        rcases hO with ⟨rfl, ll, ld, hS, g1, g2, g3, g4⟩ | ⟨rfl, hS⟩
        · rw [hS]
          obtain ⟨p', F, w', room', many2, fi2, cod2, e2, hO⟩ := Mo_tell_signs hM hl hn g1 g2 g3 g4 hp1 hT hTl many' fi' cod'
          refine ⟨p', F, w', room', ⟨len', many2, fi2, cod2, told'⟩, ?_, by rw [hl]; exact hO⟩
          refine (if_neg (by decide)).trans ?_
          refine (Jn_s _ _).trans ?_
          refine (if_neg (by decide)).trans ?_
          refine (Jn_s _ _).trans ?_
          refine (if_neg (by decide)).trans ?_
          refine (Jn_s _ _).trans ?_
          refine (if_pos rfl).trans ?_
          rw [Lt_s, nI_1, Bd_s e1]
          refine (if_pos rfl).trans ?_
          refine (if_neg (by decide)).trans ?_
          exact e2 _ (fun a1 a2 a3 b1 b2 b3 b4 => some (b1, b2, nI (b + 1), nI (t + 1), b3, b4, len', a1, a2, a3, told')) rfl
        · rw [hS]
          refine ⟨p1, T.length, 1, room, ⟨len', many', fi', cod', told'⟩, ?_, hp1, hTl, hT.1, Or.inr ⟨rfl, rfl⟩⟩
          refine (if_neg (by decide)).trans ?_
          refine (Jn_s _ _).trans ?_
          refine (if_neg (by decide)).trans ?_
          refine (Jn_s _ _).trans ?_
          refine (if_neg (by decide)).trans ?_
          refine (Jn_s _ _).trans ?_
          refine (if_pos rfl).trans ?_
          rw [Lt_s, nI_1, Bd_s e1]
          exact if_neg (show ¬ (1 : Int32) = 0 by decide)
      · have h3 : kind = 3 := by omega
        subst h3
        refine ⟨q, T.length, 1, room, X, ?_, hq, hTl, hT.1, Or.inr ⟨rfl, rfl⟩⟩
        rfl
theorem Mo_block1 {L : List Int32} {n : Nat} {g : AR} (hM : Md g L) (hl : L.length = n) (hn : n ≤ 65536) {p : Nat} (hp : p ≤ 8 * n) {kind : Nat} (hk : kind < 4) {F : Nat} {room : AR} (b t : Nat) (X : RA) :
    ∃ (p' : Nat) (Y : RA), p' ≤ 8 * n ∧ f_Mo_block NF (nI n) (nI p) (nI F) (nI b) (nI t) 1 65536 g 65536 room 340 X.len 17 X.many 17 X.fi 340 X.cod 320 X.told (nI kind) = some (nI p', nI F, nI (b + 1), nI (if kind = 2 then t + 1 else t), 1, room, Y.len, Y.many, Y.fi, Y.cod, Y.told) := by
  unfold f_Mo_block
  rw [Lt_s, nI_1, Jn_s]
  have : kind = 0 ∨ kind = 1 ∨ kind = 2 ∨ kind = 3 := by omega
  rcases this with rfl | rfl | rfl | rfl
  · obtain ⟨p', hp', e⟩ := Mo_stored1 hM hl hn hp (F := F) (room := room)
    refine ⟨p', X, hp', ?_⟩
    refine (if_neg (by decide)).trans ?_
    refine (Jn_s _ _).trans ?_
    refine (if_pos rfl).trans ?_
    refine (Bd_s e _).trans ?_
    refine (Jn_s _ _).trans ?_
    refine (if_neg (by decide)).trans ?_
    refine (Jn_s _ _).trans ?_
    refine (if_neg (by decide)).trans ?_
    rfl
  · obtain ⟨len', e1, g1, g2⟩ := Mo_fixed X.len
    refine ⟨p, ⟨len', X.many, X.fi, X.cod, X.told⟩, hp, ?_⟩
    refine (if_neg (by decide)).trans ?_
    refine (Jn_s _ _).trans ?_
    refine (if_neg (by decide)).trans ?_
    refine (Jn_s _ _).trans ?_
    refine (if_pos rfl).trans ?_
    refine (Bd_s e1 _).trans ?_
    refine (Jn_s _ _).trans ?_
    refine (if_neg (by decide)).trans ?_
    rfl
  · obtain ⟨p', len', many', fi', cod', told', hp', e1⟩ := Mo_table1 hM hl hn hp X.len X.many X.fi X.cod X.told
    refine ⟨p', ⟨len', many', fi', cod', told'⟩, hp', ?_⟩
    refine (if_neg (by decide)).trans ?_
    refine (Jn_s _ _).trans ?_
    refine (if_neg (by decide)).trans ?_
    refine (Jn_s _ _).trans ?_
    refine (if_neg (by decide)).trans ?_
    refine (Jn_s _ _).trans ?_
    refine (if_pos rfl).trans ?_
    rw [Lt_s, nI_1, Bd_s e1]
    exact if_neg (show ¬ (1 : Int32) = 0 by decide)
  · exact ⟨p, X, hp, rfl⟩
theorem Mo_open_w {n p F : Nat} {g room : AR} {X : RA} (la b t : Int32) (fuel : Nat) : lp_Mo_open_101 NF (nI n) 65536 g 65536 340 340 320 17 17 (fuel + 1) la (nI p) (nI F) b t 1 room X.len X.cod X.told X.many X.fi = some (nI p, nI F, b, t, 1, room, X.len, X.cod, X.told, X.many, X.fi) := by
  rw [ls_Mo_open_101]
  unfold lb_Mo_open_101
  split
  · exact if_neg (by decide)
  · rfl
theorem Mo_open_l {n p F : Nat} {g room : AR} {X : RA} (w b t : Int32) (fuel : Nat) : lp_Mo_open_101 NF (nI n) 65536 g 65536 340 340 320 17 17 (fuel + 1) 1 (nI p) (nI F) b t w room X.len X.cod X.told X.many X.fi = some (nI p, nI F, b, t, w, room, X.len, X.cod, X.told, X.many, X.fi) := by
  rw [ls_Mo_open_101]
  unfold lb_Mo_open_101
  exact if_neg (by decide)
theorem Mo_open_loop {L : List Int32} {n : Nat} {g : AR} (hM : Md g L) (hl : L.length = n) (hn : n ≤ 65536) :
    ∀ (j q b t fuel : Nat) (T : List Int32) (room : AR) (X : RA), 8 * n < q + j → q ≤ 8 * n → j + 1 < fuel → Md room T → T.length ≤ 65536 →
    ∃ (p' F b' t' : Nat) (w' : Int32) (room' : AR) (Y : RA), lp_Mo_open_101 NF (nI n) 65536 g 65536 340 340 320 17 17 fuel 0 (nI q) (nI T.length) (nI b) (nI t) 0 room X.len X.cod X.told X.many X.fi = some (nI p', nI F, nI b', nI t', w', room', Y.len, Y.cod, Y.told, Y.many, Y.fi) ∧
      p' ≤ 8 * n ∧ F ≤ 65536 ∧ sb_Fit room' ∧ ((w' = 0 ∧ ∃ T', opL L j q T b t = some (p', T', b', t') ∧ F = T'.length ∧ Md room' T') ∨ (w' = 1 ∧ opL L j q T b t = none)) := by
  intro j
  induction j with
  | zero =>
    intro q b t fuel T room X h1 h2
    omega
  | succ j ih =>
    intro q b t fuel T room X hq hq8 hf hT hTl
    obtain ⟨u, rfl⟩ : ∃ u, fuel = u + 1 + 1 := ⟨fuel - 2, by omega⟩
    have hk := tk_lt L (q + 1) 2
    have hb1 := tk_lt L q 1
    have ht1 : tk L q 1 = bitA L q := by simp [tk]
    obtain ⟨t2, ht2⟩ : ∃ t2, t2 = (if tk L (q + 1) 2 = 2 then t + 1 else t) := ⟨_, rfl⟩
    have eS : opL L (j + 1) q T b t = (if 8 * L.length < q then none else match bkS L (tk L (q + 1) 2) (q + 3) T with
        | none => none
        | some (q', T') => if tk L q 1 = 1 then some (q', T', b + 1, if tk L (q + 1) 2 = 2 then t + 1 else t) else opL L j q' T' (b + 1) (if tk L (q + 1) 2 = 2 then t + 1 else t)) := rfl
    rw [← ht2, if_neg (by omega)] at eS
    have e21 := Mo_bq hM hl hn hq8
    rw [← ht1] at e21
    have e24 : f_Mo_number NF (nI n) (nI (pos n (q + 1))) (flg n (q + 1)) 65536 g 2 = some (nI (tk L (q + 1) 2), nI (pos n (q + 3)), flg n (q + 3)) := Mo_nq hM hl hn (q + 1) (k := 2) (by omega)
    have step : ∀ (t23 : Int32) (y : Option (Int32 × Int32 × Int32 × Int32 × Int32 × AR × AR × AR × AR × AR × AR)), t23 = (if tk L q 1 = 1 then 1 else 0) → (Bd (f_Mo_block NF (nI n) (nI (pos n (q + 3))) (nI T.length) (nI b) (nI t) (flg n (q + 3)) 65536 g 65536 room 340 X.len 17 X.many 17 X.fi 340 X.cod 320 X.told (nI (tk L (q + 1) 2))) fun r25 => lp_Mo_open_101 NF (nI n) 65536 g 65536 340 340 320 17 17 (u + 1) t23 r25.1 r25.2.1 r25.2.2.1 r25.2.2.2.1 r25.2.2.2.2.1 r25.2.2.2.2.2.1 r25.2.2.2.2.2.2.1 r25.2.2.2.2.2.2.2.2.2.1 r25.2.2.2.2.2.2.2.2.2.2 r25.2.2.2.2.2.2.2.1 r25.2.2.2.2.2.2.2.2.1) = y →
        lp_Mo_open_101 NF (nI n) 65536 g 65536 340 340 320 17 17 (u + 1 + 1) 0 (nI q) (nI T.length) (nI b) (nI t) 0 room X.len X.cod X.told X.many X.fi = y := by
      intro t23 y ht hy
      rw [ls_Mo_open_101]
      unfold lb_Mo_open_101
      refine (if_pos rfl).trans ?_
      refine (if_pos rfl).trans ?_
      rw [Bd_s e21, Jn_s]
      by_cases h1' : tk L q 1 = 1
      · rw [if_pos h1'] at ht
        subst ht
        refine (if_pos (by show nI (tk L q 1) = 1; rw [h1']; rfl)).trans ?_
        exact (Bd_s e24 _).trans hy
      · rw [if_neg h1'] at ht
        subst ht
        refine (if_neg (show ¬ nI (tk L q 1) = 1 by ((try simp (disch := omega) only [Int32.le_iff_toInt_le, Int32.lt_iff_toInt_lt, ← Int32.toInt_inj, nI_toInt, nI_addL, nI_Ladd, nI_mulL, nI_Lmul, nI_add, nI_subL, nI_Lsub, nI_sub, Int32.reduceToInt, m1_toInt, ne_eq, Int32.reduceMul, Int32.reduceAdd, Int32.reduceSub]) <;> omega))).trans ?_
        exact (Bd_s e24 _).trans hy
    by_cases h3 : q + 3 ≤ 8 * n
    · rw [pos_in h3, flg_in h3] at step
      obtain ⟨p1, F1, w1, room1, Y1, e25, hp1, hF1, hr1, hO⟩ := Mo_block hM hl hn h3 hk hT hTl b t X
      rw [← ht2] at e25
      rcases hO with ⟨rfl, T1, hB, hF, hMd⟩ | ⟨rfl, hB⟩
      · have hqq := bkS_q hB
        rw [hB] at eS
        have eS : opL L (j + 1) q T b t = (if tk L q 1 = 1 then some (p1, T1, b + 1, t2) else opL L j p1 T1 (b + 1) t2) := eS
        by_cases h1' : tk L q 1 = 1
        · rw [if_pos h1'] at eS
          refine ⟨p1, F1, b + 1, t2, 0, room1, Y1, step 1 _ (by rw [if_pos h1']) ?_, hp1, hF1, hr1, Or.inl ⟨rfl, T1, eS, hF, hMd⟩⟩
          rw [Bd_s e25]
          exact Mo_open_l _ _ _ _
        · rw [if_neg h1'] at eS
          obtain ⟨p', F, b', t', w', room', Y, e2, a1, a2, a3, hO⟩ := ih p1 (b + 1) t2 (u + 1) T1 room1 Y1 (by omega) hp1 (by omega) hMd (by omega)
          refine ⟨p', F, b', t', w', room', Y, step 0 _ (by rw [if_neg h1']) ?_, a1, a2, a3, by rw [eS]; exact hO⟩
          rw [Bd_s e25, hF]
          exact e2
      · rw [hB] at eS
        refine ⟨p1, F1, b + 1, t2, 1, room1, Y1, step _ _ rfl ?_, hp1, hF1, hr1, Or.inr ⟨rfl, eS⟩⟩
        rw [Bd_s e25]
        exact Mo_open_w _ _ _ _
    · rw [bkS_out (by omega)] at eS
      obtain ⟨p1, Y1, hp1, e25⟩ := Mo_block1 hM hl hn (pos_le n (q + 3)) hk (F := T.length) (room := room) b t X
      rw [← ht2] at e25
      refine ⟨p1, T.length, b + 1, t2, 1, room, Y1, step _ _ rfl ?_, hp1, hTl, hT.1, Or.inr ⟨rfl, eS⟩⟩
      rw [flg_out (by omega), Bd_s e25]
      exact Mo_open_w _ _ _ _
theorem Mo_num_loop {L : List Int32} {n : Nat} {g : AR} (hM : Md g L) (hl : L.length = n) (hn : n ≤ 65536) : ∀ (j i q fuel : Nat) (v : Int32), j + i = 4 → j < fuel → lp_Mo_open_161 NF (nI n) 65536 g fuel v (nI i) (nI (pos n q)) (flg n q) = some (nmF L j q v, nI (pos n (q + 8 * j)), flg n (q + 8 * j)) := by
  intro j
  induction j with
  | zero =>
    intro i q fuel v hj hf
    obtain ⟨u, rfl⟩ : ∃ u, fuel = u + 1 := ⟨fuel - 1, by omega⟩
    rw [ls_Mo_open_161]
    unfold lb_Mo_open_161
    (refine (if_pos ?_).trans ?_; focus ((try simp (disch := omega) only [Int32.le_iff_toInt_le, Int32.lt_iff_toInt_lt, ← Int32.toInt_inj, nI_toInt, nI_addL, nI_Ladd, nI_mulL, nI_Lmul, nI_add, nI_subL, nI_Lsub, nI_sub, Int32.reduceToInt, m1_toInt, ne_eq, Int32.reduceMul, Int32.reduceAdd, Int32.reduceSub]) <;> omega)); rfl
  | succ j ih =>
    intro i q fuel v hj hf
    obtain ⟨u, rfl⟩ : ∃ u, fuel = u + 1 := ⟨fuel - 1, by omega⟩
    have e : f_Mo_number NF (nI n) (nI (pos n q)) (flg n q) 65536 g 8 = some (nI (tk L q 8), nI (pos n (q + 8)), flg n (q + 8)) := Mo_nq hM hl hn q (k := 8) (by omega)
    rw [ls_Mo_open_161]
    unfold lb_Mo_open_161
    (refine (if_neg ?_).trans ?_; focus ((try simp (disch := omega) only [Int32.le_iff_toInt_le, Int32.lt_iff_toInt_lt, ← Int32.toInt_inj, nI_toInt, nI_addL, nI_Ladd, nI_mulL, nI_Lmul, nI_add, nI_subL, nI_Lsub, nI_sub, Int32.reduceToInt, m1_toInt, ne_eq, Int32.reduceMul, Int32.reduceAdd, Int32.reduceSub]) <;> omega))
    rw [Bd_s e, Lt_s, Lt_s, nI_1]
    have := ih (i + 1) (q + 8) u ((v <<< ((8 : Int32) &&& 31)) ||| nI (tk L q 8)) (by omega) (by omega)
    rw [show q + 8 + 8 * j = q + 8 * (j + 1) by omega] at this
    exact this
theorem Mo_num_w {L : List Int32} {n : Nat} {g : AR} (hM : Md g L) (hl : L.length = n) (hn : n ≤ 65536) : ∀ (j i p fuel : Nat) (v : Int32), j + i = 4 → j < fuel → p ≤ 8 * n → ∃ v' p', p' ≤ 8 * n ∧ lp_Mo_open_161 NF (nI n) 65536 g fuel v (nI i) (nI p) 1 = some (v', nI p', 1) := by
  intro j
  induction j with
  | zero =>
    intro i p fuel v hj hf hp
    obtain ⟨u, rfl⟩ : ∃ u, fuel = u + 1 := ⟨fuel - 1, by omega⟩
    refine ⟨v, p, hp, ?_⟩
    rw [ls_Mo_open_161]
    unfold lb_Mo_open_161
    (refine (if_pos ?_).trans ?_; focus ((try simp (disch := omega) only [Int32.le_iff_toInt_le, Int32.lt_iff_toInt_lt, ← Int32.toInt_inj, nI_toInt, nI_addL, nI_Ladd, nI_mulL, nI_Lmul, nI_add, nI_subL, nI_Lsub, nI_sub, Int32.reduceToInt, m1_toInt, ne_eq, Int32.reduceMul, Int32.reduceAdd, Int32.reduceSub]) <;> omega)); rfl
  | succ j ih =>
    intro i p fuel v hj hf hp
    obtain ⟨u, rfl⟩ : ∃ u, fuel = u + 1 := ⟨fuel - 1, by omega⟩
    obtain ⟨p1, hp1, e⟩ := Mo_n1 hM hl hn hp (k := 8) (by omega)
    have e : f_Mo_number NF (nI n) (nI p) 1 65536 g 8 = some (nI (tk L p 8), nI p1, 1) := e
    obtain ⟨v', p', hp', e2⟩ := ih (i + 1) p1 u ((v <<< ((8 : Int32) &&& 31)) ||| nI (tk L p 8)) (by omega) (by omega) hp1
    refine ⟨v', p', hp', ?_⟩
    rw [ls_Mo_open_161]
    unfold lb_Mo_open_161
    (refine (if_neg ?_).trans ?_; focus ((try simp (disch := omega) only [Int32.le_iff_toInt_le, Int32.lt_iff_toInt_lt, ← Int32.toInt_inj, nI_toInt, nI_addL, nI_Ladd, nI_mulL, nI_Lmul, nI_add, nI_subL, nI_Lsub, nI_sub, Int32.reduceToInt, m1_toInt, ne_eq, Int32.reduceMul, Int32.reduceAdd, Int32.reduceSub]) <;> omega))
    rw [Bd_s e, Lt_s, Lt_s, nI_1]
    exact e2
theorem Mo_copyout {room : AR} {T : List Int32} (hM : Md room T) (hT : T.length ≤ 65536) : ∀ (j k fuel : Nat) (o : AR), j + k = T.length → j < fuel → Md o (T.take k) → ∃ o', lp_Mo_open_244 NF (nI T.length) 74000 65536 room fuel (nI k) o = some o' ∧ Md o' T := by
  intro j
  induction j with
  | zero =>
    intro k fuel o hj hf ho
    obtain ⟨u, rfl⟩ : ∃ u, fuel = u + 1 := ⟨fuel - 1, by omega⟩
    refine ⟨o, ?_, ?_⟩
    · rw [ls_Mo_open_244]
      unfold lb_Mo_open_244
      (refine (if_pos ?_).trans ?_; focus ((try simp (disch := omega) only [Int32.le_iff_toInt_le, Int32.lt_iff_toInt_lt, ← Int32.toInt_inj, nI_toInt, nI_addL, nI_Ladd, nI_mulL, nI_Lmul, nI_add, nI_subL, nI_Lsub, nI_sub, Int32.reduceToInt, m1_toInt, ne_eq, Int32.reduceMul, Int32.reduceAdd, Int32.reduceSub]) <;> omega)); rfl
    · rw [List.take_of_length_le (by omega)] at ho
      exact ho
  | succ j ih =>
    intro k fuel o hj hf ho
    obtain ⟨u, rfl⟩ : ∃ u, fuel = u + 1 := ⟨fuel - 1, by omega⟩
    have hlen : (T.take k).length = k := by rw [List.length_take]; omega
    have hM' := Md_add ho hlen (room k)
    have e0 : T.take k ++ [bB (room k)] = T.take (k + 1) := by
      rw [bB_of (hM.1 k), hM.2 k (by omega), List.take_add_one]
      simp [List.getD_eq_getElem?_getD, show k < T.length by omega]
    rw [e0] at hM'
    obtain ⟨o', e1, hG⟩ := ih (k + 1) u _ (by omega) (by omega) hM'
    refine ⟨o', ?_, hG⟩
    rw [← e1, ls_Mo_open_244]
    unfold lb_Mo_open_244
    (refine (if_neg ?_).trans ?_; focus ((try simp (disch := omega) only [Int32.le_iff_toInt_le, Int32.lt_iff_toInt_lt, ← Int32.toInt_inj, nI_toInt, nI_addL, nI_Ladd, nI_mulL, nI_Lmul, nI_add, nI_subL, nI_Lsub, nI_sub, Int32.reduceToInt, m1_toInt, ne_eq, Int32.reduceMul, Int32.reduceAdd, Int32.reduceSub]) <;> omega))
    rw [Ix_s (by omega) (by omega), Ix_s (by omega) (by omega), Lt_s, Lt_s, nI_clamp (by omega), nI_1, vp_nar_byte]
    rfl
theorem Mo_open_tail1 {L : List Int32} {n : Nat} {g : AR} (hM : Md g L) (hl : L.length = n) (hn : n ≤ 65536) {p : Nat} (hp : p ≤ 8 * n) (O B D E : Int32) (X : RA) (room out : AR) (F : Nat) (b t : Int32) :
    ∃ (v : Int32) (p' : Nat), p' ≤ 8 * n ∧ lp_Mo_open_161 NF (nI n) 65536 g NF 0 0 (nI (ru p)) 1 = some (v, nI p', 1) := by
  obtain ⟨v, p', hp', e⟩ := Mo_num_w hM hl hn 4 0 (ru p) NF 0 (by omega) (by decide) (ru_le hp)
  exact ⟨v, p', hp', e⟩
