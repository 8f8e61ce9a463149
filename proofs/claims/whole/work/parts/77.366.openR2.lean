/-! the reference's open as a whole (ours) -/
abbrev OpR : Type := Option (Int32 × Int32 × Int32 × Int32 × Int32 × Int32 × Int32 × Int32 × Int32 × Int32 × Int32 × AR × AR × AR × AR × AR × AR × AR)
noncomputable def opT (nn O B D E at' t11 : Int32) (g room len many fi cod told out : AR) : OpR :=
  Bd (lp_Mo_open_101 NF nn 65536 g 65536 340 340 320 17 17 NF 0 at' 0 0 0 t11 room len cod told many fi) fun r27 =>
  Bd (lp_Mo_open_161 NF nn 65536 g NF 0 0 (((r27.1 + 7) / 8) * 8) r27.2.2.2.2.1) fun r37 =>
  Jn (fun (t48 : Unit) =>
  some ((0 : Int32), O, B, D, E + 1, (1 : Int32), r37.2.1, r27.2.1, r27.2.2.1, r27.2.2.2.1, r37.2.2, r27.2.2.2.2.2.1, r27.2.2.2.2.2.2.1, r27.2.2.2.2.2.2.2.2.2.1, r27.2.2.2.2.2.2.2.2.2.2, r27.2.2.2.2.2.2.2.1, r27.2.2.2.2.2.2.2.2.1, out)) fun j48 =>
  if r37.2.2 = 0 then (
  if r37.2.1 = (nn * 8) then (
  Bd (f_Mo_adler NF 65536 r27.2.2.2.2.2.1 r27.2.1) fun r53 =>
  if r37.1 = r53 then (
  Bd (lp_Mo_open_244 NF r27.2.1 74000 65536 r27.2.2.2.2.2.1 NF 0 out) fun r65 =>
  some (r27.2.1, r27.2.1, r27.2.2.1, r27.2.2.2.1, E, 0, r37.2.1, r27.2.1, r27.2.2.1, r27.2.2.2.1, r37.2.2, r27.2.2.2.2.2.1, r27.2.2.2.2.2.2.1, r27.2.2.2.2.2.2.2.2.2.1, r27.2.2.2.2.2.2.2.2.2.2, r27.2.2.2.2.2.2.2.1, r27.2.2.2.2.2.2.2.2.1, r65))
  else (
  j48 ()))
  else (
  j48 ()))
  else (
  j48 ())
noncomputable def opH (nn O B D E t2 : Int32) (g room len many fi cod told out : AR) : OpR :=
  Gb t2 <|
  Bd (f_Mo_number NF nn 0 t2 65536 g 8) fun r4 =>
  Bd (f_Mo_number NF nn r4.2.1 r4.2.2 65536 g 8) fun r5 =>
  if (irm r4.1 16) = (8 : Int32) then (
  if (7 : Int32) < (r4.1 / 16) then (
  opT nn O B D E r5.2.1 1 g room len many fi cod told out)
  else (
  if (irm ((r4.1 * 256) + r5.1) 31) = 0 then (
  if (r5.1 &&& 32) = 0 then (
  opT nn O B D E r5.2.1 r5.2.2 g room len many fi cod told out)
  else (
  opT nn O B D E r5.2.1 1 g room len many fi cod told out))
  else (
  opT nn O B D E r5.2.1 1 g room len many fi cod told out)))
  else (
  opT nn O B D E r5.2.1 1 g room len many fi cod told out)
theorem op_eq (nn O B D E : Int32) (g room len many fi cod told out : AR) : f_Mo_open NF nn O B D E 65536 g 65536 room 340 len 17 many 17 fi 340 cod 320 told 74000 out =
    (if (2 : Int32) ≤ nn then opH nn O B D E 0 g room len many fi cod told out else opH nn O B D E 1 g room len many fi cod told out) := rfl
theorem opT_1 {L : List Int32} {n : Nat} {g : AR} (hM : Md g L) (hl : L.length = n) (hn : n ≤ 65536) {p : Nat} (hp : p ≤ 8 * n) (O B D E : Int32) (X : RA) (room out : AR) :
    ∃ (x1 x2 x3 x4 x5 : Int32), opT (nI n) O B D E (nI p) 1 g room X.len X.many X.fi X.cod X.told out = some (0, O, B, D, E + 1, 1, x1, x2, x3, x4, x5, room, X.len, X.many, X.fi, X.cod, X.told, out) := by
  obtain ⟨v, p', hp', e2⟩ := Mo_num_w hM hl hn 4 0 (ru p) NF 0 (by omega) (by decide) (ru_le hp)
  have e2 : lp_Mo_open_161 NF (nI n) 65536 g NF 0 0 (nI (ru p)) 1 = some (v, nI p', 1) := e2
  have e1 : lp_Mo_open_101 NF (nI n) 65536 g 65536 340 340 320 17 17 NF 0 (nI p) 0 0 0 1 room X.len X.cod X.told X.many X.fi = some (nI p, nI 0, 0, 0, 1, room, X.len, X.cod, X.told, X.many, X.fi) := Mo_open_w (F := 0) 0 0 0 999999
  refine ⟨nI p', nI 0, 0, 0, 1, ?_⟩
  unfold opT
  rw [Bd_s e1]
  dsimp only
  rw [ru_div (by omega), Bd_s e2, Jn_s]
  exact if_neg (show ¬ (1 : Int32) = 0 by decide)
theorem rem16 {a : Nat} (ha : a < 256) : irm (nI a) 16 = nI (a % 16) := pk_rem (d := 16) (by omega) (by omega) (by omega)
theorem div16 {a : Nat} (ha : a < 256) : nI a / 16 = nI (a / 16) := pk_div (d := 16) (by omega) (by omega) (by omega)
theorem Mo_open {L : List Int32} {n : Nat} {g : AR} (hM : Md g L) (hl : L.length = n) (hn : n ≤ 65536) (o B D E : Nat) (X : RA) {room out : AR} (hr : sb_Fit room) (ho : sb_Fit out) :
    (opS L = none ∧ ∃ (x1 x2 x3 x4 x5 : Int32) (room' : AR) (Y : RA), f_Mo_open NF (nI n) (nI o) (nI B) (nI D) (nI E) 65536 g 65536 room 340 X.len 17 X.many 17 X.fi 340 X.cod 320 X.told 74000 out = some (0, nI o, nI B, nI D, nI (E + 1), 1, x1, x2, x3, x4, x5, room', Y.len, Y.many, Y.fi, Y.cod, Y.told, out) ∧ sb_Fit room') ∨
    (∃ (T : List Int32) (b t : Nat) (x1 x2 x3 x4 x5 : Int32) (room' out' : AR) (Y : RA), opS L = some (T, b, t) ∧ f_Mo_open NF (nI n) (nI o) (nI B) (nI D) (nI E) 65536 g 65536 room 340 X.len 17 X.many 17 X.fi 340 X.cod 320 X.told 74000 out = some (nI T.length, nI T.length, nI b, nI t, nI E, 0, x1, x2, x3, x4, x5, room', Y.len, Y.many, Y.fi, Y.cod, Y.told, out') ∧ sb_Fit room' ∧ Md out' T) := by
  have ha := tk_lt L 0 8
  have hb := tk_lt L 8 8
  rw [op_eq]
  unfold opS
  rw [hl]
  by_cases h2 : 2 ≤ n
  · rw [if_pos (show (2 : Int32) ≤ nI n by ((try simp (disch := omega) only [Int32.le_iff_toInt_le, Int32.lt_iff_toInt_lt, ← Int32.toInt_inj, nI_toInt, nI_addL, nI_Ladd, nI_mulL, nI_Lmul, nI_add, nI_subL, nI_Lsub, nI_sub, Int32.reduceToInt, m1_toInt, ne_eq, Int32.reduceMul, Int32.reduceAdd, Int32.reduceSub]) <;> omega)), if_neg (show ¬ 8 * n < 16 by omega)]
    unfold opH
    rw [Gb_s (Or.inl rfl)]
    have e4 := Mo_nq hM hl hn 0 (k := 8) (by omega)
    rw [pos_in (by omega), flg_in (by omega), pos_in (by omega), flg_in (by omega)] at e4
    have e4 : f_Mo_number NF (nI n) 0 0 65536 g 8 = some (nI (tk L 0 8), nI 8, 0) := e4
    have e5 := Mo_nq hM hl hn 8 (k := 8) (by omega)
    rw [pos_in (by omega), flg_in (by omega), pos_in (by omega), flg_in (by omega)] at e5
    have e5 : f_Mo_number NF (nI n) (nI 8) 0 65536 g 8 = some (nI (tk L 8 8), nI 16, 0) := e5
    rw [Bd_s e4]
    dsimp only
    rw [Bd_s e5]
    dsimp only
    have em : irm (nI (tk L 0 8) * 256 + nI (tk L 8 8)) 31 = nI ((256 * tk L 0 8 + tk L 8 8) % 31) := by
      rw [show nI (tk L 0 8) * 256 = nI (tk L 0 8 * 256) from pk_mul _ 256, nI_add, Nat.mul_comm]
      exact pk_rem (d := 31) (by omega) (by omega) (by omega)
    rw [rem16 (by omega), div16 (by omega), em]
    obtain ⟨y1, y2, y3, y4, y5, eb⟩ := opT_1 hM hl hn (p := 16) (by omega) (nI o) (nI B) (nI D) (nI E) X room out
    rw [nI_1] at eb
    have bad : ¬ hdS (tk L 0 8) (tk L 8 8) → (if nI (tk L 0 8 % 16) = (8 : Int32) then (if (7 : Int32) < nI (tk L 0 8 / 16) then opT (nI n) (nI o) (nI B) (nI D) (nI E) (nI 16) 1 g room X.len X.many X.fi X.cod X.told out else (if nI ((256 * tk L 0 8 + tk L 8 8) % 31) = 0 then (if nI (tk L 8 8) &&& 32 = 0 then opT (nI n) (nI o) (nI B) (nI D) (nI E) (nI 16) 0 g room X.len X.many X.fi X.cod X.told out else opT (nI n) (nI o) (nI B) (nI D) (nI E) (nI 16) 1 g room X.len X.many X.fi X.cod X.told out) else opT (nI n) (nI o) (nI B) (nI D) (nI E) (nI 16) 1 g room X.len X.many X.fi X.cod X.told out)) else opT (nI n) (nI o) (nI B) (nI D) (nI E) (nI 16) 1 g room X.len X.many X.fi X.cod X.told out) = opT (nI n) (nI o) (nI B) (nI D) (nI E) (nI 16) 1 g room X.len X.many X.fi X.cod X.told out := by
      intro hd
      by_cases h1 : tk L 0 8 % 16 = 8
      · refine (if_pos (by rw [h1]; rfl)).trans ?_
        by_cases h2 : tk L 0 8 / 16 ≤ 7
        · refine (if_neg (show ¬ (7 : Int32) < nI (tk L 0 8 / 16) by ((try simp (disch := omega) only [Int32.le_iff_toInt_le, Int32.lt_iff_toInt_lt, ← Int32.toInt_inj, nI_toInt, nI_addL, nI_Ladd, nI_mulL, nI_Lmul, nI_add, nI_subL, nI_Lsub, nI_sub, Int32.reduceToInt, m1_toInt, ne_eq, Int32.reduceMul, Int32.reduceAdd, Int32.reduceSub]) <;> omega))).trans ?_
          by_cases h3 : (256 * tk L 0 8 + tk L 8 8) % 31 = 0
          · refine (if_pos (by rw [h3]; rfl)).trans ?_
            exact if_neg (fun h4 => hd ⟨h1, h2, h3, h4⟩)
          · exact if_neg (show ¬ nI ((256 * tk L 0 8 + tk L 8 8) % 31) = 0 by ((try simp (disch := omega) only [Int32.le_iff_toInt_le, Int32.lt_iff_toInt_lt, ← Int32.toInt_inj, nI_toInt, nI_addL, nI_Ladd, nI_mulL, nI_Lmul, nI_add, nI_subL, nI_Lsub, nI_sub, Int32.reduceToInt, m1_toInt, ne_eq, Int32.reduceMul, Int32.reduceAdd, Int32.reduceSub]) <;> omega))
        · exact if_pos (show (7 : Int32) < nI (tk L 0 8 / 16) by ((try simp (disch := omega) only [Int32.le_iff_toInt_le, Int32.lt_iff_toInt_lt, ← Int32.toInt_inj, nI_toInt, nI_addL, nI_Ladd, nI_mulL, nI_Lmul, nI_add, nI_subL, nI_Lsub, nI_sub, Int32.reduceToInt, m1_toInt, ne_eq, Int32.reduceMul, Int32.reduceAdd, Int32.reduceSub]) <;> omega))
      · exact if_neg (show ¬ nI (tk L 0 8 % 16) = 8 by ((try simp (disch := omega) only [Int32.le_iff_toInt_le, Int32.lt_iff_toInt_lt, ← Int32.toInt_inj, nI_toInt, nI_addL, nI_Ladd, nI_mulL, nI_Lmul, nI_add, nI_subL, nI_Lsub, nI_sub, Int32.reduceToInt, m1_toInt, ne_eq, Int32.reduceMul, Int32.reduceAdd, Int32.reduceSub]) <;> omega))
    by_cases hd : hdS (tk L 0 8) (tk L 8 8)
    · rw [if_neg (show ¬ ¬ hdS (tk L 0 8) (tk L 8 8) from fun h => h hd)]
      obtain ⟨h1, h2', h3, h4⟩ := id hd
      rw [if_pos (show nI (tk L 0 8 % 16) = (8 : Int32) by rw [h1]; rfl), if_neg (show ¬ (7 : Int32) < nI (tk L 0 8 / 16) by ((try simp (disch := omega) only [Int32.le_iff_toInt_le, Int32.lt_iff_toInt_lt, ← Int32.toInt_inj, nI_toInt, nI_addL, nI_Ladd, nI_mulL, nI_Lmul, nI_add, nI_subL, nI_Lsub, nI_sub, Int32.reduceToInt, m1_toInt, ne_eq, Int32.reduceMul, Int32.reduceAdd, Int32.reduceSub]) <;> omega)), if_pos (show nI ((256 * tk L 0 8 + tk L 8 8) % 31) = 0 by rw [h3]; rfl), if_pos h4]
      obtain ⟨p', F, b', t', w', room', Y, e27, hp', hF, hr', hO⟩ := Mo_open_loop hM hl hn (8 * n + 1) 16 0 0 NF [] room X (by omega) (by omega) (Nat.lt_of_le_of_lt (show 8 * n + 1 + 1 ≤ 524290 by omega) (by decide)) ⟨hr, fun i hi => absurd hi (Nat.not_lt_zero _)⟩ (by show 0 ≤ 65536; omega)
      have e27 : lp_Mo_open_101 NF (nI n) 65536 g 65536 340 340 320 17 17 NF 0 (nI 16) 0 0 0 0 room X.len X.cod X.told X.many X.fi = some (nI p', nI F, nI b', nI t', w', room', Y.len, Y.cod, Y.told, Y.many, Y.fi) := e27
      unfold opT
      rw [Bd_s e27]
      dsimp only
      rw [ru_div (by omega)]
      rcases hO with ⟨rfl, T', hO, hFl, hMd⟩ | ⟨rfl, hO⟩
      · rw [hO]
        have hru := ru_le hp'
        have e37 := Mo_num_loop hM hl hn 4 0 (ru p') NF 0 (by omega) (by decide)
        rw [pos_in hru, flg_in hru] at e37
        have e37 : lp_Mo_open_161 NF (nI n) 65536 g NF 0 0 (nI (ru p')) 0 = some (nmF L 4 (ru p') 0, nI (pos n (ru p' + 32)), flg n (ru p' + 32)) := e37
        rw [Bd_s e37, Jn_s]
        dsimp only
        show (((if ru p' + 32 = 8 * n ∧ nmF L 4 (ru p') 0 = adl T' then some (T', b', t') else none) = none ∧ _) ∨ ∃ (T : List Int32) (b t : Nat) (x1 x2 x3 x4 x5 : Int32) (room' out' : AR) (Y : RA), (if ru p' + 32 = 8 * n ∧ nmF L 4 (ru p') 0 = adl T' then some (T', b', t') else none) = some (T, b, t) ∧ _)
        by_cases h8 : ru p' + 32 ≤ 8 * n
        · rw [flg_in h8, if_pos rfl, pos_in h8, show nI n * 8 = nI (8 * n) by rw [Nat.mul_comm]; exact pk_mul n 8]
          by_cases hE : ru p' + 32 = 8 * n
          · rw [if_pos (show nI (ru p' + 32) = nI (8 * n) by rw [hE])]
            have e53 := Mo_adler hMd hFl.symm (by omega)
            rw [Bd_s e53]
            by_cases hA : nmF L 4 (ru p') 0 = adl T'
            · rw [if_pos hA, if_pos ⟨hE, hA⟩]
              right
              obtain ⟨o', e65, hMo⟩ := Mo_copyout hMd (by omega) T'.length 0 NF out (by omega) (Nat.lt_of_le_of_lt (show T'.length ≤ 65536 by omega) (by decide)) ⟨ho, fun i hi => absurd hi (by simp)⟩
              have e65 : lp_Mo_open_244 NF (nI F) 74000 65536 room' NF 0 out = some o' := by rw [hFl]; exact e65
              refine ⟨T', b', t', nI (ru p' + 32), nI T'.length, nI b', nI t', 0, room', o', Y, rfl, ?_, hr', hMo⟩
              rw [Bd_s e65, hFl]
            · rw [if_neg hA, if_neg (fun e => hA e.2)]
              left
              rw [nI_1]
              exact ⟨rfl, _, _, _, _, _, room', Y, rfl, hr'⟩
          · rw [if_neg (show ¬ nI (ru p' + 32) = nI (8 * n) by ((try simp (disch := omega) only [Int32.le_iff_toInt_le, Int32.lt_iff_toInt_lt, ← Int32.toInt_inj, nI_toInt, nI_addL, nI_Ladd, nI_mulL, nI_Lmul, nI_add, nI_subL, nI_Lsub, nI_sub, Int32.reduceToInt, m1_toInt, ne_eq, Int32.reduceMul, Int32.reduceAdd, Int32.reduceSub]) <;> omega)), if_neg (fun e => hE e.1)]
            left
            rw [nI_1]
            exact ⟨rfl, _, _, _, _, _, room', Y, rfl, hr'⟩
        · rw [flg_out (by omega), if_neg (show ¬ (1 : Int32) = 0 by decide), if_neg (show ¬ (ru p' + 32 = 8 * n ∧ nmF L 4 (ru p') 0 = adl T') from fun e => h8 (by omega))]
          left
          rw [nI_1]
          exact ⟨rfl, _, _, _, _, _, room', Y, rfl, hr'⟩
      · rw [hO]
        left
        obtain ⟨v, p2, hp2, e2⟩ := Mo_num_w hM hl hn 4 0 (ru p') NF 0 (by omega) (by decide) (ru_le hp')
        have e2 : lp_Mo_open_161 NF (nI n) 65536 g NF 0 0 (nI (ru p')) 1 = some (v, nI p2, 1) := e2
        rw [Bd_s e2, Jn_s]
        dsimp only
        rw [if_neg (show ¬ (1 : Int32) = 0 by decide)]
        rw [nI_1]
        exact ⟨rfl, _, _, _, _, _, room', Y, rfl, hr'⟩
    · rw [if_pos (show ¬ hdS (tk L 0 8) (tk L 8 8) from hd)]
      left
      refine ⟨rfl, y1, y2, y3, y4, y5, room, X, ?_, hr⟩
      exact (bad hd).trans eb
  · rw [if_neg (show ¬ (2 : Int32) ≤ nI n by ((try simp (disch := omega) only [Int32.le_iff_toInt_le, Int32.lt_iff_toInt_lt, ← Int32.toInt_inj, nI_toInt, nI_addL, nI_Ladd, nI_mulL, nI_Lmul, nI_add, nI_subL, nI_Lsub, nI_sub, Int32.reduceToInt, m1_toInt, ne_eq, Int32.reduceMul, Int32.reduceAdd, Int32.reduceSub]) <;> omega)), if_pos (show 8 * n < 16 by omega)]
    left
    obtain ⟨p1, hp1, e1⟩ := Mo_n1 hM hl hn (p := 0) (by omega) (k := 8) (by omega)
    obtain ⟨p2, hp2, e2⟩ := Mo_n1 hM hl hn hp1 (k := 8) (by omega)
    have e1 : f_Mo_number NF (nI n) 0 1 65536 g 8 = some (nI (tk L 0 8), nI p1, 1) := e1
    have e2 : f_Mo_number NF (nI n) (nI p1) 1 65536 g 8 = some (nI (tk L p1 8), nI p2, 1) := e2
    obtain ⟨y1, y2, y3, y4, y5, eb⟩ := opT_1 hM hl hn hp2 (nI o) (nI B) (nI D) (nI E) X room out
    rw [nI_1] at eb
    refine ⟨rfl, y1, y2, y3, y4, y5, room, X, ?_, hr⟩
    unfold opH
    rw [Gb_s (Or.inr rfl), Bd_s e1]
    dsimp only
    rw [Bd_s e2]
    dsimp only
    split
    · split
      · exact eb
      · split
        · split
          · exact eb
          · exact eb
        · exact eb
    · exact eb
