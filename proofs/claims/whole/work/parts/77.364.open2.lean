/-! the class's open as a whole (ours) -/
abbrev hdS (a b : Nat) : Prop := a % 16 = 8 ∧ a / 16 ≤ 7 ∧ (256 * a + b) % 31 = 0 ∧ nI b &&& 32 = 0
def nmF (L : List Int32) : Nat → Nat → Int32 → Int32
  | 0, _, v => v
  | j + 1, q, v => nmF L j (q + 8) ((v <<< ((8 : Int32) &&& 31)) ||| nI (tk L q 8))
def opS (L : List Int32) : Option (List Int32 × Nat × Nat) :=
  if 8 * L.length < 16 then none else if ¬ hdS (tk L 0 8) (tk L 8 8) then none else match opL L (8 * L.length + 1) 16 [] 0 0 with
  | none => none
  | some (q', T, b, t) => if ru q' + 32 = 8 * L.length ∧ nmF L 4 (ru q') 0 = adl T then some (T, b, t) else none
theorem BR_num_loop {L : List Int32} {c n : Nat} {f : AR} (hR : Rw c f L) (hl : L.length = n) (hn : n ≤ 65536) : ∀ (j i q fuel : Nat) (v : Int32), j + i = 4 → j < fuel → lp_BR_takeNumber_4 NF (nI (8 * n)) c f fuel v (nI i) (nI (pos n q)) (flg n q) = some (nmF L j q v, nI (pos n (q + 8 * j)), flg n (q + 8 * j)) := by
  intro j
  induction j with
  | zero =>
    intro i q fuel v hj hf
    obtain ⟨u, rfl⟩ : ∃ u, fuel = u + 1 := ⟨fuel - 1, by omega⟩
    rw [ls_BR_takeNumber_4]
    unfold lb_BR_takeNumber_4
    (refine (if_pos ?_).trans ?_; focus ((try simp (disch := omega) only [Int32.le_iff_toInt_le, Int32.lt_iff_toInt_lt, ← Int32.toInt_inj, nI_toInt, nI_addL, nI_Ladd, nI_mulL, nI_Lmul, nI_add, nI_subL, nI_Lsub, nI_sub, Int32.reduceToInt, m1_toInt, ne_eq, Int32.reduceMul, Int32.reduceAdd, Int32.reduceSub]) <;> omega)); rfl
  | succ j ih =>
    intro i q fuel v hj hf
    obtain ⟨u, rfl⟩ : ∃ u, fuel = u + 1 := ⟨fuel - 1, by omega⟩
    have e : f_BR_take NF (nI (8 * n)) (nI (pos n q)) (flg n q) c f 8 = some (nI (tk L q 8), nI (pos n (q + 8)), flg n (q + 8)) := BR_tq hR hl hn q (k := 8) (by omega)
    rw [ls_BR_takeNumber_4]
    unfold lb_BR_takeNumber_4
    (refine (if_neg ?_).trans ?_; focus ((try simp (disch := omega) only [Int32.le_iff_toInt_le, Int32.lt_iff_toInt_lt, ← Int32.toInt_inj, nI_toInt, nI_addL, nI_Ladd, nI_mulL, nI_Lmul, nI_add, nI_subL, nI_Lsub, nI_sub, Int32.reduceToInt, m1_toInt, ne_eq, Int32.reduceMul, Int32.reduceAdd, Int32.reduceSub]) <;> omega))
    rw [Bd_s e, Lt_s, Lt_s, nI_1]
    have := ih (i + 1) (q + 8) u ((v <<< ((8 : Int32) &&& 31)) ||| nI (tk L q 8)) (by omega) (by omega)
    rw [show q + 8 + 8 * j = q + 8 * (j + 1) by omega] at this
    exact this
theorem BR_num {L : List Int32} {c n : Nat} {f : AR} (hR : Rw c f L) (hl : L.length = n) (hn : n ≤ 65536) (q : Nat) : f_BR_takeNumber NF (nI (8 * n)) (nI (pos n q)) (flg n q) c f = some (nmF L 4 q 0, nI (pos n (q + 32)), flg n (q + 32)) := by
  unfold f_BR_takeNumber
  exact (Bd_s (x := lp_BR_takeNumber_4 NF (nI (8 * n)) c f NF 0 0 (nI (pos n q)) (flg n q)) (BR_num_loop hR hl hn 4 0 q NF 0 (by omega) (by decide)) _).trans rfl
theorem shr4 : ∀ a, a < 256 → nI a >>> ((4 : Int32) &&& 31) = nI (a / 16) := by decide +kernel
theorem and15 : ∀ a, a < 256 → nI a &&& 15 = nI (a % 16) := by decide +kernel
theorem Un_head {L : List Int32} {c n : Nat} {f : AR} (hR : Rw c f L) (hl : L.length = n) (hn : n ≤ 65536) : f_Un_headIsRight NF (nI (8 * n)) 0 0 c f = some (if hdS (tk L 0 8) (tk L 8 8) then 1 else 0, nI (pos n 16), flg n 16) := by
  have ha := tk_lt L 0 8
  have hb := tk_lt L 8 8
  have e1 : f_BR_take NF (nI (8 * n)) 0 0 c f 8 = some (nI (tk L 0 8), nI (pos n 8), flg n 8) := by
    have := BR_tq hR hl hn 0 (k := 8) (by omega)
    rw [pos_in (by omega), flg_in (by omega)] at this
    exact this
  have e2 : f_BR_take NF (nI (8 * n)) (nI (pos n 8)) (flg n 8) c f 8 = some (nI (tk L 8 8), nI (pos n 16), flg n 16) := BR_tq hR hl hn 8 (k := 8) (by omega)
  unfold f_Un_headIsRight
  rw [Bd_s e1]
  dsimp only
  rw [Bd_s e2]
  dsimp only
  generalize tk L 0 8 = a at *
  generalize tk L 8 8 = b at *
  rw [Jn_s, Jn_s]
  have em : irm ((256 * nI a) + nI b) 31 = nI ((256 * a + b) % 31) := by
    rw [show (256 : Int32) * nI a = nI (256 * a) from pk_mul 256 a, nI_add]
    exact pk_rem (d := 31) (by omega) (by omega) (by omega)
  rw [shr4 a (by omega), and15 a (by omega), em]
  by_cases h1 : a % 16 = 8
  · refine (if_pos (by rw [h1]; rfl)).trans ?_
    by_cases h2 : a / 16 ≤ 7
    · refine (if_neg (show ¬ (7 : Int32) < nI (a / 16) by ((try simp (disch := omega) only [Int32.le_iff_toInt_le, Int32.lt_iff_toInt_lt, ← Int32.toInt_inj, nI_toInt, nI_addL, nI_Ladd, nI_mulL, nI_Lmul, nI_add, nI_subL, nI_Lsub, nI_sub, Int32.reduceToInt, m1_toInt, ne_eq, Int32.reduceMul, Int32.reduceAdd, Int32.reduceSub]) <;> omega))).trans ?_
      dsimp only
      rw [Jn_s]
      by_cases h4 : nI b &&& 32 = 0
      · refine (if_pos h4).trans ?_
        refine (if_neg (by decide)).trans ?_
        refine (if_pos rfl).trans ?_
        by_cases h3 : (256 * a + b) % 31 = 0
        · rw [if_pos (show hdS a b from ⟨h1, h2, h3, h4⟩)]
          exact if_pos (by rw [h3]; rfl)
        · rw [if_neg (show ¬ hdS a b from fun e => h3 e.2.2.1)]
          exact if_neg (show ¬ nI ((256 * a + b) % 31) = 0 by ((try simp (disch := omega) only [Int32.le_iff_toInt_le, Int32.lt_iff_toInt_lt, ← Int32.toInt_inj, nI_toInt, nI_addL, nI_Ladd, nI_mulL, nI_Lmul, nI_add, nI_subL, nI_Lsub, nI_sub, Int32.reduceToInt, m1_toInt, ne_eq, Int32.reduceMul, Int32.reduceAdd, Int32.reduceSub]) <;> omega))
      · rw [if_neg (show ¬ hdS a b from fun e => h4 e.2.2.2)]
        refine (if_neg h4).trans ?_
        refine (if_neg (by decide)).trans ?_
        exact if_neg (by decide)
    · rw [if_neg (show ¬ hdS a b from fun e => h2 e.2.1)]
      refine (if_pos (show (7 : Int32) < nI (a / 16) by ((try simp (disch := omega) only [Int32.le_iff_toInt_le, Int32.lt_iff_toInt_lt, ← Int32.toInt_inj, nI_toInt, nI_addL, nI_Ladd, nI_mulL, nI_Lmul, nI_add, nI_subL, nI_Lsub, nI_sub, Int32.reduceToInt, m1_toInt, ne_eq, Int32.reduceMul, Int32.reduceAdd, Int32.reduceSub]) <;> omega))).trans ?_
      dsimp only
      rw [Jn_s]
      split <;> exact if_pos rfl
  · rw [if_neg (show ¬ hdS a b from fun e => h1 e.1)]
    refine (if_neg (show ¬ nI (a % 16) = 8 by ((try simp (disch := omega) only [Int32.le_iff_toInt_le, Int32.lt_iff_toInt_lt, ← Int32.toInt_inj, nI_toInt, nI_addL, nI_Ladd, nI_mulL, nI_Lmul, nI_add, nI_subL, nI_Lsub, nI_sub, Int32.reduceToInt, m1_toInt, ne_eq, Int32.reduceMul, Int32.reduceAdd, Int32.reduceSub]) <;> omega))).trans ?_
    dsimp only
    rw [Jn_s]
    split <;> exact if_pos rfl
theorem Un_read {L : List Int32} {c n : Nat} {f : AR} (hR : Rw c f L) (hl : L.length = n) (hn : n ≤ 65536) {nl sl nd sd : AR} (hC : CoC flL 288 nl sl 288) (hD : CoC flD 32 nd sd 32) (X : CA) {T : List Int32} {ct m : Nat} {ft : AR} (hT : Rw ct ft T) (hm : T.length = m) :
    ∃ (fl : Int32) (b t : Nat) (x y w : Int32) (Y : CA) (T' : List Int32) (c' : Nat) (f' : AR) (k z : Nat), f_Un_read NF (nI n) (nI m) c f ct ft 16 nl 288 sl 16 nd 32 sd 316 X.g 16 X.a1 16 X.a2 19 X.a3 16 X.b1 16 X.b2 286 X.b3 16 X.d1 16 X.d2 30 X.d3 = some ((fl, nI b, nI t, x, y, w, nI T'.length, c', f', Y.g, Y.a1, Y.a2, Y.a3, Y.b1, Y.b2, Y.b3, Y.d1, Y.d2, Y.d3), k, z) ∧
      Rw c' f' T' ∧ T'.length ≤ 65536 ∧ k + kap c' ≤ kap ct ∧ z + phi c' ≤ phi ct ∧ ((fl = 1 ∧ opS L = some (T', b, t)) ∨ (fl = 0 ∧ opS L = none)) := by
  have hT0 : Rw ct ft [] := Rw_take 0 hT
  have hmc := hT.1
  have hmc2 := hT.2.2.1
  have e1 : f_BR_start NF (nI n) = some (nI (8 * n)) := by
    unfold f_BR_start f_Row_bytes f_Row_length
    rw [Bd_s rfl, Bd_s rfl, Lt_s, show (8 : Int32) * nI n = nI (8 * n) from pk_mul 8 n]
  have e2 : f_Row_shorten NF (nI m) 0 = some (nI 0) := by
    unfold f_Row_shorten
    rw [if_neg (by decide)]; (refine (if_neg ?_).trans ?_; focus ((try simp (disch := omega) only [Int32.le_iff_toInt_le, Int32.lt_iff_toInt_lt, ← Int32.toInt_inj, nI_toInt, nI_addL, nI_Ladd, nI_mulL, nI_Lmul, nI_add, nI_subL, nI_Lsub, nI_sub, Int32.reduceToInt, m1_toInt, ne_eq, Int32.reduceMul, Int32.reduceAdd, Int32.reduceSub]) <;> omega))
    rfl
  have e3 := Un_head hR hl hn
  unfold f_Un_read
  rw [Bd_s e1]
  rw [Bd_s e2]
  rw [Bd_s e3]
  unfold opS
  rw [hl]
  by_cases hd : hdS (tk L 0 8) (tk L 8 8)
  · rw [if_pos hd]
    dsimp only
    rw [if_neg (show ¬ (1 : Int32) = 0 by decide)]
    rw [if_neg (show ¬ ¬ hdS (tk L 0 8) (tk L 8 8) from fun h => h hd)]
    obtain ⟨tg, la, b', t', q', Y, T', c', f', k, z, e32, R2, hT2, hk2, hz2, hO⟩ := Un_read_loop hR hl hn hC hD (8 * n + 1) 0 16 0 0 NF X [] ct ft (by omega) (by omega) (by omega) (Nat.lt_of_le_of_lt (show 8 * n + 1 + 1 ≤ 524290 by omega) (by decide)) hT0 (by show 0 ≤ 65536; omega)
    have e32 : lp_Un_read_37 NF (nI (8 * n)) c f 316 16 nl 288 sl 16 nd 32 sd 16 16 19 16 16 286 16 16 30 NF 0 0 0 0 (nI (pos n 16)) (flg n 16) X.g X.a1 X.a2 X.a3 X.b1 X.b2 X.b3 X.d1 X.d2 X.d3 (nI 0) ct ft = some ((tg, la, nI b', nI t', nI (pos n q'), flg n q', Y.g, Y.a1, Y.a2, Y.a3, Y.b1, Y.b2, Y.b3, Y.d1, Y.d2, Y.d3, nI T'.length, c', f'), k, z) := e32
    have hsmall : 8 * n < 16 → opL L (8 * n + 1) 16 [] 0 0 = none := fun h => opL_out (by omega) [] 0 0 _
    rcases hO with ⟨rfl, rfl, h8, hO⟩ | ⟨hh, hO⟩
    · have h16 : ¬ 8 * n < 16 := fun h => by
        rw [hsmall h] at hO
        cases hO
      rw [if_neg h16, hO]
      have e37 := BR_num hR hl hn (ru q')
      have e38 := Row_adler R2 (n := T'.length) rfl
      have e35 := BR_skip n q' hn
      rw [ru_flg] at e37
      have hru := ru_le h8
      by_cases hA : nmF L 4 (ru q') 0 = adl T'
      · by_cases hE : ru q' + 32 = 8 * n
        · refine ⟨1, b', t', nI (8 * n), nI (pos n (ru q' + 32)), flg n (ru q' + 32), Y, T', c', f', k + 0, z + 0, ?_, R2, hT2, hk2, hz2, Or.inl ⟨rfl, ?_⟩⟩
          · refine Bk_s e32 ?_
            refine (if_neg (show ¬ (1 : Nat) = 0 by decide)).trans ?_
            refine (Bd_s e35 _).trans ?_
            refine (if_neg (show ¬ (1 : Int32) = 0 by decide)).trans ?_
            refine (Bd_s e37 _).trans ?_
            refine (Bd_s e38 _).trans ?_
            refine (if_pos hA).trans ?_
            have e40 : f_BR_isAtEnd NF (nI (8 * n)) (nI (pos n (ru q' + 32))) (flg n (ru q' + 32)) = some 1 := by
              unfold f_BR_isAtEnd
              rw [hE, pos_in (Nat.le_refl _), flg_in (Nat.le_refl _), if_pos rfl, if_pos rfl]
            exact (Bd_s e40 _).trans rfl
          · show (if ru q' + 32 = 8 * n ∧ nmF L 4 (ru q') 0 = adl T' then some (T', b', t') else none) = _
            rw [if_pos ⟨hE, hA⟩]
        · refine ⟨0, b', t', nI (8 * n), nI (pos n (ru q' + 32)), flg n (ru q' + 32), Y, T', c', f', k + 0, z + 0, ?_, R2, hT2, hk2, hz2, Or.inr ⟨rfl, ?_⟩⟩
          · refine Bk_s e32 ?_
            refine (if_neg (show ¬ (1 : Nat) = 0 by decide)).trans ?_
            refine (Bd_s e35 _).trans ?_
            refine (if_neg (show ¬ (1 : Int32) = 0 by decide)).trans ?_
            refine (Bd_s e37 _).trans ?_
            refine (Bd_s e38 _).trans ?_
            refine (if_pos hA).trans ?_
            have e40 : f_BR_isAtEnd NF (nI (8 * n)) (nI (pos n (ru q' + 32))) (flg n (ru q' + 32)) = some 0 := by
              unfold f_BR_isAtEnd
              by_cases hlt : ru q' + 32 ≤ 8 * n
              · rw [pos_in hlt]
                (refine (if_neg ?_).trans ?_; focus ((try simp (disch := omega) only [Int32.le_iff_toInt_le, Int32.lt_iff_toInt_lt, ← Int32.toInt_inj, nI_toInt, nI_addL, nI_Ladd, nI_mulL, nI_Lmul, nI_add, nI_subL, nI_Lsub, nI_sub, Int32.reduceToInt, m1_toInt, ne_eq, Int32.reduceMul, Int32.reduceAdd, Int32.reduceSub]) <;> omega)); rfl
              · rw [flg_out (by omega)]
                split
                · rfl
                · rfl
            exact (Bd_s e40 _).trans rfl
          · show (if ru q' + 32 = 8 * n ∧ nmF L 4 (ru q') 0 = adl T' then some (T', b', t') else none) = _
            rw [if_neg (fun e => hE e.1)]
      · refine ⟨0, b', t', nI (8 * n), nI (pos n (ru q' + 32)), flg n (ru q' + 32), Y, T', c', f', k + 0, z + 0, ?_, R2, hT2, hk2, hz2, Or.inr ⟨rfl, ?_⟩⟩
        · refine Bk_s e32 ?_
          refine (if_neg (show ¬ (1 : Nat) = 0 by decide)).trans ?_
          refine (Bd_s e35 _).trans ?_
          refine (if_neg (show ¬ (1 : Int32) = 0 by decide)).trans ?_
          refine (Bd_s e37 _).trans ?_
          refine (Bd_s e38 _).trans ?_
          exact if_neg hA
        · show (if ru q' + 32 = 8 * n ∧ nmF L 4 (ru q') 0 = adl T' then some (T', b', t') else none) = _
          rw [if_neg (fun e => hA e.2)]
    · have eN : (if 8 * n < 16 then none else match opL L (8 * n + 1) 16 [] 0 0 with
        | none => none
        | some (q', T, b, t) => if ru q' + 32 = 8 * n ∧ nmF L 4 (ru q') 0 = adl T then some (T, b, t) else none) = (none : Option (List Int32 × Nat × Nat)) := by
        rw [hO]
        split <;> rfl
      rcases hh with rfl | ⟨rfl, rfl⟩
      · refine ⟨0, b', t', nI (8 * n), nI (pos n q'), flg n q', Y, T', c', f', k + 0, z + 0, ?_, R2, hT2, hk2, hz2, Or.inr ⟨rfl, eN⟩⟩
        refine Bk_s e32 ?_
        exact if_pos rfl
      · refine ⟨0, b', t', nI (8 * n), nI (pos n (ru q')), flg n q', Y, T', c', f', k + 0, z + 0, ?_, R2, hT2, hk2, hz2, Or.inr ⟨rfl, eN⟩⟩
        refine Bk_s e32 ?_
        refine (if_neg (show ¬ (1 : Nat) = 0 by decide)).trans ?_
        refine (Bd_s (BR_skip n q' hn) _).trans ?_
        exact if_pos rfl
  · rw [if_neg hd]
    refine ⟨0, 0, 0, nI (8 * n), nI (pos n 16), flg n 16, X, [], ct, ft, 0, 0, ?_, hT0, by show 0 ≤ 65536; omega, by omega, by omega, Or.inr ⟨rfl, ?_⟩⟩
    · exact if_pos rfl
    · rw [if_pos (show ¬ hdS (tk L 0 8) (tk L 8 8) from hd)]
      split <;> rfl
theorem TP_open {L : List Int32} {c n : Nat} {f : AR} (hR : Rw c f L) (hl : L.length = n) (hn : n ≤ 65536) {nl sl nd sd : AR} (hC : CoC flL 288 nl sl 288) (hD : CoC flD 32 nd sd 32) (X : CA) {T O : List Int32} {ct co m o : Nat} {ft fo : AR} (hT : Rw ct ft T) (hm : T.length = m) (hO : Rw co fo O) (ho : O.length = o) (B D E : Nat) :
    (opS L = none ∧ ∃ (x1 x2 x3 x4 x5 : Int32) (Y : CA) (T' : List Int32) (c' : Nat) (f' : AR) (k z : Nat), f_TP_open NF (nI B) (nI D) (nI E) (nI o) co fo (nI m) ct ft (nI n) c f 16 nl 288 sl 16 nd 32 sd 316 X.g 16 X.a1 16 X.a2 19 X.a3 16 X.b1 16 X.b2 286 X.b3 16 X.d1 16 X.d2 30 X.d3 = some ((1, 0, nI B, nI D, nI (E + 1), nI o, co, fo, nI T'.length, c', f', x1, x2, x3, x4, x5, Y.g, Y.a1, Y.a2, Y.a3, Y.b1, Y.b2, Y.b3, Y.d1, Y.d2, Y.d3), k, z) ∧ Rw c' f' T' ∧ T'.length ≤ 65536 ∧ k + kap c' ≤ kap ct + 1 ∧ z + phi c' ≤ phi ct + 6) ∨
    (∃ (T' : List Int32) (b t : Nat) (x1 x2 x3 x4 x5 : Int32) (Y : CA) (c' : Nat) (f' : AR) (k z : Nat), opS L = some (T', b, t) ∧ f_TP_open NF (nI B) (nI D) (nI E) (nI o) co fo (nI m) ct ft (nI n) c f 16 nl 288 sl 16 nd 32 sd 316 X.g 16 X.a1 16 X.a2 19 X.a3 16 X.b1 16 X.b2 286 X.b3 16 X.d1 16 X.d2 30 X.d3 = some ((0, nI T'.length, nI b, nI t, nI E, nI T'.length, c', f', nI o, co, fo, x1, x2, x3, x4, x5, Y.g, Y.a1, Y.a2, Y.a3, Y.b1, Y.b2, Y.b3, Y.d1, Y.d2, Y.d3), k, z) ∧ Rw c' f' T' ∧ T'.length ≤ 65536 ∧ k + kap c' ≤ kap ct ∧ z + phi c' ≤ phi ct) := by
  obtain ⟨fl, b, t, x, y, w, Y, T', c', f', k, z, e, h1, h2, h3, h4, h5⟩ := Un_read hR hl hn hC hD X hT hm
  rcases h5 with ⟨rfl, h5⟩ | ⟨rfl, h5⟩
  · right
    refine ⟨T', b, t, nI b, nI t, x, y, w, Y, c', f', k + 0, z + 0, h5, ?_, h1, h2, h3, h4⟩
    unfold f_TP_open f_Un_blocks f_Un_toldBlocks f_Row_length
    refine Bk_s e ?_
    rfl
  · left
    refine ⟨h5, nI b, nI t, x, y, w, Y, T', c', f', k + (1 + 0), z + (6 + 0), ?_, h1, h2, by omega, by omega⟩
    unfold f_TP_open
    refine Bk_s e ?_
    refine (if_pos rfl).trans ?_
    rw [Lt_s, nI_1]
    exact Ak_s rfl
