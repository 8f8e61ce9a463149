/-! blocks (ours) -/
def flL (s : Nat) : Nat := if s < 144 then 8 else if s < 256 then 9 else if s < 280 then 7 else 8
def flD (_ : Nat) : Nat := 5
def bkS (L : List Int32) (kind q : Nat) (T : List Int32) : Option (Nat × List Int32) :=
  if kind = 0 then stS L q T else if kind = 1 then cdS flL flD L (8 * L.length + 1) q T else if kind = 2 then (match tbS L q with
    | none => none
    | some (q', ll, ld) => cdS ll ld L (8 * L.length + 1) q' T) else none
theorem stS_q {L : List Int32} {q : Nat} {T : List Int32} {q' : Nat} {T' : List Int32} (h : stS L q T = some (q', T')) : q ≤ q' := by
  have := ru_ge q
  unfold stS at h
  split at h
  · cases h
  · split at h
    · cases h
    · split at h
      · cases h
      · cases h
        omega
set_option maxRecDepth 10000 in
theorem cdS_q {ll ld : Nat → Nat} {L : List Int32} : ∀ (j q : Nat) (T : List Int32) (q' : Nat) (T' : List Int32), cdS ll ld L j q T = some (q', T') → q ≤ q'
  | 0, _, _, _, _, h => by cases h
  | j + 1, q, T, q', T', h => by
    have eS : cdS ll ld L (j + 1) q T = (if 8 * L.length < q then none else match hx ll 288 L q with
          | none => none
          | some (s, q1) => if 8 * L.length < q1 then none else if s = 256 then some (q1, T) else if s < 256 then (if 65536 ≤ T.length then none else cdS ll ld L j q1 (T ++ [bB (nI s)])) else match prS ld L q1 (s - 257) T with
            | none => none
            | some (q2, T2) => cdS ll ld L j q2 T2) := rfl
    rw [eS] at h
    split at h
    · cases h
    · cases hh : hx ll 288 L q with
      | none => rw [hh] at h; cases h
      | some v =>
        obtain ⟨s, q1⟩ := v
        have hq1 := (hxF_q ll 288 L _ _ _ _ _ _ hh).1
        rw [hh] at h
        have h : (if 8 * L.length < q1 then none else if s = 256 then some (q1, T) else if s < 256 then (if 65536 ≤ T.length then none else cdS ll ld L j q1 (T ++ [bB (nI s)])) else match prS ld L q1 (s - 257) T with
            | none => none
            | some (q2, T2) => cdS ll ld L j q2 T2) = some (q', T') := h
        split at h
        · cases h
        · split at h
          · cases h
            omega
          · split at h
            · split at h
              · cases h
              · have := cdS_q j _ _ _ _ h
                omega
            · cases hp : prS ld L q1 (s - 257) T with
              | none => rw [hp] at h; cases h
              | some v =>
                obtain ⟨q2, T2⟩ := v
                rw [hp] at h
                have h1 := prS_q hp
                have h2 := cdS_q j _ _ _ _ h
                omega
theorem lnS_q {zs : Nat → Nat} {L : List Int32} {tot : Nat} : ∀ (j q : Nat) (A : List Nat) (q' : Nat) (A' : List Nat), lnS zs L tot j q A = some (q', A') → q ≤ q'
  | 0, _, _, _, _, h => by cases h
  | j + 1, q, A, q', A', h => by
    have eS : lnS zs L tot (j + 1) q A = (if 8 * L.length < q then none else if tot ≤ A.length then some (q, A) else match hx zs 19 L q with
      | none => none
      | some (s, q1) => if s < 16 then lnS zs L tot j q1 (A ++ [s]) else if s = 16 ∧ A.length = 0 then none else if tot < A.length + rt L q1 s then none else lnS zs L tot j (q1 + re s) (A ++ List.replicate (rt L q1 s) (if s = 16 then A.getD (A.length - 1) 0 else 0))) := rfl
    rw [eS] at h
    split at h
    · cases h
    · split at h
      · cases h
        omega
      · cases hh : hx zs 19 L q with
        | none => rw [hh] at h; cases h
        | some v =>
          obtain ⟨s, q1⟩ := v
          have hq1 := (hxF_q zs 19 L _ _ _ _ _ _ hh).1
          rw [hh] at h
          have h : (if s < 16 then lnS zs L tot j q1 (A ++ [s]) else if s = 16 ∧ A.length = 0 then none else if tot < A.length + rt L q1 s then none else lnS zs L tot j (q1 + re s) (A ++ List.replicate (rt L q1 s) (if s = 16 then A.getD (A.length - 1) 0 else 0))) = some (q', A') := h
          split at h
          · have := lnS_q j _ _ _ _ h
            omega
          · split at h
            · cases h
            · split at h
              · cases h
              · have := lnS_q j _ _ _ _ h
                omega
theorem tbS_q {L : List Int32} {q q' : Nat} {ll ld : Nat → Nat} (h : tbS L q = some (q', ll, ld)) : q ≤ q' := by
  unfold tbS at h
  split at h
  · cases h
  · split at h
    · cases h
    · cases hh : lnS (zsz L (q + 14) (tk L (q + 10) 4 + 4)) L (tk L q 5 + 257 + (tk L (q + 5) 5 + 1)) 317 (q + 14 + 3 * (tk L (q + 10) 4 + 4)) [] with
      | none => rw [hh] at h; cases h
      | some v =>
        obtain ⟨q2, A⟩ := v
        have := lnS_q _ _ _ _ _ hh
        rw [hh] at h
        dsimp only at h
        split at h
        · cases h
        · split at h
          · cases h
          · split at h
            · cases h
              omega
            · cases h
theorem tbS_out {L : List Int32} {q : Nat} (h : 8 * L.length < q) : tbS L q = none := by
  unfold tbS
  split
  · rfl
  · split
    · rfl
    · rw [lnS_out (by omega)]
theorem bkS_q {L : List Int32} {kind q : Nat} {T : List Int32} {q' : Nat} {T' : List Int32} (h : bkS L kind q T = some (q', T')) : q ≤ q' := by
  unfold bkS at h
  split at h
  · exact stS_q h
  · split at h
    · exact cdS_q _ _ _ _ _ h
    · split at h
      · cases hh : tbS L q with
        | none => rw [hh] at h; cases h
        | some v =>
          obtain ⟨q2, ll, ld⟩ := v
          rw [hh] at h
          have h1 := tbS_q hh
          have h2 := cdS_q _ _ _ _ _ h
          omega
      · cases h
theorem bkS_out {L : List Int32} {kind q : Nat} {T : List Int32} (h : 8 * L.length < q) : bkS L kind q T = none := by
  unfold bkS
  split
  · unfold stS
    have := ru_ge q
    rw [if_pos (by omega)]
  · split
    · exact cdS_out (by omega) T _
    · split
      · rw [tbS_out h]
      · rfl
theorem Un_block {L : List Int32} {c n : Nat} {f : AR} (hR : Rw c f L) (hl : L.length = n) (hn : n ≤ 65536) {nl sl nd sd : AR} (hC : CoC flL 288 nl sl 288) (hD : CoC flD 32 nd sd 32) (q : Nat) {T : List Int32} {ct : Nat} {ft : AR} (hT : Rw ct ft T) (hTl : T.length ≤ 65536) {kind : Nat} (hk : kind < 4) (t : Nat) (g0 a1 a2 a3 b1 b2 b3 d1 d2 d3 : AR) :
    ∃ (fl : Int32) (q' : Nat) (T' : List Int32) (c' : Nat) (f' g' a1' a2' a3' b1' b2' b3' d1' d2' d3' : AR) (k z : Nat), f_Un_readBlock NF (nI t) (nI (8 * n)) (nI (pos n q)) (flg n q) c f (nI T.length) ct ft 16 nl 288 sl 16 nd 32 sd 316 g0 16 a1 16 a2 19 a3 16 b1 16 b2 286 b3 16 d1 16 d2 30 d3 (nI kind) = some ((fl, nI (if kind = 2 then t + 1 else t), nI (pos n q'), flg n q', nI T'.length, c', f', g', a1', a2', a3', b1', b2', b3', d1', d2', d3'), k, z) ∧
      q ≤ q' ∧ Rw c' f' T' ∧ T'.length ≤ 65536 ∧ k + kap c' ≤ kap ct ∧ z + phi c' ≤ phi ct ∧ (fl = 0 ∨ fl = 1) ∧ OKs (8 * n) fl q' T' (bkS L kind q T) := by
  unfold f_Un_readBlock bkS
  by_cases h0 : kind = 0
  · subst h0
    obtain ⟨fl, q', T', c', f', k, z, e, h1, h2, h3, h4, h5, h6, h7⟩ := Un_stored hR hl hn q hT hTl
    refine ⟨fl, q', T', c', f', g0, a1, a2, a3, b1, b2, b3, d1, d2, d3, k + 0, z + 0, ?_, h1, h2, h3, h4, h5, h6, by rw [if_pos rfl]; exact h7⟩
    refine (if_pos rfl).trans ?_
    refine Bk_s e ?_
    exact Gb_s h6
  · rw [if_neg h0]
    by_cases h1 : kind = 1
    · subst h1
      obtain ⟨fl, q', T', c', f', k, z, e, h1, h2, h3, h4, h5, h6, h7⟩ := Un_coded hR hl hn hC hD q hT hTl
      refine ⟨fl, q', T', c', f', g0, a1, a2, a3, b1, b2, b3, d1, d2, d3, k + 0, z + 0, ?_, h1, h2, h3, h4, h5, h6, by rw [if_pos rfl, hl]; exact h7⟩
      refine (if_neg (by decide)).trans ?_
      refine (if_pos rfl).trans ?_
      refine Bk_s e ?_
      exact Gb_s h6
    · rw [if_neg h1]
      by_cases h2 : kind = 2
      · subst h2
        rw [if_pos rfl]
        obtain ⟨fl, q1, g', a1', a2', a3', b1', b2', b3', d1', d2', d3', e9, hq1, hO⟩ := Un_codes hR hl hn q g0 a1 a2 a3 b1 b2 b3 d1 d2 d3
        have step : ∀ y : Option ((Int32 × Int32 × Int32 × Int32 × Int32 × Nat × AR × AR × AR × AR × AR × AR × AR × AR × AR × AR × AR) × Nat × Nat), (if fl = 0 then some ((0, nI (t + 1), nI (pos n q1), flg n q1, nI T.length, ct, ft, g', a1', a2', a3', b1', b2', b3', d1', d2', d3'), 0, 0) else (Bk (f_Un_readCoded NF (nI (8 * n)) (nI (pos n q1)) (flg n q1) c f 16 b1' 286 b3' (nI T.length) ct ft 16 d1' 30 d3') fun r11 => if r11.1 = 0 then some ((0, nI (t + 1), r11.2.1, r11.2.2.1, r11.2.2.2.1, r11.2.2.2.2.1, r11.2.2.2.2.2, g', a1', a2', a3', b1', b2', b3', d1', d2', d3'), 0, 0) else some ((1, nI (t + 1), r11.2.1, r11.2.2.1, r11.2.2.2.1, r11.2.2.2.2.1, r11.2.2.2.2.2, g', a1', a2', a3', b1', b2', b3', d1', d2', d3'), 0, 0))) = y → ((fun (x : Option ((Int32 × Int32 × Int32 × Int32 × Int32 × Nat × AR × AR × AR × AR × AR × AR × AR × AR × AR × AR × AR) × Nat × Nat)) => x) (if nI 2 = 0 then (Bk (f_Un_readStored NF (nI (8 * n)) (nI (pos n q)) (flg n q) c f (nI T.length) ct ft) fun r2 => Gb r2.1 <| some ((r2.1, nI t, r2.2.1, r2.2.2.1, r2.2.2.2.1, r2.2.2.2.2.1, r2.2.2.2.2.2, g0, a1, a2, a3, b1, b2, b3, d1, d2, d3), 0, 0)) else if nI 2 = 1 then (Bk (f_Un_readCoded NF (nI (8 * n)) (nI (pos n q)) (flg n q) c f 16 nl 288 sl (nI T.length) ct ft 16 nd 32 sd) fun r5 => Gb r5.1 <| some ((r5.1, nI t, r5.2.1, r5.2.2.1, r5.2.2.2.1, r5.2.2.2.2.1, r5.2.2.2.2.2, g0, a1, a2, a3, b1, b2, b3, d1, d2, d3), 0, 0)) else if nI 2 = 2 then (Lt (nI t + 1) fun v8 => Bd (f_Un_readCodes NF (nI (8 * n)) (nI (pos n q)) (flg n q) c f 316 g0 16 a1 16 a2 19 a3 16 b1 16 b2 286 b3 16 d1 16 d2 30 d3) fun r9 => if r9.1 = 0 then some ((0, v8, r9.2.1, r9.2.2.1, nI T.length, ct, ft, r9.2.2.2.1, r9.2.2.2.2.1, r9.2.2.2.2.2.1, r9.2.2.2.2.2.2.1, r9.2.2.2.2.2.2.2.1, r9.2.2.2.2.2.2.2.2.1, r9.2.2.2.2.2.2.2.2.2.1, r9.2.2.2.2.2.2.2.2.2.2.1, r9.2.2.2.2.2.2.2.2.2.2.2.1, r9.2.2.2.2.2.2.2.2.2.2.2.2), 0, 0) else (Bk (f_Un_readCoded NF (nI (8 * n)) r9.2.1 r9.2.2.1 c f 16 r9.2.2.2.2.2.2.2.1 286 r9.2.2.2.2.2.2.2.2.2.1 (nI T.length) ct ft 16 r9.2.2.2.2.2.2.2.2.2.2.1 30 r9.2.2.2.2.2.2.2.2.2.2.2.2) fun r11 => if r11.1 = 0 then some ((0, v8, r11.2.1, r11.2.2.1, r11.2.2.2.1, r11.2.2.2.2.1, r11.2.2.2.2.2, r9.2.2.2.1, r9.2.2.2.2.1, r9.2.2.2.2.2.1, r9.2.2.2.2.2.2.1, r9.2.2.2.2.2.2.2.1, r9.2.2.2.2.2.2.2.2.1, r9.2.2.2.2.2.2.2.2.2.1, r9.2.2.2.2.2.2.2.2.2.2.1, r9.2.2.2.2.2.2.2.2.2.2.2.1, r9.2.2.2.2.2.2.2.2.2.2.2.2), 0, 0) else some ((1, v8, r11.2.1, r11.2.2.1, r11.2.2.2.1, r11.2.2.2.2.1, r11.2.2.2.2.2, r9.2.2.2.1, r9.2.2.2.2.1, r9.2.2.2.2.2.1, r9.2.2.2.2.2.2.1, r9.2.2.2.2.2.2.2.1, r9.2.2.2.2.2.2.2.2.1, r9.2.2.2.2.2.2.2.2.2.1, r9.2.2.2.2.2.2.2.2.2.2.1, r9.2.2.2.2.2.2.2.2.2.2.2.1, r9.2.2.2.2.2.2.2.2.2.2.2.2), 0, 0))) else some ((0, nI t, nI (pos n q), flg n q, nI T.length, ct, ft, g0, a1, a2, a3, b1, b2, b3, d1, d2, d3), 0, 0))) = y := by
          intro y hy
          refine (if_neg (by decide)).trans ?_
          refine (if_neg (by decide)).trans ?_
          refine (if_pos rfl).trans ?_
          rw [Lt_s, nI_1, Bd_s e9]
          exact hy
        rcases hO with ⟨rfl, hO⟩ | ⟨rfl, ll, ld, Cl, Cd, hO⟩
        · rw [hO]
          refine ⟨0, q1, T, ct, ft, g', a1', a2', a3', b1', b2', b3', d1', d2', d3', 0, 0, step _ ?_, hq1, hT, hTl, by omega, by omega, Or.inl rfl, Or.inr ⟨Or.inl rfl, rfl⟩⟩
          rfl
        · obtain ⟨fl, q', T', c', f', k, z, e, h1, h2, h3, h4, h5, h6, h7⟩ := Un_coded hR hl hn Cl Cd q1 hT hTl
          refine ⟨fl, q', T', c', f', g', a1', a2', a3', b1', b2', b3', d1', d2', d3', k + 0, z + 0, step _ ?_, by omega, h2, h3, h4, h5, h6, ?_⟩
          · refine (if_neg (show ¬ (1 : Int32) = 0 by decide)).trans ?_
            refine Bk_s e ?_
            rcases h6 with rfl | rfl
            · rfl
            · rfl
          · rcases hO with ⟨h8, hO⟩ | ⟨h8, hO⟩
            · rw [hO, hl]
              exact h7
            · rw [hO]
              rcases h7 with ⟨_, a, _⟩ | ⟨a, _⟩
              · omega
              · exact Or.inr ⟨a, rfl⟩
      · have h3 : kind = 3 := by omega
        subst h3
        rw [if_neg (by decide)]
        refine ⟨0, q, T, ct, ft, g0, a1, a2, a3, b1, b2, b3, d1, d2, d3, 0, 0, ?_, Nat.le_refl _, hT, hTl, by omega, by omega, Or.inl rfl, Or.inr ⟨Or.inl rfl, rfl⟩⟩
        rfl
