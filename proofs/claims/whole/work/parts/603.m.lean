set_option maxHeartbeats 4000000 in
set_option maxRecDepth 100000 in
theorem c_Fi_distance (l : Launch) (G : GX) (a0 o0_0 o0_1 : Nat) (sz : Nat) (x0_2 : Int32) (x0_3 : Int32)  (N : Nat) (V : Int32) (h : f_Fi_distance N x0_3 = some V) :
    Met l y_Fi_distance (wd y_Fi_distance b_Fi_distance 1 (some .int)) { frames := 0, cells := 0, slots := 0, locals := 0 } (PX G [.ref a0] sz [(a0, .inr (4, [.ref o0_0, .ref o0_1, .int x0_2, .int x0_3]))])
      (QXi G V (fun w => w = [(a0, .inr (4, [.ref o0_0, .ref o0_1, .int x0_2, .int x0_3]))]) (va_A [(a0, .inr (4, [.ref o0_0, .ref o0_1, .int x0_2, .int x0_3]))] sz)) 0 0 (va_A [(a0, .inr (4, [.ref o0_0, .ref o0_1, .int x0_2, .int x0_3]))] sz) := by
  refine Met_in (QQ := fun A => QXi G V (fun w => w = [(a0, .inr (4, [.ref o0_0, .ref o0_1, .int x0_2, .int x0_3]))]) A) (by decide) (Nat.le_of_ble_eq_true rfl) (fun p e s m below meth c R Q A ls C0 hRf hRl hRc hRs hP hK hD hT hA hS hl hQ => ?_)
  obtain ⟨hx, hb, hml, hown, hts, hr, hlocks, hin⟩ := id C0
  have hown : s.vm.findClass R_Fi = some m.cls := hown
  have hl : lv_has ls 1 [(0, .ref a0)] := hl
  unfold f_Fi_distance at h
  have hkc : 0 ≤ R.cells := Nat.zero_le _
  have hks : 0 ≤ R.slots := Nat.zero_le _
  obtain ⟨H, hH⟩ : ∃ H, H = s.heap := ⟨_, rfl⟩
  obtain ⟨locs, hlc⟩ : ∃ x : List Loc, x = [] := ⟨_, rfl⟩
  rw [← hH] at hP
  have hS : va_S A s.heap H locs := by rw [hH, hlc]; exact hS
  suffices hgo : W p l e R s m [.ref a0].toArray below meth c H locs 0 0 Q (F0 m 0 ls []) by rw [hH, hlc] at hgo; exact hgo
  refine lv_aload_n hx hb d_Fi_distance_0 rfl (lv_at hl 0 rfl) ?_
  refine va_get (D := G.1) (ci := 4) (v := .int x0_3) (C := R_Fi) (T := F_Fi) (N := 4) hx hb hts i_Fi hown hK hP 0 rfl rfl 3 (by decide) (hts _ q51) (fun _ h9 => h9) rfl d_Fi_distance_1 ?_
  have eV := so1 h
  subst eV
  exact x_iret C0 hQ hP hD hS rfl (Nat.zero_le _) (Nat.zero_le _) d_Fi_distance_4
set_option maxHeartbeats 4000000 in
set_option maxRecDepth 100000 in
theorem w_Pr_codeOf_p10_4 {p : Program} {l : Launch} {e : Env} {R : Room} {s : State} {m : MethodId} {args : Array Value} {below : List Frame} {meth : Method} {c : Code} {Q : State → Prop} {G : GX} {A : Nat → Prop} (C0 : Cx p s m args meth c b_Pr_codeOf 4 y_Pr_codeOf (some .int)) (hRf : 0 ≤ R.frames) (hRl : 0 ≤ R.locals) (hA : ∀ q, s.heap.size ≤ q → A q) (hK : KX G s) (hT : TX G A s) (N : Nat) (i0 : Int32)  (out : Int32) {kc ks : Nat} (hkc : kc ≤ R.cells) (hks : ks ≤ R.slots)
    (kx25 : ∀ (H : Heap) (locs : List Loc) (ls : Array Slot), va_P G.1 classes [] H → va_D A [] → va_S A s.heap H locs → lv_has ls 4 [(2, .int out)] → W p l e R s m args below meth c H locs kc ks Q (F0 m 25 ls [])) :
    ∀ (n : Nat) (i2 : Int32) (i3 : Int32) (H : Heap) (locs : List Loc) (ls : Array Slot), lp_Pr_codeOf_p10_4 N i0 n i2 i3 = some out → va_P G.1 classes [] H → va_D A [] → va_S A s.heap H locs → lv_has ls 4 [(0, .int i0), (1, .ref (G.2.2 0)), (2, .int i2), (3, .int i3)] → W p l e R s m args below meth c H locs kc ks Q (F0 m 4 ls []) := by
  obtain ⟨hx, hb, hml, hown, hts, hr, hlocks, hin⟩ := id C0
  have hown : s.vm.findClass R_Pr = some m.cls := hown
  intro n
  induction n with
  | zero => intro i2 i3 H locs ls h; cases h
  | succ n ih =>
    intro i2 i3 H locs ls h hP hD hS hl
    replace h : lb_Pr_codeOf_p10_4 N i0 (lp_Pr_codeOf_p10_4 N i0 n) i2 i3 = some out := h
    unfold lb_Pr_codeOf_p10_4 at h
    refine lv_iload_n hx hb d_Pr_codeOf_4 rfl (lv_at hl 3 rfl) ?_
    refine lv_aload_n hx hb d_Pr_codeOf_5 rfl (lv_at hl 1 rfl) ?_
    refine va_tlen (v := 29) hx hb hT.1.2 hS (by decide) d_Pr_codeOf_6 ?_
    refine lv_icmp_ge (tgt := 25) hx hb d_Pr_codeOf_7 (by decide) (fun cq5 => ?_) (fun cq5 => ?_)
    · replace h := (if_pos cq5).symm.trans h
      have eV := so1 h
      subst eV
      exact kx25 _ _ _ hP hD hS (lv_sub hl [2] rfl)
    · replace h := (if_neg cq5).symm.trans h
      refine lv_aload_n hx hb d_Pr_codeOf_10 rfl (lv_at hl 1 rfl) ?_
      refine lv_iload_n hx hb d_Pr_codeOf_11 rfl (lv_at hl 3 rfl) ?_
      obtain ⟨hi6, h⟩ := Ix_e h
      refine va_ti hx hb hT.1.2 hS hi6 (v := .int (tb 0 (i3).toNatClampNeg)) rfl d_Pr_codeOf_12 ?_
      refine lv_iload_n hx hb d_Pr_codeOf_13 rfl (lv_at hl 0 rfl) ?_
      refine lv_icmp_gt (tgt := 25) hx hb d_Pr_codeOf_14 (by decide) (fun cq7 => ?_) (fun cq7 => ?_)
      · replace h := (if_pos cq7).symm.trans h
        have eV := so1 h
        subst eV
        exact kx25 _ _ _ hP hD hS (lv_sub hl [2] rfl)
      · replace h := (if_neg cq7).symm.trans h
        refine lv_iload_n hx hb d_Pr_codeOf_17 rfl (lv_at hl 3 rfl) ?_
        refine lv_istore_n (lv' := [(2, .int i3), (0, .int i0), (1, .ref (G.2.2 0)), (3, .int i3)]) hx hb d_Pr_codeOf_18 rfl hl (by decide) rfl (fun ls hl => ?_)
        obtain ⟨v8, ev8⟩ : ∃ y : Int32, y = i3 + 1 := ⟨_, rfl⟩
        replace h := Lt_e h ev8
        refine lv_iinc (v := v8) (lv' := [(3, .int v8), (2, .int i3), (0, .int i0), (1, .ref (G.2.2 0))]) hx hb d_Pr_codeOf_19 hl (k := 3) rfl (by rw [ev8]; rfl) (by decide) rfl (fun ls hl => ?_)
        refine lv_goto (tgt := 4) hx hb d_Pr_codeOf_22 (by decide) ?_
        exact ih i3 v8  _ _ _ h hP hD hS (lv_sub hl [2, 3, 1, 0] rfl)
set_option maxHeartbeats 4000000 in
set_option maxRecDepth 100000 in
theorem c_Pr_codeOf_p10 (l : Launch) (G : GX) (sz : Nat)  (p0 : Int32) (N : Nat) (V : Int32) (h : f_Pr_codeOf_p10 N p0 = some V) :
    Met l y_Pr_codeOf (wd y_Pr_codeOf b_Pr_codeOf 4 (some .int)) { frames := 0, cells := 0, slots := 0, locals := 0 } (PX G [.int p0, .ref (G.2.2 0)] sz [])
      (QXi G V (fun w => w = []) (va_A [] sz)) 0 0 (va_A [] sz) := by
  refine Met_in (QQ := fun A => QXi G V (fun w => w = []) A) (by decide) (Nat.le_of_ble_eq_true rfl) (fun p e s m below meth c R Q A ls C0 hRf hRl hRc hRs hP hK hD hT hA hS hl hQ => ?_)
  obtain ⟨hx, hb, hml, hown, hts, hr, hlocks, hin⟩ := id C0
  have hown : s.vm.findClass R_Pr = some m.cls := hown
  have hl : lv_has ls 4 [(0, .int p0), (1, .ref (G.2.2 0))] := hl
  unfold f_Pr_codeOf_p10 at h
  have hkc : 0 ≤ R.cells := Nat.zero_le _
  have hks : 0 ≤ R.slots := Nat.zero_le _
  obtain ⟨H, hH⟩ : ∃ H, H = s.heap := ⟨_, rfl⟩
  obtain ⟨locs, hlc⟩ : ∃ x : List Loc, x = [] := ⟨_, rfl⟩
  rw [← hH] at hP
  have hS : va_S A s.heap H locs := by rw [hH, hlc]; exact hS
  suffices hgo : W p l e R s m [.int p0, .ref (G.2.2 0)].toArray below meth c H locs 0 0 Q (F0 m 0 ls []) by rw [hH, hlc] at hgo; exact hgo
  refine lv_iconst (v := 0) hx hb d_Pr_codeOf_0 (by decide) ?_
  refine lv_istore_n (lv' := [(2, .int 0), (0, .int p0), (1, .ref (G.2.2 0))]) hx hb d_Pr_codeOf_1 rfl hl (by decide) rfl (fun ls hl => ?_)
  refine lv_iconst (v := 1) hx hb d_Pr_codeOf_2 (by decide) ?_
  refine lv_istore_n (lv' := [(3, .int 1), (2, .int 0), (0, .int p0), (1, .ref (G.2.2 0))]) hx hb d_Pr_codeOf_3 rfl hl (by decide) rfl (fun ls hl => ?_)
  obtain ⟨r9, hc9, h⟩ := Bd_e h
  refine w_Pr_codeOf_p10_4 C0 hRf hRl hA hK hT N p0  r9 (kc := 0) (ks := 0) hkc hks ?_ N 0 1  _ _ _ hc9 hP hD hS (lv_sub hl [2, 3, 1, 0] rfl)
  · intro H locs ls hP hD hS hl
    refine lv_iload_n hx hb d_Pr_codeOf_25 rfl (lv_at hl 0 rfl) ?_
    have eV := so1 h
    subst eV
    exact x_iret C0 hQ hP hD hS rfl (Nat.zero_le _) (Nat.zero_le _) d_Pr_codeOf_26
set_option maxHeartbeats 4000000 in
set_option maxRecDepth 100000 in
theorem w_Pr_reversed_4 {p : Program} {l : Launch} {e : Env} {R : Room} {s : State} {m : MethodId} {args : Array Value} {below : List Frame} {meth : Method} {c : Code} {Q : State → Prop} {G : GX} {A : Nat → Prop} (C0 : Cx p s m args meth c b_Pr_reversed 4 y_Pr_reversed (some .int)) (hRf : 0 ≤ R.frames) (hRl : 0 ≤ R.locals) (hA : ∀ q, s.heap.size ≤ q → A q) (hK : KX G s) (hT : TX G A s) (N : Nat) (i0 : Int32) (i1 : Int32)  (out : Int32) {kc ks : Nat} (hkc : kc ≤ R.cells) (hks : ks ≤ R.slots)
    (kx25 : ∀ (H : Heap) (locs : List Loc) (ls : Array Slot), va_P G.1 classes [] H → va_D A [] → va_S A s.heap H locs → lv_has ls 4 [(2, .int out)] → W p l e R s m args below meth c H locs kc ks Q (F0 m 25 ls [])) :
    ∀ (n : Nat) (i2 : Int32) (i3 : Int32) (H : Heap) (locs : List Loc) (ls : Array Slot), lp_Pr_reversed_4 N i0 i1 n i2 i3 = some out → va_P G.1 classes [] H → va_D A [] → va_S A s.heap H locs → lv_has ls 4 [(0, .int i0), (1, .int i1), (2, .int i2), (3, .int i3)] → W p l e R s m args below meth c H locs kc ks Q (F0 m 4 ls []) := by
  obtain ⟨hx, hb, hml, hown, hts, hr, hlocks, hin⟩ := id C0
  have hown : s.vm.findClass R_Pr = some m.cls := hown
  intro n
  induction n with
  | zero => intro i2 i3 H locs ls h; cases h
  | succ n ih =>
    intro i2 i3 H locs ls h hP hD hS hl
    replace h : lb_Pr_reversed_4 N i0 i1 (lp_Pr_reversed_4 N i0 i1 n) i2 i3 = some out := h
    unfold lb_Pr_reversed_4 at h
    refine lv_iload_n hx hb d_Pr_reversed_4 rfl (lv_at hl 3 rfl) ?_
    refine lv_iload_n hx hb d_Pr_reversed_5 rfl (lv_at hl 1 rfl) ?_
    refine lv_icmp_ge (tgt := 25) hx hb d_Pr_reversed_6 (by decide) (fun cq4 => ?_) (fun cq4 => ?_)
    · replace h := (if_pos cq4).symm.trans h
      have eV := so1 h
      subst eV
      exact kx25 _ _ _ hP hD hS (lv_sub hl [2] rfl)
    · replace h := (if_neg cq4).symm.trans h
      refine lv_iload_n hx hb d_Pr_reversed_9 rfl (lv_at hl 2 rfl) ?_
      refine lv_iconst (v := 1) hx hb d_Pr_reversed_10 (by decide) ?_
      refine lv_ishl hx hb d_Pr_reversed_11 ?_
      refine lv_iload_n hx hb d_Pr_reversed_12 rfl (lv_at hl 0 rfl) ?_
      refine lv_iload_n hx hb d_Pr_reversed_13 rfl (lv_at hl 3 rfl) ?_
      refine lv_iushr (v := us i0 i3) hx hb d_Pr_reversed_14 rfl ?_
      refine lv_iconst (v := 1) hx hb d_Pr_reversed_15 (by decide) ?_
      refine lv_iand hx hb d_Pr_reversed_16 ?_
      refine lv_ior hx hb d_Pr_reversed_17 ?_
      refine lv_topi (fun v5 ev5 => ?_)
      replace h := Lt_e h ev5
      refine lv_istore_n (lv' := [(2, .int v5), (0, .int i0), (1, .int i1), (3, .int i3)]) hx hb d_Pr_reversed_18 rfl hl (by decide) rfl (fun ls hl => ?_)
      obtain ⟨v6, ev6⟩ : ∃ y : Int32, y = i3 + 1 := ⟨_, rfl⟩
      replace h := Lt_e h ev6
      refine lv_iinc (v := v6) (lv' := [(3, .int v6), (2, .int v5), (0, .int i0), (1, .int i1)]) hx hb d_Pr_reversed_19 hl (k := 3) rfl (by rw [ev6]; rfl) (by decide) rfl (fun ls hl => ?_)
      refine lv_goto (tgt := 4) hx hb d_Pr_reversed_22 (by decide) ?_
      exact ih v5 v6  _ _ _ h hP hD hS (lv_sub hl [2, 3, 1, 0] rfl)
set_option maxHeartbeats 4000000 in
set_option maxRecDepth 100000 in
theorem c_Pr_reversed (l : Launch) (G : GX) (sz : Nat)  (p0 : Int32) (p1 : Int32) (N : Nat) (V : Int32) (h : f_Pr_reversed N p0 p1 = some V) :
    Met l y_Pr_reversed (wd y_Pr_reversed b_Pr_reversed 4 (some .int)) { frames := 0, cells := 0, slots := 0, locals := 0 } (PX G [.int p0, .int p1] sz [])
      (QXi G V (fun w => w = []) (va_A [] sz)) 0 0 (va_A [] sz) := by
  refine Met_in (QQ := fun A => QXi G V (fun w => w = []) A) (by decide) (Nat.le_of_ble_eq_true rfl) (fun p e s m below meth c R Q A ls C0 hRf hRl hRc hRs hP hK hD hT hA hS hl hQ => ?_)
  obtain ⟨hx, hb, hml, hown, hts, hr, hlocks, hin⟩ := id C0
  have hown : s.vm.findClass R_Pr = some m.cls := hown
  have hl : lv_has ls 4 [(0, .int p0), (1, .int p1)] := hl
  unfold f_Pr_reversed at h
  have hkc : 0 ≤ R.cells := Nat.zero_le _
  have hks : 0 ≤ R.slots := Nat.zero_le _
  obtain ⟨H, hH⟩ : ∃ H, H = s.heap := ⟨_, rfl⟩
  obtain ⟨locs, hlc⟩ : ∃ x : List Loc, x = [] := ⟨_, rfl⟩
  rw [← hH] at hP
  have hS : va_S A s.heap H locs := by rw [hH, hlc]; exact hS
  suffices hgo : W p l e R s m [.int p0, .int p1].toArray below meth c H locs 0 0 Q (F0 m 0 ls []) by rw [hH, hlc] at hgo; exact hgo
  refine lv_iconst (v := 0) hx hb d_Pr_reversed_0 (by decide) ?_
  refine lv_istore_n (lv' := [(2, .int 0), (0, .int p0), (1, .int p1)]) hx hb d_Pr_reversed_1 rfl hl (by decide) rfl (fun ls hl => ?_)
  refine lv_iconst (v := 0) hx hb d_Pr_reversed_2 (by decide) ?_
  refine lv_istore_n (lv' := [(3, .int 0), (2, .int 0), (0, .int p0), (1, .int p1)]) hx hb d_Pr_reversed_3 rfl hl (by decide) rfl (fun ls hl => ?_)
  obtain ⟨r7, hc7, h⟩ := Bd_e h
  refine w_Pr_reversed_4 C0 hRf hRl hA hK hT N p0 p1  r7 (kc := 0) (ks := 0) hkc hks ?_ N 0 0  _ _ _ hc7 hP hD hS (lv_sub hl [2, 3, 1, 0] rfl)
  · intro H locs ls hP hD hS hl
    refine lv_iload_n hx hb d_Pr_reversed_25 rfl (lv_at hl 0 rfl) ?_
    have eV := so1 h
    subst eV
    exact x_iret C0 hQ hP hD hS rfl (Nat.zero_le _) (Nat.zero_le _) d_Pr_reversed_26
set_option maxHeartbeats 4000000 in
set_option maxRecDepth 100000 in
theorem c_Pr_putSymbol (l : Launch) (G : GX) (a0 a1 a2 a3 o0_1 : Nat) (sz : Nat) (x0_2 : Int32) (x0_3 : Int32) (x1_1 : Int32) (x1_2 : Int32) (x2_1 : Int32) (n3 : Nat) (f3 : (Nat → Int32)) (p1 : Int32) (N : Nat) (V : Int32 × Int32 × Int32 × Nat × (Nat → Int32)) (K Z : Nat) (h : f_Pr_putSymbol N x1_1 x1_2 x2_1 n3 f3 p1 = some (V, K, Z)) :
    Met l y_Pr_putSymbol (wd y_Pr_putSymbol b_Pr_putSymbol 2 none) { frames := 5, cells := K, slots := Z, locals := 147 } (PX G [.ref a0, .int p1] sz [(a0, .inr (5, [.ref a1, .ref o0_1, .int x0_2, .int x0_3])), (a1, .inr (3, [.ref a2, .int x1_1, .int x1_2])), (a2, .inr (1, [.ref a3, .int x2_1])), (a3, .inl (G.2.1 0, n3, .inl f3))])
      (QXv G (fun w => ∃ e0 : Nat, w = [(a0, .inr (5, [.ref a1, .ref o0_1, .int x0_2, .int x0_3])), (a1, .inr (3, [.ref a2, .int V.1, .int V.2.1])), (a2, .inr (1, [.ref e0, .int V.2.2.1])), (e0, .inl (G.2.1 0, V.2.2.2.1, .inl V.2.2.2.2))]) (va_A [(a0, .inr (5, [.ref a1, .ref o0_1, .int x0_2, .int x0_3])), (a1, .inr (3, [.ref a2, .int x1_1, .int x1_2])), (a2, .inr (1, [.ref a3, .int x2_1])), (a3, .inl (G.2.1 0, n3, .inl f3))] sz)) K Z (va_A [(a0, .inr (5, [.ref a1, .ref o0_1, .int x0_2, .int x0_3])), (a1, .inr (3, [.ref a2, .int x1_1, .int x1_2])), (a2, .inr (1, [.ref a3, .int x2_1])), (a3, .inl (G.2.1 0, n3, .inl f3))] sz) := by
  refine Met_in (QQ := fun A => QXv G (fun w => ∃ e0 : Nat, w = [(a0, .inr (5, [.ref a1, .ref o0_1, .int x0_2, .int x0_3])), (a1, .inr (3, [.ref a2, .int V.1, .int V.2.1])), (a2, .inr (1, [.ref e0, .int V.2.2.1])), (e0, .inl (G.2.1 0, V.2.2.2.1, .inl V.2.2.2.2))]) A) (by decide) (Nat.le_of_ble_eq_true rfl) (fun p e s m below meth c R Q A ls C0 hRf hRl hRc hRs hP hK hD hT hA hS hl hQ => ?_)
  obtain ⟨hx, hb, hml, hown, hts, hr, hlocks, hin⟩ := id C0
  have hown : s.vm.findClass R_Pr = some m.cls := hown
  have hl : lv_has ls 2 [(0, .ref a0), (1, .int p1)] := hl
  unfold f_Pr_putSymbol at h
  have hKT : K ≤ R.cells := Nat.le_of_eq hRc.symm
  have hZT : Z ≤ R.slots := Nat.le_of_eq hRs.symm
  have ekc : 0 + K = K := by omega
  have ezc : 0 + Z = Z := by omega
  obtain ⟨H, hH⟩ : ∃ H, H = s.heap := ⟨_, rfl⟩
  obtain ⟨locs, hlc⟩ : ∃ x : List Loc, x = [] := ⟨_, rfl⟩
  rw [← hH] at hP
  have hS : va_S A s.heap H locs := by rw [hH, hlc]; exact hS
  suffices hgo : W p l e R s m [.ref a0, .int p1].toArray below meth c H locs 0 0 Q (F0 m 0 ls []) by rw [hH, hlc] at hgo; exact hgo
  refine lv_iload_n hx hb d_Pr_putSymbol_0 rfl (lv_at hl 1 rfl) ?_
  refine lv_sipush (v := 144) hx hb d_Pr_putSymbol_1 (by decide) ?_
  refine lv_icmp_ge (tgt := 28) hx hb d_Pr_putSymbol_4 (by decide) (fun cq1 => ?_) (fun cq1 => ?_)
  · replace h := (if_pos cq1).symm.trans h
    refine lv_iload_n hx hb d_Pr_putSymbol_28 rfl (lv_at hl 1 rfl) ?_
    refine lv_sipush (v := 256) hx hb d_Pr_putSymbol_29 (by decide) ?_
    refine lv_icmp_ge (tgt := 61) hx hb d_Pr_putSymbol_32 (by decide) (fun cq2 => ?_) (fun cq2 => ?_)
    · replace h := (if_pos cq2).symm.trans h
      refine lv_iload_n hx hb d_Pr_putSymbol_61 rfl (lv_at hl 1 rfl) ?_
      refine lv_sipush (v := 280) hx hb d_Pr_putSymbol_62 (by decide) ?_
      refine lv_icmp_ge (tgt := 90) hx hb d_Pr_putSymbol_65 (by decide) (fun cq3 => ?_) (fun cq3 => ?_)
      · replace h := (if_pos cq3).symm.trans h
        refine lv_aload_n hx hb d_Pr_putSymbol_90 rfl (lv_at hl 0 rfl) ?_
        refine va_get (D := G.1) (ci := 5) (v := .ref a1) (C := R_Pr) (T := F_Pr) (N := 4) hx hb hts i_Pr hown hK hP 0 rfl rfl 0 (by decide) (hts _ q43) (fun _ h9 => h9) rfl d_Pr_putSymbol_91 ?_
        refine lv_sipush (v := 192) hx hb d_Pr_putSymbol_94 (by decide) ?_
        refine lv_iload_n hx hb d_Pr_putSymbol_97 rfl (lv_at hl 1 rfl) ?_
        refine lv_iadd hx hb d_Pr_putSymbol_98 ?_
        refine lv_sipush (v := 280) hx hb d_Pr_putSymbol_99 (by decide) ?_
        refine lv_isub hx hb d_Pr_putSymbol_102 ?_
        refine lv_bipush (v := 8) hx hb d_Pr_putSymbol_103 (by decide) ?_
        obtain ⟨r4, hc4, h⟩ := Bd_e h
        refine xS_i0 (wr := [(a0, .inr (5, [.ref a1, .ref o0_1, .int x0_2, .int x0_3])), (a1, .inr (3, [.ref a2, .int x1_1, .int x1_2])), (a2, .inr (1, [.ref a3, .int x2_1])), (a3, .inl (G.2.1 0, n3, .inl f3))]) (rest := [.ref a1]) C0 hK hT hA hP hD hS hl.1 (c_Pr_reversed l G  _  ((192 + p1) - 280) 8 N r4 hc4) (goodS q224 q225 q29 q226) 2 rfl hd_Pr_reversed (Nat.le_trans (by decide) hRf) (Nat.le_trans (by decide) hRl) [] [0, 1, 2, 3] rfl rfl (by decide) (by decide) (by decide) rfl (Nat.le_of_ble_eq_true rfl) d_Pr_putSymbol_105 (by omega) (by omega) (fun w1 H locs hE hP hD hS => ?_)
        subst hE
        have hP : va_P G.1 classes [(a0, .inr (5, [.ref a1, .ref o0_1, .int x0_2, .int x0_3])), (a1, .inr (3, [.ref a2, .int x1_1, .int x1_2])), (a2, .inr (1, [.ref a3, .int x2_1])), (a3, .inl (G.2.1 0, n3, .inl f3))] H := hP
        have hD : va_D A [(a0, .inr (5, [.ref a1, .ref o0_1, .int x0_2, .int x0_3])), (a1, .inr (3, [.ref a2, .int x1_1, .int x1_2])), (a2, .inr (1, [.ref a3, .int x2_1])), (a3, .inl (G.2.1 0, n3, .inl f3))] := hD
        refine lv_bipush (v := 8) hx hb d_Pr_putSymbol_108 (by decide) ?_
        obtain ⟨r5, k5, z5, kk5, zz5, hc5, h, ek5, ez5⟩ := Bk_e h
        have ekc : 0 + k5 + kk5 = K := by omega
        have ezc : 0 + z5 + zz5 = Z := by omega
        refine xV_v (wr := [(a0, .inr (5, [.ref a1, .ref o0_1, .int x0_2, .int x0_3]))]) (rest := []) C0 hK hT hA hP hD hS hl.1 (c_BW_put l G a1 a2 a3 _ x1_1 x1_2 x2_1 n3 f3 r4 8 N r5 k5 z5 hc5) (goodV q180 q181 q182 q33 q183) 2 rfl hd_BW_put (Nat.le_trans (by decide) hRf) (Nat.le_trans (by decide) hRl) [1, 2, 3] [0] rfl rfl (by decide) (by decide) (by decide) 3 1 rfl rfl rfl (Nat.le_of_ble_eq_true rfl) d_Pr_putSymbol_110 (by omega) (by omega) (fun w1 H locs hE hP hD hS => ?_)
        obtain ⟨b6, rfl⟩ := hE
        have hP : va_P G.1 classes [(a0, .inr (5, [.ref a1, .ref o0_1, .int x0_2, .int x0_3])), (a1, .inr (3, [.ref a2, .int r5.1, .int r5.2.1])), (a2, .inr (1, [.ref b6, .int r5.2.2.1])), (b6, .inl (G.2.1 0, r5.2.2.2.1, .inl r5.2.2.2.2))] H := hP
        have hD : va_D A [(a0, .inr (5, [.ref a1, .ref o0_1, .int x0_2, .int x0_3])), (a1, .inr (3, [.ref a2, .int r5.1, .int r5.2.1])), (a2, .inr (1, [.ref b6, .int r5.2.2.1])), (b6, .inl (G.2.1 0, r5.2.2.2.1, .inl r5.2.2.2.2))] := hD
        obtain ⟨eV, ek, ez⟩ := so3 h
        subst eV
        exact x_vret C0 hQ hP hD hS ⟨b6, rfl⟩ (by omega) (by omega) d_Pr_putSymbol_113
      · replace h := (if_neg cq3).symm.trans h
        refine lv_aload_n hx hb d_Pr_putSymbol_68 rfl (lv_at hl 0 rfl) ?_
        refine va_get (D := G.1) (ci := 5) (v := .ref a1) (C := R_Pr) (T := F_Pr) (N := 4) hx hb hts i_Pr hown hK hP 0 rfl rfl 0 (by decide) (hts _ q43) (fun _ h9 => h9) rfl d_Pr_putSymbol_69 ?_
        refine lv_iload_n hx hb d_Pr_putSymbol_72 rfl (lv_at hl 1 rfl) ?_
        refine lv_sipush (v := 256) hx hb d_Pr_putSymbol_73 (by decide) ?_
        refine lv_isub hx hb d_Pr_putSymbol_76 ?_
        refine lv_bipush (v := 7) hx hb d_Pr_putSymbol_77 (by decide) ?_
        obtain ⟨r7, hc7, h⟩ := Bd_e h
        refine xS_i0 (wr := [(a0, .inr (5, [.ref a1, .ref o0_1, .int x0_2, .int x0_3])), (a1, .inr (3, [.ref a2, .int x1_1, .int x1_2])), (a2, .inr (1, [.ref a3, .int x2_1])), (a3, .inl (G.2.1 0, n3, .inl f3))]) (rest := [.ref a1]) C0 hK hT hA hP hD hS hl.1 (c_Pr_reversed l G  _  (p1 - 256) 7 N r7 hc7) (goodS q224 q225 q29 q226) 2 rfl hd_Pr_reversed (Nat.le_trans (by decide) hRf) (Nat.le_trans (by decide) hRl) [] [0, 1, 2, 3] rfl rfl (by decide) (by decide) (by decide) rfl (Nat.le_of_ble_eq_true rfl) d_Pr_putSymbol_79 (by omega) (by omega) (fun w1 H locs hE hP hD hS => ?_)
        subst hE
        have hP : va_P G.1 classes [(a0, .inr (5, [.ref a1, .ref o0_1, .int x0_2, .int x0_3])), (a1, .inr (3, [.ref a2, .int x1_1, .int x1_2])), (a2, .inr (1, [.ref a3, .int x2_1])), (a3, .inl (G.2.1 0, n3, .inl f3))] H := hP
        have hD : va_D A [(a0, .inr (5, [.ref a1, .ref o0_1, .int x0_2, .int x0_3])), (a1, .inr (3, [.ref a2, .int x1_1, .int x1_2])), (a2, .inr (1, [.ref a3, .int x2_1])), (a3, .inl (G.2.1 0, n3, .inl f3))] := hD
        refine lv_bipush (v := 7) hx hb d_Pr_putSymbol_82 (by decide) ?_
        obtain ⟨r8, k8, z8, kk8, zz8, hc8, h, ek8, ez8⟩ := Bk_e h
        have ekc : 0 + k8 + kk8 = K := by omega
        have ezc : 0 + z8 + zz8 = Z := by omega
        refine xV_v (wr := [(a0, .inr (5, [.ref a1, .ref o0_1, .int x0_2, .int x0_3]))]) (rest := []) C0 hK hT hA hP hD hS hl.1 (c_BW_put l G a1 a2 a3 _ x1_1 x1_2 x2_1 n3 f3 r7 7 N r8 k8 z8 hc8) (goodV q180 q181 q182 q33 q183) 2 rfl hd_BW_put (Nat.le_trans (by decide) hRf) (Nat.le_trans (by decide) hRl) [1, 2, 3] [0] rfl rfl (by decide) (by decide) (by decide) 3 1 rfl rfl rfl (Nat.le_of_ble_eq_true rfl) d_Pr_putSymbol_84 (by omega) (by omega) (fun w1 H locs hE hP hD hS => ?_)
        obtain ⟨b9, rfl⟩ := hE
        have hP : va_P G.1 classes [(a0, .inr (5, [.ref a1, .ref o0_1, .int x0_2, .int x0_3])), (a1, .inr (3, [.ref a2, .int r8.1, .int r8.2.1])), (a2, .inr (1, [.ref b9, .int r8.2.2.1])), (b9, .inl (G.2.1 0, r8.2.2.2.1, .inl r8.2.2.2.2))] H := hP
        have hD : va_D A [(a0, .inr (5, [.ref a1, .ref o0_1, .int x0_2, .int x0_3])), (a1, .inr (3, [.ref a2, .int r8.1, .int r8.2.1])), (a2, .inr (1, [.ref b9, .int r8.2.2.1])), (b9, .inl (G.2.1 0, r8.2.2.2.1, .inl r8.2.2.2.2))] := hD
        refine lv_goto (tgt := 113) hx hb d_Pr_putSymbol_87 (by decide) ?_
        obtain ⟨eV, ek, ez⟩ := so3 h
        subst eV
        exact x_vret C0 hQ hP hD hS ⟨b9, rfl⟩ (by omega) (by omega) d_Pr_putSymbol_113
    · replace h := (if_neg cq2).symm.trans h
      refine lv_aload_n hx hb d_Pr_putSymbol_35 rfl (lv_at hl 0 rfl) ?_
      refine va_get (D := G.1) (ci := 5) (v := .ref a1) (C := R_Pr) (T := F_Pr) (N := 4) hx hb hts i_Pr hown hK hP 0 rfl rfl 0 (by decide) (hts _ q43) (fun _ h9 => h9) rfl d_Pr_putSymbol_36 ?_
      refine lv_sipush (v := 400) hx hb d_Pr_putSymbol_39 (by decide) ?_
      refine lv_iload_n hx hb d_Pr_putSymbol_42 rfl (lv_at hl 1 rfl) ?_
      refine lv_iadd hx hb d_Pr_putSymbol_43 ?_
      refine lv_sipush (v := 144) hx hb d_Pr_putSymbol_44 (by decide) ?_
      refine lv_isub hx hb d_Pr_putSymbol_47 ?_
      refine lv_bipush (v := 9) hx hb d_Pr_putSymbol_48 (by decide) ?_
      obtain ⟨r10, hc10, h⟩ := Bd_e h
      refine xS_i0 (wr := [(a0, .inr (5, [.ref a1, .ref o0_1, .int x0_2, .int x0_3])), (a1, .inr (3, [.ref a2, .int x1_1, .int x1_2])), (a2, .inr (1, [.ref a3, .int x2_1])), (a3, .inl (G.2.1 0, n3, .inl f3))]) (rest := [.ref a1]) C0 hK hT hA hP hD hS hl.1 (c_Pr_reversed l G  _  ((400 + p1) - 144) 9 N r10 hc10) (goodS q224 q225 q29 q226) 2 rfl hd_Pr_reversed (Nat.le_trans (by decide) hRf) (Nat.le_trans (by decide) hRl) [] [0, 1, 2, 3] rfl rfl (by decide) (by decide) (by decide) rfl (Nat.le_of_ble_eq_true rfl) d_Pr_putSymbol_50 (by omega) (by omega) (fun w1 H locs hE hP hD hS => ?_)
      subst hE
      have hP : va_P G.1 classes [(a0, .inr (5, [.ref a1, .ref o0_1, .int x0_2, .int x0_3])), (a1, .inr (3, [.ref a2, .int x1_1, .int x1_2])), (a2, .inr (1, [.ref a3, .int x2_1])), (a3, .inl (G.2.1 0, n3, .inl f3))] H := hP
      have hD : va_D A [(a0, .inr (5, [.ref a1, .ref o0_1, .int x0_2, .int x0_3])), (a1, .inr (3, [.ref a2, .int x1_1, .int x1_2])), (a2, .inr (1, [.ref a3, .int x2_1])), (a3, .inl (G.2.1 0, n3, .inl f3))] := hD
      refine lv_bipush (v := 9) hx hb d_Pr_putSymbol_53 (by decide) ?_
      obtain ⟨r11, k11, z11, kk11, zz11, hc11, h, ek11, ez11⟩ := Bk_e h
      have ekc : 0 + k11 + kk11 = K := by omega
      have ezc : 0 + z11 + zz11 = Z := by omega
      refine xV_v (wr := [(a0, .inr (5, [.ref a1, .ref o0_1, .int x0_2, .int x0_3]))]) (rest := []) C0 hK hT hA hP hD hS hl.1 (c_BW_put l G a1 a2 a3 _ x1_1 x1_2 x2_1 n3 f3 r10 9 N r11 k11 z11 hc11) (goodV q180 q181 q182 q33 q183) 2 rfl hd_BW_put (Nat.le_trans (by decide) hRf) (Nat.le_trans (by decide) hRl) [1, 2, 3] [0] rfl rfl (by decide) (by decide) (by decide) 3 1 rfl rfl rfl (Nat.le_of_ble_eq_true rfl) d_Pr_putSymbol_55 (by omega) (by omega) (fun w1 H locs hE hP hD hS => ?_)
      obtain ⟨b12, rfl⟩ := hE
      have hP : va_P G.1 classes [(a0, .inr (5, [.ref a1, .ref o0_1, .int x0_2, .int x0_3])), (a1, .inr (3, [.ref a2, .int r11.1, .int r11.2.1])), (a2, .inr (1, [.ref b12, .int r11.2.2.1])), (b12, .inl (G.2.1 0, r11.2.2.2.1, .inl r11.2.2.2.2))] H := hP
      have hD : va_D A [(a0, .inr (5, [.ref a1, .ref o0_1, .int x0_2, .int x0_3])), (a1, .inr (3, [.ref a2, .int r11.1, .int r11.2.1])), (a2, .inr (1, [.ref b12, .int r11.2.2.1])), (b12, .inl (G.2.1 0, r11.2.2.2.1, .inl r11.2.2.2.2))] := hD
      refine lv_goto (tgt := 113) hx hb d_Pr_putSymbol_58 (by decide) ?_
      obtain ⟨eV, ek, ez⟩ := so3 h
      subst eV
      exact x_vret C0 hQ hP hD hS ⟨b12, rfl⟩ (by omega) (by omega) d_Pr_putSymbol_113
  · replace h := (if_neg cq1).symm.trans h
    refine lv_aload_n hx hb d_Pr_putSymbol_7 rfl (lv_at hl 0 rfl) ?_
    refine va_get (D := G.1) (ci := 5) (v := .ref a1) (C := R_Pr) (T := F_Pr) (N := 4) hx hb hts i_Pr hown hK hP 0 rfl rfl 0 (by decide) (hts _ q43) (fun _ h9 => h9) rfl d_Pr_putSymbol_8 ?_
    refine lv_bipush (v := 48) hx hb d_Pr_putSymbol_11 (by decide) ?_
    refine lv_iload_n hx hb d_Pr_putSymbol_13 rfl (lv_at hl 1 rfl) ?_
    refine lv_iadd hx hb d_Pr_putSymbol_14 ?_
    refine lv_bipush (v := 8) hx hb d_Pr_putSymbol_15 (by decide) ?_
    obtain ⟨r13, hc13, h⟩ := Bd_e h
    refine xS_i0 (wr := [(a0, .inr (5, [.ref a1, .ref o0_1, .int x0_2, .int x0_3])), (a1, .inr (3, [.ref a2, .int x1_1, .int x1_2])), (a2, .inr (1, [.ref a3, .int x2_1])), (a3, .inl (G.2.1 0, n3, .inl f3))]) (rest := [.ref a1]) C0 hK hT hA hP hD hS hl.1 (c_Pr_reversed l G  _  (48 + p1) 8 N r13 hc13) (goodS q224 q225 q29 q226) 2 rfl hd_Pr_reversed (Nat.le_trans (by decide) hRf) (Nat.le_trans (by decide) hRl) [] [0, 1, 2, 3] rfl rfl (by decide) (by decide) (by decide) rfl (Nat.le_of_ble_eq_true rfl) d_Pr_putSymbol_17 (by omega) (by omega) (fun w1 H locs hE hP hD hS => ?_)
    subst hE
    have hP : va_P G.1 classes [(a0, .inr (5, [.ref a1, .ref o0_1, .int x0_2, .int x0_3])), (a1, .inr (3, [.ref a2, .int x1_1, .int x1_2])), (a2, .inr (1, [.ref a3, .int x2_1])), (a3, .inl (G.2.1 0, n3, .inl f3))] H := hP
    have hD : va_D A [(a0, .inr (5, [.ref a1, .ref o0_1, .int x0_2, .int x0_3])), (a1, .inr (3, [.ref a2, .int x1_1, .int x1_2])), (a2, .inr (1, [.ref a3, .int x2_1])), (a3, .inl (G.2.1 0, n3, .inl f3))] := hD
    refine lv_bipush (v := 8) hx hb d_Pr_putSymbol_20 (by decide) ?_
    obtain ⟨r14, k14, z14, kk14, zz14, hc14, h, ek14, ez14⟩ := Bk_e h
    have ekc : 0 + k14 + kk14 = K := by omega
    have ezc : 0 + z14 + zz14 = Z := by omega
    refine xV_v (wr := [(a0, .inr (5, [.ref a1, .ref o0_1, .int x0_2, .int x0_3]))]) (rest := []) C0 hK hT hA hP hD hS hl.1 (c_BW_put l G a1 a2 a3 _ x1_1 x1_2 x2_1 n3 f3 r13 8 N r14 k14 z14 hc14) (goodV q180 q181 q182 q33 q183) 2 rfl hd_BW_put (Nat.le_trans (by decide) hRf) (Nat.le_trans (by decide) hRl) [1, 2, 3] [0] rfl rfl (by decide) (by decide) (by decide) 3 1 rfl rfl rfl (Nat.le_of_ble_eq_true rfl) d_Pr_putSymbol_22 (by omega) (by omega) (fun w1 H locs hE hP hD hS => ?_)
    obtain ⟨b15, rfl⟩ := hE
    have hP : va_P G.1 classes [(a0, .inr (5, [.ref a1, .ref o0_1, .int x0_2, .int x0_3])), (a1, .inr (3, [.ref a2, .int r14.1, .int r14.2.1])), (a2, .inr (1, [.ref b15, .int r14.2.2.1])), (b15, .inl (G.2.1 0, r14.2.2.2.1, .inl r14.2.2.2.2))] H := hP
    have hD : va_D A [(a0, .inr (5, [.ref a1, .ref o0_1, .int x0_2, .int x0_3])), (a1, .inr (3, [.ref a2, .int r14.1, .int r14.2.1])), (a2, .inr (1, [.ref b15, .int r14.2.2.1])), (b15, .inl (G.2.1 0, r14.2.2.2.1, .inl r14.2.2.2.2))] := hD
    refine lv_goto (tgt := 113) hx hb d_Pr_putSymbol_25 (by decide) ?_
    obtain ⟨eV, ek, ez⟩ := so3 h
    subst eV
    exact x_vret C0 hQ hP hD hS ⟨b15, rfl⟩ (by omega) (by omega) d_Pr_putSymbol_113
set_option maxHeartbeats 4000000 in
set_option maxRecDepth 100000 in
theorem w_Pr_codeOf_p12_4 {p : Program} {l : Launch} {e : Env} {R : Room} {s : State} {m : MethodId} {args : Array Value} {below : List Frame} {meth : Method} {c : Code} {Q : State → Prop} {G : GX} {A : Nat → Prop} (C0 : Cx p s m args meth c b_Pr_codeOf 4 y_Pr_codeOf (some .int)) (hRf : 0 ≤ R.frames) (hRl : 0 ≤ R.locals) (hA : ∀ q, s.heap.size ≤ q → A q) (hK : KX G s) (hT : TX G A s) (N : Nat) (i0 : Int32)  (out : Int32) {kc ks : Nat} (hkc : kc ≤ R.cells) (hks : ks ≤ R.slots)
    (kx25 : ∀ (H : Heap) (locs : List Loc) (ls : Array Slot), va_P G.1 classes [] H → va_D A [] → va_S A s.heap H locs → lv_has ls 4 [(2, .int out)] → W p l e R s m args below meth c H locs kc ks Q (F0 m 25 ls [])) :
    ∀ (n : Nat) (i2 : Int32) (i3 : Int32) (H : Heap) (locs : List Loc) (ls : Array Slot), lp_Pr_codeOf_p12_4 N i0 n i2 i3 = some out → va_P G.1 classes [] H → va_D A [] → va_S A s.heap H locs → lv_has ls 4 [(0, .int i0), (1, .ref (G.2.2 2)), (2, .int i2), (3, .int i3)] → W p l e R s m args below meth c H locs kc ks Q (F0 m 4 ls []) := by
  obtain ⟨hx, hb, hml, hown, hts, hr, hlocks, hin⟩ := id C0
  have hown : s.vm.findClass R_Pr = some m.cls := hown
  intro n
  induction n with
  | zero => intro i2 i3 H locs ls h; cases h
  | succ n ih =>
    intro i2 i3 H locs ls h hP hD hS hl
    replace h : lb_Pr_codeOf_p12_4 N i0 (lp_Pr_codeOf_p12_4 N i0 n) i2 i3 = some out := h
    unfold lb_Pr_codeOf_p12_4 at h
    refine lv_iload_n hx hb d_Pr_codeOf_4 rfl (lv_at hl 3 rfl) ?_
    refine lv_aload_n hx hb d_Pr_codeOf_5 rfl (lv_at hl 1 rfl) ?_
    refine va_tlen (v := 30) hx hb hT.2.2.1.2 hS (by decide) d_Pr_codeOf_6 ?_
    refine lv_icmp_ge (tgt := 25) hx hb d_Pr_codeOf_7 (by decide) (fun cq5 => ?_) (fun cq5 => ?_)
    · replace h := (if_pos cq5).symm.trans h
      have eV := so1 h
      subst eV
      exact kx25 _ _ _ hP hD hS (lv_sub hl [2] rfl)
    · replace h := (if_neg cq5).symm.trans h
      refine lv_aload_n hx hb d_Pr_codeOf_10 rfl (lv_at hl 1 rfl) ?_
      refine lv_iload_n hx hb d_Pr_codeOf_11 rfl (lv_at hl 3 rfl) ?_
      obtain ⟨hi6, h⟩ := Ix_e h
      refine va_ti hx hb hT.2.2.1.2 hS hi6 (v := .int (tb 2 (i3).toNatClampNeg)) rfl d_Pr_codeOf_12 ?_
      refine lv_iload_n hx hb d_Pr_codeOf_13 rfl (lv_at hl 0 rfl) ?_
      refine lv_icmp_gt (tgt := 25) hx hb d_Pr_codeOf_14 (by decide) (fun cq7 => ?_) (fun cq7 => ?_)
      · replace h := (if_pos cq7).symm.trans h
        have eV := so1 h
        subst eV
        exact kx25 _ _ _ hP hD hS (lv_sub hl [2] rfl)
      · replace h := (if_neg cq7).symm.trans h
        refine lv_iload_n hx hb d_Pr_codeOf_17 rfl (lv_at hl 3 rfl) ?_
        refine lv_istore_n (lv' := [(2, .int i3), (0, .int i0), (1, .ref (G.2.2 2)), (3, .int i3)]) hx hb d_Pr_codeOf_18 rfl hl (by decide) rfl (fun ls hl => ?_)
        obtain ⟨v8, ev8⟩ : ∃ y : Int32, y = i3 + 1 := ⟨_, rfl⟩
        replace h := Lt_e h ev8
        refine lv_iinc (v := v8) (lv' := [(3, .int v8), (2, .int i3), (0, .int i0), (1, .ref (G.2.2 2))]) hx hb d_Pr_codeOf_19 hl (k := 3) rfl (by rw [ev8]; rfl) (by decide) rfl (fun ls hl => ?_)
        refine lv_goto (tgt := 4) hx hb d_Pr_codeOf_22 (by decide) ?_
        exact ih i3 v8  _ _ _ h hP hD hS (lv_sub hl [2, 3, 1, 0] rfl)
set_option maxHeartbeats 4000000 in
set_option maxRecDepth 100000 in
theorem c_Pr_codeOf_p12 (l : Launch) (G : GX) (sz : Nat)  (p0 : Int32) (N : Nat) (V : Int32) (h : f_Pr_codeOf_p12 N p0 = some V) :
    Met l y_Pr_codeOf (wd y_Pr_codeOf b_Pr_codeOf 4 (some .int)) { frames := 0, cells := 0, slots := 0, locals := 0 } (PX G [.int p0, .ref (G.2.2 2)] sz [])
      (QXi G V (fun w => w = []) (va_A [] sz)) 0 0 (va_A [] sz) := by
  refine Met_in (QQ := fun A => QXi G V (fun w => w = []) A) (by decide) (Nat.le_of_ble_eq_true rfl) (fun p e s m below meth c R Q A ls C0 hRf hRl hRc hRs hP hK hD hT hA hS hl hQ => ?_)
  obtain ⟨hx, hb, hml, hown, hts, hr, hlocks, hin⟩ := id C0
  have hown : s.vm.findClass R_Pr = some m.cls := hown
  have hl : lv_has ls 4 [(0, .int p0), (1, .ref (G.2.2 2))] := hl
  unfold f_Pr_codeOf_p12 at h
  have hkc : 0 ≤ R.cells := Nat.zero_le _
  have hks : 0 ≤ R.slots := Nat.zero_le _
  obtain ⟨H, hH⟩ : ∃ H, H = s.heap := ⟨_, rfl⟩
  obtain ⟨locs, hlc⟩ : ∃ x : List Loc, x = [] := ⟨_, rfl⟩
  rw [← hH] at hP
  have hS : va_S A s.heap H locs := by rw [hH, hlc]; exact hS
  suffices hgo : W p l e R s m [.int p0, .ref (G.2.2 2)].toArray below meth c H locs 0 0 Q (F0 m 0 ls []) by rw [hH, hlc] at hgo; exact hgo
  refine lv_iconst (v := 0) hx hb d_Pr_codeOf_0 (by decide) ?_
  refine lv_istore_n (lv' := [(2, .int 0), (0, .int p0), (1, .ref (G.2.2 2))]) hx hb d_Pr_codeOf_1 rfl hl (by decide) rfl (fun ls hl => ?_)
  refine lv_iconst (v := 1) hx hb d_Pr_codeOf_2 (by decide) ?_
  refine lv_istore_n (lv' := [(3, .int 1), (2, .int 0), (0, .int p0), (1, .ref (G.2.2 2))]) hx hb d_Pr_codeOf_3 rfl hl (by decide) rfl (fun ls hl => ?_)
  obtain ⟨r9, hc9, h⟩ := Bd_e h
  refine w_Pr_codeOf_p12_4 C0 hRf hRl hA hK hT N p0  r9 (kc := 0) (ks := 0) hkc hks ?_ N 0 1  _ _ _ hc9 hP hD hS (lv_sub hl [2, 3, 1, 0] rfl)
  · intro H locs ls hP hD hS hl
    refine lv_iload_n hx hb d_Pr_codeOf_25 rfl (lv_at hl 0 rfl) ?_
    have eV := so1 h
    subst eV
    exact x_iret C0 hQ hP hD hS rfl (Nat.zero_le _) (Nat.zero_le _) d_Pr_codeOf_26
set_option maxHeartbeats 4000000 in
set_option maxRecDepth 100000 in
theorem c_Pr_putPair (l : Launch) (G : GX) (a0 a1 a2 a3 o0_1 : Nat) (sz : Nat) (x0_2 : Int32) (x0_3 : Int32) (x1_1 : Int32) (x1_2 : Int32) (x2_1 : Int32) (n3 : Nat) (f3 : (Nat → Int32)) (p1 : Int32) (p2 : Int32) (N : Nat) (V : Int32 × Int32 × Int32 × Nat × (Nat → Int32)) (K Z : Nat) (h : f_Pr_putPair N x1_1 x1_2 x2_1 n3 f3 p1 p2 = some (V, K, Z)) :
    Met l y_Pr_putPair (wd y_Pr_putPair b_Pr_putPair 5 none) { frames := 6, cells := K, slots := Z, locals := 168 } (PX G [.ref a0, .int p1, .int p2] sz [(a0, .inr (5, [.ref a1, .ref o0_1, .int x0_2, .int x0_3])), (a1, .inr (3, [.ref a2, .int x1_1, .int x1_2])), (a2, .inr (1, [.ref a3, .int x2_1])), (a3, .inl (G.2.1 0, n3, .inl f3))])
      (QXv G (fun w => ∃ e0 : Nat, w = [(a0, .inr (5, [.ref a1, .ref o0_1, .int x0_2, .int x0_3])), (a1, .inr (3, [.ref a2, .int V.1, .int V.2.1])), (a2, .inr (1, [.ref e0, .int V.2.2.1])), (e0, .inl (G.2.1 0, V.2.2.2.1, .inl V.2.2.2.2))]) (va_A [(a0, .inr (5, [.ref a1, .ref o0_1, .int x0_2, .int x0_3])), (a1, .inr (3, [.ref a2, .int x1_1, .int x1_2])), (a2, .inr (1, [.ref a3, .int x2_1])), (a3, .inl (G.2.1 0, n3, .inl f3))] sz)) K Z (va_A [(a0, .inr (5, [.ref a1, .ref o0_1, .int x0_2, .int x0_3])), (a1, .inr (3, [.ref a2, .int x1_1, .int x1_2])), (a2, .inr (1, [.ref a3, .int x2_1])), (a3, .inl (G.2.1 0, n3, .inl f3))] sz) := by
  refine Met_in (QQ := fun A => QXv G (fun w => ∃ e0 : Nat, w = [(a0, .inr (5, [.ref a1, .ref o0_1, .int x0_2, .int x0_3])), (a1, .inr (3, [.ref a2, .int V.1, .int V.2.1])), (a2, .inr (1, [.ref e0, .int V.2.2.1])), (e0, .inl (G.2.1 0, V.2.2.2.1, .inl V.2.2.2.2))]) A) (by decide) (Nat.le_of_ble_eq_true rfl) (fun p e s m below meth c R Q A ls C0 hRf hRl hRc hRs hP hK hD hT hA hS hl hQ => ?_)
  obtain ⟨hx, hb, hml, hown, hts, hr, hlocks, hin⟩ := id C0
  have hown : s.vm.findClass R_Pr = some m.cls := hown
  have hl : lv_has ls 5 [(0, .ref a0), (1, .int p1), (2, .int p2)] := hl
  unfold f_Pr_putPair at h
  have hKT : K ≤ R.cells := Nat.le_of_eq hRc.symm
  have hZT : Z ≤ R.slots := Nat.le_of_eq hRs.symm
  have ekc : 0 + K = K := by omega
  have ezc : 0 + Z = Z := by omega
  obtain ⟨H, hH⟩ : ∃ H, H = s.heap := ⟨_, rfl⟩
  obtain ⟨locs, hlc⟩ : ∃ x : List Loc, x = [] := ⟨_, rfl⟩
  rw [← hH] at hP
  have hS : va_S A s.heap H locs := by rw [hH, hlc]; exact hS
  suffices hgo : W p l e R s m [.ref a0, .int p1, .int p2].toArray below meth c H locs 0 0 Q (F0 m 0 ls []) by rw [hH, hlc] at hgo; exact hgo
  refine lv_iload_n hx hb d_Pr_putPair_0 rfl (lv_at hl 1 rfl) ?_
  refine va_getsN hx hb hT.1.1 hS hown (hts _ q220) (fun _ h9 => h9) d_Pr_putPair_1 ?_
  obtain ⟨r1, hc1, h⟩ := Bd_e h
  refine xS_i0 (wr := [(a0, .inr (5, [.ref a1, .ref o0_1, .int x0_2, .int x0_3])), (a1, .inr (3, [.ref a2, .int x1_1, .int x1_2])), (a2, .inr (1, [.ref a3, .int x2_1])), (a3, .inl (G.2.1 0, n3, .inl f3))]) (rest := []) C0 hK hT hA hP hD hS hl.1 (c_Pr_codeOf_p10 l G  _  p1 N r1 hc1) (goodS q221 q222 q29 q223) 2 rfl hd_Pr_codeOf (Nat.le_trans (by decide) hRf) (Nat.le_trans (by decide) hRl) [] [0, 1, 2, 3] rfl rfl (by decide) (by decide) (by decide) rfl (Nat.le_of_ble_eq_true rfl) d_Pr_putPair_4 (by omega) (by omega) (fun w1 H locs hE hP hD hS => ?_)
  subst hE
  have hP : va_P G.1 classes [(a0, .inr (5, [.ref a1, .ref o0_1, .int x0_2, .int x0_3])), (a1, .inr (3, [.ref a2, .int x1_1, .int x1_2])), (a2, .inr (1, [.ref a3, .int x2_1])), (a3, .inl (G.2.1 0, n3, .inl f3))] H := hP
  have hD : va_D A [(a0, .inr (5, [.ref a1, .ref o0_1, .int x0_2, .int x0_3])), (a1, .inr (3, [.ref a2, .int x1_1, .int x1_2])), (a2, .inr (1, [.ref a3, .int x2_1])), (a3, .inl (G.2.1 0, n3, .inl f3))] := hD
  refine lv_istore_n (lv' := [(3, .int r1), (0, .ref a0), (1, .int p1), (2, .int p2)]) hx hb d_Pr_putPair_7 rfl hl (by decide) rfl (fun ls hl => ?_)
  refine lv_aload_n hx hb d_Pr_putPair_8 rfl (lv_at hl 1 rfl) ?_
  refine lv_sipush (v := 257) hx hb d_Pr_putPair_9 (by decide) ?_
  refine lv_iload_n hx hb d_Pr_putPair_12 rfl (lv_at hl 0 rfl) ?_
  refine lv_iadd hx hb d_Pr_putPair_13 ?_
  obtain ⟨r2, k2, z2, kk2, zz2, hc2, h, ek2, ez2⟩ := Bk_e h
  have ekc : 0 + k2 + kk2 = K := by omega
  have ezc : 0 + z2 + zz2 = Z := by omega
  refine xV_v (wr := []) (rest := []) C0 hK hT hA hP hD hS hl.1 (c_Pr_putSymbol l G a0 a1 a2 a3 o0_1 _ x0_2 x0_3 x1_1 x1_2 x2_1 n3 f3 (257 + r1) N r2 k2 z2 hc2) (goodV q227 q228 q229 q29 q230) 1 rfl hd_Pr_putSymbol (Nat.le_trans (by decide) hRf) (Nat.le_trans (by decide) hRl) [0, 1, 2, 3] [] rfl rfl (by decide) (by decide) (by decide) 5 0 rfl rfl rfl (Nat.le_of_ble_eq_true rfl) d_Pr_putPair_14 (by omega) (by omega) (fun w1 H locs hE hP hD hS => ?_)
  obtain ⟨b3, rfl⟩ := hE
  have hP : va_P G.1 classes [(a0, .inr (5, [.ref a1, .ref o0_1, .int x0_2, .int x0_3])), (a1, .inr (3, [.ref a2, .int r2.1, .int r2.2.1])), (a2, .inr (1, [.ref b3, .int r2.2.2.1])), (b3, .inl (G.2.1 0, r2.2.2.2.1, .inl r2.2.2.2.2))] H := hP
  have hD : va_D A [(a0, .inr (5, [.ref a1, .ref o0_1, .int x0_2, .int x0_3])), (a1, .inr (3, [.ref a2, .int r2.1, .int r2.2.1])), (a2, .inr (1, [.ref b3, .int r2.2.2.1])), (b3, .inl (G.2.1 0, r2.2.2.2.1, .inl r2.2.2.2.2))] := hD
  refine lv_aload_n hx hb d_Pr_putPair_17 rfl (lv_at hl 1 rfl) ?_
  refine va_get (D := G.1) (ci := 5) (v := .ref a1) (C := R_Pr) (T := F_Pr) (N := 4) hx hb hts i_Pr hown hK hP 0 rfl rfl 0 (by decide) (hts _ q43) (fun _ h9 => h9) rfl d_Pr_putPair_18 ?_
  refine lv_iload_n hx hb d_Pr_putPair_21 rfl (lv_at hl 2 rfl) ?_
  refine va_getsN hx hb hT.1.1 hS hown (hts _ q220) (fun _ h9 => h9) d_Pr_putPair_22 ?_
  refine lv_iload_n hx hb d_Pr_putPair_25 rfl (lv_at hl 0 rfl) ?_
  obtain ⟨hi4, h⟩ := Ix_e h
  refine va_ti hx hb hT.1.2 hS hi4 (v := .int (tb 0 (r1).toNatClampNeg)) rfl d_Pr_putPair_26 ?_
  refine lv_isub hx hb d_Pr_putPair_27 ?_
  refine va_getsN hx hb hT.2.1.1 hS hown (hts _ q231) (fun _ h9 => h9) d_Pr_putPair_28 ?_
  refine lv_iload_n hx hb d_Pr_putPair_31 rfl (lv_at hl 0 rfl) ?_
  obtain ⟨hi5, h⟩ := Ix_e h
  refine va_ti hx hb hT.2.1.2 hS hi5 (v := .int (tb 1 (r1).toNatClampNeg)) rfl d_Pr_putPair_32 ?_
  obtain ⟨r6, k6, z6, kk6, zz6, hc6, h, ek6, ez6⟩ := Bk_e h
  have ekc : 0 + k2 + k6 + kk6 = K := by omega
  have ezc : 0 + z2 + z6 + zz6 = Z := by omega
  refine xV_v (wr := [(a0, .inr (5, [.ref a1, .ref o0_1, .int x0_2, .int x0_3]))]) (rest := []) C0 hK hT hA hP hD hS hl.1 (c_BW_put l G a1 a2 b3 _ r2.1 r2.2.1 r2.2.2.1 r2.2.2.2.1 r2.2.2.2.2 (p1 - (tb 0 (r1).toNatClampNeg)) (tb 1 (r1).toNatClampNeg) N r6 k6 z6 hc6) (goodV q180 q181 q182 q33 q183) 2 rfl hd_BW_put (Nat.le_trans (by decide) hRf) (Nat.le_trans (by decide) hRl) [1, 2, 3] [0] rfl rfl (by decide) (by decide) (by decide) 3 1 rfl rfl rfl (Nat.le_of_ble_eq_true rfl) d_Pr_putPair_33 (by omega) (by omega) (fun w1 H locs hE hP hD hS => ?_)
  obtain ⟨b7, rfl⟩ := hE
  have hP : va_P G.1 classes [(a0, .inr (5, [.ref a1, .ref o0_1, .int x0_2, .int x0_3])), (a1, .inr (3, [.ref a2, .int r6.1, .int r6.2.1])), (a2, .inr (1, [.ref b7, .int r6.2.2.1])), (b7, .inl (G.2.1 0, r6.2.2.2.1, .inl r6.2.2.2.2))] H := hP
  have hD : va_D A [(a0, .inr (5, [.ref a1, .ref o0_1, .int x0_2, .int x0_3])), (a1, .inr (3, [.ref a2, .int r6.1, .int r6.2.1])), (a2, .inr (1, [.ref b7, .int r6.2.2.1])), (b7, .inl (G.2.1 0, r6.2.2.2.1, .inl r6.2.2.2.2))] := hD
  refine lv_iload_n hx hb d_Pr_putPair_36 rfl (lv_at hl 3 rfl) ?_
  refine va_getsN hx hb hT.2.2.1.1 hS hown (hts _ q232) (fun _ h9 => h9) d_Pr_putPair_37 ?_
  obtain ⟨r8, hc8, h⟩ := Bd_e h
  refine xS_i0 (wr := [(a0, .inr (5, [.ref a1, .ref o0_1, .int x0_2, .int x0_3])), (a1, .inr (3, [.ref a2, .int r6.1, .int r6.2.1])), (a2, .inr (1, [.ref b7, .int r6.2.2.1])), (b7, .inl (G.2.1 0, r6.2.2.2.1, .inl r6.2.2.2.2))]) (rest := []) C0 hK hT hA hP hD hS hl.1 (c_Pr_codeOf_p12 l G  _  p2 N r8 hc8) (goodS q221 q222 q29 q223) 2 rfl hd_Pr_codeOf (Nat.le_trans (by decide) hRf) (Nat.le_trans (by decide) hRl) [] [0, 1, 2, 3] rfl rfl (by decide) (by decide) (by decide) rfl (Nat.le_of_ble_eq_true rfl) d_Pr_putPair_40 (by omega) (by omega) (fun w1 H locs hE hP hD hS => ?_)
  subst hE
  have hP : va_P G.1 classes [(a0, .inr (5, [.ref a1, .ref o0_1, .int x0_2, .int x0_3])), (a1, .inr (3, [.ref a2, .int r6.1, .int r6.2.1])), (a2, .inr (1, [.ref b7, .int r6.2.2.1])), (b7, .inl (G.2.1 0, r6.2.2.2.1, .inl r6.2.2.2.2))] H := hP
  have hD : va_D A [(a0, .inr (5, [.ref a1, .ref o0_1, .int x0_2, .int x0_3])), (a1, .inr (3, [.ref a2, .int r6.1, .int r6.2.1])), (a2, .inr (1, [.ref b7, .int r6.2.2.1])), (b7, .inl (G.2.1 0, r6.2.2.2.1, .inl r6.2.2.2.2))] := hD
  refine lv_istore (lv' := [(4, .int r8), (3, .int r1), (0, .ref a0), (1, .int p1), (2, .int p2)]) hx hb d_Pr_putPair_43 hl (by decide) rfl (fun ls hl => ?_)
  refine lv_aload_n hx hb d_Pr_putPair_45 rfl (lv_at hl 2 rfl) ?_
  refine va_get (D := G.1) (ci := 5) (v := .ref a1) (C := R_Pr) (T := F_Pr) (N := 4) hx hb hts i_Pr hown hK hP 0 rfl rfl 0 (by decide) (hts _ q43) (fun _ h9 => h9) rfl d_Pr_putPair_46 ?_
  refine lv_iload hx hb d_Pr_putPair_49 (lv_at hl 0 rfl) ?_
  refine lv_iconst (v := 5) hx hb d_Pr_putPair_51 (by decide) ?_
  obtain ⟨r9, hc9, h⟩ := Bd_e h
  refine xS_i0 (wr := [(a0, .inr (5, [.ref a1, .ref o0_1, .int x0_2, .int x0_3])), (a1, .inr (3, [.ref a2, .int r6.1, .int r6.2.1])), (a2, .inr (1, [.ref b7, .int r6.2.2.1])), (b7, .inl (G.2.1 0, r6.2.2.2.1, .inl r6.2.2.2.2))]) (rest := [.ref a1]) C0 hK hT hA hP hD hS hl.1 (c_Pr_reversed l G  _  r8 5 N r9 hc9) (goodS q224 q225 q29 q226) 2 rfl hd_Pr_reversed (Nat.le_trans (by decide) hRf) (Nat.le_trans (by decide) hRl) [] [0, 1, 2, 3] rfl rfl (by decide) (by decide) (by decide) rfl (Nat.le_of_ble_eq_true rfl) d_Pr_putPair_52 (by omega) (by omega) (fun w1 H locs hE hP hD hS => ?_)
  subst hE
  have hP : va_P G.1 classes [(a0, .inr (5, [.ref a1, .ref o0_1, .int x0_2, .int x0_3])), (a1, .inr (3, [.ref a2, .int r6.1, .int r6.2.1])), (a2, .inr (1, [.ref b7, .int r6.2.2.1])), (b7, .inl (G.2.1 0, r6.2.2.2.1, .inl r6.2.2.2.2))] H := hP
  have hD : va_D A [(a0, .inr (5, [.ref a1, .ref o0_1, .int x0_2, .int x0_3])), (a1, .inr (3, [.ref a2, .int r6.1, .int r6.2.1])), (a2, .inr (1, [.ref b7, .int r6.2.2.1])), (b7, .inl (G.2.1 0, r6.2.2.2.1, .inl r6.2.2.2.2))] := hD
  refine lv_iconst (v := 5) hx hb d_Pr_putPair_55 (by decide) ?_
  obtain ⟨r10, k10, z10, kk10, zz10, hc10, h, ek10, ez10⟩ := Bk_e h
  have ekc : 0 + k2 + k6 + k10 + kk10 = K := by omega
  have ezc : 0 + z2 + z6 + z10 + zz10 = Z := by omega
  refine xV_v (wr := [(a0, .inr (5, [.ref a1, .ref o0_1, .int x0_2, .int x0_3]))]) (rest := []) C0 hK hT hA hP hD hS hl.1 (c_BW_put l G a1 a2 b7 _ r6.1 r6.2.1 r6.2.2.1 r6.2.2.2.1 r6.2.2.2.2 r9 5 N r10 k10 z10 hc10) (goodV q180 q181 q182 q33 q183) 2 rfl hd_BW_put (Nat.le_trans (by decide) hRf) (Nat.le_trans (by decide) hRl) [1, 2, 3] [0] rfl rfl (by decide) (by decide) (by decide) 3 1 rfl rfl rfl (Nat.le_of_ble_eq_true rfl) d_Pr_putPair_56 (by omega) (by omega) (fun w1 H locs hE hP hD hS => ?_)
  obtain ⟨b11, rfl⟩ := hE
  have hP : va_P G.1 classes [(a0, .inr (5, [.ref a1, .ref o0_1, .int x0_2, .int x0_3])), (a1, .inr (3, [.ref a2, .int r10.1, .int r10.2.1])), (a2, .inr (1, [.ref b11, .int r10.2.2.1])), (b11, .inl (G.2.1 0, r10.2.2.2.1, .inl r10.2.2.2.2))] H := hP
  have hD : va_D A [(a0, .inr (5, [.ref a1, .ref o0_1, .int x0_2, .int x0_3])), (a1, .inr (3, [.ref a2, .int r10.1, .int r10.2.1])), (a2, .inr (1, [.ref b11, .int r10.2.2.1])), (b11, .inl (G.2.1 0, r10.2.2.2.1, .inl r10.2.2.2.2))] := hD
  refine lv_aload_n hx hb d_Pr_putPair_59 rfl (lv_at hl 2 rfl) ?_
  refine va_get (D := G.1) (ci := 5) (v := .ref a1) (C := R_Pr) (T := F_Pr) (N := 4) hx hb hts i_Pr hown hK hP 0 rfl rfl 0 (by decide) (hts _ q43) (fun _ h9 => h9) rfl d_Pr_putPair_60 ?_
  refine lv_iload_n hx hb d_Pr_putPair_63 rfl (lv_at hl 4 rfl) ?_
  refine va_getsN hx hb hT.2.2.1.1 hS hown (hts _ q232) (fun _ h9 => h9) d_Pr_putPair_64 ?_
  refine lv_iload hx hb d_Pr_putPair_67 (lv_at hl 0 rfl) ?_
  obtain ⟨hi12, h⟩ := Ix_e h
  refine va_ti hx hb hT.2.2.1.2 hS hi12 (v := .int (tb 2 (r8).toNatClampNeg)) rfl d_Pr_putPair_69 ?_
  refine lv_isub hx hb d_Pr_putPair_70 ?_
  refine va_getsN hx hb hT.2.2.2.1.1 hS hown (hts _ q233) (fun _ h9 => h9) d_Pr_putPair_71 ?_
  refine lv_iload hx hb d_Pr_putPair_74 (lv_at hl 0 rfl) ?_
  obtain ⟨hi13, h⟩ := Ix_e h
  refine va_ti hx hb hT.2.2.2.1.2 hS hi13 (v := .int (tb 3 (r8).toNatClampNeg)) rfl d_Pr_putPair_76 ?_
  obtain ⟨r14, k14, z14, kk14, zz14, hc14, h, ek14, ez14⟩ := Bk_e h
  have ekc : 0 + k2 + k6 + k10 + k14 + kk14 = K := by omega
  have ezc : 0 + z2 + z6 + z10 + z14 + zz14 = Z := by omega
  refine xV_v (wr := [(a0, .inr (5, [.ref a1, .ref o0_1, .int x0_2, .int x0_3]))]) (rest := []) C0 hK hT hA hP hD hS hl.1 (c_BW_put l G a1 a2 b11 _ r10.1 r10.2.1 r10.2.2.1 r10.2.2.2.1 r10.2.2.2.2 (p2 - (tb 2 (r8).toNatClampNeg)) (tb 3 (r8).toNatClampNeg) N r14 k14 z14 hc14) (goodV q180 q181 q182 q33 q183) 2 rfl hd_BW_put (Nat.le_trans (by decide) hRf) (Nat.le_trans (by decide) hRl) [1, 2, 3] [0] rfl rfl (by decide) (by decide) (by decide) 3 1 rfl rfl rfl (Nat.le_of_ble_eq_true rfl) d_Pr_putPair_77 (by omega) (by omega) (fun w1 H locs hE hP hD hS => ?_)
  obtain ⟨b15, rfl⟩ := hE
  have hP : va_P G.1 classes [(a0, .inr (5, [.ref a1, .ref o0_1, .int x0_2, .int x0_3])), (a1, .inr (3, [.ref a2, .int r14.1, .int r14.2.1])), (a2, .inr (1, [.ref b15, .int r14.2.2.1])), (b15, .inl (G.2.1 0, r14.2.2.2.1, .inl r14.2.2.2.2))] H := hP
  have hD : va_D A [(a0, .inr (5, [.ref a1, .ref o0_1, .int x0_2, .int x0_3])), (a1, .inr (3, [.ref a2, .int r14.1, .int r14.2.1])), (a2, .inr (1, [.ref b15, .int r14.2.2.1])), (b15, .inl (G.2.1 0, r14.2.2.2.1, .inl r14.2.2.2.2))] := hD
  obtain ⟨eV, ek, ez⟩ := so3 h
  subst eV
  exact x_vret C0 hQ hP hD hS ⟨b15, rfl⟩ (by omega) (by omega) d_Pr_putPair_80
set_option maxHeartbeats 4000000 in
set_option maxRecDepth 100000 in
theorem w_Fi_note_17 {p : Program} {l : Launch} {e : Env} {R : Room} {s : State} {m : MethodId} {args : Array Value} {below : List Frame} {meth : Method} {c : Code} {Q : State → Prop} {G : GX} {A : Nat → Prop} (C0 : Cx p s m args meth c b_Fi_note 8 y_Fi_note none) (hRf : 1 ≤ R.frames) (hRl : 22 ≤ R.locals) (hA : ∀ q, s.heap.size ≤ q → A q) (hK : KX G s) (hT : TX G A s) (N : Nat) (i5 : Int32) (y0_2 : Int32) (y0_3 : Int32) (m1 : Nat) (m2 : Nat) (m3 : Nat) (g_3 : (Nat → Int32)) (c0 c1 c2 c3 : Nat) (out : (Nat → Int32) × (Nat → Int32)) {kc ks : Nat} (hkc : kc ≤ R.cells) (hks : ks ≤ R.slots)
    (kx61 : ∀ (H : Heap) (locs : List Loc) (ls : Array Slot), va_P G.1 classes [(c0, .inr (4, [.ref c1, .ref c2, .int y0_2, .int y0_3])), (c1, .inl (G.2.1 1, m1, .inl out.1)), (c2, .inl (G.2.1 1, m2, .inl out.2)), (c3, .inl (G.2.1 0, m3, .inl g_3))] H → va_D A [(c0, .inr (4, [.ref c1, .ref c2, .int y0_2, .int y0_3])), (c1, .inl (G.2.1 1, m1, .inl out.1)), (c2, .inl (G.2.1 1, m2, .inl out.2)), (c3, .inl (G.2.1 0, m3, .inl g_3))] → va_S A s.heap H locs → lv_has ls 8 [] → W p l e R s m args below meth c H locs kc ks Q (F0 m 61 ls [])) :
    ∀ (n : Nat) (i6 : Int32) (g_1 : (Nat → Int32)) (g_2 : (Nat → Int32)) (H : Heap) (locs : List Loc) (ls : Array Slot), lp_Fi_note_17 N i5 m1 m2 m3 g_3 n i6 g_1 g_2 = some out → va_P G.1 classes [(c0, .inr (4, [.ref c1, .ref c2, .int y0_2, .int y0_3])), (c1, .inl (G.2.1 1, m1, .inl g_1)), (c2, .inl (G.2.1 1, m2, .inl g_2)), (c3, .inl (G.2.1 0, m3, .inl g_3))] H → va_D A [(c0, .inr (4, [.ref c1, .ref c2, .int y0_2, .int y0_3])), (c1, .inl (G.2.1 1, m1, .inl g_1)), (c2, .inl (G.2.1 1, m2, .inl g_2)), (c3, .inl (G.2.1 0, m3, .inl g_3))] → va_S A s.heap H locs → lv_has ls 8 [(0, .ref c0), (1, .ref c3), (5, .int i5), (6, .int i6)] → W p l e R s m args below meth c H locs kc ks Q (F0 m 17 ls []) := by
  obtain ⟨hx, hb, hml, hown, hts, hr, hlocks, hin⟩ := id C0
  have hown : s.vm.findClass R_Fi = some m.cls := hown
  intro n
  induction n with
  | zero => intro i6 g_1 g_2 H locs ls h; cases h
  | succ n ih =>
    intro i6 g_1 g_2 H locs ls h hP hD hS hl
    replace h : lb_Fi_note_17 N i5 m1 m2 m3 g_3 (lp_Fi_note_17 N i5 m1 m2 m3 g_3 n) i6 g_1 g_2 = some out := h
    unfold lb_Fi_note_17 at h
    refine lv_iload hx hb d_Fi_note_17 (lv_at hl 3 rfl) ?_
    refine lv_iload hx hb d_Fi_note_19 (lv_at hl 2 rfl) ?_
    refine lv_icmp_ge (tgt := 61) hx hb d_Fi_note_21 (by decide) (fun cq10 => ?_) (fun cq10 => ?_)
    · replace h := (if_pos cq10).symm.trans h
      have eV := so1 h
      subst eV
      exact kx61 _ _ _ hP hD hS (lv_sub hl [] rfl)
    · replace h := (if_neg cq10).symm.trans h
      refine lv_aload_n hx hb d_Fi_note_24 rfl (lv_at hl 1 rfl) ?_
      refine lv_iload hx hb d_Fi_note_25 (lv_at hl 3 rfl) ?_
      obtain ⟨r11, hc11, h⟩ := Bd_e h
      refine xS_i0 (wr := [(c0, .inr (4, [.ref c1, .ref c2, .int y0_2, .int y0_3])), (c1, .inl (G.2.1 1, m1, .inl g_1)), (c2, .inl (G.2.1 1, m2, .inl g_2))]) (rest := []) C0 hK hT hA hP hD hS hl.1 (c_Fi_slot l G c3 _ m3 g_3 i6 N r11 hc11) (goodS q198 q199 q46 q200) 2 rfl hd_Fi_slot (Nat.le_trans (by decide) hRf) (Nat.le_trans (by decide) hRl) [3] [0, 1, 2] rfl rfl (by decide) (by decide) (by decide) rfl (Nat.le_of_ble_eq_true rfl) d_Fi_note_27 hkc hks (fun w1 H locs hE hP hD hS => ?_)
      subst hE
      have hP : va_P G.1 classes [(c0, .inr (4, [.ref c1, .ref c2, .int y0_2, .int y0_3])), (c1, .inl (G.2.1 1, m1, .inl g_1)), (c2, .inl (G.2.1 1, m2, .inl g_2)), (c3, .inl (G.2.1 0, m3, .inl g_3))] H := hP
      have hD : va_D A [(c0, .inr (4, [.ref c1, .ref c2, .int y0_2, .int y0_3])), (c1, .inl (G.2.1 1, m1, .inl g_1)), (c2, .inl (G.2.1 1, m2, .inl g_2)), (c3, .inl (G.2.1 0, m3, .inl g_3))] := hD
      refine lv_istore (lv' := [(7, .int r11), (0, .ref c0), (1, .ref c3), (5, .int i5), (6, .int i6)]) hx hb d_Fi_note_30 hl (by decide) rfl (fun ls hl => ?_)
      refine lv_aload_n hx hb d_Fi_note_32 rfl (lv_at hl 1 rfl) ?_
      refine va_get (D := G.1) (ci := 4) (v := .ref c2) (C := R_Fi) (T := F_Fi) (N := 4) hx hb hts i_Fi hown hK hP 0 rfl rfl 1 (by decide) (hts _ q49) (fun _ h9 => h9) rfl d_Fi_note_33 ?_
      refine lv_iload hx hb d_Fi_note_36 (lv_at hl 4 rfl) ?_
      refine lv_aload_n hx hb d_Fi_note_38 rfl (lv_at hl 1 rfl) ?_
      refine va_get (D := G.1) (ci := 4) (v := .ref c1) (C := R_Fi) (T := F_Fi) (N := 4) hx hb hts i_Fi hown hK hP 0 rfl rfl 0 (by decide) (hts _ q48) (fun _ h9 => h9) rfl d_Fi_note_39 ?_
      refine lv_iload hx hb d_Fi_note_42 (lv_at hl 0 rfl) ?_
      obtain ⟨hi12, h⟩ := Ix_e h
      refine va_iald hx hb hK hP 1 1 rfl rfl hi12 d_Fi_note_44 ?_
      obtain ⟨hi13, h⟩ := Ix_e h
      refine y_iast hx hb hK hP hD hS 2 1 rfl rfl hi13 d_Fi_note_45 (fun g14 H locs eg14 hP hD hS => ?_)
      replace h := Lt_e h eg14
      have hP : va_P G.1 classes [(c0, .inr (4, [.ref c1, .ref c2, .int y0_2, .int y0_3])), (c1, .inl (G.2.1 1, m1, .inl g_1)), (c2, .inl (G.2.1 1, m2, .inl g14)), (c3, .inl (G.2.1 0, m3, .inl g_3))] H := hP
      have hD : va_D A [(c0, .inr (4, [.ref c1, .ref c2, .int y0_2, .int y0_3])), (c1, .inl (G.2.1 1, m1, .inl g_1)), (c2, .inl (G.2.1 1, m2, .inl g14)), (c3, .inl (G.2.1 0, m3, .inl g_3))] := hD
      refine lv_aload_n hx hb d_Fi_note_46 rfl (lv_at hl 1 rfl) ?_
      refine va_get (D := G.1) (ci := 4) (v := .ref c1) (C := R_Fi) (T := F_Fi) (N := 4) hx hb hts i_Fi hown hK hP 0 rfl rfl 0 (by decide) (hts _ q48) (fun _ h9 => h9) rfl d_Fi_note_47 ?_
      refine lv_iload hx hb d_Fi_note_50 (lv_at hl 0 rfl) ?_
      refine lv_iload hx hb d_Fi_note_52 (lv_at hl 4 rfl) ?_
      obtain ⟨hi15, h⟩ := Ix_e h
      refine y_iast hx hb hK hP hD hS 1 1 rfl rfl hi15 d_Fi_note_54 (fun g16 H locs eg16 hP hD hS => ?_)
      replace h := Lt_e h eg16
      have hP : va_P G.1 classes [(c0, .inr (4, [.ref c1, .ref c2, .int y0_2, .int y0_3])), (c1, .inl (G.2.1 1, m1, .inl g16)), (c2, .inl (G.2.1 1, m2, .inl g14)), (c3, .inl (G.2.1 0, m3, .inl g_3))] H := hP
      have hD : va_D A [(c0, .inr (4, [.ref c1, .ref c2, .int y0_2, .int y0_3])), (c1, .inl (G.2.1 1, m1, .inl g16)), (c2, .inl (G.2.1 1, m2, .inl g14)), (c3, .inl (G.2.1 0, m3, .inl g_3))] := hD
      obtain ⟨v17, ev17⟩ : ∃ y : Int32, y = i6 + 1 := ⟨_, rfl⟩
      replace h := Lt_e h ev17
      refine lv_iinc (v := v17) (lv' := [(6, .int v17), (7, .int r11), (0, .ref c0), (1, .ref c3), (5, .int i5)]) hx hb d_Fi_note_55 hl (k := 4) rfl (by rw [ev17]; rfl) (by decide) rfl (fun ls hl => ?_)
      refine lv_goto (tgt := 17) hx hb d_Fi_note_58 (by decide) ?_
      exact ih v17 g16 g14  _ _ _ h hP hD hS (lv_sub hl [2, 3, 4, 0] rfl)
set_option maxHeartbeats 4000000 in
set_option maxRecDepth 100000 in
theorem c_Fi_note (l : Launch) (G : GX) (a0 a1 a2 a3 : Nat) (sz : Nat) (n0 : Nat) (f0 : (Nat → Int32)) (x1_2 : Int32) (x1_3 : Int32) (n2 : Nat) (f2 : (Nat → Int32)) (n3 : Nat) (f3 : (Nat → Int32)) (p2 : Int32) (p3 : Int32) (p4 : Int32) (N : Nat) (V : (Nat → Int32) × (Nat → Int32)) (h : f_Fi_note N n0 f0 n2 f2 n3 f3 p2 p3 p4 = some V) :
    Met l y_Fi_note (wd y_Fi_note b_Fi_note 8 none) { frames := 1, cells := 0, slots := 0, locals := 22 } (PX G [.ref a1, .ref a0, .int p2, .int p3, .int p4] sz [(a0, .inl (G.2.1 0, n0, .inl f0)), (a1, .inr (4, [.ref a2, .ref a3, .int x1_2, .int x1_3])), (a2, .inl (G.2.1 1, n2, .inl f2)), (a3, .inl (G.2.1 1, n3, .inl f3))])
      (QXv G (fun w => w = [(a0, .inl (G.2.1 0, n0, .inl f0)), (a1, .inr (4, [.ref a2, .ref a3, .int x1_2, .int x1_3])), (a2, .inl (G.2.1 1, n2, .inl V.1)), (a3, .inl (G.2.1 1, n3, .inl V.2))]) (va_A [(a0, .inl (G.2.1 0, n0, .inl f0)), (a1, .inr (4, [.ref a2, .ref a3, .int x1_2, .int x1_3])), (a2, .inl (G.2.1 1, n2, .inl f2)), (a3, .inl (G.2.1 1, n3, .inl f3))] sz)) 0 0 (va_A [(a0, .inl (G.2.1 0, n0, .inl f0)), (a1, .inr (4, [.ref a2, .ref a3, .int x1_2, .int x1_3])), (a2, .inl (G.2.1 1, n2, .inl f2)), (a3, .inl (G.2.1 1, n3, .inl f3))] sz) := by
  refine Met_in (QQ := fun A => QXv G (fun w => w = [(a0, .inl (G.2.1 0, n0, .inl f0)), (a1, .inr (4, [.ref a2, .ref a3, .int x1_2, .int x1_3])), (a2, .inl (G.2.1 1, n2, .inl V.1)), (a3, .inl (G.2.1 1, n3, .inl V.2))]) A) (by decide) (Nat.le_of_ble_eq_true rfl) (fun p e s m below meth c R Q A ls C0 hRf hRl hRc hRs hP hK hD hT hA hS hl hQ => ?_)
  obtain ⟨hx, hb, hml, hown, hts, hr, hlocks, hin⟩ := id C0
  have hown : s.vm.findClass R_Fi = some m.cls := hown
  have hl : lv_has ls 8 [(0, .ref a1), (1, .ref a0), (2, .int p2), (3, .int p3), (4, .int p4)] := hl
  unfold f_Fi_note at h
  have hkc : 0 ≤ R.cells := Nat.zero_le _
  have hks : 0 ≤ R.slots := Nat.zero_le _
  obtain ⟨H, hH⟩ : ∃ H, H = s.heap := ⟨_, rfl⟩
  obtain ⟨locs, hlc⟩ : ∃ x : List Loc, x = [] := ⟨_, rfl⟩
  rw [← hH] at hP
  have hS : va_S A s.heap H locs := by rw [hH, hlc]; exact hS
  suffices hgo : W p l e R s m [.ref a1, .ref a0, .int p2, .int p3, .int p4].toArray below meth c H locs 0 0 Q (F0 m 0 ls []) by rw [hH, hlc] at hgo; exact hgo
  refine lv_iload_n hx hb d_Fi_note_0 rfl (lv_at hl 3 rfl) ?_
  refine lv_iload hx hb d_Fi_note_1 (lv_at hl 4 rfl) ?_
  refine lv_iadd hx hb d_Fi_note_3 ?_
  refine lv_iload_n hx hb d_Fi_note_4 rfl (lv_at hl 2 rfl) ?_
  refine lv_iconst (v := 3) hx hb d_Fi_note_5 (by decide) ?_
  refine lv_isub hx hb d_Fi_note_6 ?_
  refine lv_iconst (v := 1) hx hb d_Fi_note_7 (by decide) ?_
  refine lv_iadd hx hb d_Fi_note_8 ?_
  refine va_mmin hx hb (hml.trans hl.1.symm) hown (hts _ q190) (hts _ q116) (hts _ q117) (hts _ q118) (Nat.le_trans (by decide) hRf) (Nat.le_trans (Nat.le_of_ble_eq_true rfl) hRl) hkc hks d_Fi_note_9 ?_
  refine lv_topi (fun v1 ev1 => ?_)
  replace h := Lt_e h ev1
  refine lv_istore (lv' := [(5, .int v1), (0, .ref a1), (1, .ref a0), (2, .int p2), (3, .int p3), (4, .int p4)]) hx hb d_Fi_note_12 hl (by decide) rfl (fun ls hl => ?_)
  refine lv_iload_n hx hb d_Fi_note_14 rfl (lv_at hl 4 rfl) ?_
  refine lv_istore (lv' := [(6, .int p3), (5, .int v1), (0, .ref a1), (1, .ref a0), (2, .int p2), (3, .int p3), (4, .int p4)]) hx hb d_Fi_note_15 hl (by decide) rfl (fun ls hl => ?_)
  obtain ⟨r18, hc18, h⟩ := Bd_e h
  refine w_Fi_note_17 C0 hRf hRl hA hK hT N v1 x1_2 x1_3 n2 n3 n0 f0 a1 a2 a3 a0 r18 (kc := 0) (ks := 0) hkc hks ?_ N p3 f2 f3  _ _ _ hc18 (hP.sub (ws' := [(a1, .inr (4, [.ref a2, .ref a3, .int x1_2, .int x1_3])), (a2, .inl (G.2.1 1, n2, .inl f2)), (a3, .inl (G.2.1 1, n3, .inl f3)), (a0, .inl (G.2.1 0, n0, .inl f0))]) [1, 2, 3, 0] rfl) (hD.sub (ws' := [(a1, .inr (4, [.ref a2, .ref a3, .int x1_2, .int x1_3])), (a2, .inl (G.2.1 1, n2, .inl f2)), (a3, .inl (G.2.1 1, n3, .inl f3)), (a0, .inl (G.2.1 0, n0, .inl f0))]) [1, 2, 3, 0] (by decide) rfl) hS (lv_sub hl [2, 3, 1, 0] rfl)
  · intro H locs ls hP hD hS hl
    have eV := so1 h
    subst eV
    exact x_vret C0 hQ (hP.sub (ws' := [(a0, .inl (G.2.1 0, n0, .inl f0)), (a1, .inr (4, [.ref a2, .ref a3, .int x1_2, .int x1_3])), (a2, .inl (G.2.1 1, n2, .inl r18.1)), (a3, .inl (G.2.1 1, n3, .inl r18.2))]) [3, 0, 1, 2] rfl) (hD.sub (ws' := [(a0, .inl (G.2.1 0, n0, .inl f0)), (a1, .inr (4, [.ref a2, .ref a3, .int x1_2, .int x1_3])), (a2, .inl (G.2.1 1, n2, .inl r18.1)), (a3, .inl (G.2.1 1, n3, .inl r18.2))]) [3, 0, 1, 2] (by decide) rfl) hS rfl (Nat.zero_le _) (Nat.zero_le _) d_Fi_note_61
set_option maxHeartbeats 4000000 in
set_option maxRecDepth 100000 in
theorem c_BW_fillByte (l : Launch) (G : GX) (a0 a1 a2 : Nat) (sz : Nat) (x0_1 : Int32) (x0_2 : Int32) (x1_1 : Int32) (n2 : Nat) (f2 : (Nat → Int32))  (N : Nat) (V : Int32 × Int32 × Int32 × Nat × (Nat → Int32)) (K Z : Nat) (h : f_BW_fillByte N x0_1 x0_2 x1_1 n2 f2 = some (V, K, Z)) :
    Met l y_BW_fillByte (wd y_BW_fillByte b_BW_fillByte 1 none) { frames := 5, cells := K, slots := Z, locals := 147 } (PX G [.ref a0] sz [(a0, .inr (3, [.ref a1, .int x0_1, .int x0_2])), (a1, .inr (1, [.ref a2, .int x1_1])), (a2, .inl (G.2.1 0, n2, .inl f2))])
      (QXv G (fun w => ∃ e0 : Nat, w = [(a0, .inr (3, [.ref a1, .int V.1, .int V.2.1])), (a1, .inr (1, [.ref e0, .int V.2.2.1])), (e0, .inl (G.2.1 0, V.2.2.2.1, .inl V.2.2.2.2))]) (va_A [(a0, .inr (3, [.ref a1, .int x0_1, .int x0_2])), (a1, .inr (1, [.ref a2, .int x1_1])), (a2, .inl (G.2.1 0, n2, .inl f2))] sz)) K Z (va_A [(a0, .inr (3, [.ref a1, .int x0_1, .int x0_2])), (a1, .inr (1, [.ref a2, .int x1_1])), (a2, .inl (G.2.1 0, n2, .inl f2))] sz) := by
  refine Met_in (QQ := fun A => QXv G (fun w => ∃ e0 : Nat, w = [(a0, .inr (3, [.ref a1, .int V.1, .int V.2.1])), (a1, .inr (1, [.ref e0, .int V.2.2.1])), (e0, .inl (G.2.1 0, V.2.2.2.1, .inl V.2.2.2.2))]) A) (by decide) (Nat.le_of_ble_eq_true rfl) (fun p e s m below meth c R Q A ls C0 hRf hRl hRc hRs hP hK hD hT hA hS hl hQ => ?_)
  obtain ⟨hx, hb, hml, hown, hts, hr, hlocks, hin⟩ := id C0
  have hown : s.vm.findClass R_BW = some m.cls := hown
  have hl : lv_has ls 1 [(0, .ref a0)] := hl
  unfold f_BW_fillByte at h
  have hKT : K ≤ R.cells := Nat.le_of_eq hRc.symm
  have hZT : Z ≤ R.slots := Nat.le_of_eq hRs.symm
  have ekc : 0 + K = K := by omega
  have ezc : 0 + Z = Z := by omega
  obtain ⟨H, hH⟩ : ∃ H, H = s.heap := ⟨_, rfl⟩
  obtain ⟨locs, hlc⟩ : ∃ x : List Loc, x = [] := ⟨_, rfl⟩
  rw [← hH] at hP
  have hS : va_S A s.heap H locs := by rw [hH, hlc]; exact hS
  suffices hgo : W p l e R s m [.ref a0].toArray below meth c H locs 0 0 Q (F0 m 0 ls []) by rw [hH, hlc] at hgo; exact hgo
  refine lv_aload_n hx hb d_BW_fillByte_0 rfl (lv_at hl 0 rfl) ?_
  refine lv_iconst (v := 0) hx hb d_BW_fillByte_1 (by decide) ?_
  refine lv_aload_n hx hb d_BW_fillByte_2 rfl (lv_at hl 0 rfl) ?_
  refine va_get (D := G.1) (ci := 3) (v := .int x0_2) (C := R_BW) (T := F_BW) (N := 3) hx hb hts i_BW hown hK hP 0 rfl rfl 2 (by decide) (hts _ q39) (fun _ h9 => h9) rfl d_BW_fillByte_3 ?_
  refine lv_ineg hx hb d_BW_fillByte_6 ?_
  refine lv_bipush (v := 7) hx hb d_BW_fillByte_7 (by decide) ?_
  refine lv_iand hx hb d_BW_fillByte_9 ?_
  obtain ⟨r1, k1, z1, kk1, zz1, hc1, h, ek1, ez1⟩ := Bk_e h
  have ekc : 0 + k1 + kk1 = K := by omega
  have ezc : 0 + z1 + zz1 = Z := by omega
  refine xV_v (wr := []) (rest := []) C0 hK hT hA hP hD hS hl.1 (c_BW_put l G a0 a1 a2 _ x0_1 x0_2 x1_1 n2 f2 0 ((-x0_2) &&& 7) N r1 k1 z1 hc1) (goodV q243 q181 q182 q33 q183) 2 rfl hd_BW_put (Nat.le_trans (by decide) hRf) (Nat.le_trans (by decide) hRl) [0, 1, 2] [] rfl rfl (by decide) (by decide) (by decide) 3 0 rfl rfl rfl (Nat.le_of_ble_eq_true rfl) d_BW_fillByte_10 (by omega) (by omega) (fun w1 H locs hE hP hD hS => ?_)
  obtain ⟨b2, rfl⟩ := hE
  have hP : va_P G.1 classes [(a0, .inr (3, [.ref a1, .int r1.1, .int r1.2.1])), (a1, .inr (1, [.ref b2, .int r1.2.2.1])), (b2, .inl (G.2.1 0, r1.2.2.2.1, .inl r1.2.2.2.2))] H := hP
  have hD : va_D A [(a0, .inr (3, [.ref a1, .int r1.1, .int r1.2.1])), (a1, .inr (1, [.ref b2, .int r1.2.2.1])), (b2, .inl (G.2.1 0, r1.2.2.2.1, .inl r1.2.2.2.2))] := hD
  obtain ⟨eV, ek, ez⟩ := so3 h
  subst eV
  exact x_vret C0 hQ hP hD hS ⟨b2, rfl⟩ (by omega) (by omega) d_BW_fillByte_13
set_option maxHeartbeats 4000000 in
set_option maxRecDepth 100000 in
theorem w_Row_adler32_6 {p : Program} {l : Launch} {e : Env} {R : Room} {s : State} {m : MethodId} {args : Array Value} {below : List Frame} {meth : Method} {c : Code} {Q : State → Prop} {G : GX} {A : Nat → Prop} (C0 : Cx p s m args meth c b_Row_adler32 4 y_Row_adler32 (some .int)) (hRf : 0 ≤ R.frames) (hRl : 0 ≤ R.locals) (hA : ∀ q, s.heap.size ≤ q → A q) (hK : KX G s) (hT : TX G A s) (N : Nat) (y0_1 : Int32) (m1 : Nat) (g_1 : (Nat → Int32)) (c0 c1 : Nat) (out : Int32 × Int32) {kc ks : Nat} (hkc : kc ≤ R.cells) (hks : ks ≤ R.slots)
    (kx43 : ∀ (H : Heap) (locs : List Loc) (ls : Array Slot), va_P G.1 classes [(c0, .inr (1, [.ref c1, .int y0_1])), (c1, .inl (G.2.1 0, m1, .inl g_1))] H → va_D A [(c0, .inr (1, [.ref c1, .int y0_1])), (c1, .inl (G.2.1 0, m1, .inl g_1))] → va_S A s.heap H locs → lv_has ls 4 [(1, .int out.1), (2, .int out.2)] → W p l e R s m args below meth c H locs kc ks Q (F0 m 43 ls [])) :
    ∀ (n : Nat) (i1 : Int32) (i2 : Int32) (i3 : Int32) (H : Heap) (locs : List Loc) (ls : Array Slot), lp_Row_adler32_6 N y0_1 m1 g_1 n i1 i2 i3 = some out → va_P G.1 classes [(c0, .inr (1, [.ref c1, .int y0_1])), (c1, .inl (G.2.1 0, m1, .inl g_1))] H → va_D A [(c0, .inr (1, [.ref c1, .int y0_1])), (c1, .inl (G.2.1 0, m1, .inl g_1))] → va_S A s.heap H locs → lv_has ls 4 [(0, .ref c0), (1, .int i1), (2, .int i2), (3, .int i3)] → W p l e R s m args below meth c H locs kc ks Q (F0 m 6 ls []) := by
  obtain ⟨hx, hb, hml, hown, hts, hr, hlocks, hin⟩ := id C0
  have hown : s.vm.findClass R_Row = some m.cls := hown
  intro n
  induction n with
  | zero => intro i1 i2 i3 H locs ls h; cases h
  | succ n ih =>
    intro i1 i2 i3 H locs ls h hP hD hS hl
    replace h : lb_Row_adler32_6 N y0_1 m1 g_1 (lp_Row_adler32_6 N y0_1 m1 g_1 n) i1 i2 i3 = some out := h
    unfold lb_Row_adler32_6 at h
    refine lv_iload_n hx hb d_Row_adler32_6 rfl (lv_at hl 3 rfl) ?_
    refine lv_aload_n hx hb d_Row_adler32_7 rfl (lv_at hl 0 rfl) ?_
    refine va_get (D := G.1) (ci := 1) (v := .int y0_1) (C := R_Row) (T := F_Row) (N := 2) hx hb hts i_Row hown hK hP 0 rfl rfl 1 (by decide) (hts _ q9) (fun _ h9 => h9) rfl d_Row_adler32_8 ?_
    refine lv_icmp_ge (tgt := 43) hx hb d_Row_adler32_11 (by decide) (fun cq6 => ?_) (fun cq6 => ?_)
    · replace h := (if_pos cq6).symm.trans h
      have eV := so1 h
      subst eV
      exact kx43 _ _ _ hP hD hS (lv_sub hl [1, 2] rfl)
    · replace h := (if_neg cq6).symm.trans h
      refine lv_iload_n hx hb d_Row_adler32_14 rfl (lv_at hl 1 rfl) ?_
      refine lv_aload_n hx hb d_Row_adler32_15 rfl (lv_at hl 0 rfl) ?_
      refine va_get (D := G.1) (ci := 1) (v := .ref c1) (C := R_Row) (T := F_Row) (N := 2) hx hb hts i_Row hown hK hP 0 rfl rfl 0 (by decide) (hts _ q8) (fun _ h9 => h9) rfl d_Row_adler32_16 ?_
      refine lv_iload_n hx hb d_Row_adler32_19 rfl (lv_at hl 3 rfl) ?_
      obtain ⟨hi7, h⟩ := Ix_e h
      refine va_bald hx hb hK hP 1 0 rfl rfl hi7 d_Row_adler32_20 ?_
      refine lv_sipush (v := 255) hx hb d_Row_adler32_21 (by decide) ?_
      refine lv_iand hx hb d_Row_adler32_24 ?_
      refine lv_iadd hx hb d_Row_adler32_25 ?_
      refine lv_ldc (v := 65521) hx hb hown (hts _ q248) d_Row_adler32_26 ?_
      refine lv_irem hx hb d_Row_adler32_28 (by decide) ?_
      refine lv_topi (fun v8 ev8 => ?_)
      replace h := Lt_e h ev8
      refine lv_istore_n (lv' := [(1, .int v8), (0, .ref c0), (2, .int i2), (3, .int i3)]) hx hb d_Row_adler32_29 rfl hl (by decide) rfl (fun ls hl => ?_)
      refine lv_iload_n hx hb d_Row_adler32_30 rfl (lv_at hl 2 rfl) ?_
      refine lv_iload_n hx hb d_Row_adler32_31 rfl (lv_at hl 0 rfl) ?_
      refine lv_iadd hx hb d_Row_adler32_32 ?_
      refine lv_ldc (v := 65521) hx hb hown (hts _ q248) d_Row_adler32_33 ?_
      refine lv_irem hx hb d_Row_adler32_35 (by decide) ?_
      refine lv_topi (fun v9 ev9 => ?_)
      replace h := Lt_e h ev9
      refine lv_istore_n (lv' := [(2, .int v9), (1, .int v8), (0, .ref c0), (3, .int i3)]) hx hb d_Row_adler32_36 rfl hl (by decide) rfl (fun ls hl => ?_)
      obtain ⟨v10, ev10⟩ : ∃ y : Int32, y = i3 + 1 := ⟨_, rfl⟩
      replace h := Lt_e h ev10
      refine lv_iinc (v := v10) (lv' := [(3, .int v10), (2, .int v9), (1, .int v8), (0, .ref c0)]) hx hb d_Row_adler32_37 hl (k := 3) rfl (by rw [ev10]; rfl) (by decide) rfl (fun ls hl => ?_)
      refine lv_goto (tgt := 6) hx hb d_Row_adler32_40 (by decide) ?_
      exact ih v8 v9 v10  _ _ _ h hP hD hS (lv_sub hl [3, 2, 1, 0] rfl)
set_option maxHeartbeats 4000000 in
set_option maxRecDepth 100000 in
theorem c_Row_adler32 (l : Launch) (G : GX) (a0 a1 : Nat) (sz : Nat) (x0_1 : Int32) (n1 : Nat) (f1 : (Nat → Int32))  (N : Nat) (V : Int32) (h : f_Row_adler32 N x0_1 n1 f1 = some V) :
    Met l y_Row_adler32 (wd y_Row_adler32 b_Row_adler32 4 (some .int)) { frames := 0, cells := 0, slots := 0, locals := 0 } (PX G [.ref a0] sz [(a0, .inr (1, [.ref a1, .int x0_1])), (a1, .inl (G.2.1 0, n1, .inl f1))])
      (QXi G V (fun w => w = [(a0, .inr (1, [.ref a1, .int x0_1])), (a1, .inl (G.2.1 0, n1, .inl f1))]) (va_A [(a0, .inr (1, [.ref a1, .int x0_1])), (a1, .inl (G.2.1 0, n1, .inl f1))] sz)) 0 0 (va_A [(a0, .inr (1, [.ref a1, .int x0_1])), (a1, .inl (G.2.1 0, n1, .inl f1))] sz) := by
  refine Met_in (QQ := fun A => QXi G V (fun w => w = [(a0, .inr (1, [.ref a1, .int x0_1])), (a1, .inl (G.2.1 0, n1, .inl f1))]) A) (by decide) (Nat.le_of_ble_eq_true rfl) (fun p e s m below meth c R Q A ls C0 hRf hRl hRc hRs hP hK hD hT hA hS hl hQ => ?_)
  obtain ⟨hx, hb, hml, hown, hts, hr, hlocks, hin⟩ := id C0
  have hown : s.vm.findClass R_Row = some m.cls := hown
  have hl : lv_has ls 4 [(0, .ref a0)] := hl
  unfold f_Row_adler32 at h
  have hkc : 0 ≤ R.cells := Nat.zero_le _
  have hks : 0 ≤ R.slots := Nat.zero_le _
  obtain ⟨H, hH⟩ : ∃ H, H = s.heap := ⟨_, rfl⟩
  obtain ⟨locs, hlc⟩ : ∃ x : List Loc, x = [] := ⟨_, rfl⟩
  rw [← hH] at hP
  have hS : va_S A s.heap H locs := by rw [hH, hlc]; exact hS
  suffices hgo : W p l e R s m [.ref a0].toArray below meth c H locs 0 0 Q (F0 m 0 ls []) by rw [hH, hlc] at hgo; exact hgo
  refine lv_iconst (v := 1) hx hb d_Row_adler32_0 (by decide) ?_
  refine lv_istore_n (lv' := [(1, .int 1), (0, .ref a0)]) hx hb d_Row_adler32_1 rfl hl (by decide) rfl (fun ls hl => ?_)
  refine lv_iconst (v := 0) hx hb d_Row_adler32_2 (by decide) ?_
  refine lv_istore_n (lv' := [(2, .int 0), (1, .int 1), (0, .ref a0)]) hx hb d_Row_adler32_3 rfl hl (by decide) rfl (fun ls hl => ?_)
  refine lv_iconst (v := 0) hx hb d_Row_adler32_4 (by decide) ?_
  refine lv_istore_n (lv' := [(3, .int 0), (2, .int 0), (1, .int 1), (0, .ref a0)]) hx hb d_Row_adler32_5 rfl hl (by decide) rfl (fun ls hl => ?_)
  obtain ⟨r11, hc11, h⟩ := Bd_e h
  refine w_Row_adler32_6 C0 hRf hRl hA hK hT N x0_1 n1 f1 a0 a1 r11 (kc := 0) (ks := 0) hkc hks ?_ N 1 0 0  _ _ _ hc11 hP hD hS (lv_sub hl [3, 2, 1, 0] rfl)
  · intro H locs ls hP hD hS hl
    refine lv_iload_n hx hb d_Row_adler32_43 rfl (lv_at hl 1 rfl) ?_
    refine lv_bipush (v := 16) hx hb d_Row_adler32_44 (by decide) ?_
    refine lv_ishl hx hb d_Row_adler32_46 ?_
    refine lv_iload_n hx hb d_Row_adler32_47 rfl (lv_at hl 0 rfl) ?_
    refine lv_ior hx hb d_Row_adler32_48 ?_
    have eV := so1 h
    subst eV
    exact x_iret C0 hQ hP hD hS rfl (Nat.zero_le _) (Nat.zero_le _) d_Row_adler32_49
set_option maxHeartbeats 4000000 in
set_option maxRecDepth 100000 in
theorem w_Pr_run_40 {p : Program} {l : Launch} {e : Env} {R : Room} {s : State} {m : MethodId} {args : Array Value} {below : List Frame} {meth : Method} {c : Code} {Q : State → Prop} {G : GX} {A : Nat → Prop} (C0 : Cx p s m args meth c b_Pr_run 7 y_Pr_run none) (hRf : 7 ≤ R.frames) (hRl : 192 ≤ R.locals) (hA : ∀ q, s.heap.size ≤ q → A q) (hK : KX G s) (hT : TX G A s) (N : Nat) (i3 : Int32) (m5 : Nat) (m6 : Nat) (y7_1 : Int32) (m8 : Nat) (g_8 : (Nat → Int32)) (c0 c1 c2 c4 c5 c6 c7 c8 : Nat) (out : Int32 × Int32 × Int32 × Int32 × Int32 × Nat × (Nat → Int32) × Int32 × Int32 × (Nat → Int32) × (Nat → Int32)) {KT ZT : Nat} (hKT : KT ≤ R.cells) (hZT : ZT ≤ R.slots)
    (kx159 : ∀ (c3' : Nat) (H : Heap) (locs : List Loc) (ls : Array Slot), va_P G.1 classes [(c0, .inr (5, [.ref c1, .ref c4, .int out.1, .int out.2.1])), (c1, .inr (3, [.ref c2, .int out.2.2.1, .int out.2.2.2.1])), (c2, .inr (1, [.ref c3', .int out.2.2.2.2.1])), (c3', .inl (G.2.1 0, out.2.2.2.2.2.1, .inl out.2.2.2.2.2.2.1)), (c4, .inr (4, [.ref c5, .ref c6, .int out.2.2.2.2.2.2.2.1, .int out.2.2.2.2.2.2.2.2.1])), (c5, .inl (G.2.1 1, m5, .inl out.2.2.2.2.2.2.2.2.2.1)), (c6, .inl (G.2.1 1, m6, .inl out.2.2.2.2.2.2.2.2.2.2)), (c7, .inr (1, [.ref c8, .int y7_1])), (c8, .inl (G.2.1 0, m8, .inl g_8))] H → va_D A [(c0, .inr (5, [.ref c1, .ref c4, .int out.1, .int out.2.1])), (c1, .inr (3, [.ref c2, .int out.2.2.1, .int out.2.2.2.1])), (c2, .inr (1, [.ref c3', .int out.2.2.2.2.1])), (c3', .inl (G.2.1 0, out.2.2.2.2.2.1, .inl out.2.2.2.2.2.2.1)), (c4, .inr (4, [.ref c5, .ref c6, .int out.2.2.2.2.2.2.2.1, .int out.2.2.2.2.2.2.2.2.1])), (c5, .inl (G.2.1 1, m5, .inl out.2.2.2.2.2.2.2.2.2.1)), (c6, .inl (G.2.1 1, m6, .inl out.2.2.2.2.2.2.2.2.2.2)), (c7, .inr (1, [.ref c8, .int y7_1])), (c8, .inl (G.2.1 0, m8, .inl g_8))] → va_S A s.heap H locs → lv_has ls 7 [(0, .ref c0), (1, .ref c7), (2, .ref c2)] → W p l e R s m args below meth c H locs KT ZT Q (F0 m 159 ls [])) :
    ∀ (n : Nat) (i6 : Int32) (y0_2 : Int32) (y0_3 : Int32) (y1_1 : Int32) (y1_2 : Int32) (y2_1 : Int32) (m3 : Nat) (g_3 : (Nat → Int32)) (y4_2 : Int32) (y4_3 : Int32) (g_5 : (Nat → Int32)) (g_6 : (Nat → Int32)) (c3 : Nat) (kc ks k z : Nat) (H : Heap) (locs : List Loc) (ls : Array Slot), lp_Pr_run_40 N i3 m5 m6 m8 g_8 n i6 y0_2 y0_3 y1_1 y1_2 y2_1 m3 g_3 y4_2 y4_3 g_5 g_6 = some (out, k, z) → kc + k = KT → ks + z = ZT → va_P G.1 classes [(c0, .inr (5, [.ref c1, .ref c4, .int y0_2, .int y0_3])), (c1, .inr (3, [.ref c2, .int y1_1, .int y1_2])), (c2, .inr (1, [.ref c3, .int y2_1])), (c3, .inl (G.2.1 0, m3, .inl g_3)), (c4, .inr (4, [.ref c5, .ref c6, .int y4_2, .int y4_3])), (c5, .inl (G.2.1 1, m5, .inl g_5)), (c6, .inl (G.2.1 1, m6, .inl g_6)), (c7, .inr (1, [.ref c8, .int y7_1])), (c8, .inl (G.2.1 0, m8, .inl g_8))] H → va_D A [(c0, .inr (5, [.ref c1, .ref c4, .int y0_2, .int y0_3])), (c1, .inr (3, [.ref c2, .int y1_1, .int y1_2])), (c2, .inr (1, [.ref c3, .int y2_1])), (c3, .inl (G.2.1 0, m3, .inl g_3)), (c4, .inr (4, [.ref c5, .ref c6, .int y4_2, .int y4_3])), (c5, .inl (G.2.1 1, m5, .inl g_5)), (c6, .inl (G.2.1 1, m6, .inl g_6)), (c7, .inr (1, [.ref c8, .int y7_1])), (c8, .inl (G.2.1 0, m8, .inl g_8))] → va_S A s.heap H locs → lv_has ls 7 [(0, .ref c0), (1, .ref c7), (2, .ref c2), (3, .int i3), (4, .ref c8), (6, .int i6)] → W p l e R s m args below meth c H locs kc ks Q (F0 m 40 ls []) := by
  obtain ⟨hx, hb, hml, hown, hts, hr, hlocks, hin⟩ := id C0
  have hown : s.vm.findClass R_Pr = some m.cls := hown
  intro n
  induction n with
  | zero => intro i6 y0_2 y0_3 y1_1 y1_2 y2_1 m3 g_3 y4_2 y4_3 g_5 g_6 c3 kc ks k z H locs ls h; cases h
  | succ n ih =>
    intro i6 y0_2 y0_3 y1_1 y1_2 y2_1 m3 g_3 y4_2 y4_3 g_5 g_6 c3 kc ks k z H locs ls h ekc ezc hP hD hS hl
    replace h : lb_Pr_run_40 N i3 m5 m6 m8 g_8 (lp_Pr_run_40 N i3 m5 m6 m8 g_8 n) i6 y0_2 y0_3 y1_1 y1_2 y2_1 m3 g_3 y4_2 y4_3 g_5 g_6 = some (out, k, z) := h
    unfold lb_Pr_run_40 at h
    refine lv_iload hx hb d_Pr_run_40 (lv_at hl 5 rfl) ?_
    refine lv_iload_n hx hb d_Pr_run_42 rfl (lv_at hl 3 rfl) ?_
    refine lv_icmp_ge (tgt := 159) hx hb d_Pr_run_43 (by decide) (fun cq26 => ?_) (fun cq26 => ?_)
    · replace h := (if_pos cq26).symm.trans h
      obtain ⟨eV, ek, ez⟩ := so3 h
      subst eV
      refine W.widen (k := KT) (n := ZT) (by omega) (by omega) ?_
      exact kx159 c3 _ _ _ hP hD hS (lv_sub hl [0, 1, 2] rfl)
    · replace h := (if_neg cq26).symm.trans h
      refine lv_aload_n hx hb d_Pr_run_46 rfl (lv_at hl 0 rfl) ?_
      refine va_get (D := G.1) (ci := 5) (v := .ref c4) (C := R_Pr) (T := F_Pr) (N := 4) hx hb hts i_Pr hown hK hP 0 rfl rfl 1 (by decide) (hts _ q55) (fun _ h9 => h9) rfl d_Pr_run_47 ?_
      refine lv_aload hx hb d_Pr_run_50 (lv_at hl 4 rfl) ?_
      refine lv_iload_n hx hb d_Pr_run_52 rfl (lv_at hl 3 rfl) ?_
      refine lv_iload hx hb d_Pr_run_53 (lv_at hl 5 rfl) ?_
      obtain ⟨r27, hc27, h⟩ := Bd_e h
      refine xV_v0 (wr := [(c0, .inr (5, [.ref c1, .ref c4, .int y0_2, .int y0_3])), (c1, .inr (3, [.ref c2, .int y1_1, .int y1_2])), (c2, .inr (1, [.ref c3, .int y2_1])), (c3, .inl (G.2.1 0, m3, .inl g_3)), (c7, .inr (1, [.ref c8, .int y7_1]))]) (rest := []) C0 hK hT hA hP hD hS hl.1 (c_Fi_find l G c4 c8 c5 c6 _ y4_2 y4_3 m8 g_8 m5 g_5 m6 g_6 i3 i6 N r27 hc27) (goodV q208 q209 q210 q46 q211) 3 rfl hd_Fi_find (Nat.le_trans (by decide) hRf) (Nat.le_trans (by decide) hRl) [4, 8, 5, 6] [0, 1, 2, 3, 7] rfl rfl (by decide) (by decide) (by decide) 4 4 rfl rfl rfl (Nat.le_of_ble_eq_true rfl) d_Pr_run_55 (by omega) (by omega) (fun w1 H locs hE hP hD hS => ?_)
      subst hE
      have hP : va_P G.1 classes [(c0, .inr (5, [.ref c1, .ref c4, .int y0_2, .int y0_3])), (c1, .inr (3, [.ref c2, .int y1_1, .int y1_2])), (c2, .inr (1, [.ref c3, .int y2_1])), (c3, .inl (G.2.1 0, m3, .inl g_3)), (c7, .inr (1, [.ref c8, .int y7_1])), (c4, .inr (4, [.ref c5, .ref c6, .int r27.1, .int r27.2])), (c8, .inl (G.2.1 0, m8, .inl g_8)), (c5, .inl (G.2.1 1, m5, .inl g_5)), (c6, .inl (G.2.1 1, m6, .inl g_6))] H := hP
      have hD : va_D A [(c0, .inr (5, [.ref c1, .ref c4, .int y0_2, .int y0_3])), (c1, .inr (3, [.ref c2, .int y1_1, .int y1_2])), (c2, .inr (1, [.ref c3, .int y2_1])), (c3, .inl (G.2.1 0, m3, .inl g_3)), (c7, .inr (1, [.ref c8, .int y7_1])), (c4, .inr (4, [.ref c5, .ref c6, .int r27.1, .int r27.2])), (c8, .inl (G.2.1 0, m8, .inl g_8)), (c5, .inl (G.2.1 1, m5, .inl g_5)), (c6, .inl (G.2.1 1, m6, .inl g_6))] := hD
      refine lv_aload_n hx hb d_Pr_run_58 rfl (lv_at hl 0 rfl) ?_
      refine va_get (D := G.1) (ci := 5) (v := .ref c4) (C := R_Pr) (T := F_Pr) (N := 4) hx hb hts i_Pr hown hK hP 0 rfl rfl 1 (by decide) (hts _ q55) (fun _ h9 => h9) rfl d_Pr_run_59 ?_
      obtain ⟨r28, hc28, h⟩ := Bd_e h
      refine xV_i0 (wr := [(c0, .inr (5, [.ref c1, .ref c4, .int y0_2, .int y0_3])), (c1, .inr (3, [.ref c2, .int y1_1, .int y1_2])), (c2, .inr (1, [.ref c3, .int y2_1])), (c3, .inl (G.2.1 0, m3, .inl g_3)), (c7, .inr (1, [.ref c8, .int y7_1])), (c8, .inl (G.2.1 0, m8, .inl g_8)), (c5, .inl (G.2.1 1, m5, .inl g_5)), (c6, .inl (G.2.1 1, m6, .inl g_6))]) (rest := []) C0 hK hT hA hP hD hS hl.1 (c_Fi_length l G c4 c5 c6 _ r27.1 r27.2  N r28 hc28) (goodV q212 q213 q214 q46 q215) 0 rfl hd_Fi_length (Nat.le_trans (by decide) hRf) (Nat.le_trans (by decide) hRl) [5] [0, 1, 2, 3, 4, 6, 7, 8] rfl rfl (by decide) (by decide) (by decide) 4 5 rfl rfl rfl (Nat.le_of_ble_eq_true rfl) d_Pr_run_62 (by omega) (by omega) (fun w1 H locs hE hP hD hS => ?_)
      subst hE
      have hP : va_P G.1 classes [(c0, .inr (5, [.ref c1, .ref c4, .int y0_2, .int y0_3])), (c1, .inr (3, [.ref c2, .int y1_1, .int y1_2])), (c2, .inr (1, [.ref c3, .int y2_1])), (c3, .inl (G.2.1 0, m3, .inl g_3)), (c7, .inr (1, [.ref c8, .int y7_1])), (c8, .inl (G.2.1 0, m8, .inl g_8)), (c5, .inl (G.2.1 1, m5, .inl g_5)), (c6, .inl (G.2.1 1, m6, .inl g_6)), (c4, .inr (4, [.ref c5, .ref c6, .int r27.1, .int r27.2]))] H := hP
      have hD : va_D A [(c0, .inr (5, [.ref c1, .ref c4, .int y0_2, .int y0_3])), (c1, .inr (3, [.ref c2, .int y1_1, .int y1_2])), (c2, .inr (1, [.ref c3, .int y2_1])), (c3, .inl (G.2.1 0, m3, .inl g_3)), (c7, .inr (1, [.ref c8, .int y7_1])), (c8, .inl (G.2.1 0, m8, .inl g_8)), (c5, .inl (G.2.1 1, m5, .inl g_5)), (c6, .inl (G.2.1 1, m6, .inl g_6)), (c4, .inr (4, [.ref c5, .ref c6, .int r27.1, .int r27.2]))] := hD
      obtain ⟨j40, ej40, h⟩ := Jn_e h
      have hj40 : ∀ (t40 : Int32 × Int32 × Int32 × Int32 × Int32 × Nat × (Nat → Int32)) (b39 : Nat) (kc40 ks40 k40 z40 : Nat) (H : Heap) (locs : List Loc) (ls : Array Slot), j40 t40 = some (out, k40, z40) → kc40 + k40 = KT → ks40 + z40 = ZT → va_P G.1 classes [(c0, .inr (5, [.ref c1, .ref c4, .int t40.1, .int t40.2.1])), (c1, .inr (3, [.ref c2, .int t40.2.2.1, .int t40.2.2.2.1])), (c2, .inr (1, [.ref b39, .int t40.2.2.2.2.1])), (b39, .inl (G.2.1 0, t40.2.2.2.2.2.1, .inl t40.2.2.2.2.2.2)), (c4, .inr (4, [.ref c5, .ref c6, .int r27.1, .int r27.2])), (c5, .inl (G.2.1 1, m5, .inl g_5)), (c6, .inl (G.2.1 1, m6, .inl g_6)), (c7, .inr (1, [.ref c8, .int y7_1])), (c8, .inl (G.2.1 0, m8, .inl g_8))] H → va_D A [(c0, .inr (5, [.ref c1, .ref c4, .int t40.1, .int t40.2.1])), (c1, .inr (3, [.ref c2, .int t40.2.2.1, .int t40.2.2.2.1])), (c2, .inr (1, [.ref b39, .int t40.2.2.2.2.1])), (b39, .inl (G.2.1 0, t40.2.2.2.2.2.1, .inl t40.2.2.2.2.2.2)), (c4, .inr (4, [.ref c5, .ref c6, .int r27.1, .int r27.2])), (c5, .inl (G.2.1 1, m5, .inl g_5)), (c6, .inl (G.2.1 1, m6, .inl g_6)), (c7, .inr (1, [.ref c8, .int y7_1])), (c8, .inl (G.2.1 0, m8, .inl g_8))] → va_S A s.heap H locs → lv_has ls 7 [(0, .ref c0), (1, .ref c7), (2, .ref c2), (3, .int i3), (4, .ref c8), (6, .int i6)] → W p l e R s m args below meth c H locs kc40 ks40 Q (F0 m 122 ls []) := by
        intro t40 b39 kc40 ks40 k40 z40 H locs ls h ekc ezc hP hD hS hl
        replace h := ej40 _ _ h
        refine lv_iconst (v := 1) hx hb d_Pr_run_122 (by decide) ?_
        refine lv_aload_n hx hb d_Pr_run_123 rfl (lv_at hl 0 rfl) ?_
        refine va_get (D := G.1) (ci := 5) (v := .ref c4) (C := R_Pr) (T := F_Pr) (N := 4) hx hb hts i_Pr hown hK hP 0 rfl rfl 1 (by decide) (hts _ q55) (fun _ h9 => h9) rfl d_Pr_run_124 ?_
        obtain ⟨r41, hc41, h⟩ := Bd_e h
        refine xV_i0 (wr := [(c0, .inr (5, [.ref c1, .ref c4, .int t40.1, .int t40.2.1])), (c1, .inr (3, [.ref c2, .int t40.2.2.1, .int t40.2.2.2.1])), (c2, .inr (1, [.ref b39, .int t40.2.2.2.2.1])), (b39, .inl (G.2.1 0, t40.2.2.2.2.2.1, .inl t40.2.2.2.2.2.2)), (c5, .inl (G.2.1 1, m5, .inl g_5)), (c6, .inl (G.2.1 1, m6, .inl g_6)), (c7, .inr (1, [.ref c8, .int y7_1])), (c8, .inl (G.2.1 0, m8, .inl g_8))]) (rest := [.int 1]) C0 hK hT hA hP hD hS hl.1 (c_Fi_length l G c4 c5 c6 _ r27.1 r27.2  N r41 hc41) (goodV q212 q213 q214 q46 q215) 0 rfl hd_Fi_length (Nat.le_trans (by decide) hRf) (Nat.le_trans (by decide) hRl) [4] [0, 1, 2, 3, 5, 6, 7, 8] rfl rfl (by decide) (by decide) (by decide) 4 4 rfl rfl rfl (Nat.le_of_ble_eq_true rfl) d_Pr_run_127 (by omega) (by omega) (fun w1 H locs hE hP hD hS => ?_)
        subst hE
        have hP : va_P G.1 classes [(c0, .inr (5, [.ref c1, .ref c4, .int t40.1, .int t40.2.1])), (c1, .inr (3, [.ref c2, .int t40.2.2.1, .int t40.2.2.2.1])), (c2, .inr (1, [.ref b39, .int t40.2.2.2.2.1])), (b39, .inl (G.2.1 0, t40.2.2.2.2.2.1, .inl t40.2.2.2.2.2.2)), (c5, .inl (G.2.1 1, m5, .inl g_5)), (c6, .inl (G.2.1 1, m6, .inl g_6)), (c7, .inr (1, [.ref c8, .int y7_1])), (c8, .inl (G.2.1 0, m8, .inl g_8)), (c4, .inr (4, [.ref c5, .ref c6, .int r27.1, .int r27.2]))] H := hP
        have hD : va_D A [(c0, .inr (5, [.ref c1, .ref c4, .int t40.1, .int t40.2.1])), (c1, .inr (3, [.ref c2, .int t40.2.2.1, .int t40.2.2.2.1])), (c2, .inr (1, [.ref b39, .int t40.2.2.2.2.1])), (b39, .inl (G.2.1 0, t40.2.2.2.2.2.1, .inl t40.2.2.2.2.2.2)), (c5, .inl (G.2.1 1, m5, .inl g_5)), (c6, .inl (G.2.1 1, m6, .inl g_6)), (c7, .inr (1, [.ref c8, .int y7_1])), (c8, .inl (G.2.1 0, m8, .inl g_8)), (c4, .inr (4, [.ref c5, .ref c6, .int r27.1, .int r27.2]))] := hD
        refine va_mmax hx hb (hml.trans hl.1.symm) hown (hts _ q238) (hts _ q120) (hts _ q117) (hts _ q121) (Nat.le_trans (by decide) hRf) (Nat.le_trans (Nat.le_of_ble_eq_true rfl) hRl) (by omega) (by omega) d_Pr_run_130 ?_
        refine lv_topi (fun v42 ev42 => ?_)
        replace h := Lt_e h ev42
        refine lv_istore (lv' := [(5, .int v42), (0, .ref c0), (1, .ref c7), (2, .ref c2), (3, .int i3), (4, .ref c8), (6, .int i6)]) hx hb d_Pr_run_133 hl (by decide) rfl (fun ls hl => ?_)
        refine lv_aload_n hx hb d_Pr_run_135 rfl (lv_at hl 1 rfl) ?_
        refine va_get (D := G.1) (ci := 5) (v := .ref c4) (C := R_Pr) (T := F_Pr) (N := 4) hx hb hts i_Pr hown hK hP 0 rfl rfl 1 (by decide) (hts _ q55) (fun _ h9 => h9) rfl d_Pr_run_136 ?_
        refine lv_aload hx hb d_Pr_run_139 (lv_at hl 5 rfl) ?_
        refine lv_iload_n hx hb d_Pr_run_141 rfl (lv_at hl 4 rfl) ?_
        refine lv_iload hx hb d_Pr_run_142 (lv_at hl 6 rfl) ?_
        refine lv_iload hx hb d_Pr_run_144 (lv_at hl 0 rfl) ?_
        obtain ⟨r43, hc43, h⟩ := Bd_e h
        refine xV_v0 (wr := [(c0, .inr (5, [.ref c1, .ref c4, .int t40.1, .int t40.2.1])), (c1, .inr (3, [.ref c2, .int t40.2.2.1, .int t40.2.2.2.1])), (c2, .inr (1, [.ref b39, .int t40.2.2.2.2.1])), (b39, .inl (G.2.1 0, t40.2.2.2.2.2.1, .inl t40.2.2.2.2.2.2)), (c7, .inr (1, [.ref c8, .int y7_1]))]) (rest := []) C0 hK hT hA hP hD hS hl.1 (c_Fi_note l G c8 c4 c5 c6 _ m8 g_8 r27.1 r27.2 m5 g_5 m6 g_6 i3 i6 v42 N r43 hc43) (goodV q239 q240 q241 q46 q242) 4 rfl hd_Fi_note (Nat.le_trans (by decide) hRf) (Nat.le_trans (by decide) hRl) [7, 8, 4, 5] [0, 1, 2, 3, 6] rfl rfl (by decide) (by decide) (by decide) 4 8 rfl rfl rfl (Nat.le_of_ble_eq_true rfl) d_Pr_run_146 (by omega) (by omega) (fun w1 H locs hE hP hD hS => ?_)
        subst hE
        have hP : va_P G.1 classes [(c0, .inr (5, [.ref c1, .ref c4, .int t40.1, .int t40.2.1])), (c1, .inr (3, [.ref c2, .int t40.2.2.1, .int t40.2.2.2.1])), (c2, .inr (1, [.ref b39, .int t40.2.2.2.2.1])), (b39, .inl (G.2.1 0, t40.2.2.2.2.2.1, .inl t40.2.2.2.2.2.2)), (c7, .inr (1, [.ref c8, .int y7_1])), (c8, .inl (G.2.1 0, m8, .inl g_8)), (c4, .inr (4, [.ref c5, .ref c6, .int r27.1, .int r27.2])), (c5, .inl (G.2.1 1, m5, .inl r43.1)), (c6, .inl (G.2.1 1, m6, .inl r43.2))] H := hP
        have hD : va_D A [(c0, .inr (5, [.ref c1, .ref c4, .int t40.1, .int t40.2.1])), (c1, .inr (3, [.ref c2, .int t40.2.2.1, .int t40.2.2.2.1])), (c2, .inr (1, [.ref b39, .int t40.2.2.2.2.1])), (b39, .inl (G.2.1 0, t40.2.2.2.2.2.1, .inl t40.2.2.2.2.2.2)), (c7, .inr (1, [.ref c8, .int y7_1])), (c8, .inl (G.2.1 0, m8, .inl g_8)), (c4, .inr (4, [.ref c5, .ref c6, .int r27.1, .int r27.2])), (c5, .inl (G.2.1 1, m5, .inl r43.1)), (c6, .inl (G.2.1 1, m6, .inl r43.2))] := hD
        refine lv_iload hx hb d_Pr_run_149 (lv_at hl 6 rfl) ?_
        refine lv_iload hx hb d_Pr_run_151 (lv_at hl 0 rfl) ?_
        refine lv_iadd hx hb d_Pr_run_153 ?_
        refine lv_topi (fun v44 ev44 => ?_)
        replace h := Lt_e h ev44
        refine lv_istore (lv' := [(6, .int v44), (5, .int v42), (0, .ref c0), (1, .ref c7), (2, .ref c2), (3, .int i3), (4, .ref c8)]) hx hb d_Pr_run_154 hl (by decide) rfl (fun ls hl => ?_)
        refine lv_goto (tgt := 40) hx hb d_Pr_run_156 (by decide) ?_
        exact ih v44 t40.1 t40.2.1 t40.2.2.1 t40.2.2.2.1 t40.2.2.2.2.1 t40.2.2.2.2.2.1 t40.2.2.2.2.2.2 r27.1 r27.2 r43.1 r43.2 b39 _ _ _ _ _ _ _ h (by omega) (by omega) (hP.sub (ws' := [(c0, .inr (5, [.ref c1, .ref c4, .int t40.1, .int t40.2.1])), (c1, .inr (3, [.ref c2, .int t40.2.2.1, .int t40.2.2.2.1])), (c2, .inr (1, [.ref b39, .int t40.2.2.2.2.1])), (b39, .inl (G.2.1 0, t40.2.2.2.2.2.1, .inl t40.2.2.2.2.2.2)), (c4, .inr (4, [.ref c5, .ref c6, .int r27.1, .int r27.2])), (c5, .inl (G.2.1 1, m5, .inl r43.1)), (c6, .inl (G.2.1 1, m6, .inl r43.2)), (c7, .inr (1, [.ref c8, .int y7_1])), (c8, .inl (G.2.1 0, m8, .inl g_8))]) [0, 1, 2, 3, 6, 7, 8, 4, 5] rfl) (hD.sub (ws' := [(c0, .inr (5, [.ref c1, .ref c4, .int t40.1, .int t40.2.1])), (c1, .inr (3, [.ref c2, .int t40.2.2.1, .int t40.2.2.2.1])), (c2, .inr (1, [.ref b39, .int t40.2.2.2.2.1])), (b39, .inl (G.2.1 0, t40.2.2.2.2.2.1, .inl t40.2.2.2.2.2.2)), (c4, .inr (4, [.ref c5, .ref c6, .int r27.1, .int r27.2])), (c5, .inl (G.2.1 1, m5, .inl r43.1)), (c6, .inl (G.2.1 1, m6, .inl r43.2)), (c7, .inr (1, [.ref c8, .int y7_1])), (c8, .inl (G.2.1 0, m8, .inl g_8))]) [0, 1, 2, 3, 6, 7, 8, 4, 5] (by decide) rfl) hS (lv_sub hl [2, 3, 4, 5, 6, 0] rfl)
      refine lv_if_ne (tgt := 94) hx hb d_Pr_run_65 (by decide) (fun cq45 => ?_) (fun cq45 => ?_)
      · replace h := (if_neg cq45).symm.trans h
        refine lv_aload_n hx hb d_Pr_run_94 rfl (lv_at hl 0 rfl) ?_
        refine lv_aload_n hx hb d_Pr_run_95 rfl (lv_at hl 0 rfl) ?_
        refine va_get (D := G.1) (ci := 5) (v := .ref c4) (C := R_Pr) (T := F_Pr) (N := 4) hx hb hts i_Pr hown hK hP 0 rfl rfl 1 (by decide) (hts _ q55) (fun _ h9 => h9) rfl d_Pr_run_96 ?_
        obtain ⟨r46, hc46, h⟩ := Bd_e h
        refine xV_i0 (wr := [(c0, .inr (5, [.ref c1, .ref c4, .int y0_2, .int y0_3])), (c1, .inr (3, [.ref c2, .int y1_1, .int y1_2])), (c2, .inr (1, [.ref c3, .int y2_1])), (c3, .inl (G.2.1 0, m3, .inl g_3)), (c7, .inr (1, [.ref c8, .int y7_1])), (c8, .inl (G.2.1 0, m8, .inl g_8)), (c5, .inl (G.2.1 1, m5, .inl g_5)), (c6, .inl (G.2.1 1, m6, .inl g_6))]) (rest := [.ref c0]) C0 hK hT hA hP hD hS hl.1 (c_Fi_length l G c4 c5 c6 _ r27.1 r27.2  N r46 hc46) (goodV q212 q213 q214 q46 q215) 0 rfl hd_Fi_length (Nat.le_trans (by decide) hRf) (Nat.le_trans (by decide) hRl) [8] [0, 1, 2, 3, 4, 5, 6, 7] rfl rfl (by decide) (by decide) (by decide) 4 8 rfl rfl rfl (Nat.le_of_ble_eq_true rfl) d_Pr_run_99 (by omega) (by omega) (fun w1 H locs hE hP hD hS => ?_)
        subst hE
        have hP : va_P G.1 classes [(c0, .inr (5, [.ref c1, .ref c4, .int y0_2, .int y0_3])), (c1, .inr (3, [.ref c2, .int y1_1, .int y1_2])), (c2, .inr (1, [.ref c3, .int y2_1])), (c3, .inl (G.2.1 0, m3, .inl g_3)), (c7, .inr (1, [.ref c8, .int y7_1])), (c8, .inl (G.2.1 0, m8, .inl g_8)), (c5, .inl (G.2.1 1, m5, .inl g_5)), (c6, .inl (G.2.1 1, m6, .inl g_6)), (c4, .inr (4, [.ref c5, .ref c6, .int r27.1, .int r27.2]))] H := hP
        have hD : va_D A [(c0, .inr (5, [.ref c1, .ref c4, .int y0_2, .int y0_3])), (c1, .inr (3, [.ref c2, .int y1_1, .int y1_2])), (c2, .inr (1, [.ref c3, .int y2_1])), (c3, .inl (G.2.1 0, m3, .inl g_3)), (c7, .inr (1, [.ref c8, .int y7_1])), (c8, .inl (G.2.1 0, m8, .inl g_8)), (c5, .inl (G.2.1 1, m5, .inl g_5)), (c6, .inl (G.2.1 1, m6, .inl g_6)), (c4, .inr (4, [.ref c5, .ref c6, .int r27.1, .int r27.2]))] := hD
        refine lv_aload_n hx hb d_Pr_run_102 rfl (lv_at hl 0 rfl) ?_
        refine va_get (D := G.1) (ci := 5) (v := .ref c4) (C := R_Pr) (T := F_Pr) (N := 4) hx hb hts i_Pr hown hK hP 0 rfl rfl 1 (by decide) (hts _ q55) (fun _ h9 => h9) rfl d_Pr_run_103 ?_
        obtain ⟨r47, hc47, h⟩ := Bd_e h
        refine xV_i0 (wr := [(c0, .inr (5, [.ref c1, .ref c4, .int y0_2, .int y0_3])), (c1, .inr (3, [.ref c2, .int y1_1, .int y1_2])), (c2, .inr (1, [.ref c3, .int y2_1])), (c3, .inl (G.2.1 0, m3, .inl g_3)), (c7, .inr (1, [.ref c8, .int y7_1])), (c8, .inl (G.2.1 0, m8, .inl g_8)), (c5, .inl (G.2.1 1, m5, .inl g_5)), (c6, .inl (G.2.1 1, m6, .inl g_6))]) (rest := [.int r46, .ref c0]) C0 hK hT hA hP hD hS hl.1 (c_Fi_distance l G c4 c5 c6 _ r27.1 r27.2  N r47 hc47) (goodV q216 q217 q218 q46 q219) 0 rfl hd_Fi_distance (Nat.le_trans (by decide) hRf) (Nat.le_trans (by decide) hRl) [8] [0, 1, 2, 3, 4, 5, 6, 7] rfl rfl (by decide) (by decide) (by decide) 4 8 rfl rfl rfl (Nat.le_of_ble_eq_true rfl) d_Pr_run_106 (by omega) (by omega) (fun w1 H locs hE hP hD hS => ?_)
        subst hE
        have hP : va_P G.1 classes [(c0, .inr (5, [.ref c1, .ref c4, .int y0_2, .int y0_3])), (c1, .inr (3, [.ref c2, .int y1_1, .int y1_2])), (c2, .inr (1, [.ref c3, .int y2_1])), (c3, .inl (G.2.1 0, m3, .inl g_3)), (c7, .inr (1, [.ref c8, .int y7_1])), (c8, .inl (G.2.1 0, m8, .inl g_8)), (c5, .inl (G.2.1 1, m5, .inl g_5)), (c6, .inl (G.2.1 1, m6, .inl g_6)), (c4, .inr (4, [.ref c5, .ref c6, .int r27.1, .int r27.2]))] H := hP
        have hD : va_D A [(c0, .inr (5, [.ref c1, .ref c4, .int y0_2, .int y0_3])), (c1, .inr (3, [.ref c2, .int y1_1, .int y1_2])), (c2, .inr (1, [.ref c3, .int y2_1])), (c3, .inl (G.2.1 0, m3, .inl g_3)), (c7, .inr (1, [.ref c8, .int y7_1])), (c8, .inl (G.2.1 0, m8, .inl g_8)), (c5, .inl (G.2.1 1, m5, .inl g_5)), (c6, .inl (G.2.1 1, m6, .inl g_6)), (c4, .inr (4, [.ref c5, .ref c6, .int r27.1, .int r27.2]))] := hD
        obtain ⟨r48, k48, z48, kk48, zz48, hc48, h, ek48, ez48⟩ := Bk_e h
        have ekc : kc + k48 + kk48 = KT := by omega
        have ezc : ks + z48 + zz48 = ZT := by omega
        refine xV_v (wr := [(c7, .inr (1, [.ref c8, .int y7_1])), (c8, .inl (G.2.1 0, m8, .inl g_8)), (c5, .inl (G.2.1 1, m5, .inl g_5)), (c6, .inl (G.2.1 1, m6, .inl g_6)), (c4, .inr (4, [.ref c5, .ref c6, .int r27.1, .int r27.2]))]) (rest := []) C0 hK hT hA hP hD hS hl.1 (c_Pr_putPair l G c0 c1 c2 c3 c4 _ y0_2 y0_3 y1_1 y1_2 y2_1 m3 g_3 r46 r47 N r48 k48 z48 hc48) (goodV q234 q235 q236 q29 q237) 2 rfl hd_Pr_putPair (Nat.le_trans (by decide) hRf) (Nat.le_trans (by decide) hRl) [0, 1, 2, 3] [4, 5, 6, 7, 8] rfl rfl (by decide) (by decide) (by decide) 5 0 rfl rfl rfl (Nat.le_of_ble_eq_true rfl) d_Pr_run_109 (by omega) (by omega) (fun w1 H locs hE hP hD hS => ?_)
        obtain ⟨b49, rfl⟩ := hE
        have hP : va_P G.1 classes [(c7, .inr (1, [.ref c8, .int y7_1])), (c8, .inl (G.2.1 0, m8, .inl g_8)), (c5, .inl (G.2.1 1, m5, .inl g_5)), (c6, .inl (G.2.1 1, m6, .inl g_6)), (c4, .inr (4, [.ref c5, .ref c6, .int r27.1, .int r27.2])), (c0, .inr (5, [.ref c1, .ref c4, .int y0_2, .int y0_3])), (c1, .inr (3, [.ref c2, .int r48.1, .int r48.2.1])), (c2, .inr (1, [.ref b49, .int r48.2.2.1])), (b49, .inl (G.2.1 0, r48.2.2.2.1, .inl r48.2.2.2.2))] H := hP
        have hD : va_D A [(c7, .inr (1, [.ref c8, .int y7_1])), (c8, .inl (G.2.1 0, m8, .inl g_8)), (c5, .inl (G.2.1 1, m5, .inl g_5)), (c6, .inl (G.2.1 1, m6, .inl g_6)), (c4, .inr (4, [.ref c5, .ref c6, .int r27.1, .int r27.2])), (c0, .inr (5, [.ref c1, .ref c4, .int y0_2, .int y0_3])), (c1, .inr (3, [.ref c2, .int r48.1, .int r48.2.1])), (c2, .inr (1, [.ref b49, .int r48.2.2.1])), (b49, .inl (G.2.1 0, r48.2.2.2.1, .inl r48.2.2.2.2))] := hD
        refine lv_aload_n hx hb d_Pr_run_112 rfl (lv_at hl 0 rfl) ?_
        refine lv_dup hx hb d_Pr_run_113 rfl ?_
        refine va_get (D := G.1) (ci := 5) (v := .int y0_2) (C := R_Pr) (T := F_Pr) (N := 4) hx hb hts i_Pr hown hK hP 5 rfl rfl 2 (by decide) (hts _ q56) (fun _ h9 => h9) rfl d_Pr_run_114 ?_
        refine lv_iconst (v := 1) hx hb d_Pr_run_117 (by decide) ?_
        refine lv_iadd hx hb d_Pr_run_118 ?_
        refine lv_topi (fun v50 ev50 => ?_)
        replace h := Lt_e h ev50
        refine va_put (D := G.1) (ci := 5) (v := .int v50) (ty := .int) (C := R_Pr) (T := F_Pr) (N := 4) hx hb hts i_Pr t_Pr t_Pr_ok n_Pr hown hK hP hD hS 5 rfl rfl 2 (by decide) (hts _ q56) (fun _ h9 => h9) rfl (by decide +kernel) rfl rfl (Nat.le_of_ble_eq_true rfl) d_Pr_run_119 (fun H locs hP hD hS => ?_)
        have hP : va_P G.1 classes [(c7, .inr (1, [.ref c8, .int y7_1])), (c8, .inl (G.2.1 0, m8, .inl g_8)), (c5, .inl (G.2.1 1, m5, .inl g_5)), (c6, .inl (G.2.1 1, m6, .inl g_6)), (c4, .inr (4, [.ref c5, .ref c6, .int r27.1, .int r27.2])), (c0, .inr (5, [.ref c1, .ref c4, .int v50, .int y0_3])), (c1, .inr (3, [.ref c2, .int r48.1, .int r48.2.1])), (c2, .inr (1, [.ref b49, .int r48.2.2.1])), (b49, .inl (G.2.1 0, r48.2.2.2.1, .inl r48.2.2.2.2))] H := hP
        have hD : va_D A [(c7, .inr (1, [.ref c8, .int y7_1])), (c8, .inl (G.2.1 0, m8, .inl g_8)), (c5, .inl (G.2.1 1, m5, .inl g_5)), (c6, .inl (G.2.1 1, m6, .inl g_6)), (c4, .inr (4, [.ref c5, .ref c6, .int r27.1, .int r27.2])), (c0, .inr (5, [.ref c1, .ref c4, .int v50, .int y0_3])), (c1, .inr (3, [.ref c2, .int r48.1, .int r48.2.1])), (c2, .inr (1, [.ref b49, .int r48.2.2.1])), (b49, .inl (G.2.1 0, r48.2.2.2.1, .inl r48.2.2.2.2))] := hD
        exact hj40 (v50, y0_3, r48.1, r48.2.1, r48.2.2.1, r48.2.2.2.1, r48.2.2.2.2) b49 _ _ _ _ _ _ _ h (by omega) (by omega) (hP.sub (ws' := [(c0, .inr (5, [.ref c1, .ref c4, .int v50, .int y0_3])), (c1, .inr (3, [.ref c2, .int r48.1, .int r48.2.1])), (c2, .inr (1, [.ref b49, .int r48.2.2.1])), (b49, .inl (G.2.1 0, r48.2.2.2.1, .inl r48.2.2.2.2)), (c4, .inr (4, [.ref c5, .ref c6, .int r27.1, .int r27.2])), (c5, .inl (G.2.1 1, m5, .inl g_5)), (c6, .inl (G.2.1 1, m6, .inl g_6)), (c7, .inr (1, [.ref c8, .int y7_1])), (c8, .inl (G.2.1 0, m8, .inl g_8))]) [5, 6, 7, 8, 4, 2, 3, 0, 1] rfl) (hD.sub (ws' := [(c0, .inr (5, [.ref c1, .ref c4, .int v50, .int y0_3])), (c1, .inr (3, [.ref c2, .int r48.1, .int r48.2.1])), (c2, .inr (1, [.ref b49, .int r48.2.2.1])), (b49, .inl (G.2.1 0, r48.2.2.2.1, .inl r48.2.2.2.2)), (c4, .inr (4, [.ref c5, .ref c6, .int r27.1, .int r27.2])), (c5, .inl (G.2.1 1, m5, .inl g_5)), (c6, .inl (G.2.1 1, m6, .inl g_6)), (c7, .inr (1, [.ref c8, .int y7_1])), (c8, .inl (G.2.1 0, m8, .inl g_8))]) [5, 6, 7, 8, 4, 2, 3, 0, 1] (by decide) rfl) hS hl
      · replace h := (if_pos cq45).symm.trans h
        refine lv_aload_n hx hb d_Pr_run_68 rfl (lv_at hl 0 rfl) ?_
        refine lv_aload hx hb d_Pr_run_69 (lv_at hl 4 rfl) ?_
        refine lv_iload hx hb d_Pr_run_71 (lv_at hl 5 rfl) ?_
        obtain ⟨hi51, h⟩ := Ix_e h
        refine va_bald hx hb hK hP 5 0 rfl rfl hi51 d_Pr_run_73 ?_
        refine lv_sipush (v := 255) hx hb d_Pr_run_74 (by decide) ?_
        refine lv_iand hx hb d_Pr_run_77 ?_
        obtain ⟨r52, k52, z52, kk52, zz52, hc52, h, ek52, ez52⟩ := Bk_e h
        have ekc : kc + k52 + kk52 = KT := by omega
        have ezc : ks + z52 + zz52 = ZT := by omega
        refine xV_v (wr := [(c7, .inr (1, [.ref c8, .int y7_1])), (c8, .inl (G.2.1 0, m8, .inl g_8)), (c5, .inl (G.2.1 1, m5, .inl g_5)), (c6, .inl (G.2.1 1, m6, .inl g_6)), (c4, .inr (4, [.ref c5, .ref c6, .int r27.1, .int r27.2]))]) (rest := []) C0 hK hT hA hP hD hS hl.1 (c_Pr_putSymbol l G c0 c1 c2 c3 c4 _ y0_2 y0_3 y1_1 y1_2 y2_1 m3 g_3 ((g_8 (i6).toNatClampNeg) &&& 255) N r52 k52 z52 hc52) (goodV q227 q228 q229 q29 q230) 1 rfl hd_Pr_putSymbol (Nat.le_trans (by decide) hRf) (Nat.le_trans (by decide) hRl) [0, 1, 2, 3] [4, 5, 6, 7, 8] rfl rfl (by decide) (by decide) (by decide) 5 0 rfl rfl rfl (Nat.le_of_ble_eq_true rfl) d_Pr_run_78 (by omega) (by omega) (fun w1 H locs hE hP hD hS => ?_)
        obtain ⟨b53, rfl⟩ := hE
        have hP : va_P G.1 classes [(c7, .inr (1, [.ref c8, .int y7_1])), (c8, .inl (G.2.1 0, m8, .inl g_8)), (c5, .inl (G.2.1 1, m5, .inl g_5)), (c6, .inl (G.2.1 1, m6, .inl g_6)), (c4, .inr (4, [.ref c5, .ref c6, .int r27.1, .int r27.2])), (c0, .inr (5, [.ref c1, .ref c4, .int y0_2, .int y0_3])), (c1, .inr (3, [.ref c2, .int r52.1, .int r52.2.1])), (c2, .inr (1, [.ref b53, .int r52.2.2.1])), (b53, .inl (G.2.1 0, r52.2.2.2.1, .inl r52.2.2.2.2))] H := hP
        have hD : va_D A [(c7, .inr (1, [.ref c8, .int y7_1])), (c8, .inl (G.2.1 0, m8, .inl g_8)), (c5, .inl (G.2.1 1, m5, .inl g_5)), (c6, .inl (G.2.1 1, m6, .inl g_6)), (c4, .inr (4, [.ref c5, .ref c6, .int r27.1, .int r27.2])), (c0, .inr (5, [.ref c1, .ref c4, .int y0_2, .int y0_3])), (c1, .inr (3, [.ref c2, .int r52.1, .int r52.2.1])), (c2, .inr (1, [.ref b53, .int r52.2.2.1])), (b53, .inl (G.2.1 0, r52.2.2.2.1, .inl r52.2.2.2.2))] := hD
        refine lv_aload_n hx hb d_Pr_run_81 rfl (lv_at hl 0 rfl) ?_
        refine lv_dup hx hb d_Pr_run_82 rfl ?_
        refine va_get (D := G.1) (ci := 5) (v := .int y0_3) (C := R_Pr) (T := F_Pr) (N := 4) hx hb hts i_Pr hown hK hP 5 rfl rfl 3 (by decide) (hts _ q57) (fun _ h9 => h9) rfl d_Pr_run_83 ?_
        refine lv_iconst (v := 1) hx hb d_Pr_run_86 (by decide) ?_
        refine lv_iadd hx hb d_Pr_run_87 ?_
        refine lv_topi (fun v54 ev54 => ?_)
        replace h := Lt_e h ev54
        refine va_put (D := G.1) (ci := 5) (v := .int v54) (ty := .int) (C := R_Pr) (T := F_Pr) (N := 4) hx hb hts i_Pr t_Pr t_Pr_ok n_Pr hown hK hP hD hS 5 rfl rfl 3 (by decide) (hts _ q57) (fun _ h9 => h9) rfl (by decide +kernel) rfl rfl (Nat.le_of_ble_eq_true rfl) d_Pr_run_88 (fun H locs hP hD hS => ?_)
        have hP : va_P G.1 classes [(c7, .inr (1, [.ref c8, .int y7_1])), (c8, .inl (G.2.1 0, m8, .inl g_8)), (c5, .inl (G.2.1 1, m5, .inl g_5)), (c6, .inl (G.2.1 1, m6, .inl g_6)), (c4, .inr (4, [.ref c5, .ref c6, .int r27.1, .int r27.2])), (c0, .inr (5, [.ref c1, .ref c4, .int y0_2, .int v54])), (c1, .inr (3, [.ref c2, .int r52.1, .int r52.2.1])), (c2, .inr (1, [.ref b53, .int r52.2.2.1])), (b53, .inl (G.2.1 0, r52.2.2.2.1, .inl r52.2.2.2.2))] H := hP
        have hD : va_D A [(c7, .inr (1, [.ref c8, .int y7_1])), (c8, .inl (G.2.1 0, m8, .inl g_8)), (c5, .inl (G.2.1 1, m5, .inl g_5)), (c6, .inl (G.2.1 1, m6, .inl g_6)), (c4, .inr (4, [.ref c5, .ref c6, .int r27.1, .int r27.2])), (c0, .inr (5, [.ref c1, .ref c4, .int y0_2, .int v54])), (c1, .inr (3, [.ref c2, .int r52.1, .int r52.2.1])), (c2, .inr (1, [.ref b53, .int r52.2.2.1])), (b53, .inl (G.2.1 0, r52.2.2.2.1, .inl r52.2.2.2.2))] := hD
        refine lv_goto (tgt := 122) hx hb d_Pr_run_91 (by decide) ?_
        exact hj40 (y0_2, v54, r52.1, r52.2.1, r52.2.2.1, r52.2.2.2.1, r52.2.2.2.2) b53 _ _ _ _ _ _ _ h (by omega) (by omega) (hP.sub (ws' := [(c0, .inr (5, [.ref c1, .ref c4, .int y0_2, .int v54])), (c1, .inr (3, [.ref c2, .int r52.1, .int r52.2.1])), (c2, .inr (1, [.ref b53, .int r52.2.2.1])), (b53, .inl (G.2.1 0, r52.2.2.2.1, .inl r52.2.2.2.2)), (c4, .inr (4, [.ref c5, .ref c6, .int r27.1, .int r27.2])), (c5, .inl (G.2.1 1, m5, .inl g_5)), (c6, .inl (G.2.1 1, m6, .inl g_6)), (c7, .inr (1, [.ref c8, .int y7_1])), (c8, .inl (G.2.1 0, m8, .inl g_8))]) [5, 6, 7, 8, 4, 2, 3, 0, 1] rfl) (hD.sub (ws' := [(c0, .inr (5, [.ref c1, .ref c4, .int y0_2, .int v54])), (c1, .inr (3, [.ref c2, .int r52.1, .int r52.2.1])), (c2, .inr (1, [.ref b53, .int r52.2.2.1])), (b53, .inl (G.2.1 0, r52.2.2.2.1, .inl r52.2.2.2.2)), (c4, .inr (4, [.ref c5, .ref c6, .int r27.1, .int r27.2])), (c5, .inl (G.2.1 1, m5, .inl g_5)), (c6, .inl (G.2.1 1, m6, .inl g_6)), (c7, .inr (1, [.ref c8, .int y7_1])), (c8, .inl (G.2.1 0, m8, .inl g_8))]) [5, 6, 7, 8, 4, 2, 3, 0, 1] (by decide) rfl) hS hl
set_option maxHeartbeats 4000000 in
set_option maxRecDepth 100000 in
theorem c_Pr_run (l : Launch) (G : GX) (a0 a1 a2 a3 a4 a5 a6 a7 a8 o4_0 : Nat) (sz : Nat) (x0_1 : Int32) (x1_1 : Int32) (n2 : Nat) (f2 : (Nat → Int32)) (x3_2 : Int32) (x3_3 : Int32) (x4_1 : Int32) (x4_2 : Int32) (x5_2 : Int32) (x5_3 : Int32) (n6 : Nat) (f6 : (Nat → Int32)) (n7 : Nat) (f7 : (Nat → Int32)) (n8 : Nat) (f8 : (Nat → Int32))  (N : Nat) (V : Int32 × Nat × (Nat → Int32) × Int32 × Int32 × Int32 × Int32 × Int32 × Int32 × (Nat → Int32) × Nat × (Nat → Int32)) (K Z : Nat) (h : f_Pr_run N x0_1 x1_1 n2 f2 x5_2 x5_3 n6 f6 n7 f7 n8 f8 = some (V, K, Z)) :
    Met l y_Pr_run (wd y_Pr_run b_Pr_run 7 none) { frames := 7, cells := K, slots := Z, locals := 192 } (PX G [.ref a3, .ref a0, .ref a1] sz [(a0, .inr (1, [.ref a8, .int x0_1])), (a1, .inr (1, [.ref a2, .int x1_1])), (a2, .inl (G.2.1 0, n2, .inl f2)), (a3, .inr (5, [.ref a4, .ref a5, .int x3_2, .int x3_3])), (a4, .inr (3, [.ref o4_0, .int x4_1, .int x4_2])), (a5, .inr (4, [.ref a6, .ref a7, .int x5_2, .int x5_3])), (a6, .inl (G.2.1 1, n6, .inl f6)), (a7, .inl (G.2.1 1, n7, .inl f7)), (a8, .inl (G.2.1 0, n8, .inl f8))])
      (QXv G (fun w => ∃ e0 e1 : Nat, w = [(a0, .inr (1, [.ref a8, .int x0_1])), (a1, .inr (1, [.ref e0, .int V.1])), (e0, .inl (G.2.1 0, V.2.1, .inl V.2.2.1)), (a3, .inr (5, [.ref a4, .ref a5, .int V.2.2.2.1, .int V.2.2.2.2.1])), (a4, .inr (3, [.ref a1, .int V.2.2.2.2.2.1, .int V.2.2.2.2.2.2.1])), (a5, .inr (4, [.ref a6, .ref e1, .int V.2.2.2.2.2.2.2.1, .int V.2.2.2.2.2.2.2.2.1])), (a6, .inl (G.2.1 1, n6, .inl V.2.2.2.2.2.2.2.2.2.1)), (e1, .inl (G.2.1 1, V.2.2.2.2.2.2.2.2.2.2.1, .inl V.2.2.2.2.2.2.2.2.2.2.2)), (a8, .inl (G.2.1 0, n8, .inl f8))]) (va_A [(a0, .inr (1, [.ref a8, .int x0_1])), (a1, .inr (1, [.ref a2, .int x1_1])), (a2, .inl (G.2.1 0, n2, .inl f2)), (a3, .inr (5, [.ref a4, .ref a5, .int x3_2, .int x3_3])), (a4, .inr (3, [.ref o4_0, .int x4_1, .int x4_2])), (a5, .inr (4, [.ref a6, .ref a7, .int x5_2, .int x5_3])), (a6, .inl (G.2.1 1, n6, .inl f6)), (a7, .inl (G.2.1 1, n7, .inl f7)), (a8, .inl (G.2.1 0, n8, .inl f8))] sz)) K Z (va_A [(a0, .inr (1, [.ref a8, .int x0_1])), (a1, .inr (1, [.ref a2, .int x1_1])), (a2, .inl (G.2.1 0, n2, .inl f2)), (a3, .inr (5, [.ref a4, .ref a5, .int x3_2, .int x3_3])), (a4, .inr (3, [.ref o4_0, .int x4_1, .int x4_2])), (a5, .inr (4, [.ref a6, .ref a7, .int x5_2, .int x5_3])), (a6, .inl (G.2.1 1, n6, .inl f6)), (a7, .inl (G.2.1 1, n7, .inl f7)), (a8, .inl (G.2.1 0, n8, .inl f8))] sz) := by
  refine Met_in (QQ := fun A => QXv G (fun w => ∃ e0 e1 : Nat, w = [(a0, .inr (1, [.ref a8, .int x0_1])), (a1, .inr (1, [.ref e0, .int V.1])), (e0, .inl (G.2.1 0, V.2.1, .inl V.2.2.1)), (a3, .inr (5, [.ref a4, .ref a5, .int V.2.2.2.1, .int V.2.2.2.2.1])), (a4, .inr (3, [.ref a1, .int V.2.2.2.2.2.1, .int V.2.2.2.2.2.2.1])), (a5, .inr (4, [.ref a6, .ref e1, .int V.2.2.2.2.2.2.2.1, .int V.2.2.2.2.2.2.2.2.1])), (a6, .inl (G.2.1 1, n6, .inl V.2.2.2.2.2.2.2.2.2.1)), (e1, .inl (G.2.1 1, V.2.2.2.2.2.2.2.2.2.2.1, .inl V.2.2.2.2.2.2.2.2.2.2.2)), (a8, .inl (G.2.1 0, n8, .inl f8))]) A) (by decide) (Nat.le_of_ble_eq_true rfl) (fun p e s m below meth c R Q A ls C0 hRf hRl hRc hRs hP hK hD hT hA hS hl hQ => ?_)
  obtain ⟨hx, hb, hml, hown, hts, hr, hlocks, hin⟩ := id C0
  have hown : s.vm.findClass R_Pr = some m.cls := hown
  have hl : lv_has ls 7 [(0, .ref a3), (1, .ref a0), (2, .ref a1)] := hl
  unfold f_Pr_run at h
  have hKT : K ≤ R.cells := Nat.le_of_eq hRc.symm
  have hZT : Z ≤ R.slots := Nat.le_of_eq hRs.symm
  have ekc : 0 + K = K := by omega
  have ezc : 0 + Z = Z := by omega
  obtain ⟨H, hH⟩ : ∃ H, H = s.heap := ⟨_, rfl⟩
  obtain ⟨locs, hlc⟩ : ∃ x : List Loc, x = [] := ⟨_, rfl⟩
  rw [← hH] at hP
  have hS : va_S A s.heap H locs := by rw [hH, hlc]; exact hS
  suffices hgo : W p l e R s m [.ref a3, .ref a0, .ref a1].toArray below meth c H locs 0 0 Q (F0 m 0 ls []) by rw [hH, hlc] at hgo; exact hgo
  refine lv_aload_n hx hb d_Pr_run_0 rfl (lv_at hl 1 rfl) ?_
  obtain ⟨r1, hc1, h⟩ := Bd_e h
  refine xV_i0 (wr := [(a1, .inr (1, [.ref a2, .int x1_1])), (a2, .inl (G.2.1 0, n2, .inl f2)), (a3, .inr (5, [.ref a4, .ref a5, .int x3_2, .int x3_3])), (a4, .inr (3, [.ref o4_0, .int x4_1, .int x4_2])), (a5, .inr (4, [.ref a6, .ref a7, .int x5_2, .int x5_3])), (a6, .inl (G.2.1 1, n6, .inl f6)), (a7, .inl (G.2.1 1, n7, .inl f7)), (a8, .inl (G.2.1 0, n8, .inl f8))]) (rest := []) C0 hK hT hA hP hD hS hl.1 (c_Row_length l G a0 a8 _ x0_1  N r1 hc1) (goodV q168 q110 q111 q5 q112) 0 rfl hd_Row_length (Nat.le_trans (by decide) hRf) (Nat.le_trans (by decide) hRl) [0] [1, 2, 3, 4, 5, 6, 7, 8] rfl rfl (by decide) (by decide) (by decide) 1 0 rfl rfl rfl (Nat.le_of_ble_eq_true rfl) d_Pr_run_1 (by omega) (by omega) (fun w1 H locs hE hP hD hS => ?_)
  subst hE
  have hP : va_P G.1 classes [(a1, .inr (1, [.ref a2, .int x1_1])), (a2, .inl (G.2.1 0, n2, .inl f2)), (a3, .inr (5, [.ref a4, .ref a5, .int x3_2, .int x3_3])), (a4, .inr (3, [.ref o4_0, .int x4_1, .int x4_2])), (a5, .inr (4, [.ref a6, .ref a7, .int x5_2, .int x5_3])), (a6, .inl (G.2.1 1, n6, .inl f6)), (a7, .inl (G.2.1 1, n7, .inl f7)), (a8, .inl (G.2.1 0, n8, .inl f8)), (a0, .inr (1, [.ref a8, .int x0_1]))] H := hP
  have hD : va_D A [(a1, .inr (1, [.ref a2, .int x1_1])), (a2, .inl (G.2.1 0, n2, .inl f2)), (a3, .inr (5, [.ref a4, .ref a5, .int x3_2, .int x3_3])), (a4, .inr (3, [.ref o4_0, .int x4_1, .int x4_2])), (a5, .inr (4, [.ref a6, .ref a7, .int x5_2, .int x5_3])), (a6, .inl (G.2.1 1, n6, .inl f6)), (a7, .inl (G.2.1 1, n7, .inl f7)), (a8, .inl (G.2.1 0, n8, .inl f8)), (a0, .inr (1, [.ref a8, .int x0_1]))] := hD
  refine lv_istore_n (lv' := [(3, .int r1), (0, .ref a3), (1, .ref a0), (2, .ref a1)]) hx hb d_Pr_run_4 rfl hl (by decide) rfl (fun ls hl => ?_)
  refine lv_aload_n hx hb d_Pr_run_5 rfl (lv_at hl 2 rfl) ?_
  obtain ⟨r2, hc2, h⟩ := Bd_e h
  refine xV_r0 (wr := [(a1, .inr (1, [.ref a2, .int x1_1])), (a2, .inl (G.2.1 0, n2, .inl f2)), (a3, .inr (5, [.ref a4, .ref a5, .int x3_2, .int x3_3])), (a4, .inr (3, [.ref o4_0, .int x4_1, .int x4_2])), (a5, .inr (4, [.ref a6, .ref a7, .int x5_2, .int x5_3])), (a6, .inl (G.2.1 1, n6, .inl f6)), (a7, .inl (G.2.1 1, n7, .inl f7)), (a8, .inl (G.2.1 0, n8, .inl f8))]) (rest := []) C0 hK hT hA hP hD hS hl.1 (c_Row_bytes l G a0 a8 _ x0_1  N r2 hc2) (goodV q169 q170 q171 q5 q172) 0 rfl hd_Row_bytes (Nat.le_trans (by decide) hRf) (Nat.le_trans (by decide) hRl) [8] [0, 1, 2, 3, 4, 5, 6, 7] rfl rfl (by decide) (by decide) (by decide) 1 8 rfl rfl rfl (Nat.le_of_ble_eq_true rfl) d_Pr_run_6 (by omega) (by omega) (fun ra w1 H locs hE hP hD hS => ?_)
  obtain ⟨hra, rfl⟩ := hE
  rw [hra]
  have hP : va_P G.1 classes [(a1, .inr (1, [.ref a2, .int x1_1])), (a2, .inl (G.2.1 0, n2, .inl f2)), (a3, .inr (5, [.ref a4, .ref a5, .int x3_2, .int x3_3])), (a4, .inr (3, [.ref o4_0, .int x4_1, .int x4_2])), (a5, .inr (4, [.ref a6, .ref a7, .int x5_2, .int x5_3])), (a6, .inl (G.2.1 1, n6, .inl f6)), (a7, .inl (G.2.1 1, n7, .inl f7)), (a8, .inl (G.2.1 0, n8, .inl f8)), (a0, .inr (1, [.ref a8, .int x0_1]))] H := hP
  have hD : va_D A [(a1, .inr (1, [.ref a2, .int x1_1])), (a2, .inl (G.2.1 0, n2, .inl f2)), (a3, .inr (5, [.ref a4, .ref a5, .int x3_2, .int x3_3])), (a4, .inr (3, [.ref o4_0, .int x4_1, .int x4_2])), (a5, .inr (4, [.ref a6, .ref a7, .int x5_2, .int x5_3])), (a6, .inl (G.2.1 1, n6, .inl f6)), (a7, .inl (G.2.1 1, n7, .inl f7)), (a8, .inl (G.2.1 0, n8, .inl f8)), (a0, .inr (1, [.ref a8, .int x0_1]))] := hD
  refine lv_astore (lv' := [(4, .ref a8), (3, .int r1), (0, .ref a3), (1, .ref a0), (2, .ref a1)]) hx hb d_Pr_run_9 hl (by decide) rfl (fun ls hl => ?_)
  refine lv_aload_n hx hb d_Pr_run_11 rfl (lv_at hl 2 rfl) ?_
  refine lv_aload_n hx hb d_Pr_run_12 rfl (lv_at hl 4 rfl) ?_
  obtain ⟨r3, k3, z3, kk3, zz3, hc3, h, ek3, ez3⟩ := Bk_e h
  have ekc : 0 + k3 + kk3 = K := by omega
  have ezc : 0 + z3 + zz3 = Z := by omega
  refine xV_v (wr := [(a5, .inr (4, [.ref a6, .ref a7, .int x5_2, .int x5_3])), (a6, .inl (G.2.1 1, n6, .inl f6)), (a7, .inl (G.2.1 1, n7, .inl f7)), (a8, .inl (G.2.1 0, n8, .inl f8)), (a0, .inr (1, [.ref a8, .int x0_1]))]) (rest := []) C0 hK hT hA hP hD hS hl.1 (c_Pr_startForm l G a1 a2 a3 a4 a5 o4_0 _ x1_1 n2 f2 x3_2 x3_3 x4_1 x4_2  N r3 k3 z3 hc3) (goodV q184 q185 q186 q29 q187) 1 rfl hd_Pr_startForm (Nat.le_trans (by decide) hRf) (Nat.le_trans (by decide) hRl) [0, 1, 2, 3] [4, 5, 6, 7, 8] rfl rfl (by decide) (by decide) (by decide) 5 2 rfl rfl rfl (Nat.le_of_ble_eq_true rfl) d_Pr_run_13 (by omega) (by omega) (fun w1 H locs hE hP hD hS => ?_)
  obtain ⟨b4, rfl⟩ := hE
  have hP : va_P G.1 classes [(a5, .inr (4, [.ref a6, .ref a7, .int x5_2, .int x5_3])), (a6, .inl (G.2.1 1, n6, .inl f6)), (a7, .inl (G.2.1 1, n7, .inl f7)), (a8, .inl (G.2.1 0, n8, .inl f8)), (a0, .inr (1, [.ref a8, .int x0_1])), (a1, .inr (1, [.ref b4, .int r3.1])), (b4, .inl (G.2.1 0, r3.2.1, .inl r3.2.2.1)), (a3, .inr (5, [.ref a4, .ref a5, .int x3_2, .int x3_3])), (a4, .inr (3, [.ref a1, .int r3.2.2.2.1, .int r3.2.2.2.2]))] H := hP
  have hD : va_D A [(a5, .inr (4, [.ref a6, .ref a7, .int x5_2, .int x5_3])), (a6, .inl (G.2.1 1, n6, .inl f6)), (a7, .inl (G.2.1 1, n7, .inl f7)), (a8, .inl (G.2.1 0, n8, .inl f8)), (a0, .inr (1, [.ref a8, .int x0_1])), (a1, .inr (1, [.ref b4, .int r3.1])), (b4, .inl (G.2.1 0, r3.2.1, .inl r3.2.2.1)), (a3, .inr (5, [.ref a4, .ref a5, .int x3_2, .int x3_3])), (a4, .inr (3, [.ref a1, .int r3.2.2.2.1, .int r3.2.2.2.2]))] := hD
  refine lv_aload_n hx hb d_Pr_run_16 rfl (lv_at hl 2 rfl) ?_
  refine va_get (D := G.1) (ci := 5) (v := .ref a5) (C := R_Pr) (T := F_Pr) (N := 4) hx hb hts i_Pr hown hK hP 7 rfl rfl 1 (by decide) (hts _ q55) (fun _ h9 => h9) rfl d_Pr_run_17 ?_
  refine lv_iload_n hx hb d_Pr_run_20 rfl (lv_at hl 1 rfl) ?_
  obtain ⟨r5, k5, z5, kk5, zz5, hc5, h, ek5, ez5⟩ := Bk_e h
  have ekc : 0 + k3 + k5 + kk5 = K := by omega
  have ezc : 0 + z3 + z5 + zz5 = Z := by omega
  refine xV_v (wr := [(a8, .inl (G.2.1 0, n8, .inl f8)), (a0, .inr (1, [.ref a8, .int x0_1])), (a1, .inr (1, [.ref b4, .int r3.1])), (b4, .inl (G.2.1 0, r3.2.1, .inl r3.2.2.1)), (a3, .inr (5, [.ref a4, .ref a5, .int x3_2, .int x3_3])), (a4, .inr (3, [.ref a1, .int r3.2.2.2.1, .int r3.2.2.2.2]))]) (rest := []) C0 hK hT hA hP hD hS hl.1 (c_Fi_start l G a5 a6 a7 _ x5_2 x5_3 n6 f6 n7 f7 r1 N r5 k5 z5 hc5) (goodV q192 q193 q194 q46 q195) 1 rfl hd_Fi_start (Nat.le_trans (by decide) hRf) (Nat.le_trans (by decide) hRl) [0, 1, 2] [3, 4, 5, 6, 7, 8] rfl rfl (by decide) (by decide) (by decide) 4 0 rfl rfl rfl (Nat.le_of_ble_eq_true rfl) d_Pr_run_21 (by omega) (by omega) (fun w1 H locs hE hP hD hS => ?_)
  obtain ⟨b6, rfl⟩ := hE
  have hP : va_P G.1 classes [(a8, .inl (G.2.1 0, n8, .inl f8)), (a0, .inr (1, [.ref a8, .int x0_1])), (a1, .inr (1, [.ref b4, .int r3.1])), (b4, .inl (G.2.1 0, r3.2.1, .inl r3.2.2.1)), (a3, .inr (5, [.ref a4, .ref a5, .int x3_2, .int x3_3])), (a4, .inr (3, [.ref a1, .int r3.2.2.2.1, .int r3.2.2.2.2])), (a5, .inr (4, [.ref a6, .ref b6, .int x5_2, .int x5_3])), (a6, .inl (G.2.1 1, n6, .inl r5.1)), (b6, .inl (G.2.1 1, r5.2.1, .inl r5.2.2))] H := hP
  have hD : va_D A [(a8, .inl (G.2.1 0, n8, .inl f8)), (a0, .inr (1, [.ref a8, .int x0_1])), (a1, .inr (1, [.ref b4, .int r3.1])), (b4, .inl (G.2.1 0, r3.2.1, .inl r3.2.2.1)), (a3, .inr (5, [.ref a4, .ref a5, .int x3_2, .int x3_3])), (a4, .inr (3, [.ref a1, .int r3.2.2.2.1, .int r3.2.2.2.2])), (a5, .inr (4, [.ref a6, .ref b6, .int x5_2, .int x5_3])), (a6, .inl (G.2.1 1, n6, .inl r5.1)), (b6, .inl (G.2.1 1, r5.2.1, .inl r5.2.2))] := hD
  refine lv_aload_n hx hb d_Pr_run_24 rfl (lv_at hl 2 rfl) ?_
  refine lv_iconst (v := 0) hx hb d_Pr_run_25 (by decide) ?_
  refine va_put (D := G.1) (ci := 5) (v := .int 0) (ty := .int) (C := R_Pr) (T := F_Pr) (N := 4) hx hb hts i_Pr t_Pr t_Pr_ok n_Pr hown hK hP hD hS 4 rfl rfl 2 (by decide) (hts _ q56) (fun _ h9 => h9) rfl (by decide +kernel) rfl rfl (Nat.le_of_ble_eq_true rfl) d_Pr_run_26 (fun H locs hP hD hS => ?_)
  have hP : va_P G.1 classes [(a8, .inl (G.2.1 0, n8, .inl f8)), (a0, .inr (1, [.ref a8, .int x0_1])), (a1, .inr (1, [.ref b4, .int r3.1])), (b4, .inl (G.2.1 0, r3.2.1, .inl r3.2.2.1)), (a3, .inr (5, [.ref a4, .ref a5, .int 0, .int x3_3])), (a4, .inr (3, [.ref a1, .int r3.2.2.2.1, .int r3.2.2.2.2])), (a5, .inr (4, [.ref a6, .ref b6, .int x5_2, .int x5_3])), (a6, .inl (G.2.1 1, n6, .inl r5.1)), (b6, .inl (G.2.1 1, r5.2.1, .inl r5.2.2))] H := hP
  have hD : va_D A [(a8, .inl (G.2.1 0, n8, .inl f8)), (a0, .inr (1, [.ref a8, .int x0_1])), (a1, .inr (1, [.ref b4, .int r3.1])), (b4, .inl (G.2.1 0, r3.2.1, .inl r3.2.2.1)), (a3, .inr (5, [.ref a4, .ref a5, .int 0, .int x3_3])), (a4, .inr (3, [.ref a1, .int r3.2.2.2.1, .int r3.2.2.2.2])), (a5, .inr (4, [.ref a6, .ref b6, .int x5_2, .int x5_3])), (a6, .inl (G.2.1 1, n6, .inl r5.1)), (b6, .inl (G.2.1 1, r5.2.1, .inl r5.2.2))] := hD
  refine lv_aload_n hx hb d_Pr_run_29 rfl (lv_at hl 2 rfl) ?_
  refine lv_iconst (v := 0) hx hb d_Pr_run_30 (by decide) ?_
  refine va_put (D := G.1) (ci := 5) (v := .int 0) (ty := .int) (C := R_Pr) (T := F_Pr) (N := 4) hx hb hts i_Pr t_Pr t_Pr_ok n_Pr hown hK hP hD hS 4 rfl rfl 3 (by decide) (hts _ q57) (fun _ h9 => h9) rfl (by decide +kernel) rfl rfl (Nat.le_of_ble_eq_true rfl) d_Pr_run_31 (fun H locs hP hD hS => ?_)
  have hP : va_P G.1 classes [(a8, .inl (G.2.1 0, n8, .inl f8)), (a0, .inr (1, [.ref a8, .int x0_1])), (a1, .inr (1, [.ref b4, .int r3.1])), (b4, .inl (G.2.1 0, r3.2.1, .inl r3.2.2.1)), (a3, .inr (5, [.ref a4, .ref a5, .int 0, .int 0])), (a4, .inr (3, [.ref a1, .int r3.2.2.2.1, .int r3.2.2.2.2])), (a5, .inr (4, [.ref a6, .ref b6, .int x5_2, .int x5_3])), (a6, .inl (G.2.1 1, n6, .inl r5.1)), (b6, .inl (G.2.1 1, r5.2.1, .inl r5.2.2))] H := hP
  have hD : va_D A [(a8, .inl (G.2.1 0, n8, .inl f8)), (a0, .inr (1, [.ref a8, .int x0_1])), (a1, .inr (1, [.ref b4, .int r3.1])), (b4, .inl (G.2.1 0, r3.2.1, .inl r3.2.2.1)), (a3, .inr (5, [.ref a4, .ref a5, .int 0, .int 0])), (a4, .inr (3, [.ref a1, .int r3.2.2.2.1, .int r3.2.2.2.2])), (a5, .inr (4, [.ref a6, .ref b6, .int x5_2, .int x5_3])), (a6, .inl (G.2.1 1, n6, .inl r5.1)), (b6, .inl (G.2.1 1, r5.2.1, .inl r5.2.2))] := hD
  refine lv_iconst (v := 0) hx hb d_Pr_run_34 (by decide) ?_
  refine lv_istore (lv' := [(5, .int 0), (4, .ref a8), (3, .int r1), (0, .ref a3), (1, .ref a0), (2, .ref a1)]) hx hb d_Pr_run_35 hl (by decide) rfl (fun ls hl => ?_)
  refine lv_iconst (v := 0) hx hb d_Pr_run_37 (by decide) ?_
  refine lv_istore (lv' := [(6, .int 0), (5, .int 0), (4, .ref a8), (3, .int r1), (0, .ref a3), (1, .ref a0), (2, .ref a1)]) hx hb d_Pr_run_38 hl (by decide) rfl (fun ls hl => ?_)
  obtain ⟨r55, k55, z55, kk55, zz55, hc55, h, ek55, ez55⟩ := Bk_e h
  refine w_Pr_run_40 C0 hRf hRl hA hK hT N r1 n6 r5.2.1 x0_1 n8 f8 a3 a4 a1 a5 a6 b6 a0 a8 r55 (KT := 0 + k3 + k5 + k55) (ZT := 0 + z3 + z5 + z55) (by omega) (by omega) ?_ N 0 0 0 r3.2.2.2.1 r3.2.2.2.2 r3.1 r3.2.1 r3.2.2.1 x5_2 x5_3 r5.1 r5.2.2 b4 (0 + k3 + k5) (0 + z3 + z5) _ _ _ _ _ hc55 rfl rfl (hP.sub (ws' := [(a3, .inr (5, [.ref a4, .ref a5, .int 0, .int 0])), (a4, .inr (3, [.ref a1, .int r3.2.2.2.1, .int r3.2.2.2.2])), (a1, .inr (1, [.ref b4, .int r3.1])), (b4, .inl (G.2.1 0, r3.2.1, .inl r3.2.2.1)), (a5, .inr (4, [.ref a6, .ref b6, .int x5_2, .int x5_3])), (a6, .inl (G.2.1 1, n6, .inl r5.1)), (b6, .inl (G.2.1 1, r5.2.1, .inl r5.2.2)), (a0, .inr (1, [.ref a8, .int x0_1])), (a8, .inl (G.2.1 0, n8, .inl f8))]) [4, 5, 2, 3, 6, 7, 8, 1, 0] rfl) (hD.sub (ws' := [(a3, .inr (5, [.ref a4, .ref a5, .int 0, .int 0])), (a4, .inr (3, [.ref a1, .int r3.2.2.2.1, .int r3.2.2.2.2])), (a1, .inr (1, [.ref b4, .int r3.1])), (b4, .inl (G.2.1 0, r3.2.1, .inl r3.2.2.1)), (a5, .inr (4, [.ref a6, .ref b6, .int x5_2, .int x5_3])), (a6, .inl (G.2.1 1, n6, .inl r5.1)), (b6, .inl (G.2.1 1, r5.2.1, .inl r5.2.2)), (a0, .inr (1, [.ref a8, .int x0_1])), (a8, .inl (G.2.1 0, n8, .inl f8))]) [4, 5, 2, 3, 6, 7, 8, 1, 0] (by decide) rfl) hS (lv_sub hl [4, 5, 6, 3, 2, 0] rfl)
  · intro b56 H locs ls hP hD hS hl
    have ekc : 0 + k3 + k5 + k55 + kk55 = K := by omega
    have ezc : 0 + z3 + z5 + z55 + zz55 = Z := by omega
    refine lv_aload_n hx hb d_Pr_run_159 rfl (lv_at hl 0 rfl) ?_
    refine lv_sipush (v := 256) hx hb d_Pr_run_160 (by decide) ?_
    obtain ⟨r57, k57, z57, kk57, zz57, hc57, h, ek57, ez57⟩ := Bk_e h
    have ekc : 0 + k3 + k5 + k55 + k57 + kk57 = K := by omega
    have ezc : 0 + z3 + z5 + z55 + z57 + zz57 = Z := by omega
    refine xV_v (wr := [(a5, .inr (4, [.ref a6, .ref b6, .int r55.2.2.2.2.2.2.2.1, .int r55.2.2.2.2.2.2.2.2.1])), (a6, .inl (G.2.1 1, n6, .inl r55.2.2.2.2.2.2.2.2.2.1)), (b6, .inl (G.2.1 1, r5.2.1, .inl r55.2.2.2.2.2.2.2.2.2.2)), (a0, .inr (1, [.ref a8, .int x0_1])), (a8, .inl (G.2.1 0, n8, .inl f8))]) (rest := []) C0 hK hT hA hP hD hS hl.1 (c_Pr_putSymbol l G a3 a4 a1 b56 a5 _ r55.1 r55.2.1 r55.2.2.1 r55.2.2.2.1 r55.2.2.2.2.1 r55.2.2.2.2.2.1 r55.2.2.2.2.2.2.1 256 N r57 k57 z57 hc57) (goodV q227 q228 q229 q29 q230) 1 rfl hd_Pr_putSymbol (Nat.le_trans (by decide) hRf) (Nat.le_trans (by decide) hRl) [0, 1, 2, 3] [4, 5, 6, 7, 8] rfl rfl (by decide) (by decide) (by decide) 5 0 rfl rfl rfl (Nat.le_of_ble_eq_true rfl) d_Pr_run_163 (by omega) (by omega) (fun w1 H locs hE hP hD hS => ?_)
    obtain ⟨b58, rfl⟩ := hE
    have hP : va_P G.1 classes [(a5, .inr (4, [.ref a6, .ref b6, .int r55.2.2.2.2.2.2.2.1, .int r55.2.2.2.2.2.2.2.2.1])), (a6, .inl (G.2.1 1, n6, .inl r55.2.2.2.2.2.2.2.2.2.1)), (b6, .inl (G.2.1 1, r5.2.1, .inl r55.2.2.2.2.2.2.2.2.2.2)), (a0, .inr (1, [.ref a8, .int x0_1])), (a8, .inl (G.2.1 0, n8, .inl f8)), (a3, .inr (5, [.ref a4, .ref a5, .int r55.1, .int r55.2.1])), (a4, .inr (3, [.ref a1, .int r57.1, .int r57.2.1])), (a1, .inr (1, [.ref b58, .int r57.2.2.1])), (b58, .inl (G.2.1 0, r57.2.2.2.1, .inl r57.2.2.2.2))] H := hP
    have hD : va_D A [(a5, .inr (4, [.ref a6, .ref b6, .int r55.2.2.2.2.2.2.2.1, .int r55.2.2.2.2.2.2.2.2.1])), (a6, .inl (G.2.1 1, n6, .inl r55.2.2.2.2.2.2.2.2.2.1)), (b6, .inl (G.2.1 1, r5.2.1, .inl r55.2.2.2.2.2.2.2.2.2.2)), (a0, .inr (1, [.ref a8, .int x0_1])), (a8, .inl (G.2.1 0, n8, .inl f8)), (a3, .inr (5, [.ref a4, .ref a5, .int r55.1, .int r55.2.1])), (a4, .inr (3, [.ref a1, .int r57.1, .int r57.2.1])), (a1, .inr (1, [.ref b58, .int r57.2.2.1])), (b58, .inl (G.2.1 0, r57.2.2.2.1, .inl r57.2.2.2.2))] := hD
    refine lv_aload_n hx hb d_Pr_run_166 rfl (lv_at hl 0 rfl) ?_
    refine va_get (D := G.1) (ci := 5) (v := .ref a4) (C := R_Pr) (T := F_Pr) (N := 4) hx hb hts i_Pr hown hK hP 5 rfl rfl 0 (by decide) (hts _ q43) (fun _ h9 => h9) rfl d_Pr_run_167 ?_
    obtain ⟨r59, k59, z59, kk59, zz59, hc59, h, ek59, ez59⟩ := Bk_e h
    have ekc : 0 + k3 + k5 + k55 + k57 + k59 + kk59 = K := by omega
    have ezc : 0 + z3 + z5 + z55 + z57 + z59 + zz59 = Z := by omega
    refine xV_v (wr := [(a5, .inr (4, [.ref a6, .ref b6, .int r55.2.2.2.2.2.2.2.1, .int r55.2.2.2.2.2.2.2.2.1])), (a6, .inl (G.2.1 1, n6, .inl r55.2.2.2.2.2.2.2.2.2.1)), (b6, .inl (G.2.1 1, r5.2.1, .inl r55.2.2.2.2.2.2.2.2.2.2)), (a0, .inr (1, [.ref a8, .int x0_1])), (a8, .inl (G.2.1 0, n8, .inl f8)), (a3, .inr (5, [.ref a4, .ref a5, .int r55.1, .int r55.2.1]))]) (rest := []) C0 hK hT hA hP hD hS hl.1 (c_BW_fillByte l G a4 a1 b58 _ r57.1 r57.2.1 r57.2.2.1 r57.2.2.2.1 r57.2.2.2.2  N r59 k59 z59 hc59) (goodV q244 q245 q246 q33 q247) 0 rfl hd_BW_fillByte (Nat.le_trans (by decide) hRf) (Nat.le_trans (by decide) hRl) [6, 7, 8] [0, 1, 2, 3, 4, 5] rfl rfl (by decide) (by decide) (by decide) 3 6 rfl rfl rfl (Nat.le_of_ble_eq_true rfl) d_Pr_run_170 (by omega) (by omega) (fun w1 H locs hE hP hD hS => ?_)
    obtain ⟨b60, rfl⟩ := hE
    have hP : va_P G.1 classes [(a5, .inr (4, [.ref a6, .ref b6, .int r55.2.2.2.2.2.2.2.1, .int r55.2.2.2.2.2.2.2.2.1])), (a6, .inl (G.2.1 1, n6, .inl r55.2.2.2.2.2.2.2.2.2.1)), (b6, .inl (G.2.1 1, r5.2.1, .inl r55.2.2.2.2.2.2.2.2.2.2)), (a0, .inr (1, [.ref a8, .int x0_1])), (a8, .inl (G.2.1 0, n8, .inl f8)), (a3, .inr (5, [.ref a4, .ref a5, .int r55.1, .int r55.2.1])), (a4, .inr (3, [.ref a1, .int r59.1, .int r59.2.1])), (a1, .inr (1, [.ref b60, .int r59.2.2.1])), (b60, .inl (G.2.1 0, r59.2.2.2.1, .inl r59.2.2.2.2))] H := hP
    have hD : va_D A [(a5, .inr (4, [.ref a6, .ref b6, .int r55.2.2.2.2.2.2.2.1, .int r55.2.2.2.2.2.2.2.2.1])), (a6, .inl (G.2.1 1, n6, .inl r55.2.2.2.2.2.2.2.2.2.1)), (b6, .inl (G.2.1 1, r5.2.1, .inl r55.2.2.2.2.2.2.2.2.2.2)), (a0, .inr (1, [.ref a8, .int x0_1])), (a8, .inl (G.2.1 0, n8, .inl f8)), (a3, .inr (5, [.ref a4, .ref a5, .int r55.1, .int r55.2.1])), (a4, .inr (3, [.ref a1, .int r59.1, .int r59.2.1])), (a1, .inr (1, [.ref b60, .int r59.2.2.1])), (b60, .inl (G.2.1 0, r59.2.2.2.1, .inl r59.2.2.2.2))] := hD
    refine lv_aload_n hx hb d_Pr_run_173 rfl (lv_at hl 2 rfl) ?_
    refine lv_aload_n hx hb d_Pr_run_174 rfl (lv_at hl 1 rfl) ?_
    obtain ⟨r61, hc61, h⟩ := Bd_e h
    refine xV_i0 (wr := [(a5, .inr (4, [.ref a6, .ref b6, .int r55.2.2.2.2.2.2.2.1, .int r55.2.2.2.2.2.2.2.2.1])), (a6, .inl (G.2.1 1, n6, .inl r55.2.2.2.2.2.2.2.2.2.1)), (b6, .inl (G.2.1 1, r5.2.1, .inl r55.2.2.2.2.2.2.2.2.2.2)), (a3, .inr (5, [.ref a4, .ref a5, .int r55.1, .int r55.2.1])), (a4, .inr (3, [.ref a1, .int r59.1, .int r59.2.1])), (a1, .inr (1, [.ref b60, .int r59.2.2.1])), (b60, .inl (G.2.1 0, r59.2.2.2.1, .inl r59.2.2.2.2))]) (rest := [.ref a1]) C0 hK hT hA hP hD hS hl.1 (c_Row_adler32 l G a0 a8 _ x0_1 n8 f8  N r61 hc61) (goodV q249 q250 q251 q5 q252) 0 rfl hd_Row_adler32 (Nat.le_trans (by decide) hRf) (Nat.le_trans (by decide) hRl) [3, 4] [0, 1, 2, 5, 6, 7, 8] rfl rfl (by decide) (by decide) (by decide) 1 3 rfl rfl rfl (Nat.le_of_ble_eq_true rfl) d_Pr_run_175 (by omega) (by omega) (fun w1 H locs hE hP hD hS => ?_)
    subst hE
    have hP : va_P G.1 classes [(a5, .inr (4, [.ref a6, .ref b6, .int r55.2.2.2.2.2.2.2.1, .int r55.2.2.2.2.2.2.2.2.1])), (a6, .inl (G.2.1 1, n6, .inl r55.2.2.2.2.2.2.2.2.2.1)), (b6, .inl (G.2.1 1, r5.2.1, .inl r55.2.2.2.2.2.2.2.2.2.2)), (a3, .inr (5, [.ref a4, .ref a5, .int r55.1, .int r55.2.1])), (a4, .inr (3, [.ref a1, .int r59.1, .int r59.2.1])), (a1, .inr (1, [.ref b60, .int r59.2.2.1])), (b60, .inl (G.2.1 0, r59.2.2.2.1, .inl r59.2.2.2.2)), (a0, .inr (1, [.ref a8, .int x0_1])), (a8, .inl (G.2.1 0, n8, .inl f8))] H := hP
    have hD : va_D A [(a5, .inr (4, [.ref a6, .ref b6, .int r55.2.2.2.2.2.2.2.1, .int r55.2.2.2.2.2.2.2.2.1])), (a6, .inl (G.2.1 1, n6, .inl r55.2.2.2.2.2.2.2.2.2.1)), (b6, .inl (G.2.1 1, r5.2.1, .inl r55.2.2.2.2.2.2.2.2.2.2)), (a3, .inr (5, [.ref a4, .ref a5, .int r55.1, .int r55.2.1])), (a4, .inr (3, [.ref a1, .int r59.1, .int r59.2.1])), (a1, .inr (1, [.ref b60, .int r59.2.2.1])), (b60, .inl (G.2.1 0, r59.2.2.2.1, .inl r59.2.2.2.2)), (a0, .inr (1, [.ref a8, .int x0_1])), (a8, .inl (G.2.1 0, n8, .inl f8))] := hD
    obtain ⟨r62, k62, z62, kk62, zz62, hc62, h, ek62, ez62⟩ := Bk_e h
    have ekc : 0 + k3 + k5 + k55 + k57 + k59 + k62 + kk62 = K := by omega
    have ezc : 0 + z3 + z5 + z55 + z57 + z59 + z62 + zz62 = Z := by omega
    refine xV_v (wr := [(a5, .inr (4, [.ref a6, .ref b6, .int r55.2.2.2.2.2.2.2.1, .int r55.2.2.2.2.2.2.2.2.1])), (a6, .inl (G.2.1 1, n6, .inl r55.2.2.2.2.2.2.2.2.2.1)), (b6, .inl (G.2.1 1, r5.2.1, .inl r55.2.2.2.2.2.2.2.2.2.2)), (a3, .inr (5, [.ref a4, .ref a5, .int r55.1, .int r55.2.1])), (a4, .inr (3, [.ref a1, .int r59.1, .int r59.2.1])), (a0, .inr (1, [.ref a8, .int x0_1])), (a8, .inl (G.2.1 0, n8, .inl f8))]) (rest := []) C0 hK hT hA hP hD hS hl.1 (c_Row_addNumber l G a1 b60 _ r59.2.2.1 r59.2.2.2.1 r59.2.2.2.2 r61 N r62 k62 z62 hc62) (goodV q253 q139 q140 q5 q141) 1 rfl hd_Row_addNumber (Nat.le_trans (by decide) hRf) (Nat.le_trans (by decide) hRl) [5, 6] [0, 1, 2, 3, 4, 7, 8] rfl rfl (by decide) (by decide) (by decide) 1 5 rfl rfl rfl (Nat.le_of_ble_eq_true rfl) d_Pr_run_178 (by omega) (by omega) (fun w1 H locs hE hP hD hS => ?_)
    obtain ⟨b63, rfl⟩ := hE
    have hP : va_P G.1 classes [(a5, .inr (4, [.ref a6, .ref b6, .int r55.2.2.2.2.2.2.2.1, .int r55.2.2.2.2.2.2.2.2.1])), (a6, .inl (G.2.1 1, n6, .inl r55.2.2.2.2.2.2.2.2.2.1)), (b6, .inl (G.2.1 1, r5.2.1, .inl r55.2.2.2.2.2.2.2.2.2.2)), (a3, .inr (5, [.ref a4, .ref a5, .int r55.1, .int r55.2.1])), (a4, .inr (3, [.ref a1, .int r59.1, .int r59.2.1])), (a0, .inr (1, [.ref a8, .int x0_1])), (a8, .inl (G.2.1 0, n8, .inl f8)), (a1, .inr (1, [.ref b63, .int r62.1])), (b63, .inl (G.2.1 0, r62.2.1, .inl r62.2.2))] H := hP
    have hD : va_D A [(a5, .inr (4, [.ref a6, .ref b6, .int r55.2.2.2.2.2.2.2.1, .int r55.2.2.2.2.2.2.2.2.1])), (a6, .inl (G.2.1 1, n6, .inl r55.2.2.2.2.2.2.2.2.2.1)), (b6, .inl (G.2.1 1, r5.2.1, .inl r55.2.2.2.2.2.2.2.2.2.2)), (a3, .inr (5, [.ref a4, .ref a5, .int r55.1, .int r55.2.1])), (a4, .inr (3, [.ref a1, .int r59.1, .int r59.2.1])), (a0, .inr (1, [.ref a8, .int x0_1])), (a8, .inl (G.2.1 0, n8, .inl f8)), (a1, .inr (1, [.ref b63, .int r62.1])), (b63, .inl (G.2.1 0, r62.2.1, .inl r62.2.2))] := hD
    obtain ⟨eV, ek, ez⟩ := so3 h
    subst eV
    exact x_vret C0 hQ (hP.sub (ws' := [(a0, .inr (1, [.ref a8, .int x0_1])), (a1, .inr (1, [.ref b63, .int r62.1])), (b63, .inl (G.2.1 0, r62.2.1, .inl r62.2.2)), (a3, .inr (5, [.ref a4, .ref a5, .int r55.1, .int r55.2.1])), (a4, .inr (3, [.ref a1, .int r59.1, .int r59.2.1])), (a5, .inr (4, [.ref a6, .ref b6, .int r55.2.2.2.2.2.2.2.1, .int r55.2.2.2.2.2.2.2.2.1])), (a6, .inl (G.2.1 1, n6, .inl r55.2.2.2.2.2.2.2.2.2.1)), (b6, .inl (G.2.1 1, r5.2.1, .inl r55.2.2.2.2.2.2.2.2.2.2)), (a8, .inl (G.2.1 0, n8, .inl f8))]) [5, 7, 8, 3, 4, 0, 1, 2, 6] rfl) (hD.sub (ws' := [(a0, .inr (1, [.ref a8, .int x0_1])), (a1, .inr (1, [.ref b63, .int r62.1])), (b63, .inl (G.2.1 0, r62.2.1, .inl r62.2.2)), (a3, .inr (5, [.ref a4, .ref a5, .int r55.1, .int r55.2.1])), (a4, .inr (3, [.ref a1, .int r59.1, .int r59.2.1])), (a5, .inr (4, [.ref a6, .ref b6, .int r55.2.2.2.2.2.2.2.1, .int r55.2.2.2.2.2.2.2.2.1])), (a6, .inl (G.2.1 1, n6, .inl r55.2.2.2.2.2.2.2.2.2.1)), (b6, .inl (G.2.1 1, r5.2.1, .inl r55.2.2.2.2.2.2.2.2.2.2)), (a8, .inl (G.2.1 0, n8, .inl f8))]) [5, 7, 8, 3, 4, 0, 1, 2, 6] (by decide) rfl) hS ⟨b63, b6, rfl⟩ (by omega) (by omega) d_Pr_run_181
