set_option maxHeartbeats 4000000 in
set_option maxRecDepth 100000 in
theorem w_Un_readCoded_3 {p : Program} {l : Launch} {e : Env} {R : Room} {s : State} {m : MethodId} {args : Array Value} {below : List Frame} {meth : Method} {c : Code} {Q : State → Prop} {G : GX} {A : Nat → Prop} (C0 : Cx p s m args meth c b_Un_readCoded 6 y_Un_readCoded (some .boolean)) (hRf : 5 ≤ R.frames) (hRl : 152 ≤ R.locals) (hA : ∀ q, s.heap.size ≤ q → A q) (hK : KX G s) (hT : TX G A s) (N : Nat) (y0_7 : Int32) (y0_8 : Int32) (y1_1 : Int32) (m2 : Nat) (g_2 : (Nat → Int32)) (m4 : Nat) (g_4 : (Nat → Int32)) (m5 : Nat) (g_5 : (Nat → Int32)) (m7 : Nat) (g_7 : (Nat → Int32)) (m8 : Nat) (g_8 : (Nat → Int32)) (c0 c1 c2 c3 c4 c5 c6 c7 c8 c9 u0_1 u0_2 u0_3 u0_4 u0_5 u0_6 u3_1 u6_1 : Nat) (out : Nat × Int32 × Int32 × Int32 × Nat × (Nat → Int32)) {KT ZT : Nat} (hKT : KT ≤ R.cells) (hZT : ZT ≤ R.slots)
    (kx38 : ∀ (c10' : Nat) (H : Heap) (locs : List Loc) (ls : Array Slot), out.1 = 0 → va_P G.1 classes [(c0, .inr (8, [.ref c1, .ref u0_1, .ref u0_2, .ref u0_3, .ref u0_4, .ref u0_5, .ref u0_6, .int y0_7, .int y0_8])), (c1, .inr (6, [.ref c2, .int y1_1, .int out.2.1, .int out.2.2.1])), (c2, .inl (G.2.1 0, m2, .inl g_2)), (c3, .inr (7, [.ref c4, .ref u3_1, .ref c5])), (c4, .inl (G.2.1 1, m4, .inl g_4)), (c5, .inl (G.2.1 1, m5, .inl g_5)), (c6, .inr (7, [.ref c7, .ref u6_1, .ref c8])), (c7, .inl (G.2.1 1, m7, .inl g_7)), (c8, .inl (G.2.1 1, m8, .inl g_8)), (c9, .inr (1, [.ref c10', .int out.2.2.2.1])), (c10', .inl (G.2.1 0, out.2.2.2.2.1, .inl out.2.2.2.2.2))] H → va_D A [(c0, .inr (8, [.ref c1, .ref u0_1, .ref u0_2, .ref u0_3, .ref u0_4, .ref u0_5, .ref u0_6, .int y0_7, .int y0_8])), (c1, .inr (6, [.ref c2, .int y1_1, .int out.2.1, .int out.2.2.1])), (c2, .inl (G.2.1 0, m2, .inl g_2)), (c3, .inr (7, [.ref c4, .ref u3_1, .ref c5])), (c4, .inl (G.2.1 1, m4, .inl g_4)), (c5, .inl (G.2.1 1, m5, .inl g_5)), (c6, .inr (7, [.ref c7, .ref u6_1, .ref c8])), (c7, .inl (G.2.1 1, m7, .inl g_7)), (c8, .inl (G.2.1 1, m8, .inl g_8)), (c9, .inr (1, [.ref c10', .int out.2.2.2.1])), (c10', .inl (G.2.1 0, out.2.2.2.2.1, .inl out.2.2.2.2.2))] → va_S A s.heap H locs → lv_has ls 6 [] → W p l e R s m args below meth c H locs KT ZT Q (F0 m 38 ls []))
    (kx63 : ∀ (c10' : Nat) (H : Heap) (locs : List Loc) (ls : Array Slot), out.1 = 1 → va_P G.1 classes [(c0, .inr (8, [.ref c1, .ref u0_1, .ref u0_2, .ref u0_3, .ref u0_4, .ref u0_5, .ref u0_6, .int y0_7, .int y0_8])), (c1, .inr (6, [.ref c2, .int y1_1, .int out.2.1, .int out.2.2.1])), (c2, .inl (G.2.1 0, m2, .inl g_2)), (c3, .inr (7, [.ref c4, .ref u3_1, .ref c5])), (c4, .inl (G.2.1 1, m4, .inl g_4)), (c5, .inl (G.2.1 1, m5, .inl g_5)), (c6, .inr (7, [.ref c7, .ref u6_1, .ref c8])), (c7, .inl (G.2.1 1, m7, .inl g_7)), (c8, .inl (G.2.1 1, m8, .inl g_8)), (c9, .inr (1, [.ref c10', .int out.2.2.2.1])), (c10', .inl (G.2.1 0, out.2.2.2.2.1, .inl out.2.2.2.2.2))] H → va_D A [(c0, .inr (8, [.ref c1, .ref u0_1, .ref u0_2, .ref u0_3, .ref u0_4, .ref u0_5, .ref u0_6, .int y0_7, .int y0_8])), (c1, .inr (6, [.ref c2, .int y1_1, .int out.2.1, .int out.2.2.1])), (c2, .inl (G.2.1 0, m2, .inl g_2)), (c3, .inr (7, [.ref c4, .ref u3_1, .ref c5])), (c4, .inl (G.2.1 1, m4, .inl g_4)), (c5, .inl (G.2.1 1, m5, .inl g_5)), (c6, .inr (7, [.ref c7, .ref u6_1, .ref c8])), (c7, .inl (G.2.1 1, m7, .inl g_7)), (c8, .inl (G.2.1 1, m8, .inl g_8)), (c9, .inr (1, [.ref c10', .int out.2.2.2.1])), (c10', .inl (G.2.1 0, out.2.2.2.2.1, .inl out.2.2.2.2.2))] → va_S A s.heap H locs → lv_has ls 6 [] → W p l e R s m args below meth c H locs KT ZT Q (F0 m 63 ls []))
    (kx79 : ∀ (c10' : Nat) (H : Heap) (locs : List Loc) (ls : Array Slot), out.1 = 1 → va_P G.1 classes [(c0, .inr (8, [.ref c1, .ref u0_1, .ref u0_2, .ref u0_3, .ref u0_4, .ref u0_5, .ref u0_6, .int y0_7, .int y0_8])), (c1, .inr (6, [.ref c2, .int y1_1, .int out.2.1, .int out.2.2.1])), (c2, .inl (G.2.1 0, m2, .inl g_2)), (c3, .inr (7, [.ref c4, .ref u3_1, .ref c5])), (c4, .inl (G.2.1 1, m4, .inl g_4)), (c5, .inl (G.2.1 1, m5, .inl g_5)), (c6, .inr (7, [.ref c7, .ref u6_1, .ref c8])), (c7, .inl (G.2.1 1, m7, .inl g_7)), (c8, .inl (G.2.1 1, m8, .inl g_8)), (c9, .inr (1, [.ref c10', .int out.2.2.2.1])), (c10', .inl (G.2.1 0, out.2.2.2.2.1, .inl out.2.2.2.2.2))] H → va_D A [(c0, .inr (8, [.ref c1, .ref u0_1, .ref u0_2, .ref u0_3, .ref u0_4, .ref u0_5, .ref u0_6, .int y0_7, .int y0_8])), (c1, .inr (6, [.ref c2, .int y1_1, .int out.2.1, .int out.2.2.1])), (c2, .inl (G.2.1 0, m2, .inl g_2)), (c3, .inr (7, [.ref c4, .ref u3_1, .ref c5])), (c4, .inl (G.2.1 1, m4, .inl g_4)), (c5, .inl (G.2.1 1, m5, .inl g_5)), (c6, .inr (7, [.ref c7, .ref u6_1, .ref c8])), (c7, .inl (G.2.1 1, m7, .inl g_7)), (c8, .inl (G.2.1 1, m8, .inl g_8)), (c9, .inr (1, [.ref c10', .int out.2.2.2.1])), (c10', .inl (G.2.1 0, out.2.2.2.2.1, .inl out.2.2.2.2.2))] → va_S A s.heap H locs → lv_has ls 6 [] → W p l e R s m args below meth c H locs KT ZT Q (F0 m 79 ls []))
    (kx93 : ∀ (c10' : Nat) (H : Heap) (locs : List Loc) (ls : Array Slot), out.1 = 1 → va_P G.1 classes [(c0, .inr (8, [.ref c1, .ref u0_1, .ref u0_2, .ref u0_3, .ref u0_4, .ref u0_5, .ref u0_6, .int y0_7, .int y0_8])), (c1, .inr (6, [.ref c2, .int y1_1, .int out.2.1, .int out.2.2.1])), (c2, .inl (G.2.1 0, m2, .inl g_2)), (c3, .inr (7, [.ref c4, .ref u3_1, .ref c5])), (c4, .inl (G.2.1 1, m4, .inl g_4)), (c5, .inl (G.2.1 1, m5, .inl g_5)), (c6, .inr (7, [.ref c7, .ref u6_1, .ref c8])), (c7, .inl (G.2.1 1, m7, .inl g_7)), (c8, .inl (G.2.1 1, m8, .inl g_8)), (c9, .inr (1, [.ref c10', .int out.2.2.2.1])), (c10', .inl (G.2.1 0, out.2.2.2.2.1, .inl out.2.2.2.2.2))] H → va_D A [(c0, .inr (8, [.ref c1, .ref u0_1, .ref u0_2, .ref u0_3, .ref u0_4, .ref u0_5, .ref u0_6, .int y0_7, .int y0_8])), (c1, .inr (6, [.ref c2, .int y1_1, .int out.2.1, .int out.2.2.1])), (c2, .inl (G.2.1 0, m2, .inl g_2)), (c3, .inr (7, [.ref c4, .ref u3_1, .ref c5])), (c4, .inl (G.2.1 1, m4, .inl g_4)), (c5, .inl (G.2.1 1, m5, .inl g_5)), (c6, .inr (7, [.ref c7, .ref u6_1, .ref c8])), (c7, .inl (G.2.1 1, m7, .inl g_7)), (c8, .inl (G.2.1 1, m8, .inl g_8)), (c9, .inr (1, [.ref c10', .int out.2.2.2.1])), (c10', .inl (G.2.1 0, out.2.2.2.2.1, .inl out.2.2.2.2.2))] → va_S A s.heap H locs → lv_has ls 6 [] → W p l e R s m args below meth c H locs KT ZT Q (F0 m 93 ls [])) :
    ∀ (n : Nat) (i4 : Int32) (y1_2 : Int32) (y1_3 : Int32) (y9_1 : Int32) (m10 : Nat) (g_10 : (Nat → Int32)) (c10 : Nat) (kc ks k z : Nat) (H : Heap) (locs : List Loc) (ls : Array Slot), lp_Un_readCoded_3 N y1_1 m2 g_2 m4 g_4 m5 g_5 m7 g_7 m8 g_8 n i4 y1_2 y1_3 y9_1 m10 g_10 = some (out, k, z) → kc + k = KT → ks + z = ZT → va_P G.1 classes [(c0, .inr (8, [.ref c1, .ref u0_1, .ref u0_2, .ref u0_3, .ref u0_4, .ref u0_5, .ref u0_6, .int y0_7, .int y0_8])), (c1, .inr (6, [.ref c2, .int y1_1, .int y1_2, .int y1_3])), (c2, .inl (G.2.1 0, m2, .inl g_2)), (c3, .inr (7, [.ref c4, .ref u3_1, .ref c5])), (c4, .inl (G.2.1 1, m4, .inl g_4)), (c5, .inl (G.2.1 1, m5, .inl g_5)), (c6, .inr (7, [.ref c7, .ref u6_1, .ref c8])), (c7, .inl (G.2.1 1, m7, .inl g_7)), (c8, .inl (G.2.1 1, m8, .inl g_8)), (c9, .inr (1, [.ref c10, .int y9_1])), (c10, .inl (G.2.1 0, m10, .inl g_10))] H → va_D A [(c0, .inr (8, [.ref c1, .ref u0_1, .ref u0_2, .ref u0_3, .ref u0_4, .ref u0_5, .ref u0_6, .int y0_7, .int y0_8])), (c1, .inr (6, [.ref c2, .int y1_1, .int y1_2, .int y1_3])), (c2, .inl (G.2.1 0, m2, .inl g_2)), (c3, .inr (7, [.ref c4, .ref u3_1, .ref c5])), (c4, .inl (G.2.1 1, m4, .inl g_4)), (c5, .inl (G.2.1 1, m5, .inl g_5)), (c6, .inr (7, [.ref c7, .ref u6_1, .ref c8])), (c7, .inl (G.2.1 1, m7, .inl g_7)), (c8, .inl (G.2.1 1, m8, .inl g_8)), (c9, .inr (1, [.ref c10, .int y9_1])), (c10, .inl (G.2.1 0, m10, .inl g_10))] → va_S A s.heap H locs → lv_has ls 6 [(0, .ref c0), (1, .ref c3), (2, .ref c6), (3, .ref c9), (4, .int i4)] → W p l e R s m args below meth c H locs kc ks Q (F0 m 3 ls []) := by
  obtain ⟨hx, hb, hml, hown, hts, hr, hlocks, hin⟩ := id C0
  have hown : s.vm.findClass R_Un = some m.cls := hown
  intro n
  induction n with
  | zero => intro i4 y1_2 y1_3 y9_1 m10 g_10 c10 kc ks k z H locs ls h; cases h
  | succ n ih =>
    intro i4 y1_2 y1_3 y9_1 m10 g_10 c10 kc ks k z H locs ls h ekc ezc hP hD hS hl
    replace h : lb_Un_readCoded_3 N y1_1 m2 g_2 m4 g_4 m5 g_5 m7 g_7 m8 g_8 (lp_Un_readCoded_3 N y1_1 m2 g_2 m4 g_4 m5 g_5 m7 g_7 m8 g_8 n) i4 y1_2 y1_3 y9_1 m10 g_10 = some (out, k, z) := h
    unfold lb_Un_readCoded_3 at h
    refine lv_iload hx hb d_Un_readCoded_3 (lv_at hl 4 rfl) ?_
    refine lv_ldc (v := 524288) hx hb hown (hts _ q273) d_Un_readCoded_5 ?_
    refine lv_icmp_ge (tgt := 93) hx hb d_Un_readCoded_7 (by decide) (fun cq17 => ?_) (fun cq17 => ?_)
    · replace h := (if_pos cq17).symm.trans h
      obtain ⟨eV, ek, ez⟩ := so3 h
      subst eV
      refine W.widen (k := KT) (n := ZT) (by omega) (by omega) ?_
      exact kx93 c10 _ _ _ rfl hP hD hS (lv_sub hl [] rfl)
    · replace h := (if_neg cq17).symm.trans h
      refine lv_aload_n hx hb d_Un_readCoded_10 rfl (lv_at hl 0 rfl) ?_
      refine va_get (D := G.1) (ci := 8) (v := .ref c1) (C := R_Un) (T := F_Un) (N := 9) hx hb hts i_Un hown hK hP 0 rfl rfl 0 (by decide) (hts _ q77) (fun _ h9 => h9) rfl d_Un_readCoded_11 ?_
      obtain ⟨r18, hc18, h⟩ := Bd_e h
      refine xV_i0 (wr := [(c0, .inr (8, [.ref c1, .ref u0_1, .ref u0_2, .ref u0_3, .ref u0_4, .ref u0_5, .ref u0_6, .int y0_7, .int y0_8])), (c2, .inl (G.2.1 0, m2, .inl g_2)), (c3, .inr (7, [.ref c4, .ref u3_1, .ref c5])), (c4, .inl (G.2.1 1, m4, .inl g_4)), (c5, .inl (G.2.1 1, m5, .inl g_5)), (c6, .inr (7, [.ref c7, .ref u6_1, .ref c8])), (c7, .inl (G.2.1 1, m7, .inl g_7)), (c8, .inl (G.2.1 1, m8, .inl g_8)), (c9, .inr (1, [.ref c10, .int y9_1])), (c10, .inl (G.2.1 0, m10, .inl g_10))]) (rest := []) C0 hK hT hA hP hD hS hl.1 (c_BR_ranOut l G c1 c2 _ y1_1 y1_2 y1_3  N r18 hc18) (goodV q281 q282 q283 q68 q284) 0 rfl hd_BR_ranOut (Nat.le_trans (by decide) hRf) (Nat.le_trans (by decide) hRl) [1] [0, 2, 3, 4, 5, 6, 7, 8, 9, 10] rfl rfl (by decide) (by decide) (by decide) 6 1 rfl rfl rfl (Nat.le_of_ble_eq_true rfl) d_Un_readCoded_14 (by omega) (by omega) (fun w1 H locs hE hP hD hS => ?_)
      subst hE
      have hP : va_P G.1 classes [(c0, .inr (8, [.ref c1, .ref u0_1, .ref u0_2, .ref u0_3, .ref u0_4, .ref u0_5, .ref u0_6, .int y0_7, .int y0_8])), (c2, .inl (G.2.1 0, m2, .inl g_2)), (c3, .inr (7, [.ref c4, .ref u3_1, .ref c5])), (c4, .inl (G.2.1 1, m4, .inl g_4)), (c5, .inl (G.2.1 1, m5, .inl g_5)), (c6, .inr (7, [.ref c7, .ref u6_1, .ref c8])), (c7, .inl (G.2.1 1, m7, .inl g_7)), (c8, .inl (G.2.1 1, m8, .inl g_8)), (c9, .inr (1, [.ref c10, .int y9_1])), (c10, .inl (G.2.1 0, m10, .inl g_10)), (c1, .inr (6, [.ref c2, .int y1_1, .int y1_2, .int y1_3]))] H := hP
      have hD : va_D A [(c0, .inr (8, [.ref c1, .ref u0_1, .ref u0_2, .ref u0_3, .ref u0_4, .ref u0_5, .ref u0_6, .int y0_7, .int y0_8])), (c2, .inl (G.2.1 0, m2, .inl g_2)), (c3, .inr (7, [.ref c4, .ref u3_1, .ref c5])), (c4, .inl (G.2.1 1, m4, .inl g_4)), (c5, .inl (G.2.1 1, m5, .inl g_5)), (c6, .inr (7, [.ref c7, .ref u6_1, .ref c8])), (c7, .inl (G.2.1 1, m7, .inl g_7)), (c8, .inl (G.2.1 1, m8, .inl g_8)), (c9, .inr (1, [.ref c10, .int y9_1])), (c10, .inl (G.2.1 0, m10, .inl g_10)), (c1, .inr (6, [.ref c2, .int y1_1, .int y1_2, .int y1_3]))] := hD
      refine lv_if_ne (tgt := 93) hx hb d_Un_readCoded_17 (by decide) (fun cq19 => ?_) (fun cq19 => ?_)
      · replace h := (if_neg cq19).symm.trans h
        obtain ⟨eV, ek, ez⟩ := so3 h
        subst eV
        refine W.widen (k := KT) (n := ZT) (by omega) (by omega) ?_
        exact kx93 c10 _ _ _ rfl (hP.sub (ws' := [(c0, .inr (8, [.ref c1, .ref u0_1, .ref u0_2, .ref u0_3, .ref u0_4, .ref u0_5, .ref u0_6, .int y0_7, .int y0_8])), (c1, .inr (6, [.ref c2, .int y1_1, .int y1_2, .int y1_3])), (c2, .inl (G.2.1 0, m2, .inl g_2)), (c3, .inr (7, [.ref c4, .ref u3_1, .ref c5])), (c4, .inl (G.2.1 1, m4, .inl g_4)), (c5, .inl (G.2.1 1, m5, .inl g_5)), (c6, .inr (7, [.ref c7, .ref u6_1, .ref c8])), (c7, .inl (G.2.1 1, m7, .inl g_7)), (c8, .inl (G.2.1 1, m8, .inl g_8)), (c9, .inr (1, [.ref c10, .int y9_1])), (c10, .inl (G.2.1 0, m10, .inl g_10))]) [0, 10, 1, 2, 3, 4, 5, 6, 7, 8, 9] rfl) (hD.sub (ws' := [(c0, .inr (8, [.ref c1, .ref u0_1, .ref u0_2, .ref u0_3, .ref u0_4, .ref u0_5, .ref u0_6, .int y0_7, .int y0_8])), (c1, .inr (6, [.ref c2, .int y1_1, .int y1_2, .int y1_3])), (c2, .inl (G.2.1 0, m2, .inl g_2)), (c3, .inr (7, [.ref c4, .ref u3_1, .ref c5])), (c4, .inl (G.2.1 1, m4, .inl g_4)), (c5, .inl (G.2.1 1, m5, .inl g_5)), (c6, .inr (7, [.ref c7, .ref u6_1, .ref c8])), (c7, .inl (G.2.1 1, m7, .inl g_7)), (c8, .inl (G.2.1 1, m8, .inl g_8)), (c9, .inr (1, [.ref c10, .int y9_1])), (c10, .inl (G.2.1 0, m10, .inl g_10))]) [0, 10, 1, 2, 3, 4, 5, 6, 7, 8, 9] (by decide) rfl) hS (lv_sub hl [] rfl)
      · replace h := (if_pos cq19).symm.trans h
        refine lv_aload_n hx hb d_Un_readCoded_20 rfl (lv_at hl 1 rfl) ?_
        refine lv_aload_n hx hb d_Un_readCoded_21 rfl (lv_at hl 0 rfl) ?_
        refine va_get (D := G.1) (ci := 8) (v := .ref c1) (C := R_Un) (T := F_Un) (N := 9) hx hb hts i_Un hown hK hP 0 rfl rfl 0 (by decide) (hts _ q77) (fun _ h9 => h9) rfl d_Un_readCoded_22 ?_
        obtain ⟨r20, hc20, h⟩ := Bd_e h
        refine xV_i0 (wr := [(c0, .inr (8, [.ref c1, .ref u0_1, .ref u0_2, .ref u0_3, .ref u0_4, .ref u0_5, .ref u0_6, .int y0_7, .int y0_8])), (c6, .inr (7, [.ref c7, .ref u6_1, .ref c8])), (c7, .inl (G.2.1 1, m7, .inl g_7)), (c8, .inl (G.2.1 1, m8, .inl g_8)), (c9, .inr (1, [.ref c10, .int y9_1])), (c10, .inl (G.2.1 0, m10, .inl g_10))]) (rest := []) C0 hK hT hA hP hD hS hl.1 (c_Co_next l G c1 c2 c3 c4 c5 u3_1 _ y1_1 y1_2 y1_3 m2 g_2 m4 g_4 m5 g_5  N r20 hc20) (goodV q291 q292 q293 q81 q294) 1 rfl hd_Co_next (Nat.le_trans (by decide) hRf) (Nat.le_trans (by decide) hRl) [10, 1, 2, 3, 4] [0, 5, 6, 7, 8, 9] rfl rfl (by decide) (by decide) (by decide) 7 2 rfl rfl rfl (Nat.le_of_ble_eq_true rfl) d_Un_readCoded_25 (by omega) (by omega) (fun w1 H locs hE hP hD hS => ?_)
        subst hE
        have hP : va_P G.1 classes [(c0, .inr (8, [.ref c1, .ref u0_1, .ref u0_2, .ref u0_3, .ref u0_4, .ref u0_5, .ref u0_6, .int y0_7, .int y0_8])), (c6, .inr (7, [.ref c7, .ref u6_1, .ref c8])), (c7, .inl (G.2.1 1, m7, .inl g_7)), (c8, .inl (G.2.1 1, m8, .inl g_8)), (c9, .inr (1, [.ref c10, .int y9_1])), (c10, .inl (G.2.1 0, m10, .inl g_10)), (c1, .inr (6, [.ref c2, .int y1_1, .int r20.2.1, .int r20.2.2])), (c2, .inl (G.2.1 0, m2, .inl g_2)), (c3, .inr (7, [.ref c4, .ref u3_1, .ref c5])), (c4, .inl (G.2.1 1, m4, .inl g_4)), (c5, .inl (G.2.1 1, m5, .inl g_5))] H := hP
        have hD : va_D A [(c0, .inr (8, [.ref c1, .ref u0_1, .ref u0_2, .ref u0_3, .ref u0_4, .ref u0_5, .ref u0_6, .int y0_7, .int y0_8])), (c6, .inr (7, [.ref c7, .ref u6_1, .ref c8])), (c7, .inl (G.2.1 1, m7, .inl g_7)), (c8, .inl (G.2.1 1, m8, .inl g_8)), (c9, .inr (1, [.ref c10, .int y9_1])), (c10, .inl (G.2.1 0, m10, .inl g_10)), (c1, .inr (6, [.ref c2, .int y1_1, .int r20.2.1, .int r20.2.2])), (c2, .inl (G.2.1 0, m2, .inl g_2)), (c3, .inr (7, [.ref c4, .ref u3_1, .ref c5])), (c4, .inl (G.2.1 1, m4, .inl g_4)), (c5, .inl (G.2.1 1, m5, .inl g_5))] := hD
        refine lv_istore (lv' := [(5, .int r20.1), (0, .ref c0), (1, .ref c3), (2, .ref c6), (3, .ref c9), (4, .int i4)]) hx hb d_Un_readCoded_28 hl (by decide) rfl (fun ls hl => ?_)
        refine lv_iload hx hb d_Un_readCoded_30 (lv_at hl 0 rfl) ?_
        refine lv_sipush (v := 256) hx hb d_Un_readCoded_32 (by decide) ?_
        refine lv_icmp_ne (tgt := 40) hx hb d_Un_readCoded_35 (by decide) (fun cq21 => ?_) (fun cq21 => ?_)
        · replace h := (if_neg cq21).symm.trans h
          refine lv_iload hx hb d_Un_readCoded_40 (lv_at hl 0 rfl) ?_
          refine lv_sipush (v := 256) hx hb d_Un_readCoded_42 (by decide) ?_
          refine lv_icmp_le (tgt := 65) hx hb d_Un_readCoded_45 (by decide) (fun cq22 => ?_) (fun cq22 => ?_)
          · replace h := (if_pos cq22).symm.trans h
            refine lv_iload hx hb d_Un_readCoded_65 (lv_at hl 0 rfl) ?_
            refine lv_if_lt (tgt := 79) hx hb d_Un_readCoded_67 (by decide) (fun cq23 => ?_) (fun cq23 => ?_)
            · replace h := (if_pos cq23).symm.trans h
              obtain ⟨eV, ek, ez⟩ := so3 h
              subst eV
              refine W.widen (k := KT) (n := ZT) (by omega) (by omega) ?_
              exact kx79 c10 _ _ _ rfl (hP.sub (ws' := [(c0, .inr (8, [.ref c1, .ref u0_1, .ref u0_2, .ref u0_3, .ref u0_4, .ref u0_5, .ref u0_6, .int y0_7, .int y0_8])), (c1, .inr (6, [.ref c2, .int y1_1, .int r20.2.1, .int r20.2.2])), (c2, .inl (G.2.1 0, m2, .inl g_2)), (c3, .inr (7, [.ref c4, .ref u3_1, .ref c5])), (c4, .inl (G.2.1 1, m4, .inl g_4)), (c5, .inl (G.2.1 1, m5, .inl g_5)), (c6, .inr (7, [.ref c7, .ref u6_1, .ref c8])), (c7, .inl (G.2.1 1, m7, .inl g_7)), (c8, .inl (G.2.1 1, m8, .inl g_8)), (c9, .inr (1, [.ref c10, .int y9_1])), (c10, .inl (G.2.1 0, m10, .inl g_10))]) [0, 6, 7, 8, 9, 10, 1, 2, 3, 4, 5] rfl) (hD.sub (ws' := [(c0, .inr (8, [.ref c1, .ref u0_1, .ref u0_2, .ref u0_3, .ref u0_4, .ref u0_5, .ref u0_6, .int y0_7, .int y0_8])), (c1, .inr (6, [.ref c2, .int y1_1, .int r20.2.1, .int r20.2.2])), (c2, .inl (G.2.1 0, m2, .inl g_2)), (c3, .inr (7, [.ref c4, .ref u3_1, .ref c5])), (c4, .inl (G.2.1 1, m4, .inl g_4)), (c5, .inl (G.2.1 1, m5, .inl g_5)), (c6, .inr (7, [.ref c7, .ref u6_1, .ref c8])), (c7, .inl (G.2.1 1, m7, .inl g_7)), (c8, .inl (G.2.1 1, m8, .inl g_8)), (c9, .inr (1, [.ref c10, .int y9_1])), (c10, .inl (G.2.1 0, m10, .inl g_10))]) [0, 6, 7, 8, 9, 10, 1, 2, 3, 4, 5] (by decide) rfl) hS (lv_sub hl [] rfl)
            · replace h := (if_neg cq23).symm.trans h
              refine lv_aload_n hx hb d_Un_readCoded_70 rfl (lv_at hl 4 rfl) ?_
              obtain ⟨r24, hc24, h⟩ := Bd_e h
              refine xV_i0 (wr := [(c0, .inr (8, [.ref c1, .ref u0_1, .ref u0_2, .ref u0_3, .ref u0_4, .ref u0_5, .ref u0_6, .int y0_7, .int y0_8])), (c6, .inr (7, [.ref c7, .ref u6_1, .ref c8])), (c7, .inl (G.2.1 1, m7, .inl g_7)), (c8, .inl (G.2.1 1, m8, .inl g_8)), (c10, .inl (G.2.1 0, m10, .inl g_10)), (c1, .inr (6, [.ref c2, .int y1_1, .int r20.2.1, .int r20.2.2])), (c2, .inl (G.2.1 0, m2, .inl g_2)), (c3, .inr (7, [.ref c4, .ref u3_1, .ref c5])), (c4, .inl (G.2.1 1, m4, .inl g_4)), (c5, .inl (G.2.1 1, m5, .inl g_5))]) (rest := []) C0 hK hT hA hP hD hS hl.1 (c_Row_length l G c9 c10 _ y9_1  N r24 hc24) (goodV q279 q110 q111 q5 q112) 0 rfl hd_Row_length (Nat.le_trans (by decide) hRf) (Nat.le_trans (by decide) hRl) [4] [0, 1, 2, 3, 5, 6, 7, 8, 9, 10] rfl rfl (by decide) (by decide) (by decide) 1 4 rfl rfl rfl (Nat.le_of_ble_eq_true rfl) d_Un_readCoded_71 (by omega) (by omega) (fun w1 H locs hE hP hD hS => ?_)
              subst hE
              have hP : va_P G.1 classes [(c0, .inr (8, [.ref c1, .ref u0_1, .ref u0_2, .ref u0_3, .ref u0_4, .ref u0_5, .ref u0_6, .int y0_7, .int y0_8])), (c6, .inr (7, [.ref c7, .ref u6_1, .ref c8])), (c7, .inl (G.2.1 1, m7, .inl g_7)), (c8, .inl (G.2.1 1, m8, .inl g_8)), (c10, .inl (G.2.1 0, m10, .inl g_10)), (c1, .inr (6, [.ref c2, .int y1_1, .int r20.2.1, .int r20.2.2])), (c2, .inl (G.2.1 0, m2, .inl g_2)), (c3, .inr (7, [.ref c4, .ref u3_1, .ref c5])), (c4, .inl (G.2.1 1, m4, .inl g_4)), (c5, .inl (G.2.1 1, m5, .inl g_5)), (c9, .inr (1, [.ref c10, .int y9_1]))] H := hP
              have hD : va_D A [(c0, .inr (8, [.ref c1, .ref u0_1, .ref u0_2, .ref u0_3, .ref u0_4, .ref u0_5, .ref u0_6, .int y0_7, .int y0_8])), (c6, .inr (7, [.ref c7, .ref u6_1, .ref c8])), (c7, .inl (G.2.1 1, m7, .inl g_7)), (c8, .inl (G.2.1 1, m8, .inl g_8)), (c10, .inl (G.2.1 0, m10, .inl g_10)), (c1, .inr (6, [.ref c2, .int y1_1, .int r20.2.1, .int r20.2.2])), (c2, .inl (G.2.1 0, m2, .inl g_2)), (c3, .inr (7, [.ref c4, .ref u3_1, .ref c5])), (c4, .inl (G.2.1 1, m4, .inl g_4)), (c5, .inl (G.2.1 1, m5, .inl g_5)), (c9, .inr (1, [.ref c10, .int y9_1]))] := hD
              refine lv_ldc (v := 65536) hx hb hown (hts _ q280) d_Un_readCoded_74 ?_
              refine lv_icmp_lt (tgt := 81) hx hb d_Un_readCoded_76 (by decide) (fun cq25 => ?_) (fun cq25 => ?_)
              · replace h := (if_pos cq25).symm.trans h
                refine lv_aload_n hx hb d_Un_readCoded_81 rfl (lv_at hl 4 rfl) ?_
                refine lv_iload hx hb d_Un_readCoded_82 (lv_at hl 0 rfl) ?_
                obtain ⟨r26, k26, z26, kk26, zz26, hc26, h, ek26, ez26⟩ := Bk_e h
                have ekc : kc + k26 + kk26 = KT := by omega
                have ezc : ks + z26 + zz26 = ZT := by omega
                refine xV_v (wr := [(c0, .inr (8, [.ref c1, .ref u0_1, .ref u0_2, .ref u0_3, .ref u0_4, .ref u0_5, .ref u0_6, .int y0_7, .int y0_8])), (c6, .inr (7, [.ref c7, .ref u6_1, .ref c8])), (c7, .inl (G.2.1 1, m7, .inl g_7)), (c8, .inl (G.2.1 1, m8, .inl g_8)), (c1, .inr (6, [.ref c2, .int y1_1, .int r20.2.1, .int r20.2.2])), (c2, .inl (G.2.1 0, m2, .inl g_2)), (c3, .inr (7, [.ref c4, .ref u3_1, .ref c5])), (c4, .inl (G.2.1 1, m4, .inl g_4)), (c5, .inl (G.2.1 1, m5, .inl g_5))]) (rest := []) C0 hK hT hA hP hD hS hl.1 (c_Row_add l G c9 c10 _ y9_1 m10 g_10 r20.1 N r26 k26 z26 hc26) (goodV q285 q135 q136 q5 q137) 1 rfl hd_Row_add (Nat.le_trans (by decide) hRf) (Nat.le_trans (by decide) hRl) [10, 4] [0, 1, 2, 3, 5, 6, 7, 8, 9] rfl rfl (by decide) (by decide) (by decide) 1 10 rfl rfl rfl (Nat.le_of_ble_eq_true rfl) d_Un_readCoded_84 (by omega) (by omega) (fun w1 H locs hE hP hD hS => ?_)
                obtain ⟨b27, rfl⟩ := hE
                have hP : va_P G.1 classes [(c0, .inr (8, [.ref c1, .ref u0_1, .ref u0_2, .ref u0_3, .ref u0_4, .ref u0_5, .ref u0_6, .int y0_7, .int y0_8])), (c6, .inr (7, [.ref c7, .ref u6_1, .ref c8])), (c7, .inl (G.2.1 1, m7, .inl g_7)), (c8, .inl (G.2.1 1, m8, .inl g_8)), (c1, .inr (6, [.ref c2, .int y1_1, .int r20.2.1, .int r20.2.2])), (c2, .inl (G.2.1 0, m2, .inl g_2)), (c3, .inr (7, [.ref c4, .ref u3_1, .ref c5])), (c4, .inl (G.2.1 1, m4, .inl g_4)), (c5, .inl (G.2.1 1, m5, .inl g_5)), (c9, .inr (1, [.ref b27, .int r26.1])), (b27, .inl (G.2.1 0, r26.2.1, .inl r26.2.2))] H := hP
                have hD : va_D A [(c0, .inr (8, [.ref c1, .ref u0_1, .ref u0_2, .ref u0_3, .ref u0_4, .ref u0_5, .ref u0_6, .int y0_7, .int y0_8])), (c6, .inr (7, [.ref c7, .ref u6_1, .ref c8])), (c7, .inl (G.2.1 1, m7, .inl g_7)), (c8, .inl (G.2.1 1, m8, .inl g_8)), (c1, .inr (6, [.ref c2, .int y1_1, .int r20.2.1, .int r20.2.2])), (c2, .inl (G.2.1 0, m2, .inl g_2)), (c3, .inr (7, [.ref c4, .ref u3_1, .ref c5])), (c4, .inl (G.2.1 1, m4, .inl g_4)), (c5, .inl (G.2.1 1, m5, .inl g_5)), (c9, .inr (1, [.ref b27, .int r26.1])), (b27, .inl (G.2.1 0, r26.2.1, .inl r26.2.2))] := hD
                obtain ⟨v28, ev28⟩ : ∃ y : Int32, y = i4 + 1 := ⟨_, rfl⟩
                replace h := Lt_e h ev28
                refine lv_iinc (v := v28) (lv' := [(4, .int v28), (5, .int r20.1), (0, .ref c0), (1, .ref c3), (2, .ref c6), (3, .ref c9)]) hx hb d_Un_readCoded_87 hl (k := 5) rfl (by rw [ev28]; rfl) (by decide) rfl (fun ls hl => ?_)
                refine lv_goto (tgt := 3) hx hb d_Un_readCoded_90 (by decide) ?_
                exact ih v28 r20.2.1 r20.2.2 r26.1 r26.2.1 r26.2.2 b27 _ _ _ _ _ _ _ h (by omega) (by omega) (hP.sub (ws' := [(c0, .inr (8, [.ref c1, .ref u0_1, .ref u0_2, .ref u0_3, .ref u0_4, .ref u0_5, .ref u0_6, .int y0_7, .int y0_8])), (c1, .inr (6, [.ref c2, .int y1_1, .int r20.2.1, .int r20.2.2])), (c2, .inl (G.2.1 0, m2, .inl g_2)), (c3, .inr (7, [.ref c4, .ref u3_1, .ref c5])), (c4, .inl (G.2.1 1, m4, .inl g_4)), (c5, .inl (G.2.1 1, m5, .inl g_5)), (c6, .inr (7, [.ref c7, .ref u6_1, .ref c8])), (c7, .inl (G.2.1 1, m7, .inl g_7)), (c8, .inl (G.2.1 1, m8, .inl g_8)), (c9, .inr (1, [.ref b27, .int r26.1])), (b27, .inl (G.2.1 0, r26.2.1, .inl r26.2.2))]) [0, 4, 5, 6, 7, 8, 1, 2, 3, 9, 10] rfl) (hD.sub (ws' := [(c0, .inr (8, [.ref c1, .ref u0_1, .ref u0_2, .ref u0_3, .ref u0_4, .ref u0_5, .ref u0_6, .int y0_7, .int y0_8])), (c1, .inr (6, [.ref c2, .int y1_1, .int r20.2.1, .int r20.2.2])), (c2, .inl (G.2.1 0, m2, .inl g_2)), (c3, .inr (7, [.ref c4, .ref u3_1, .ref c5])), (c4, .inl (G.2.1 1, m4, .inl g_4)), (c5, .inl (G.2.1 1, m5, .inl g_5)), (c6, .inr (7, [.ref c7, .ref u6_1, .ref c8])), (c7, .inl (G.2.1 1, m7, .inl g_7)), (c8, .inl (G.2.1 1, m8, .inl g_8)), (c9, .inr (1, [.ref b27, .int r26.1])), (b27, .inl (G.2.1 0, r26.2.1, .inl r26.2.2))]) [0, 4, 5, 6, 7, 8, 1, 2, 3, 9, 10] (by decide) rfl) hS (lv_sub hl [2, 3, 4, 5, 0] rfl)
              · replace h := (if_neg cq25).symm.trans h
                obtain ⟨eV, ek, ez⟩ := so3 h
                subst eV
                refine W.widen (k := KT) (n := ZT) (by omega) (by omega) ?_
                exact kx79 c10 _ _ _ rfl (hP.sub (ws' := [(c0, .inr (8, [.ref c1, .ref u0_1, .ref u0_2, .ref u0_3, .ref u0_4, .ref u0_5, .ref u0_6, .int y0_7, .int y0_8])), (c1, .inr (6, [.ref c2, .int y1_1, .int r20.2.1, .int r20.2.2])), (c2, .inl (G.2.1 0, m2, .inl g_2)), (c3, .inr (7, [.ref c4, .ref u3_1, .ref c5])), (c4, .inl (G.2.1 1, m4, .inl g_4)), (c5, .inl (G.2.1 1, m5, .inl g_5)), (c6, .inr (7, [.ref c7, .ref u6_1, .ref c8])), (c7, .inl (G.2.1 1, m7, .inl g_7)), (c8, .inl (G.2.1 1, m8, .inl g_8)), (c9, .inr (1, [.ref c10, .int y9_1])), (c10, .inl (G.2.1 0, m10, .inl g_10))]) [0, 5, 6, 7, 8, 9, 1, 2, 3, 10, 4] rfl) (hD.sub (ws' := [(c0, .inr (8, [.ref c1, .ref u0_1, .ref u0_2, .ref u0_3, .ref u0_4, .ref u0_5, .ref u0_6, .int y0_7, .int y0_8])), (c1, .inr (6, [.ref c2, .int y1_1, .int r20.2.1, .int r20.2.2])), (c2, .inl (G.2.1 0, m2, .inl g_2)), (c3, .inr (7, [.ref c4, .ref u3_1, .ref c5])), (c4, .inl (G.2.1 1, m4, .inl g_4)), (c5, .inl (G.2.1 1, m5, .inl g_5)), (c6, .inr (7, [.ref c7, .ref u6_1, .ref c8])), (c7, .inl (G.2.1 1, m7, .inl g_7)), (c8, .inl (G.2.1 1, m8, .inl g_8)), (c9, .inr (1, [.ref c10, .int y9_1])), (c10, .inl (G.2.1 0, m10, .inl g_10))]) [0, 5, 6, 7, 8, 9, 1, 2, 3, 10, 4] (by decide) rfl) hS (lv_sub hl [] rfl)
          · replace h := (if_neg cq22).symm.trans h
            refine lv_aload_n hx hb d_Un_readCoded_48 rfl (lv_at hl 1 rfl) ?_
            refine lv_iload hx hb d_Un_readCoded_49 (lv_at hl 0 rfl) ?_
            refine lv_sipush (v := 257) hx hb d_Un_readCoded_51 (by decide) ?_
            refine lv_isub hx hb d_Un_readCoded_54 ?_
            refine lv_aload_n hx hb d_Un_readCoded_55 rfl (lv_at hl 3 rfl) ?_
            refine lv_aload_n hx hb d_Un_readCoded_56 rfl (lv_at hl 4 rfl) ?_
            obtain ⟨r29, k29, z29, kk29, zz29, hc29, h, ek29, ez29⟩ := Bk_e h
            have ekc : kc + k29 + kk29 = KT := by omega
            have ezc : ks + z29 + zz29 = ZT := by omega
            refine xV_i (wr := [(c3, .inr (7, [.ref c4, .ref u3_1, .ref c5])), (c4, .inl (G.2.1 1, m4, .inl g_4)), (c5, .inl (G.2.1 1, m5, .inl g_5))]) (rest := []) C0 hK hT hA hP hD hS hl.1 (c_Un_readPair l G c0 c1 c2 c6 c7 c8 c9 c10 u0_1 u0_2 u0_3 u0_4 u0_5 u0_6 u6_1 _ y0_7 y0_8 y1_1 r20.2.1 r20.2.2 m2 g_2 m7 g_7 m8 g_8 y9_1 m10 g_10 (r20.1 - 257) N r29 k29 z29 hc29) (goodV q300 q301 q302 q64 q303) 3 rfl hd_Un_readPair (Nat.le_trans (by decide) hRf) (Nat.le_trans (by decide) hRl) [0, 6, 7, 1, 2, 3, 4, 5] [8, 9, 10] rfl rfl (by decide) (by decide) (by decide) 8 0 rfl rfl rfl (Nat.le_of_ble_eq_true rfl) d_Un_readCoded_57 (by omega) (by omega) (fun w1 H locs hE hP hD hS => ?_)
            obtain ⟨b30, rfl⟩ := hE
            have hP : va_P G.1 classes [(c3, .inr (7, [.ref c4, .ref u3_1, .ref c5])), (c4, .inl (G.2.1 1, m4, .inl g_4)), (c5, .inl (G.2.1 1, m5, .inl g_5)), (c0, .inr (8, [.ref c1, .ref u0_1, .ref u0_2, .ref u0_3, .ref u0_4, .ref u0_5, .ref u0_6, .int y0_7, .int y0_8])), (c1, .inr (6, [.ref c2, .int y1_1, .int r29.2.1, .int r29.2.2.1])), (c2, .inl (G.2.1 0, m2, .inl g_2)), (c6, .inr (7, [.ref c7, .ref u6_1, .ref c8])), (c7, .inl (G.2.1 1, m7, .inl g_7)), (c8, .inl (G.2.1 1, m8, .inl g_8)), (c9, .inr (1, [.ref b30, .int r29.2.2.2.1])), (b30, .inl (G.2.1 0, r29.2.2.2.2.1, .inl r29.2.2.2.2.2))] H := hP
            have hD : va_D A [(c3, .inr (7, [.ref c4, .ref u3_1, .ref c5])), (c4, .inl (G.2.1 1, m4, .inl g_4)), (c5, .inl (G.2.1 1, m5, .inl g_5)), (c0, .inr (8, [.ref c1, .ref u0_1, .ref u0_2, .ref u0_3, .ref u0_4, .ref u0_5, .ref u0_6, .int y0_7, .int y0_8])), (c1, .inr (6, [.ref c2, .int y1_1, .int r29.2.1, .int r29.2.2.1])), (c2, .inl (G.2.1 0, m2, .inl g_2)), (c6, .inr (7, [.ref c7, .ref u6_1, .ref c8])), (c7, .inl (G.2.1 1, m7, .inl g_7)), (c8, .inl (G.2.1 1, m8, .inl g_8)), (c9, .inr (1, [.ref b30, .int r29.2.2.2.1])), (b30, .inl (G.2.1 0, r29.2.2.2.2.1, .inl r29.2.2.2.2.2))] := hD
            refine lv_if_ne (tgt := 87) hx hb d_Un_readCoded_60 (by decide) (fun cq31 => ?_) (fun cq31 => ?_)
            · replace h := (if_neg cq31).symm.trans h
              obtain ⟨v32, ev32⟩ : ∃ y : Int32, y = i4 + 1 := ⟨_, rfl⟩
              replace h := Lt_e h ev32
              refine lv_iinc (v := v32) (lv' := [(4, .int v32), (5, .int r20.1), (0, .ref c0), (1, .ref c3), (2, .ref c6), (3, .ref c9)]) hx hb d_Un_readCoded_87 hl (k := 5) rfl (by rw [ev32]; rfl) (by decide) rfl (fun ls hl => ?_)
              refine lv_goto (tgt := 3) hx hb d_Un_readCoded_90 (by decide) ?_
              exact ih v32 r29.2.1 r29.2.2.1 r29.2.2.2.1 r29.2.2.2.2.1 r29.2.2.2.2.2 b30 _ _ _ _ _ _ _ h (by omega) (by omega) (hP.sub (ws' := [(c0, .inr (8, [.ref c1, .ref u0_1, .ref u0_2, .ref u0_3, .ref u0_4, .ref u0_5, .ref u0_6, .int y0_7, .int y0_8])), (c1, .inr (6, [.ref c2, .int y1_1, .int r29.2.1, .int r29.2.2.1])), (c2, .inl (G.2.1 0, m2, .inl g_2)), (c3, .inr (7, [.ref c4, .ref u3_1, .ref c5])), (c4, .inl (G.2.1 1, m4, .inl g_4)), (c5, .inl (G.2.1 1, m5, .inl g_5)), (c6, .inr (7, [.ref c7, .ref u6_1, .ref c8])), (c7, .inl (G.2.1 1, m7, .inl g_7)), (c8, .inl (G.2.1 1, m8, .inl g_8)), (c9, .inr (1, [.ref b30, .int r29.2.2.2.1])), (b30, .inl (G.2.1 0, r29.2.2.2.2.1, .inl r29.2.2.2.2.2))]) [3, 4, 5, 0, 1, 2, 6, 7, 8, 9, 10] rfl) (hD.sub (ws' := [(c0, .inr (8, [.ref c1, .ref u0_1, .ref u0_2, .ref u0_3, .ref u0_4, .ref u0_5, .ref u0_6, .int y0_7, .int y0_8])), (c1, .inr (6, [.ref c2, .int y1_1, .int r29.2.1, .int r29.2.2.1])), (c2, .inl (G.2.1 0, m2, .inl g_2)), (c3, .inr (7, [.ref c4, .ref u3_1, .ref c5])), (c4, .inl (G.2.1 1, m4, .inl g_4)), (c5, .inl (G.2.1 1, m5, .inl g_5)), (c6, .inr (7, [.ref c7, .ref u6_1, .ref c8])), (c7, .inl (G.2.1 1, m7, .inl g_7)), (c8, .inl (G.2.1 1, m8, .inl g_8)), (c9, .inr (1, [.ref b30, .int r29.2.2.2.1])), (b30, .inl (G.2.1 0, r29.2.2.2.2.1, .inl r29.2.2.2.2.2))]) [3, 4, 5, 0, 1, 2, 6, 7, 8, 9, 10] (by decide) rfl) hS (lv_sub hl [2, 3, 4, 5, 0] rfl)
            · replace h := (if_pos cq31).symm.trans h
              obtain ⟨eV, ek, ez⟩ := so3 h
              subst eV
              refine W.widen (k := KT) (n := ZT) (by omega) (by omega) ?_
              exact kx63 b30 _ _ _ rfl (hP.sub (ws' := [(c0, .inr (8, [.ref c1, .ref u0_1, .ref u0_2, .ref u0_3, .ref u0_4, .ref u0_5, .ref u0_6, .int y0_7, .int y0_8])), (c1, .inr (6, [.ref c2, .int y1_1, .int r29.2.1, .int r29.2.2.1])), (c2, .inl (G.2.1 0, m2, .inl g_2)), (c3, .inr (7, [.ref c4, .ref u3_1, .ref c5])), (c4, .inl (G.2.1 1, m4, .inl g_4)), (c5, .inl (G.2.1 1, m5, .inl g_5)), (c6, .inr (7, [.ref c7, .ref u6_1, .ref c8])), (c7, .inl (G.2.1 1, m7, .inl g_7)), (c8, .inl (G.2.1 1, m8, .inl g_8)), (c9, .inr (1, [.ref b30, .int r29.2.2.2.1])), (b30, .inl (G.2.1 0, r29.2.2.2.2.1, .inl r29.2.2.2.2.2))]) [3, 4, 5, 0, 1, 2, 6, 7, 8, 9, 10] rfl) (hD.sub (ws' := [(c0, .inr (8, [.ref c1, .ref u0_1, .ref u0_2, .ref u0_3, .ref u0_4, .ref u0_5, .ref u0_6, .int y0_7, .int y0_8])), (c1, .inr (6, [.ref c2, .int y1_1, .int r29.2.1, .int r29.2.2.1])), (c2, .inl (G.2.1 0, m2, .inl g_2)), (c3, .inr (7, [.ref c4, .ref u3_1, .ref c5])), (c4, .inl (G.2.1 1, m4, .inl g_4)), (c5, .inl (G.2.1 1, m5, .inl g_5)), (c6, .inr (7, [.ref c7, .ref u6_1, .ref c8])), (c7, .inl (G.2.1 1, m7, .inl g_7)), (c8, .inl (G.2.1 1, m8, .inl g_8)), (c9, .inr (1, [.ref b30, .int r29.2.2.2.1])), (b30, .inl (G.2.1 0, r29.2.2.2.2.1, .inl r29.2.2.2.2.2))]) [3, 4, 5, 0, 1, 2, 6, 7, 8, 9, 10] (by decide) rfl) hS (lv_sub hl [] rfl)
        · replace h := (if_pos cq21).symm.trans h
          obtain ⟨eV, ek, ez⟩ := so3 h
          subst eV
          refine W.widen (k := KT) (n := ZT) (by omega) (by omega) ?_
          exact kx38 c10 _ _ _ rfl (hP.sub (ws' := [(c0, .inr (8, [.ref c1, .ref u0_1, .ref u0_2, .ref u0_3, .ref u0_4, .ref u0_5, .ref u0_6, .int y0_7, .int y0_8])), (c1, .inr (6, [.ref c2, .int y1_1, .int r20.2.1, .int r20.2.2])), (c2, .inl (G.2.1 0, m2, .inl g_2)), (c3, .inr (7, [.ref c4, .ref u3_1, .ref c5])), (c4, .inl (G.2.1 1, m4, .inl g_4)), (c5, .inl (G.2.1 1, m5, .inl g_5)), (c6, .inr (7, [.ref c7, .ref u6_1, .ref c8])), (c7, .inl (G.2.1 1, m7, .inl g_7)), (c8, .inl (G.2.1 1, m8, .inl g_8)), (c9, .inr (1, [.ref c10, .int y9_1])), (c10, .inl (G.2.1 0, m10, .inl g_10))]) [0, 6, 7, 8, 9, 10, 1, 2, 3, 4, 5] rfl) (hD.sub (ws' := [(c0, .inr (8, [.ref c1, .ref u0_1, .ref u0_2, .ref u0_3, .ref u0_4, .ref u0_5, .ref u0_6, .int y0_7, .int y0_8])), (c1, .inr (6, [.ref c2, .int y1_1, .int r20.2.1, .int r20.2.2])), (c2, .inl (G.2.1 0, m2, .inl g_2)), (c3, .inr (7, [.ref c4, .ref u3_1, .ref c5])), (c4, .inl (G.2.1 1, m4, .inl g_4)), (c5, .inl (G.2.1 1, m5, .inl g_5)), (c6, .inr (7, [.ref c7, .ref u6_1, .ref c8])), (c7, .inl (G.2.1 1, m7, .inl g_7)), (c8, .inl (G.2.1 1, m8, .inl g_8)), (c9, .inr (1, [.ref c10, .int y9_1])), (c10, .inl (G.2.1 0, m10, .inl g_10))]) [0, 6, 7, 8, 9, 10, 1, 2, 3, 4, 5] (by decide) rfl) hS (lv_sub hl [] rfl)
set_option maxHeartbeats 4000000 in
set_option maxRecDepth 100000 in
theorem c_Un_readCoded (l : Launch) (G : GX) (a0 a1 a2 a3 a4 a5 a6 a7 a8 a9 a10 o0_1 o0_2 o0_3 o0_4 o0_5 o0_6 o3_1 o8_1 : Nat) (sz : Nat) (x0_7 : Int32) (x0_8 : Int32) (x1_1 : Int32) (x1_2 : Int32) (x1_3 : Int32) (n2 : Nat) (f2 : (Nat → Int32)) (n4 : Nat) (f4 : (Nat → Int32)) (n5 : Nat) (f5 : (Nat → Int32)) (x6_1 : Int32) (n7 : Nat) (f7 : (Nat → Int32)) (n9 : Nat) (f9 : (Nat → Int32)) (n10 : Nat) (f10 : (Nat → Int32))  (N : Nat) (V : Int32 × Int32 × Int32 × Int32 × Nat × (Nat → Int32)) (K Z : Nat) (h : f_Un_readCoded N x1_1 x1_2 x1_3 n2 f2 n4 f4 n5 f5 x6_1 n7 f7 n9 f9 n10 f10 = some (V, K, Z)) :
    Met l y_Un_readCoded (wd y_Un_readCoded b_Un_readCoded 6 (some .boolean)) { frames := 5, cells := K, slots := Z, locals := 152 } (PX G [.ref a0, .ref a3, .ref a8, .ref a6] sz [(a0, .inr (8, [.ref a1, .ref o0_1, .ref o0_2, .ref o0_3, .ref o0_4, .ref o0_5, .ref o0_6, .int x0_7, .int x0_8])), (a1, .inr (6, [.ref a2, .int x1_1, .int x1_2, .int x1_3])), (a2, .inl (G.2.1 0, n2, .inl f2)), (a3, .inr (7, [.ref a4, .ref o3_1, .ref a5])), (a4, .inl (G.2.1 1, n4, .inl f4)), (a5, .inl (G.2.1 1, n5, .inl f5)), (a6, .inr (1, [.ref a7, .int x6_1])), (a7, .inl (G.2.1 0, n7, .inl f7)), (a8, .inr (7, [.ref a9, .ref o8_1, .ref a10])), (a9, .inl (G.2.1 1, n9, .inl f9)), (a10, .inl (G.2.1 1, n10, .inl f10))])
      (QXi G V.1 (fun w => ∃ e0 : Nat, w = [(a0, .inr (8, [.ref a1, .ref o0_1, .ref o0_2, .ref o0_3, .ref o0_4, .ref o0_5, .ref o0_6, .int x0_7, .int x0_8])), (a1, .inr (6, [.ref a2, .int x1_1, .int V.2.1, .int V.2.2.1])), (a2, .inl (G.2.1 0, n2, .inl f2)), (a3, .inr (7, [.ref a4, .ref o3_1, .ref a5])), (a4, .inl (G.2.1 1, n4, .inl f4)), (a5, .inl (G.2.1 1, n5, .inl f5)), (a6, .inr (1, [.ref e0, .int V.2.2.2.1])), (e0, .inl (G.2.1 0, V.2.2.2.2.1, .inl V.2.2.2.2.2)), (a8, .inr (7, [.ref a9, .ref o8_1, .ref a10])), (a9, .inl (G.2.1 1, n9, .inl f9)), (a10, .inl (G.2.1 1, n10, .inl f10))]) (va_A [(a0, .inr (8, [.ref a1, .ref o0_1, .ref o0_2, .ref o0_3, .ref o0_4, .ref o0_5, .ref o0_6, .int x0_7, .int x0_8])), (a1, .inr (6, [.ref a2, .int x1_1, .int x1_2, .int x1_3])), (a2, .inl (G.2.1 0, n2, .inl f2)), (a3, .inr (7, [.ref a4, .ref o3_1, .ref a5])), (a4, .inl (G.2.1 1, n4, .inl f4)), (a5, .inl (G.2.1 1, n5, .inl f5)), (a6, .inr (1, [.ref a7, .int x6_1])), (a7, .inl (G.2.1 0, n7, .inl f7)), (a8, .inr (7, [.ref a9, .ref o8_1, .ref a10])), (a9, .inl (G.2.1 1, n9, .inl f9)), (a10, .inl (G.2.1 1, n10, .inl f10))] sz)) K Z (va_A [(a0, .inr (8, [.ref a1, .ref o0_1, .ref o0_2, .ref o0_3, .ref o0_4, .ref o0_5, .ref o0_6, .int x0_7, .int x0_8])), (a1, .inr (6, [.ref a2, .int x1_1, .int x1_2, .int x1_3])), (a2, .inl (G.2.1 0, n2, .inl f2)), (a3, .inr (7, [.ref a4, .ref o3_1, .ref a5])), (a4, .inl (G.2.1 1, n4, .inl f4)), (a5, .inl (G.2.1 1, n5, .inl f5)), (a6, .inr (1, [.ref a7, .int x6_1])), (a7, .inl (G.2.1 0, n7, .inl f7)), (a8, .inr (7, [.ref a9, .ref o8_1, .ref a10])), (a9, .inl (G.2.1 1, n9, .inl f9)), (a10, .inl (G.2.1 1, n10, .inl f10))] sz) := by
  refine Met_in (QQ := fun A => QXi G V.1 (fun w => ∃ e0 : Nat, w = [(a0, .inr (8, [.ref a1, .ref o0_1, .ref o0_2, .ref o0_3, .ref o0_4, .ref o0_5, .ref o0_6, .int x0_7, .int x0_8])), (a1, .inr (6, [.ref a2, .int x1_1, .int V.2.1, .int V.2.2.1])), (a2, .inl (G.2.1 0, n2, .inl f2)), (a3, .inr (7, [.ref a4, .ref o3_1, .ref a5])), (a4, .inl (G.2.1 1, n4, .inl f4)), (a5, .inl (G.2.1 1, n5, .inl f5)), (a6, .inr (1, [.ref e0, .int V.2.2.2.1])), (e0, .inl (G.2.1 0, V.2.2.2.2.1, .inl V.2.2.2.2.2)), (a8, .inr (7, [.ref a9, .ref o8_1, .ref a10])), (a9, .inl (G.2.1 1, n9, .inl f9)), (a10, .inl (G.2.1 1, n10, .inl f10))]) A) (by decide) (Nat.le_of_ble_eq_true rfl) (fun p e s m below meth c R Q A ls C0 hRf hRl hRc hRs hP hK hD hT hA hS hl hQ => ?_)
  obtain ⟨hx, hb, hml, hown, hts, hr, hlocks, hin⟩ := id C0
  have hown : s.vm.findClass R_Un = some m.cls := hown
  have hl : lv_has ls 6 [(0, .ref a0), (1, .ref a3), (2, .ref a8), (3, .ref a6)] := hl
  unfold f_Un_readCoded at h
  have hKT : K ≤ R.cells := Nat.le_of_eq hRc.symm
  have hZT : Z ≤ R.slots := Nat.le_of_eq hRs.symm
  have ekc : 0 + K = K := by omega
  have ezc : 0 + Z = Z := by omega
  obtain ⟨H, hH⟩ : ∃ H, H = s.heap := ⟨_, rfl⟩
  obtain ⟨locs, hlc⟩ : ∃ x : List Loc, x = [] := ⟨_, rfl⟩
  rw [← hH] at hP
  have hS : va_S A s.heap H locs := by rw [hH, hlc]; exact hS
  suffices hgo : W p l e R s m [.ref a0, .ref a3, .ref a8, .ref a6].toArray below meth c H locs 0 0 Q (F0 m 0 ls []) by rw [hH, hlc] at hgo; exact hgo
  refine lv_iconst (v := 0) hx hb d_Un_readCoded_0 (by decide) ?_
  refine lv_istore (lv' := [(4, .int 0), (0, .ref a0), (1, .ref a3), (2, .ref a8), (3, .ref a6)]) hx hb d_Un_readCoded_1 hl (by decide) rfl (fun ls hl => ?_)
  obtain ⟨r33, k33, z33, kk33, zz33, hc33, h, ek33, ez33⟩ := Bk_e h
  refine w_Un_readCoded_3 C0 hRf hRl hA hK hT N x0_7 x0_8 x1_1 n2 f2 n4 f4 n5 f5 n9 f9 n10 f10 a0 a1 a2 a3 a4 a5 a8 a9 a10 a6 o0_1 o0_2 o0_3 o0_4 o0_5 o0_6 o3_1 o8_1 r33 (KT := 0 + k33) (ZT := 0 + z33) (by omega) (by omega) ?_ ?_ ?_ ?_ N 0 x1_2 x1_3 x6_1 n7 f7 a7 0 0 _ _ _ _ _ hc33 rfl rfl (hP.sub (ws' := [(a0, .inr (8, [.ref a1, .ref o0_1, .ref o0_2, .ref o0_3, .ref o0_4, .ref o0_5, .ref o0_6, .int x0_7, .int x0_8])), (a1, .inr (6, [.ref a2, .int x1_1, .int x1_2, .int x1_3])), (a2, .inl (G.2.1 0, n2, .inl f2)), (a3, .inr (7, [.ref a4, .ref o3_1, .ref a5])), (a4, .inl (G.2.1 1, n4, .inl f4)), (a5, .inl (G.2.1 1, n5, .inl f5)), (a8, .inr (7, [.ref a9, .ref o8_1, .ref a10])), (a9, .inl (G.2.1 1, n9, .inl f9)), (a10, .inl (G.2.1 1, n10, .inl f10)), (a6, .inr (1, [.ref a7, .int x6_1])), (a7, .inl (G.2.1 0, n7, .inl f7))]) [0, 1, 2, 3, 4, 5, 8, 9, 10, 6, 7] rfl) (hD.sub (ws' := [(a0, .inr (8, [.ref a1, .ref o0_1, .ref o0_2, .ref o0_3, .ref o0_4, .ref o0_5, .ref o0_6, .int x0_7, .int x0_8])), (a1, .inr (6, [.ref a2, .int x1_1, .int x1_2, .int x1_3])), (a2, .inl (G.2.1 0, n2, .inl f2)), (a3, .inr (7, [.ref a4, .ref o3_1, .ref a5])), (a4, .inl (G.2.1 1, n4, .inl f4)), (a5, .inl (G.2.1 1, n5, .inl f5)), (a8, .inr (7, [.ref a9, .ref o8_1, .ref a10])), (a9, .inl (G.2.1 1, n9, .inl f9)), (a10, .inl (G.2.1 1, n10, .inl f10)), (a6, .inr (1, [.ref a7, .int x6_1])), (a7, .inl (G.2.1 0, n7, .inl f7))]) [0, 1, 2, 3, 4, 5, 8, 9, 10, 6, 7] (by decide) rfl) hS (lv_sub hl [1, 2, 3, 4, 0] rfl)
  · intro b34 H locs ls et hP hD hS hl
    replace h := (if_pos et).symm.trans h
    have ekc : 0 + k33 + kk33 = K := by omega
    have ezc : 0 + z33 + zz33 = Z := by omega
    refine lv_iconst (v := 1) hx hb d_Un_readCoded_38 (by decide) ?_
    obtain ⟨eV, ek, ez⟩ := so3 h
    subst eV
    exact x_zret C0 hQ rfl (hP.sub (ws' := [(a0, .inr (8, [.ref a1, .ref o0_1, .ref o0_2, .ref o0_3, .ref o0_4, .ref o0_5, .ref o0_6, .int x0_7, .int x0_8])), (a1, .inr (6, [.ref a2, .int x1_1, .int r33.2.1, .int r33.2.2.1])), (a2, .inl (G.2.1 0, n2, .inl f2)), (a3, .inr (7, [.ref a4, .ref o3_1, .ref a5])), (a4, .inl (G.2.1 1, n4, .inl f4)), (a5, .inl (G.2.1 1, n5, .inl f5)), (a6, .inr (1, [.ref b34, .int r33.2.2.2.1])), (b34, .inl (G.2.1 0, r33.2.2.2.2.1, .inl r33.2.2.2.2.2)), (a8, .inr (7, [.ref a9, .ref o8_1, .ref a10])), (a9, .inl (G.2.1 1, n9, .inl f9)), (a10, .inl (G.2.1 1, n10, .inl f10))]) [0, 1, 2, 3, 4, 5, 9, 10, 6, 7, 8] rfl) (hD.sub (ws' := [(a0, .inr (8, [.ref a1, .ref o0_1, .ref o0_2, .ref o0_3, .ref o0_4, .ref o0_5, .ref o0_6, .int x0_7, .int x0_8])), (a1, .inr (6, [.ref a2, .int x1_1, .int r33.2.1, .int r33.2.2.1])), (a2, .inl (G.2.1 0, n2, .inl f2)), (a3, .inr (7, [.ref a4, .ref o3_1, .ref a5])), (a4, .inl (G.2.1 1, n4, .inl f4)), (a5, .inl (G.2.1 1, n5, .inl f5)), (a6, .inr (1, [.ref b34, .int r33.2.2.2.1])), (b34, .inl (G.2.1 0, r33.2.2.2.2.1, .inl r33.2.2.2.2.2)), (a8, .inr (7, [.ref a9, .ref o8_1, .ref a10])), (a9, .inl (G.2.1 1, n9, .inl f9)), (a10, .inl (G.2.1 1, n10, .inl f10))]) [0, 1, 2, 3, 4, 5, 9, 10, 6, 7, 8] (by decide) rfl) hS ⟨b34, rfl⟩ (by omega) (by omega) d_Un_readCoded_39
  · intro b35 H locs ls et hP hD hS hl
    replace h := (if_neg (show ¬ r33.1 = 0 by rw [et]; decide)).symm.trans h
    have ekc : 0 + k33 + kk33 = K := by omega
    have ezc : 0 + z33 + zz33 = Z := by omega
    refine lv_iconst (v := 0) hx hb d_Un_readCoded_63 (by decide) ?_
    obtain ⟨eV, ek, ez⟩ := so3 h
    subst eV
    exact x_zret C0 hQ rfl (hP.sub (ws' := [(a0, .inr (8, [.ref a1, .ref o0_1, .ref o0_2, .ref o0_3, .ref o0_4, .ref o0_5, .ref o0_6, .int x0_7, .int x0_8])), (a1, .inr (6, [.ref a2, .int x1_1, .int r33.2.1, .int r33.2.2.1])), (a2, .inl (G.2.1 0, n2, .inl f2)), (a3, .inr (7, [.ref a4, .ref o3_1, .ref a5])), (a4, .inl (G.2.1 1, n4, .inl f4)), (a5, .inl (G.2.1 1, n5, .inl f5)), (a6, .inr (1, [.ref b35, .int r33.2.2.2.1])), (b35, .inl (G.2.1 0, r33.2.2.2.2.1, .inl r33.2.2.2.2.2)), (a8, .inr (7, [.ref a9, .ref o8_1, .ref a10])), (a9, .inl (G.2.1 1, n9, .inl f9)), (a10, .inl (G.2.1 1, n10, .inl f10))]) [0, 1, 2, 3, 4, 5, 9, 10, 6, 7, 8] rfl) (hD.sub (ws' := [(a0, .inr (8, [.ref a1, .ref o0_1, .ref o0_2, .ref o0_3, .ref o0_4, .ref o0_5, .ref o0_6, .int x0_7, .int x0_8])), (a1, .inr (6, [.ref a2, .int x1_1, .int r33.2.1, .int r33.2.2.1])), (a2, .inl (G.2.1 0, n2, .inl f2)), (a3, .inr (7, [.ref a4, .ref o3_1, .ref a5])), (a4, .inl (G.2.1 1, n4, .inl f4)), (a5, .inl (G.2.1 1, n5, .inl f5)), (a6, .inr (1, [.ref b35, .int r33.2.2.2.1])), (b35, .inl (G.2.1 0, r33.2.2.2.2.1, .inl r33.2.2.2.2.2)), (a8, .inr (7, [.ref a9, .ref o8_1, .ref a10])), (a9, .inl (G.2.1 1, n9, .inl f9)), (a10, .inl (G.2.1 1, n10, .inl f10))]) [0, 1, 2, 3, 4, 5, 9, 10, 6, 7, 8] (by decide) rfl) hS ⟨b35, rfl⟩ (by omega) (by omega) d_Un_readCoded_64
  · intro b36 H locs ls et hP hD hS hl
    replace h := (if_neg (show ¬ r33.1 = 0 by rw [et]; decide)).symm.trans h
    have ekc : 0 + k33 + kk33 = K := by omega
    have ezc : 0 + z33 + zz33 = Z := by omega
    refine lv_iconst (v := 0) hx hb d_Un_readCoded_79 (by decide) ?_
    obtain ⟨eV, ek, ez⟩ := so3 h
    subst eV
    exact x_zret C0 hQ rfl (hP.sub (ws' := [(a0, .inr (8, [.ref a1, .ref o0_1, .ref o0_2, .ref o0_3, .ref o0_4, .ref o0_5, .ref o0_6, .int x0_7, .int x0_8])), (a1, .inr (6, [.ref a2, .int x1_1, .int r33.2.1, .int r33.2.2.1])), (a2, .inl (G.2.1 0, n2, .inl f2)), (a3, .inr (7, [.ref a4, .ref o3_1, .ref a5])), (a4, .inl (G.2.1 1, n4, .inl f4)), (a5, .inl (G.2.1 1, n5, .inl f5)), (a6, .inr (1, [.ref b36, .int r33.2.2.2.1])), (b36, .inl (G.2.1 0, r33.2.2.2.2.1, .inl r33.2.2.2.2.2)), (a8, .inr (7, [.ref a9, .ref o8_1, .ref a10])), (a9, .inl (G.2.1 1, n9, .inl f9)), (a10, .inl (G.2.1 1, n10, .inl f10))]) [0, 1, 2, 3, 4, 5, 9, 10, 6, 7, 8] rfl) (hD.sub (ws' := [(a0, .inr (8, [.ref a1, .ref o0_1, .ref o0_2, .ref o0_3, .ref o0_4, .ref o0_5, .ref o0_6, .int x0_7, .int x0_8])), (a1, .inr (6, [.ref a2, .int x1_1, .int r33.2.1, .int r33.2.2.1])), (a2, .inl (G.2.1 0, n2, .inl f2)), (a3, .inr (7, [.ref a4, .ref o3_1, .ref a5])), (a4, .inl (G.2.1 1, n4, .inl f4)), (a5, .inl (G.2.1 1, n5, .inl f5)), (a6, .inr (1, [.ref b36, .int r33.2.2.2.1])), (b36, .inl (G.2.1 0, r33.2.2.2.2.1, .inl r33.2.2.2.2.2)), (a8, .inr (7, [.ref a9, .ref o8_1, .ref a10])), (a9, .inl (G.2.1 1, n9, .inl f9)), (a10, .inl (G.2.1 1, n10, .inl f10))]) [0, 1, 2, 3, 4, 5, 9, 10, 6, 7, 8] (by decide) rfl) hS ⟨b36, rfl⟩ (by omega) (by omega) d_Un_readCoded_80
  · intro b37 H locs ls et hP hD hS hl
    replace h := (if_neg (show ¬ r33.1 = 0 by rw [et]; decide)).symm.trans h
    have ekc : 0 + k33 + kk33 = K := by omega
    have ezc : 0 + z33 + zz33 = Z := by omega
    refine lv_iconst (v := 0) hx hb d_Un_readCoded_93 (by decide) ?_
    obtain ⟨eV, ek, ez⟩ := so3 h
    subst eV
    exact x_zret C0 hQ rfl (hP.sub (ws' := [(a0, .inr (8, [.ref a1, .ref o0_1, .ref o0_2, .ref o0_3, .ref o0_4, .ref o0_5, .ref o0_6, .int x0_7, .int x0_8])), (a1, .inr (6, [.ref a2, .int x1_1, .int r33.2.1, .int r33.2.2.1])), (a2, .inl (G.2.1 0, n2, .inl f2)), (a3, .inr (7, [.ref a4, .ref o3_1, .ref a5])), (a4, .inl (G.2.1 1, n4, .inl f4)), (a5, .inl (G.2.1 1, n5, .inl f5)), (a6, .inr (1, [.ref b37, .int r33.2.2.2.1])), (b37, .inl (G.2.1 0, r33.2.2.2.2.1, .inl r33.2.2.2.2.2)), (a8, .inr (7, [.ref a9, .ref o8_1, .ref a10])), (a9, .inl (G.2.1 1, n9, .inl f9)), (a10, .inl (G.2.1 1, n10, .inl f10))]) [0, 1, 2, 3, 4, 5, 9, 10, 6, 7, 8] rfl) (hD.sub (ws' := [(a0, .inr (8, [.ref a1, .ref o0_1, .ref o0_2, .ref o0_3, .ref o0_4, .ref o0_5, .ref o0_6, .int x0_7, .int x0_8])), (a1, .inr (6, [.ref a2, .int x1_1, .int r33.2.1, .int r33.2.2.1])), (a2, .inl (G.2.1 0, n2, .inl f2)), (a3, .inr (7, [.ref a4, .ref o3_1, .ref a5])), (a4, .inl (G.2.1 1, n4, .inl f4)), (a5, .inl (G.2.1 1, n5, .inl f5)), (a6, .inr (1, [.ref b37, .int r33.2.2.2.1])), (b37, .inl (G.2.1 0, r33.2.2.2.2.1, .inl r33.2.2.2.2.2)), (a8, .inr (7, [.ref a9, .ref o8_1, .ref a10])), (a9, .inl (G.2.1 1, n9, .inl f9)), (a10, .inl (G.2.1 1, n10, .inl f10))]) [0, 1, 2, 3, 4, 5, 9, 10, 6, 7, 8] (by decide) rfl) hS ⟨b37, rfl⟩ (by omega) (by omega) d_Un_readCoded_94
set_option maxHeartbeats 4000000 in
set_option maxRecDepth 100000 in
theorem w_Co_isFull_5 {p : Program} {l : Launch} {e : Env} {R : Room} {s : State} {m : MethodId} {args : Array Value} {below : List Frame} {meth : Method} {c : Code} {Q : State → Prop} {G : GX} {A : Nat → Prop} (C0 : Cx p s m args meth c b_Co_isFull 3 y_Co_isFull (some .boolean)) (hRf : 0 ≤ R.frames) (hRl : 0 ≤ R.locals) (hA : ∀ q, s.heap.size ≤ q → A q) (hK : KX G s) (hT : TX G A s) (N : Nat) (m1 : Nat) (g_1 : (Nat → Int32)) (c0 c1 u0_1 u0_2 : Nat) (out : Int32) {kc ks : Nat} (hkc : kc ≤ R.cells) (hks : ks ≤ R.slots)
    (kx31 : ∀ (H : Heap) (locs : List Loc) (ls : Array Slot), va_P G.1 classes [(c0, .inr (7, [.ref c1, .ref u0_1, .ref u0_2])), (c1, .inl (G.2.1 1, m1, .inl g_1))] H → va_D A [(c0, .inr (7, [.ref c1, .ref u0_1, .ref u0_2])), (c1, .inl (G.2.1 1, m1, .inl g_1))] → va_S A s.heap H locs → lv_has ls 3 [(1, .int out)] → W p l e R s m args below meth c H locs kc ks Q (F0 m 31 ls [])) :
    ∀ (n : Nat) (i1 : Int32) (i2 : Int32) (H : Heap) (locs : List Loc) (ls : Array Slot), lp_Co_isFull_5 N m1 g_1 n i1 i2 = some out → va_P G.1 classes [(c0, .inr (7, [.ref c1, .ref u0_1, .ref u0_2])), (c1, .inl (G.2.1 1, m1, .inl g_1))] H → va_D A [(c0, .inr (7, [.ref c1, .ref u0_1, .ref u0_2])), (c1, .inl (G.2.1 1, m1, .inl g_1))] → va_S A s.heap H locs → lv_has ls 3 [(0, .ref c0), (1, .int i1), (2, .int i2)] → W p l e R s m args below meth c H locs kc ks Q (F0 m 5 ls []) := by
  obtain ⟨hx, hb, hml, hown, hts, hr, hlocks, hin⟩ := id C0
  have hown : s.vm.findClass R_Co = some m.cls := hown
  intro n
  induction n with
  | zero => intro i1 i2 H locs ls h; cases h
  | succ n ih =>
    intro i1 i2 H locs ls h hP hD hS hl
    replace h : lb_Co_isFull_5 N m1 g_1 (lp_Co_isFull_5 N m1 g_1 n) i1 i2 = some out := h
    unfold lb_Co_isFull_5 at h
    refine lv_iload_n hx hb d_Co_isFull_5 rfl (lv_at hl 2 rfl) ?_
    refine lv_bipush (v := 15) hx hb d_Co_isFull_6 (by decide) ?_
    refine lv_icmp_gt (tgt := 31) hx hb d_Co_isFull_8 (by decide) (fun cq5 => ?_) (fun cq5 => ?_)
    · replace h := (if_pos cq5).symm.trans h
      have eV := so1 h
      subst eV
      exact kx31 _ _ _ hP hD hS (lv_sub hl [1] rfl)
    · replace h := (if_neg cq5).symm.trans h
      refine lv_iload_n hx hb d_Co_isFull_11 rfl (lv_at hl 1 rfl) ?_
      refine lv_aload_n hx hb d_Co_isFull_12 rfl (lv_at hl 0 rfl) ?_
      refine va_get (D := G.1) (ci := 7) (v := .ref c1) (C := R_Co) (T := F_Co) (N := 3) hx hb hts i_Co hown hK hP 0 rfl rfl 0 (by decide) (hts _ q83) (fun _ h9 => h9) rfl d_Co_isFull_13 ?_
      refine lv_iload_n hx hb d_Co_isFull_16 rfl (lv_at hl 2 rfl) ?_
      obtain ⟨hi6, h⟩ := Ix_e h
      refine va_iald hx hb hK hP 1 1 rfl rfl hi6 d_Co_isFull_17 ?_
      refine lv_bipush (v := 15) hx hb d_Co_isFull_18 (by decide) ?_
      refine lv_iload_n hx hb d_Co_isFull_20 rfl (lv_at hl 2 rfl) ?_
      refine lv_isub hx hb d_Co_isFull_21 ?_
      refine lv_ishl hx hb d_Co_isFull_22 ?_
      refine lv_isub hx hb d_Co_isFull_23 ?_
      refine lv_topi (fun v7 ev7 => ?_)
      replace h := Lt_e h ev7
      refine lv_istore_n (lv' := [(1, .int v7), (0, .ref c0), (2, .int i2)]) hx hb d_Co_isFull_24 rfl hl (by decide) rfl (fun ls hl => ?_)
      obtain ⟨v8, ev8⟩ : ∃ y : Int32, y = i2 + 1 := ⟨_, rfl⟩
      replace h := Lt_e h ev8
      refine lv_iinc (v := v8) (lv' := [(2, .int v8), (1, .int v7), (0, .ref c0)]) hx hb d_Co_isFull_25 hl (k := 2) rfl (by rw [ev8]; rfl) (by decide) rfl (fun ls hl => ?_)
      refine lv_goto (tgt := 5) hx hb d_Co_isFull_28 (by decide) ?_
      exact ih v7 v8  _ _ _ h hP hD hS (lv_sub hl [2, 1, 0] rfl)
set_option maxHeartbeats 4000000 in
set_option maxRecDepth 100000 in
theorem c_Co_isFull (l : Launch) (G : GX) (a0 a1 o0_1 o0_2 : Nat) (sz : Nat) (n1 : Nat) (f1 : (Nat → Int32))  (N : Nat) (V : Int32) (h : f_Co_isFull N n1 f1 = some V) :
    Met l y_Co_isFull (wd y_Co_isFull b_Co_isFull 3 (some .boolean)) { frames := 0, cells := 0, slots := 0, locals := 0 } (PX G [.ref a0] sz [(a0, .inr (7, [.ref a1, .ref o0_1, .ref o0_2])), (a1, .inl (G.2.1 1, n1, .inl f1))])
      (QXi G V (fun w => w = [(a0, .inr (7, [.ref a1, .ref o0_1, .ref o0_2])), (a1, .inl (G.2.1 1, n1, .inl f1))]) (va_A [(a0, .inr (7, [.ref a1, .ref o0_1, .ref o0_2])), (a1, .inl (G.2.1 1, n1, .inl f1))] sz)) 0 0 (va_A [(a0, .inr (7, [.ref a1, .ref o0_1, .ref o0_2])), (a1, .inl (G.2.1 1, n1, .inl f1))] sz) := by
  refine Met_in (QQ := fun A => QXi G V (fun w => w = [(a0, .inr (7, [.ref a1, .ref o0_1, .ref o0_2])), (a1, .inl (G.2.1 1, n1, .inl f1))]) A) (by decide) (Nat.le_of_ble_eq_true rfl) (fun p e s m below meth c R Q A ls C0 hRf hRl hRc hRs hP hK hD hT hA hS hl hQ => ?_)
  obtain ⟨hx, hb, hml, hown, hts, hr, hlocks, hin⟩ := id C0
  have hown : s.vm.findClass R_Co = some m.cls := hown
  have hl : lv_has ls 3 [(0, .ref a0)] := hl
  unfold f_Co_isFull at h
  have hkc : 0 ≤ R.cells := Nat.zero_le _
  have hks : 0 ≤ R.slots := Nat.zero_le _
  obtain ⟨H, hH⟩ : ∃ H, H = s.heap := ⟨_, rfl⟩
  obtain ⟨locs, hlc⟩ : ∃ x : List Loc, x = [] := ⟨_, rfl⟩
  rw [← hH] at hP
  have hS : va_S A s.heap H locs := by rw [hH, hlc]; exact hS
  suffices hgo : W p l e R s m [.ref a0].toArray below meth c H locs 0 0 Q (F0 m 0 ls []) by rw [hH, hlc] at hgo; exact hgo
  refine lv_ldc (v := 32768) hx hb hown (hts _ q309) d_Co_isFull_0 ?_
  refine lv_istore_n (lv' := [(1, .int 32768), (0, .ref a0)]) hx hb d_Co_isFull_2 rfl hl (by decide) rfl (fun ls hl => ?_)
  refine lv_iconst (v := 1) hx hb d_Co_isFull_3 (by decide) ?_
  refine lv_istore_n (lv' := [(2, .int 1), (1, .int 32768), (0, .ref a0)]) hx hb d_Co_isFull_4 rfl hl (by decide) rfl (fun ls hl => ?_)
  obtain ⟨r9, hc9, h⟩ := Bd_e h
  refine w_Co_isFull_5 C0 hRf hRl hA hK hT N n1 f1 a0 a1 o0_1 o0_2 r9 (kc := 0) (ks := 0) hkc hks ?_ N 32768 1  _ _ _ hc9 hP hD hS (lv_sub hl [2, 1, 0] rfl)
  · intro H locs ls hP hD hS hl
    refine lv_iload_n hx hb d_Co_isFull_31 rfl (lv_at hl 0 rfl) ?_
    refine lv_if_ne (tgt := 39) hx hb d_Co_isFull_32 (by decide) (fun cq10 => ?_) (fun cq10 => ?_)
    · replace h := (if_neg cq10).symm.trans h
      refine lv_iconst (v := 0) hx hb d_Co_isFull_39 (by decide) ?_
      have eV := so1 h
      subst eV
      exact x_zret C0 hQ rfl hP hD hS rfl (Nat.zero_le _) (Nat.zero_le _) d_Co_isFull_40
    · replace h := (if_pos cq10).symm.trans h
      refine lv_iconst (v := 1) hx hb d_Co_isFull_35 (by decide) ?_
      refine lv_goto (tgt := 40) hx hb d_Co_isFull_36 (by decide) ?_
      have eV := so1 h
      subst eV
      exact x_zret C0 hQ rfl hP hD hS rfl (Nat.zero_le _) (Nat.zero_le _) d_Co_isFull_40
set_option maxHeartbeats 4000000 in
set_option maxRecDepth 100000 in
theorem c_Un_readTimes (l : Launch) (G : GX) (a0 a1 a2 o0_1 o0_2 o0_3 o0_4 o0_5 o0_6 : Nat) (sz : Nat) (x0_7 : Int32) (x0_8 : Int32) (x1_1 : Int32) (x1_2 : Int32) (x1_3 : Int32) (n2 : Nat) (f2 : (Nat → Int32)) (p1 : Int32) (N : Nat) (V : Int32 × Int32 × Int32) (h : f_Un_readTimes N x1_1 x1_2 x1_3 n2 f2 p1 = some V) :
    Met l y_Un_readTimes (wd y_Un_readTimes b_Un_readTimes 2 (some .int)) { frames := 1, cells := 0, slots := 0, locals := 23 } (PX G [.ref a0, .int p1] sz [(a0, .inr (8, [.ref a1, .ref o0_1, .ref o0_2, .ref o0_3, .ref o0_4, .ref o0_5, .ref o0_6, .int x0_7, .int x0_8])), (a1, .inr (6, [.ref a2, .int x1_1, .int x1_2, .int x1_3])), (a2, .inl (G.2.1 0, n2, .inl f2))])
      (QXi G V.1 (fun w => w = [(a0, .inr (8, [.ref a1, .ref o0_1, .ref o0_2, .ref o0_3, .ref o0_4, .ref o0_5, .ref o0_6, .int x0_7, .int x0_8])), (a1, .inr (6, [.ref a2, .int x1_1, .int V.2.1, .int V.2.2])), (a2, .inl (G.2.1 0, n2, .inl f2))]) (va_A [(a0, .inr (8, [.ref a1, .ref o0_1, .ref o0_2, .ref o0_3, .ref o0_4, .ref o0_5, .ref o0_6, .int x0_7, .int x0_8])), (a1, .inr (6, [.ref a2, .int x1_1, .int x1_2, .int x1_3])), (a2, .inl (G.2.1 0, n2, .inl f2))] sz)) 0 0 (va_A [(a0, .inr (8, [.ref a1, .ref o0_1, .ref o0_2, .ref o0_3, .ref o0_4, .ref o0_5, .ref o0_6, .int x0_7, .int x0_8])), (a1, .inr (6, [.ref a2, .int x1_1, .int x1_2, .int x1_3])), (a2, .inl (G.2.1 0, n2, .inl f2))] sz) := by
  refine Met_in (QQ := fun A => QXi G V.1 (fun w => w = [(a0, .inr (8, [.ref a1, .ref o0_1, .ref o0_2, .ref o0_3, .ref o0_4, .ref o0_5, .ref o0_6, .int x0_7, .int x0_8])), (a1, .inr (6, [.ref a2, .int x1_1, .int V.2.1, .int V.2.2])), (a2, .inl (G.2.1 0, n2, .inl f2))]) A) (by decide) (Nat.le_of_ble_eq_true rfl) (fun p e s m below meth c R Q A ls C0 hRf hRl hRc hRs hP hK hD hT hA hS hl hQ => ?_)
  obtain ⟨hx, hb, hml, hown, hts, hr, hlocks, hin⟩ := id C0
  have hown : s.vm.findClass R_Un = some m.cls := hown
  have hl : lv_has ls 2 [(0, .ref a0), (1, .int p1)] := hl
  unfold f_Un_readTimes at h
  have hkc : 0 ≤ R.cells := Nat.zero_le _
  have hks : 0 ≤ R.slots := Nat.zero_le _
  obtain ⟨H, hH⟩ : ∃ H, H = s.heap := ⟨_, rfl⟩
  obtain ⟨locs, hlc⟩ : ∃ x : List Loc, x = [] := ⟨_, rfl⟩
  rw [← hH] at hP
  have hS : va_S A s.heap H locs := by rw [hH, hlc]; exact hS
  suffices hgo : W p l e R s m [.ref a0, .int p1].toArray below meth c H locs 0 0 Q (F0 m 0 ls []) by rw [hH, hlc] at hgo; exact hgo
  refine lv_iload_n hx hb d_Un_readTimes_0 rfl (lv_at hl 1 rfl) ?_
  by_cases cq1 : p1 = 16
  · replace h := (if_pos cq1).symm.trans h
    refine lv_tableIn (tgt := 28) hx hb d_Un_readTimes_1 (by rw [cq1]; decide) (by rw [cq1]; decide) (by rw [cq1]; rfl) (by decide) ?_
    refine lv_iconst (v := 3) hx hb d_Un_readTimes_28 (by decide) ?_
    refine lv_aload_n hx hb d_Un_readTimes_29 rfl (lv_at hl 0 rfl) ?_
    refine va_get (D := G.1) (ci := 8) (v := .ref a1) (C := R_Un) (T := F_Un) (N := 9) hx hb hts i_Un hown hK hP 0 rfl rfl 0 (by decide) (hts _ q77) (fun _ h9 => h9) rfl d_Un_readTimes_30 ?_
    refine lv_iconst (v := 2) hx hb d_Un_readTimes_33 (by decide) ?_
    obtain ⟨r2, hc2, h⟩ := Bd_e h
    refine xV_i0 (wr := [(a0, .inr (8, [.ref a1, .ref o0_1, .ref o0_2, .ref o0_3, .ref o0_4, .ref o0_5, .ref o0_6, .int x0_7, .int x0_8]))]) (rest := [.int 3]) C0 hK hT hA hP hD hS hl.1 (c_BR_take l G a1 a2 _ x1_1 x1_2 x1_3 n2 f2 2 N r2 hc2) (goodV q265 q266 q267 q68 q268) 1 rfl hd_BR_take (Nat.le_trans (by decide) hRf) (Nat.le_trans (by decide) hRl) [1, 2] [0] rfl rfl (by decide) (by decide) (by decide) 6 1 rfl rfl rfl (Nat.le_of_ble_eq_true rfl) d_Un_readTimes_34 hkc hks (fun w1 H locs hE hP hD hS => ?_)
    subst hE
    have hP : va_P G.1 classes [(a0, .inr (8, [.ref a1, .ref o0_1, .ref o0_2, .ref o0_3, .ref o0_4, .ref o0_5, .ref o0_6, .int x0_7, .int x0_8])), (a1, .inr (6, [.ref a2, .int x1_1, .int r2.2.1, .int r2.2.2])), (a2, .inl (G.2.1 0, n2, .inl f2))] H := hP
    have hD : va_D A [(a0, .inr (8, [.ref a1, .ref o0_1, .ref o0_2, .ref o0_3, .ref o0_4, .ref o0_5, .ref o0_6, .int x0_7, .int x0_8])), (a1, .inr (6, [.ref a2, .int x1_1, .int r2.2.1, .int r2.2.2])), (a2, .inl (G.2.1 0, n2, .inl f2))] := hD
    refine lv_iadd hx hb d_Un_readTimes_37 ?_
    have eV := so1 h
    subst eV
    exact x_iret C0 hQ hP hD hS rfl (Nat.zero_le _) (Nat.zero_le _) d_Un_readTimes_38
  · replace h := (if_neg cq1).symm.trans h
    by_cases cq3 : p1 = 17
    · replace h := (if_pos cq3).symm.trans h
      refine lv_tableIn (tgt := 39) hx hb d_Un_readTimes_1 (by rw [cq3]; decide) (by rw [cq3]; decide) (by rw [cq3]; rfl) (by decide) ?_
      refine lv_iconst (v := 3) hx hb d_Un_readTimes_39 (by decide) ?_
      refine lv_aload_n hx hb d_Un_readTimes_40 rfl (lv_at hl 0 rfl) ?_
      refine va_get (D := G.1) (ci := 8) (v := .ref a1) (C := R_Un) (T := F_Un) (N := 9) hx hb hts i_Un hown hK hP 0 rfl rfl 0 (by decide) (hts _ q77) (fun _ h9 => h9) rfl d_Un_readTimes_41 ?_
      refine lv_iconst (v := 3) hx hb d_Un_readTimes_44 (by decide) ?_
      obtain ⟨r4, hc4, h⟩ := Bd_e h
      refine xV_i0 (wr := [(a0, .inr (8, [.ref a1, .ref o0_1, .ref o0_2, .ref o0_3, .ref o0_4, .ref o0_5, .ref o0_6, .int x0_7, .int x0_8]))]) (rest := [.int 3]) C0 hK hT hA hP hD hS hl.1 (c_BR_take l G a1 a2 _ x1_1 x1_2 x1_3 n2 f2 3 N r4 hc4) (goodV q265 q266 q267 q68 q268) 1 rfl hd_BR_take (Nat.le_trans (by decide) hRf) (Nat.le_trans (by decide) hRl) [1, 2] [0] rfl rfl (by decide) (by decide) (by decide) 6 1 rfl rfl rfl (Nat.le_of_ble_eq_true rfl) d_Un_readTimes_45 hkc hks (fun w1 H locs hE hP hD hS => ?_)
      subst hE
      have hP : va_P G.1 classes [(a0, .inr (8, [.ref a1, .ref o0_1, .ref o0_2, .ref o0_3, .ref o0_4, .ref o0_5, .ref o0_6, .int x0_7, .int x0_8])), (a1, .inr (6, [.ref a2, .int x1_1, .int r4.2.1, .int r4.2.2])), (a2, .inl (G.2.1 0, n2, .inl f2))] H := hP
      have hD : va_D A [(a0, .inr (8, [.ref a1, .ref o0_1, .ref o0_2, .ref o0_3, .ref o0_4, .ref o0_5, .ref o0_6, .int x0_7, .int x0_8])), (a1, .inr (6, [.ref a2, .int x1_1, .int r4.2.1, .int r4.2.2])), (a2, .inl (G.2.1 0, n2, .inl f2))] := hD
      refine lv_iadd hx hb d_Un_readTimes_48 ?_
      have eV := so1 h
      subst eV
      exact x_iret C0 hQ hP hD hS rfl (Nat.zero_le _) (Nat.zero_le _) d_Un_readTimes_49
    · replace h := (if_neg cq3).symm.trans h
      by_cases cq5 : p1 = 18
      · replace h := (if_pos cq5).symm.trans h
        refine lv_tableIn (tgt := 50) hx hb d_Un_readTimes_1 (by rw [cq5]; decide) (by rw [cq5]; decide) (by rw [cq5]; rfl) (by decide) ?_
        refine lv_bipush (v := 11) hx hb d_Un_readTimes_50 (by decide) ?_
        refine lv_aload_n hx hb d_Un_readTimes_52 rfl (lv_at hl 0 rfl) ?_
        refine va_get (D := G.1) (ci := 8) (v := .ref a1) (C := R_Un) (T := F_Un) (N := 9) hx hb hts i_Un hown hK hP 0 rfl rfl 0 (by decide) (hts _ q77) (fun _ h9 => h9) rfl d_Un_readTimes_53 ?_
        refine lv_bipush (v := 7) hx hb d_Un_readTimes_56 (by decide) ?_
        obtain ⟨r6, hc6, h⟩ := Bd_e h
        refine xV_i0 (wr := [(a0, .inr (8, [.ref a1, .ref o0_1, .ref o0_2, .ref o0_3, .ref o0_4, .ref o0_5, .ref o0_6, .int x0_7, .int x0_8]))]) (rest := [.int 11]) C0 hK hT hA hP hD hS hl.1 (c_BR_take l G a1 a2 _ x1_1 x1_2 x1_3 n2 f2 7 N r6 hc6) (goodV q265 q266 q267 q68 q268) 1 rfl hd_BR_take (Nat.le_trans (by decide) hRf) (Nat.le_trans (by decide) hRl) [1, 2] [0] rfl rfl (by decide) (by decide) (by decide) 6 1 rfl rfl rfl (Nat.le_of_ble_eq_true rfl) d_Un_readTimes_58 hkc hks (fun w1 H locs hE hP hD hS => ?_)
        subst hE
        have hP : va_P G.1 classes [(a0, .inr (8, [.ref a1, .ref o0_1, .ref o0_2, .ref o0_3, .ref o0_4, .ref o0_5, .ref o0_6, .int x0_7, .int x0_8])), (a1, .inr (6, [.ref a2, .int x1_1, .int r6.2.1, .int r6.2.2])), (a2, .inl (G.2.1 0, n2, .inl f2))] H := hP
        have hD : va_D A [(a0, .inr (8, [.ref a1, .ref o0_1, .ref o0_2, .ref o0_3, .ref o0_4, .ref o0_5, .ref o0_6, .int x0_7, .int x0_8])), (a1, .inr (6, [.ref a2, .int x1_1, .int r6.2.1, .int r6.2.2])), (a2, .inl (G.2.1 0, n2, .inl f2))] := hD
        refine lv_iadd hx hb d_Un_readTimes_61 ?_
        have eV := so1 h
        subst eV
        exact x_iret C0 hQ hP hD hS rfl (Nat.zero_le _) (Nat.zero_le _) d_Un_readTimes_62
      · replace h := (if_neg cq5).symm.trans h
        refine lv_tableOut (tgt := 63) hx hb d_Un_readTimes_1 (by have := lv_neT cq1 (show (16 : Int32).toInt = 16 by decide); have := lv_neT cq3 (show (17 : Int32).toInt = 17 by decide); have := lv_neT cq5 (show (18 : Int32).toInt = 18 by decide); omega) (by decide) ?_
        refine lv_iconst (v := 1) hx hb d_Un_readTimes_63 (by decide) ?_
        have eV := so1 h
        subst eV
        exact x_iret C0 hQ hP hD hS rfl (Nat.zero_le _) (Nat.zero_le _) d_Un_readTimes_64
set_option maxHeartbeats 4000000 in
set_option maxRecDepth 100000 in
theorem w_Un_readLengths_96 {p : Program} {l : Launch} {e : Env} {R : Room} {s : State} {m : MethodId} {args : Array Value} {below : List Frame} {meth : Method} {c : Code} {Q : State → Prop} {G : GX} {A : Nat → Prop} (C0 : Cx p s m args meth c b_Un_readLengths 7 y_Un_readLengths (some .boolean)) (hRf : 2 ≤ R.frames) (hRl : 49 ≤ R.locals) (hA : ∀ q, s.heap.size ≤ q → A q) (hK : KX G s) (hT : TX G A s) (N : Nat) (i1 : Int32) (i3 : Int32) (i5 : Int32) (i6 : Int32) (y0_7 : Int32) (y0_8 : Int32) (y1_1 : Int32) (y1_2 : Int32) (y1_3 : Int32) (m2 : Nat) (g_2 : (Nat → Int32)) (m3 : Nat) (m5 : Nat) (g_5 : (Nat → Int32)) (m6 : Nat) (g_6 : (Nat → Int32)) (c0 c1 c2 c3 c4 c5 c6 u0_2 u0_3 u0_5 u0_6 u4_1 : Nat) (out : Int32 × (Nat → Int32)) {kc ks : Nat} (hkc : kc ≤ R.cells) (hks : ks ≤ R.slots)
    (kx116 : ∀ (H : Heap) (locs : List Loc) (ls : Array Slot), va_P G.1 classes [(c0, .inr (8, [.ref c1, .ref c3, .ref u0_2, .ref u0_3, .ref c4, .ref u0_5, .ref u0_6, .int y0_7, .int y0_8])), (c1, .inr (6, [.ref c2, .int y1_1, .int y1_2, .int y1_3])), (c2, .inl (G.2.1 0, m2, .inl g_2)), (c3, .inl (G.2.1 1, m3, .inl out.2)), (c4, .inr (7, [.ref c5, .ref u4_1, .ref c6])), (c5, .inl (G.2.1 1, m5, .inl g_5)), (c6, .inl (G.2.1 1, m6, .inl g_6))] H → va_D A [(c0, .inr (8, [.ref c1, .ref c3, .ref u0_2, .ref u0_3, .ref c4, .ref u0_5, .ref u0_6, .int y0_7, .int y0_8])), (c1, .inr (6, [.ref c2, .int y1_1, .int y1_2, .int y1_3])), (c2, .inl (G.2.1 0, m2, .inl g_2)), (c3, .inl (G.2.1 1, m3, .inl out.2)), (c4, .inr (7, [.ref c5, .ref u4_1, .ref c6])), (c5, .inl (G.2.1 1, m5, .inl g_5)), (c6, .inl (G.2.1 1, m6, .inl g_6))] → va_S A s.heap H locs → lv_has ls 7 [(0, .ref c0), (1, .int i1), (2, .int out.1), (3, .int i3)] → W p l e R s m args below meth c H locs kc ks Q (F0 m 116 ls [])) :
    ∀ (n : Nat) (i2 : Int32) (g_3 : (Nat → Int32)) (H : Heap) (locs : List Loc) (ls : Array Slot), lp_Un_readLengths_96 N i5 i6 m3 n i2 g_3 = some out → va_P G.1 classes [(c0, .inr (8, [.ref c1, .ref c3, .ref u0_2, .ref u0_3, .ref c4, .ref u0_5, .ref u0_6, .int y0_7, .int y0_8])), (c1, .inr (6, [.ref c2, .int y1_1, .int y1_2, .int y1_3])), (c2, .inl (G.2.1 0, m2, .inl g_2)), (c3, .inl (G.2.1 1, m3, .inl g_3)), (c4, .inr (7, [.ref c5, .ref u4_1, .ref c6])), (c5, .inl (G.2.1 1, m5, .inl g_5)), (c6, .inl (G.2.1 1, m6, .inl g_6))] H → va_D A [(c0, .inr (8, [.ref c1, .ref c3, .ref u0_2, .ref u0_3, .ref c4, .ref u0_5, .ref u0_6, .int y0_7, .int y0_8])), (c1, .inr (6, [.ref c2, .int y1_1, .int y1_2, .int y1_3])), (c2, .inl (G.2.1 0, m2, .inl g_2)), (c3, .inl (G.2.1 1, m3, .inl g_3)), (c4, .inr (7, [.ref c5, .ref u4_1, .ref c6])), (c5, .inl (G.2.1 1, m5, .inl g_5)), (c6, .inl (G.2.1 1, m6, .inl g_6))] → va_S A s.heap H locs → lv_has ls 7 [(0, .ref c0), (1, .int i1), (2, .int i2), (3, .int i3), (5, .int i5), (6, .int i6)] → W p l e R s m args below meth c H locs kc ks Q (F0 m 96 ls []) := by
  obtain ⟨hx, hb, hml, hown, hts, hr, hlocks, hin⟩ := id C0
  have hown : s.vm.findClass R_Un = some m.cls := hown
  intro n
  induction n with
  | zero => intro i2 g_3 H locs ls h; cases h
  | succ n ih =>
    intro i2 g_3 H locs ls h hP hD hS hl
    replace h : lb_Un_readLengths_96 N i5 i6 m3 (lp_Un_readLengths_96 N i5 i6 m3 n) i2 g_3 = some out := h
    unfold lb_Un_readLengths_96 at h
    refine lv_iload_n hx hb d_Un_readLengths_96 rfl (lv_at hl 2 rfl) ?_
    refine lv_iload hx hb d_Un_readLengths_97 (lv_at hl 5 rfl) ?_
    refine lv_icmp_ge (tgt := 116) hx hb d_Un_readLengths_99 (by decide) (fun cq39 => ?_) (fun cq39 => ?_)
    · replace h := (if_pos cq39).symm.trans h
      have eV := so1 h
      subst eV
      exact kx116 _ _ _ hP hD hS (lv_sub hl [0, 1, 2, 3] rfl)
    · replace h := (if_neg cq39).symm.trans h
      refine lv_aload_n hx hb d_Un_readLengths_102 rfl (lv_at hl 0 rfl) ?_
      refine va_get (D := G.1) (ci := 8) (v := .ref c3) (C := R_Un) (T := F_Un) (N := 9) hx hb hts i_Un hown hK hP 0 rfl rfl 1 (by decide) (hts _ q78) (fun _ h9 => h9) rfl d_Un_readLengths_103 ?_
      refine lv_iload_n hx hb d_Un_readLengths_106 rfl (lv_at hl 2 rfl) ?_
      refine lv_iload hx hb d_Un_readLengths_107 (lv_at hl 4 rfl) ?_
      obtain ⟨hi40, h⟩ := Ix_e h
      refine y_iast hx hb hK hP hD hS 3 1 rfl rfl hi40 d_Un_readLengths_109 (fun g41 H locs eg41 hP hD hS => ?_)
      replace h := Lt_e h eg41
      have hP : va_P G.1 classes [(c0, .inr (8, [.ref c1, .ref c3, .ref u0_2, .ref u0_3, .ref c4, .ref u0_5, .ref u0_6, .int y0_7, .int y0_8])), (c1, .inr (6, [.ref c2, .int y1_1, .int y1_2, .int y1_3])), (c2, .inl (G.2.1 0, m2, .inl g_2)), (c3, .inl (G.2.1 1, m3, .inl g41)), (c4, .inr (7, [.ref c5, .ref u4_1, .ref c6])), (c5, .inl (G.2.1 1, m5, .inl g_5)), (c6, .inl (G.2.1 1, m6, .inl g_6))] H := hP
      have hD : va_D A [(c0, .inr (8, [.ref c1, .ref c3, .ref u0_2, .ref u0_3, .ref c4, .ref u0_5, .ref u0_6, .int y0_7, .int y0_8])), (c1, .inr (6, [.ref c2, .int y1_1, .int y1_2, .int y1_3])), (c2, .inl (G.2.1 0, m2, .inl g_2)), (c3, .inl (G.2.1 1, m3, .inl g41)), (c4, .inr (7, [.ref c5, .ref u4_1, .ref c6])), (c5, .inl (G.2.1 1, m5, .inl g_5)), (c6, .inl (G.2.1 1, m6, .inl g_6))] := hD
      obtain ⟨v42, ev42⟩ : ∃ y : Int32, y = i2 + 1 := ⟨_, rfl⟩
      replace h := Lt_e h ev42
      refine lv_iinc (v := v42) (lv' := [(2, .int v42), (0, .ref c0), (1, .int i1), (3, .int i3), (5, .int i5), (6, .int i6)]) hx hb d_Un_readLengths_110 hl (k := 2) rfl (by rw [ev42]; rfl) (by decide) rfl (fun ls hl => ?_)
      refine lv_goto (tgt := 96) hx hb d_Un_readLengths_113 (by decide) ?_
      exact ih v42 g41  _ _ _ h hP hD hS (lv_sub hl [1, 2, 0, 3, 4, 5] rfl)
set_option maxHeartbeats 4000000 in
set_option maxRecDepth 100000 in
theorem w_Un_readLengths_4 {p : Program} {l : Launch} {e : Env} {R : Room} {s : State} {m : MethodId} {args : Array Value} {below : List Frame} {meth : Method} {c : Code} {Q : State → Prop} {G : GX} {A : Nat → Prop} (C0 : Cx p s m args meth c b_Un_readLengths 7 y_Un_readLengths (some .boolean)) (hRf : 2 ≤ R.frames) (hRl : 49 ≤ R.locals) (hA : ∀ q, s.heap.size ≤ q → A q) (hK : KX G s) (hT : TX G A s) (N : Nat) (i1 : Int32) (y0_7 : Int32) (y0_8 : Int32) (y1_1 : Int32) (m2 : Nat) (g_2 : (Nat → Int32)) (m3 : Nat) (m5 : Nat) (g_5 : (Nat → Int32)) (m6 : Nat) (g_6 : (Nat → Int32)) (c0 c1 c2 c3 c4 c5 c6 u0_2 u0_3 u0_5 u0_6 u4_1 : Nat) (out : Nat × Int32 × Int32 × Int32 × (Nat → Int32)) {kc ks : Nat} (hkc : kc ≤ R.cells) (hks : ks ≤ R.slots)
    (kx43 : ∀ (H : Heap) (locs : List Loc) (ls : Array Slot), out.1 = 0 → va_P G.1 classes [(c0, .inr (8, [.ref c1, .ref c3, .ref u0_2, .ref u0_3, .ref c4, .ref u0_5, .ref u0_6, .int y0_7, .int y0_8])), (c1, .inr (6, [.ref c2, .int y1_1, .int out.2.2.1, .int out.2.2.2.1])), (c2, .inl (G.2.1 0, m2, .inl g_2)), (c3, .inl (G.2.1 1, m3, .inl out.2.2.2.2)), (c4, .inr (7, [.ref c5, .ref u4_1, .ref c6])), (c5, .inl (G.2.1 1, m5, .inl g_5)), (c6, .inl (G.2.1 1, m6, .inl g_6))] H → va_D A [(c0, .inr (8, [.ref c1, .ref c3, .ref u0_2, .ref u0_3, .ref c4, .ref u0_5, .ref u0_6, .int y0_7, .int y0_8])), (c1, .inr (6, [.ref c2, .int y1_1, .int out.2.2.1, .int out.2.2.2.1])), (c2, .inl (G.2.1 0, m2, .inl g_2)), (c3, .inl (G.2.1 1, m3, .inl out.2.2.2.2)), (c4, .inr (7, [.ref c5, .ref u4_1, .ref c6])), (c5, .inl (G.2.1 1, m5, .inl g_5)), (c6, .inl (G.2.1 1, m6, .inl g_6))] → va_S A s.heap H locs → lv_has ls 7 [] → W p l e R s m args below meth c H locs kc ks Q (F0 m 43 ls []))
    (kx94 : ∀ (H : Heap) (locs : List Loc) (ls : Array Slot), out.1 = 0 → va_P G.1 classes [(c0, .inr (8, [.ref c1, .ref c3, .ref u0_2, .ref u0_3, .ref c4, .ref u0_5, .ref u0_6, .int y0_7, .int y0_8])), (c1, .inr (6, [.ref c2, .int y1_1, .int out.2.2.1, .int out.2.2.2.1])), (c2, .inl (G.2.1 0, m2, .inl g_2)), (c3, .inl (G.2.1 1, m3, .inl out.2.2.2.2)), (c4, .inr (7, [.ref c5, .ref u4_1, .ref c6])), (c5, .inl (G.2.1 1, m5, .inl g_5)), (c6, .inl (G.2.1 1, m6, .inl g_6))] H → va_D A [(c0, .inr (8, [.ref c1, .ref c3, .ref u0_2, .ref u0_3, .ref c4, .ref u0_5, .ref u0_6, .int y0_7, .int y0_8])), (c1, .inr (6, [.ref c2, .int y1_1, .int out.2.2.1, .int out.2.2.2.1])), (c2, .inl (G.2.1 0, m2, .inl g_2)), (c3, .inl (G.2.1 1, m3, .inl out.2.2.2.2)), (c4, .inr (7, [.ref c5, .ref u4_1, .ref c6])), (c5, .inl (G.2.1 1, m5, .inl g_5)), (c6, .inl (G.2.1 1, m6, .inl g_6))] → va_S A s.heap H locs → lv_has ls 7 [] → W p l e R s m args below meth c H locs kc ks Q (F0 m 94 ls []))
    (kx122 : ∀ (H : Heap) (locs : List Loc) (ls : Array Slot), out.1 = 1 → va_P G.1 classes [(c0, .inr (8, [.ref c1, .ref c3, .ref u0_2, .ref u0_3, .ref c4, .ref u0_5, .ref u0_6, .int y0_7, .int y0_8])), (c1, .inr (6, [.ref c2, .int y1_1, .int out.2.2.1, .int out.2.2.2.1])), (c2, .inl (G.2.1 0, m2, .inl g_2)), (c3, .inl (G.2.1 1, m3, .inl out.2.2.2.2)), (c4, .inr (7, [.ref c5, .ref u4_1, .ref c6])), (c5, .inl (G.2.1 1, m5, .inl g_5)), (c6, .inl (G.2.1 1, m6, .inl g_6))] H → va_D A [(c0, .inr (8, [.ref c1, .ref c3, .ref u0_2, .ref u0_3, .ref c4, .ref u0_5, .ref u0_6, .int y0_7, .int y0_8])), (c1, .inr (6, [.ref c2, .int y1_1, .int out.2.2.1, .int out.2.2.2.1])), (c2, .inl (G.2.1 0, m2, .inl g_2)), (c3, .inl (G.2.1 1, m3, .inl out.2.2.2.2)), (c4, .inr (7, [.ref c5, .ref u4_1, .ref c6])), (c5, .inl (G.2.1 1, m5, .inl g_5)), (c6, .inl (G.2.1 1, m6, .inl g_6))] → va_S A s.heap H locs → lv_has ls 7 [(1, .int i1), (2, .int out.2.1)] → W p l e R s m args below meth c H locs kc ks Q (F0 m 122 ls [])) :
    ∀ (n : Nat) (i2 : Int32) (i3 : Int32) (y1_2 : Int32) (y1_3 : Int32) (g_3 : (Nat → Int32)) (H : Heap) (locs : List Loc) (ls : Array Slot), lp_Un_readLengths_4 N i1 y1_1 m2 g_2 m3 m5 g_5 m6 g_6 n i2 i3 y1_2 y1_3 g_3 = some out → va_P G.1 classes [(c0, .inr (8, [.ref c1, .ref c3, .ref u0_2, .ref u0_3, .ref c4, .ref u0_5, .ref u0_6, .int y0_7, .int y0_8])), (c1, .inr (6, [.ref c2, .int y1_1, .int y1_2, .int y1_3])), (c2, .inl (G.2.1 0, m2, .inl g_2)), (c3, .inl (G.2.1 1, m3, .inl g_3)), (c4, .inr (7, [.ref c5, .ref u4_1, .ref c6])), (c5, .inl (G.2.1 1, m5, .inl g_5)), (c6, .inl (G.2.1 1, m6, .inl g_6))] H → va_D A [(c0, .inr (8, [.ref c1, .ref c3, .ref u0_2, .ref u0_3, .ref c4, .ref u0_5, .ref u0_6, .int y0_7, .int y0_8])), (c1, .inr (6, [.ref c2, .int y1_1, .int y1_2, .int y1_3])), (c2, .inl (G.2.1 0, m2, .inl g_2)), (c3, .inl (G.2.1 1, m3, .inl g_3)), (c4, .inr (7, [.ref c5, .ref u4_1, .ref c6])), (c5, .inl (G.2.1 1, m5, .inl g_5)), (c6, .inl (G.2.1 1, m6, .inl g_6))] → va_S A s.heap H locs → lv_has ls 7 [(0, .ref c0), (1, .int i1), (2, .int i2), (3, .int i3)] → W p l e R s m args below meth c H locs kc ks Q (F0 m 4 ls []) := by
  obtain ⟨hx, hb, hml, hown, hts, hr, hlocks, hin⟩ := id C0
  have hown : s.vm.findClass R_Un = some m.cls := hown
  intro n
  induction n with
  | zero => intro i2 i3 y1_2 y1_3 g_3 H locs ls h; cases h
  | succ n ih =>
    intro i2 i3 y1_2 y1_3 g_3 H locs ls h hP hD hS hl
    replace h : lb_Un_readLengths_4 N i1 y1_1 m2 g_2 m3 m5 g_5 m6 g_6 (lp_Un_readLengths_4 N i1 y1_1 m2 g_2 m3 m5 g_5 m6 g_6 n) i2 i3 y1_2 y1_3 g_3 = some out := h
    unfold lb_Un_readLengths_4 at h
    refine lv_iload_n hx hb d_Un_readLengths_4 rfl (lv_at hl 3 rfl) ?_
    refine lv_iload_n hx hb d_Un_readLengths_5 rfl (lv_at hl 1 rfl) ?_
    refine lv_icmp_ge (tgt := 122) hx hb d_Un_readLengths_6 (by decide) (fun cq21 => ?_) (fun cq21 => ?_)
    · replace h := (if_pos cq21).symm.trans h
      have eV := so1 h
      subst eV
      exact kx122 _ _ _ rfl hP hD hS (lv_sub hl [1, 2] rfl)
    · replace h := (if_neg cq21).symm.trans h
      refine lv_iload_n hx hb d_Un_readLengths_9 rfl (lv_at hl 2 rfl) ?_
      refine lv_iload_n hx hb d_Un_readLengths_10 rfl (lv_at hl 1 rfl) ?_
      refine lv_icmp_ge (tgt := 122) hx hb d_Un_readLengths_11 (by decide) (fun cq22 => ?_) (fun cq22 => ?_)
      · replace h := (if_pos cq22).symm.trans h
        have eV := so1 h
        subst eV
        exact kx122 _ _ _ rfl hP hD hS (lv_sub hl [1, 2] rfl)
      · replace h := (if_neg cq22).symm.trans h
        refine lv_aload_n hx hb d_Un_readLengths_14 rfl (lv_at hl 0 rfl) ?_
        refine va_get (D := G.1) (ci := 8) (v := .ref c4) (C := R_Un) (T := F_Un) (N := 9) hx hb hts i_Un hown hK hP 0 rfl rfl 4 (by decide) (hts _ q100) (fun _ h9 => h9) rfl d_Un_readLengths_15 ?_
        refine lv_aload_n hx hb d_Un_readLengths_18 rfl (lv_at hl 0 rfl) ?_
        refine va_get (D := G.1) (ci := 8) (v := .ref c1) (C := R_Un) (T := F_Un) (N := 9) hx hb hts i_Un hown hK hP 0 rfl rfl 0 (by decide) (hts _ q77) (fun _ h9 => h9) rfl d_Un_readLengths_19 ?_
        obtain ⟨r23, hc23, h⟩ := Bd_e h
        refine xV_i0 (wr := [(c0, .inr (8, [.ref c1, .ref c3, .ref u0_2, .ref u0_3, .ref c4, .ref u0_5, .ref u0_6, .int y0_7, .int y0_8])), (c3, .inl (G.2.1 1, m3, .inl g_3))]) (rest := []) C0 hK hT hA hP hD hS hl.1 (c_Co_next l G c1 c2 c4 c5 c6 u4_1 _ y1_1 y1_2 y1_3 m2 g_2 m5 g_5 m6 g_6  N r23 hc23) (goodV q291 q292 q293 q81 q294) 1 rfl hd_Co_next (Nat.le_trans (by decide) hRf) (Nat.le_trans (by decide) hRl) [1, 2, 4, 5, 6] [0, 3] rfl rfl (by decide) (by decide) (by decide) 7 4 rfl rfl rfl (Nat.le_of_ble_eq_true rfl) d_Un_readLengths_22 hkc hks (fun w1 H locs hE hP hD hS => ?_)
        subst hE
        have hP : va_P G.1 classes [(c0, .inr (8, [.ref c1, .ref c3, .ref u0_2, .ref u0_3, .ref c4, .ref u0_5, .ref u0_6, .int y0_7, .int y0_8])), (c3, .inl (G.2.1 1, m3, .inl g_3)), (c1, .inr (6, [.ref c2, .int y1_1, .int r23.2.1, .int r23.2.2])), (c2, .inl (G.2.1 0, m2, .inl g_2)), (c4, .inr (7, [.ref c5, .ref u4_1, .ref c6])), (c5, .inl (G.2.1 1, m5, .inl g_5)), (c6, .inl (G.2.1 1, m6, .inl g_6))] H := hP
        have hD : va_D A [(c0, .inr (8, [.ref c1, .ref c3, .ref u0_2, .ref u0_3, .ref c4, .ref u0_5, .ref u0_6, .int y0_7, .int y0_8])), (c3, .inl (G.2.1 1, m3, .inl g_3)), (c1, .inr (6, [.ref c2, .int y1_1, .int r23.2.1, .int r23.2.2])), (c2, .inl (G.2.1 0, m2, .inl g_2)), (c4, .inr (7, [.ref c5, .ref u4_1, .ref c6])), (c5, .inl (G.2.1 1, m5, .inl g_5)), (c6, .inl (G.2.1 1, m6, .inl g_6))] := hD
        refine lv_istore (lv' := [(4, .int r23.1), (0, .ref c0), (1, .int i1), (2, .int i2), (3, .int i3)]) hx hb d_Un_readLengths_25 hl (by decide) rfl (fun ls hl => ?_)
        refine lv_iload hx hb d_Un_readLengths_27 (lv_at hl 0 rfl) ?_
        refine lv_if_lt (tgt := 43) hx hb d_Un_readLengths_29 (by decide) (fun cq24 => ?_) (fun cq24 => ?_)
        · replace h := (if_pos cq24).symm.trans h
          have eV := so1 h
          subst eV
          exact kx43 _ _ _ rfl (hP.sub (ws' := [(c0, .inr (8, [.ref c1, .ref c3, .ref u0_2, .ref u0_3, .ref c4, .ref u0_5, .ref u0_6, .int y0_7, .int y0_8])), (c1, .inr (6, [.ref c2, .int y1_1, .int r23.2.1, .int r23.2.2])), (c2, .inl (G.2.1 0, m2, .inl g_2)), (c3, .inl (G.2.1 1, m3, .inl g_3)), (c4, .inr (7, [.ref c5, .ref u4_1, .ref c6])), (c5, .inl (G.2.1 1, m5, .inl g_5)), (c6, .inl (G.2.1 1, m6, .inl g_6))]) [0, 2, 3, 1, 4, 5, 6] rfl) (hD.sub (ws' := [(c0, .inr (8, [.ref c1, .ref c3, .ref u0_2, .ref u0_3, .ref c4, .ref u0_5, .ref u0_6, .int y0_7, .int y0_8])), (c1, .inr (6, [.ref c2, .int y1_1, .int r23.2.1, .int r23.2.2])), (c2, .inl (G.2.1 0, m2, .inl g_2)), (c3, .inl (G.2.1 1, m3, .inl g_3)), (c4, .inr (7, [.ref c5, .ref u4_1, .ref c6])), (c5, .inl (G.2.1 1, m5, .inl g_5)), (c6, .inl (G.2.1 1, m6, .inl g_6))]) [0, 2, 3, 1, 4, 5, 6] (by decide) rfl) hS (lv_sub hl [] rfl)
        · replace h := (if_neg cq24).symm.trans h
          refine lv_iload hx hb d_Un_readLengths_32 (lv_at hl 0 rfl) ?_
          refine lv_bipush (v := 16) hx hb d_Un_readLengths_34 (by decide) ?_
          obtain ⟨j27, ej27, h⟩ := Jn_e h
          have hj27 : ∀ (t27 : Unit) (H : Heap) (locs : List Loc) (ls : Array Slot), j27 t27 = some out → va_P G.1 classes [(c0, .inr (8, [.ref c1, .ref c3, .ref u0_2, .ref u0_3, .ref c4, .ref u0_5, .ref u0_6, .int y0_7, .int y0_8])), (c1, .inr (6, [.ref c2, .int y1_1, .int r23.2.1, .int r23.2.2])), (c2, .inl (G.2.1 0, m2, .inl g_2)), (c3, .inl (G.2.1 1, m3, .inl g_3)), (c4, .inr (7, [.ref c5, .ref u4_1, .ref c6])), (c5, .inl (G.2.1 1, m5, .inl g_5)), (c6, .inl (G.2.1 1, m6, .inl g_6))] H → va_D A [(c0, .inr (8, [.ref c1, .ref c3, .ref u0_2, .ref u0_3, .ref c4, .ref u0_5, .ref u0_6, .int y0_7, .int y0_8])), (c1, .inr (6, [.ref c2, .int y1_1, .int r23.2.1, .int r23.2.2])), (c2, .inl (G.2.1 0, m2, .inl g_2)), (c3, .inl (G.2.1 1, m3, .inl g_3)), (c4, .inr (7, [.ref c5, .ref u4_1, .ref c6])), (c5, .inl (G.2.1 1, m5, .inl g_5)), (c6, .inl (G.2.1 1, m6, .inl g_6))] → va_S A s.heap H locs → lv_has ls 7 [(0, .ref c0), (1, .int i1), (2, .int i2), (3, .int i3), (4, .int r23.1)] → W p l e R s m args below meth c H locs kc ks Q (F0 m 45 ls []) := by
            intro t27 H locs ls h hP hD hS hl
            replace h := ej27 _ _ h
            refine lv_iload hx hb d_Un_readLengths_45 (lv_at hl 4 rfl) ?_
            refine lv_bipush (v := 16) hx hb d_Un_readLengths_47 (by decide) ?_
            obtain ⟨j31, ej31, h⟩ := Jn_e h
            have hj31 : ∀ (t31 : Int32) (H : Heap) (locs : List Loc) (ls : Array Slot), j31 t31 = some out → va_P G.1 classes [(c0, .inr (8, [.ref c1, .ref c3, .ref u0_2, .ref u0_3, .ref c4, .ref u0_5, .ref u0_6, .int y0_7, .int y0_8])), (c1, .inr (6, [.ref c2, .int y1_1, .int r23.2.1, .int r23.2.2])), (c2, .inl (G.2.1 0, m2, .inl g_2)), (c3, .inl (G.2.1 1, m3, .inl g_3)), (c4, .inr (7, [.ref c5, .ref u4_1, .ref c6])), (c5, .inl (G.2.1 1, m5, .inl g_5)), (c6, .inl (G.2.1 1, m6, .inl g_6))] H → va_D A [(c0, .inr (8, [.ref c1, .ref c3, .ref u0_2, .ref u0_3, .ref c4, .ref u0_5, .ref u0_6, .int y0_7, .int y0_8])), (c1, .inr (6, [.ref c2, .int y1_1, .int r23.2.1, .int r23.2.2])), (c2, .inl (G.2.1 0, m2, .inl g_2)), (c3, .inl (G.2.1 1, m3, .inl g_3)), (c4, .inr (7, [.ref c5, .ref u4_1, .ref c6])), (c5, .inl (G.2.1 1, m5, .inl g_5)), (c6, .inl (G.2.1 1, m6, .inl g_6))] → va_S A s.heap H locs → lv_has ls 7 [(0, .ref c0), (1, .int i1), (2, .int i2), (3, .int i3), (4, .int r23.1)] → W p l e R s m args below meth c H locs kc ks Q (F0 m 76 ls [.int t31]) := by
              intro t31 H locs ls h hP hD hS hl
              replace h := ej31 _ _ h
              refine lv_istore (lv' := [(5, .int t31), (0, .ref c0), (1, .int i1), (2, .int i2), (3, .int i3), (4, .int r23.1)]) hx hb d_Un_readLengths_76 hl (by decide) rfl (fun ls hl => ?_)
              refine lv_iload_n hx hb d_Un_readLengths_78 rfl (lv_at hl 3 rfl) ?_
              refine lv_aload_n hx hb d_Un_readLengths_79 rfl (lv_at hl 1 rfl) ?_
              refine lv_iload hx hb d_Un_readLengths_80 (lv_at hl 5 rfl) ?_
              obtain ⟨r32, hc32, h⟩ := Bd_e h
              refine xV_i0 (wr := [(c3, .inl (G.2.1 1, m3, .inl g_3)), (c4, .inr (7, [.ref c5, .ref u4_1, .ref c6])), (c5, .inl (G.2.1 1, m5, .inl g_5)), (c6, .inl (G.2.1 1, m6, .inl g_6))]) (rest := [.int i2]) C0 hK hT hA hP hD hS hl.1 (c_Un_readTimes l G c0 c1 c2 c3 u0_2 u0_3 c4 u0_5 u0_6 _ y0_7 y0_8 y1_1 r23.2.1 r23.2.2 m2 g_2 r23.1 N r32 hc32) (goodV q314 q315 q316 q64 q317) 1 rfl hd_Un_readTimes (Nat.le_trans (by decide) hRf) (Nat.le_trans (by decide) hRl) [0, 1, 2] [3, 4, 5, 6] rfl rfl (by decide) (by decide) (by decide) 8 0 rfl rfl rfl (Nat.le_of_ble_eq_true rfl) d_Un_readLengths_82 hkc hks (fun w1 H locs hE hP hD hS => ?_)
              subst hE
              have hP : va_P G.1 classes [(c3, .inl (G.2.1 1, m3, .inl g_3)), (c4, .inr (7, [.ref c5, .ref u4_1, .ref c6])), (c5, .inl (G.2.1 1, m5, .inl g_5)), (c6, .inl (G.2.1 1, m6, .inl g_6)), (c0, .inr (8, [.ref c1, .ref c3, .ref u0_2, .ref u0_3, .ref c4, .ref u0_5, .ref u0_6, .int y0_7, .int y0_8])), (c1, .inr (6, [.ref c2, .int y1_1, .int r32.2.1, .int r32.2.2])), (c2, .inl (G.2.1 0, m2, .inl g_2))] H := hP
              have hD : va_D A [(c3, .inl (G.2.1 1, m3, .inl g_3)), (c4, .inr (7, [.ref c5, .ref u4_1, .ref c6])), (c5, .inl (G.2.1 1, m5, .inl g_5)), (c6, .inl (G.2.1 1, m6, .inl g_6)), (c0, .inr (8, [.ref c1, .ref c3, .ref u0_2, .ref u0_3, .ref c4, .ref u0_5, .ref u0_6, .int y0_7, .int y0_8])), (c1, .inr (6, [.ref c2, .int y1_1, .int r32.2.1, .int r32.2.2])), (c2, .inl (G.2.1 0, m2, .inl g_2))] := hD
              refine lv_iadd hx hb d_Un_readLengths_85 ?_
              refine lv_topi (fun v33 ev33 => ?_)
              replace h := Lt_e h ev33
              refine lv_istore (lv' := [(6, .int v33), (5, .int t31), (0, .ref c0), (1, .int i1), (2, .int i2), (3, .int i3), (4, .int r23.1)]) hx hb d_Un_readLengths_86 hl (by decide) rfl (fun ls hl => ?_)
              refine lv_iload hx hb d_Un_readLengths_88 (lv_at hl 0 rfl) ?_
              refine lv_iload_n hx hb d_Un_readLengths_90 rfl (lv_at hl 3 rfl) ?_
              refine lv_icmp_le (tgt := 96) hx hb d_Un_readLengths_91 (by decide) (fun cq34 => ?_) (fun cq34 => ?_)
              · replace h := (if_pos cq34).symm.trans h
                obtain ⟨r43, hc43, h⟩ := Bd_e h
                refine w_Un_readLengths_96 C0 hRf hRl hA hK hT N i1 i3 t31 v33 y0_7 y0_8 y1_1 r32.2.1 r32.2.2 m2 g_2 m3 m5 g_5 m6 g_6 c0 c1 c2 c3 c4 c5 c6 u0_2 u0_3 u0_5 u0_6 u4_1 r43 (kc := kc) (ks := ks) hkc hks ?_ N i2 g_3  _ _ _ hc43 (hP.sub (ws' := [(c0, .inr (8, [.ref c1, .ref c3, .ref u0_2, .ref u0_3, .ref c4, .ref u0_5, .ref u0_6, .int y0_7, .int y0_8])), (c1, .inr (6, [.ref c2, .int y1_1, .int r32.2.1, .int r32.2.2])), (c2, .inl (G.2.1 0, m2, .inl g_2)), (c3, .inl (G.2.1 1, m3, .inl g_3)), (c4, .inr (7, [.ref c5, .ref u4_1, .ref c6])), (c5, .inl (G.2.1 1, m5, .inl g_5)), (c6, .inl (G.2.1 1, m6, .inl g_6))]) [4, 5, 6, 0, 1, 2, 3] rfl) (hD.sub (ws' := [(c0, .inr (8, [.ref c1, .ref c3, .ref u0_2, .ref u0_3, .ref c4, .ref u0_5, .ref u0_6, .int y0_7, .int y0_8])), (c1, .inr (6, [.ref c2, .int y1_1, .int r32.2.1, .int r32.2.2])), (c2, .inl (G.2.1 0, m2, .inl g_2)), (c3, .inl (G.2.1 1, m3, .inl g_3)), (c4, .inr (7, [.ref c5, .ref u4_1, .ref c6])), (c5, .inl (G.2.1 1, m5, .inl g_5)), (c6, .inl (G.2.1 1, m6, .inl g_6))]) [4, 5, 6, 0, 1, 2, 3] (by decide) rfl) hS (lv_sub hl [2, 3, 4, 5, 1, 0] rfl)
                · intro H locs ls hP hD hS hl
                  obtain ⟨v44, ev44⟩ : ∃ y : Int32, y = i3 + 1 := ⟨_, rfl⟩
                  replace h := Lt_e h ev44
                  refine lv_iinc (v := v44) (lv' := [(3, .int v44), (0, .ref c0), (1, .int i1), (2, .int r43.1)]) hx hb d_Un_readLengths_116 hl (k := 3) rfl (by rw [ev44]; rfl) (by decide) rfl (fun ls hl => ?_)
                  refine lv_goto (tgt := 4) hx hb d_Un_readLengths_119 (by decide) ?_
                  exact ih r43.1 v44 r32.2.1 r32.2.2 r43.2  _ _ _ h hP hD hS (lv_sub hl [1, 2, 3, 0] rfl)
              · replace h := (if_neg cq34).symm.trans h
                have eV := so1 h
                subst eV
                exact kx94 _ _ _ rfl (hP.sub (ws' := [(c0, .inr (8, [.ref c1, .ref c3, .ref u0_2, .ref u0_3, .ref c4, .ref u0_5, .ref u0_6, .int y0_7, .int y0_8])), (c1, .inr (6, [.ref c2, .int y1_1, .int r32.2.1, .int r32.2.2])), (c2, .inl (G.2.1 0, m2, .inl g_2)), (c3, .inl (G.2.1 1, m3, .inl g_3)), (c4, .inr (7, [.ref c5, .ref u4_1, .ref c6])), (c5, .inl (G.2.1 1, m5, .inl g_5)), (c6, .inl (G.2.1 1, m6, .inl g_6))]) [4, 5, 6, 0, 1, 2, 3] rfl) (hD.sub (ws' := [(c0, .inr (8, [.ref c1, .ref c3, .ref u0_2, .ref u0_3, .ref c4, .ref u0_5, .ref u0_6, .int y0_7, .int y0_8])), (c1, .inr (6, [.ref c2, .int y1_1, .int r32.2.1, .int r32.2.2])), (c2, .inl (G.2.1 0, m2, .inl g_2)), (c3, .inl (G.2.1 1, m3, .inl g_3)), (c4, .inr (7, [.ref c5, .ref u4_1, .ref c6])), (c5, .inl (G.2.1 1, m5, .inl g_5)), (c6, .inl (G.2.1 1, m6, .inl g_6))]) [4, 5, 6, 0, 1, 2, 3] (by decide) rfl) hS (lv_sub hl [] rfl)
            refine lv_icmp_ge (tgt := 57) hx hb d_Un_readLengths_49 (by decide) (fun cq45 => ?_) (fun cq45 => ?_)
            · replace h := (if_pos cq45).symm.trans h
              refine lv_iload hx hb d_Un_readLengths_57 (lv_at hl 4 rfl) ?_
              refine lv_bipush (v := 16) hx hb d_Un_readLengths_59 (by decide) ?_
              refine lv_icmp_ne (tgt := 75) hx hb d_Un_readLengths_61 (by decide) (fun cq46 => ?_) (fun cq46 => ?_)
              · replace h := (if_neg cq46).symm.trans h
                refine lv_iconst (v := 0) hx hb d_Un_readLengths_75 (by decide) ?_
                exact hj31 0 _ _ _ h hP hD hS hl
              · replace h := (if_pos cq46).symm.trans h
                refine lv_aload_n hx hb d_Un_readLengths_64 rfl (lv_at hl 0 rfl) ?_
                refine va_get (D := G.1) (ci := 8) (v := .ref c3) (C := R_Un) (T := F_Un) (N := 9) hx hb hts i_Un hown hK hP 0 rfl rfl 1 (by decide) (hts _ q78) (fun _ h9 => h9) rfl d_Un_readLengths_65 ?_
                refine lv_iload_n hx hb d_Un_readLengths_68 rfl (lv_at hl 2 rfl) ?_
                refine lv_iconst (v := 1) hx hb d_Un_readLengths_69 (by decide) ?_
                refine lv_isub hx hb d_Un_readLengths_70 ?_
                obtain ⟨hi47, h⟩ := Ix_e h
                refine va_iald hx hb hK hP 3 1 rfl rfl hi47 d_Un_readLengths_71 ?_
                refine lv_goto (tgt := 76) hx hb d_Un_readLengths_72 (by decide) ?_
                exact hj31 (g_3 (i2 - 1).toNatClampNeg) _ _ _ h hP hD hS hl
            · replace h := (if_neg cq45).symm.trans h
              refine lv_iload hx hb d_Un_readLengths_52 (lv_at hl 4 rfl) ?_
              refine lv_goto (tgt := 76) hx hb d_Un_readLengths_54 (by decide) ?_
              exact hj31 r23.1 _ _ _ h hP hD hS hl
          refine lv_icmp_ne (tgt := 45) hx hb d_Un_readLengths_36 (by decide) (fun cq48 => ?_) (fun cq48 => ?_)
          · replace h := (if_neg cq48).symm.trans h
            exact hj27 () _ _ _ h (hP.sub (ws' := [(c0, .inr (8, [.ref c1, .ref c3, .ref u0_2, .ref u0_3, .ref c4, .ref u0_5, .ref u0_6, .int y0_7, .int y0_8])), (c1, .inr (6, [.ref c2, .int y1_1, .int r23.2.1, .int r23.2.2])), (c2, .inl (G.2.1 0, m2, .inl g_2)), (c3, .inl (G.2.1 1, m3, .inl g_3)), (c4, .inr (7, [.ref c5, .ref u4_1, .ref c6])), (c5, .inl (G.2.1 1, m5, .inl g_5)), (c6, .inl (G.2.1 1, m6, .inl g_6))]) [0, 2, 3, 1, 4, 5, 6] rfl) (hD.sub (ws' := [(c0, .inr (8, [.ref c1, .ref c3, .ref u0_2, .ref u0_3, .ref c4, .ref u0_5, .ref u0_6, .int y0_7, .int y0_8])), (c1, .inr (6, [.ref c2, .int y1_1, .int r23.2.1, .int r23.2.2])), (c2, .inl (G.2.1 0, m2, .inl g_2)), (c3, .inl (G.2.1 1, m3, .inl g_3)), (c4, .inr (7, [.ref c5, .ref u4_1, .ref c6])), (c5, .inl (G.2.1 1, m5, .inl g_5)), (c6, .inl (G.2.1 1, m6, .inl g_6))]) [0, 2, 3, 1, 4, 5, 6] (by decide) rfl) hS (lv_sub hl [1, 2, 3, 4, 0] rfl)
          · replace h := (if_pos cq48).symm.trans h
            refine lv_iload_n hx hb d_Un_readLengths_39 rfl (lv_at hl 3 rfl) ?_
            refine lv_if_ne (tgt := 45) hx hb d_Un_readLengths_40 (by decide) (fun cq49 => ?_) (fun cq49 => ?_)
            · replace h := (if_neg cq49).symm.trans h
              exact hj27 () _ _ _ h (hP.sub (ws' := [(c0, .inr (8, [.ref c1, .ref c3, .ref u0_2, .ref u0_3, .ref c4, .ref u0_5, .ref u0_6, .int y0_7, .int y0_8])), (c1, .inr (6, [.ref c2, .int y1_1, .int r23.2.1, .int r23.2.2])), (c2, .inl (G.2.1 0, m2, .inl g_2)), (c3, .inl (G.2.1 1, m3, .inl g_3)), (c4, .inr (7, [.ref c5, .ref u4_1, .ref c6])), (c5, .inl (G.2.1 1, m5, .inl g_5)), (c6, .inl (G.2.1 1, m6, .inl g_6))]) [0, 2, 3, 1, 4, 5, 6] rfl) (hD.sub (ws' := [(c0, .inr (8, [.ref c1, .ref c3, .ref u0_2, .ref u0_3, .ref c4, .ref u0_5, .ref u0_6, .int y0_7, .int y0_8])), (c1, .inr (6, [.ref c2, .int y1_1, .int r23.2.1, .int r23.2.2])), (c2, .inl (G.2.1 0, m2, .inl g_2)), (c3, .inl (G.2.1 1, m3, .inl g_3)), (c4, .inr (7, [.ref c5, .ref u4_1, .ref c6])), (c5, .inl (G.2.1 1, m5, .inl g_5)), (c6, .inl (G.2.1 1, m6, .inl g_6))]) [0, 2, 3, 1, 4, 5, 6] (by decide) rfl) hS (lv_sub hl [1, 2, 3, 4, 0] rfl)
            · replace h := (if_pos cq49).symm.trans h
              have eV := so1 h
              subst eV
              exact kx43 _ _ _ rfl (hP.sub (ws' := [(c0, .inr (8, [.ref c1, .ref c3, .ref u0_2, .ref u0_3, .ref c4, .ref u0_5, .ref u0_6, .int y0_7, .int y0_8])), (c1, .inr (6, [.ref c2, .int y1_1, .int r23.2.1, .int r23.2.2])), (c2, .inl (G.2.1 0, m2, .inl g_2)), (c3, .inl (G.2.1 1, m3, .inl g_3)), (c4, .inr (7, [.ref c5, .ref u4_1, .ref c6])), (c5, .inl (G.2.1 1, m5, .inl g_5)), (c6, .inl (G.2.1 1, m6, .inl g_6))]) [0, 2, 3, 1, 4, 5, 6] rfl) (hD.sub (ws' := [(c0, .inr (8, [.ref c1, .ref c3, .ref u0_2, .ref u0_3, .ref c4, .ref u0_5, .ref u0_6, .int y0_7, .int y0_8])), (c1, .inr (6, [.ref c2, .int y1_1, .int r23.2.1, .int r23.2.2])), (c2, .inl (G.2.1 0, m2, .inl g_2)), (c3, .inl (G.2.1 1, m3, .inl g_3)), (c4, .inr (7, [.ref c5, .ref u4_1, .ref c6])), (c5, .inl (G.2.1 1, m5, .inl g_5)), (c6, .inl (G.2.1 1, m6, .inl g_6))]) [0, 2, 3, 1, 4, 5, 6] (by decide) rfl) hS (lv_sub hl [] rfl)
set_option maxHeartbeats 4000000 in
set_option maxRecDepth 100000 in
theorem c_Un_readLengths (l : Launch) (G : GX) (a0 a1 a2 a3 a4 a5 a6 o0_2 o0_3 o0_5 o0_6 o3_1 : Nat) (sz : Nat) (x0_7 : Int32) (x0_8 : Int32) (x1_1 : Int32) (x1_2 : Int32) (x1_3 : Int32) (n2 : Nat) (f2 : (Nat → Int32)) (n4 : Nat) (f4 : (Nat → Int32)) (n5 : Nat) (f5 : (Nat → Int32)) (n6 : Nat) (f6 : (Nat → Int32)) (p1 : Int32) (N : Nat) (V : Int32 × Int32 × Int32 × (Nat → Int32)) (h : f_Un_readLengths N x1_1 x1_2 x1_3 n2 f2 n4 f4 n5 f5 n6 f6 p1 = some V) :
    Met l y_Un_readLengths (wd y_Un_readLengths b_Un_readLengths 7 (some .boolean)) { frames := 2, cells := 0, slots := 0, locals := 49 } (PX G [.ref a0, .int p1] sz [(a0, .inr (8, [.ref a1, .ref a6, .ref o0_2, .ref o0_3, .ref a3, .ref o0_5, .ref o0_6, .int x0_7, .int x0_8])), (a1, .inr (6, [.ref a2, .int x1_1, .int x1_2, .int x1_3])), (a2, .inl (G.2.1 0, n2, .inl f2)), (a3, .inr (7, [.ref a4, .ref o3_1, .ref a5])), (a4, .inl (G.2.1 1, n4, .inl f4)), (a5, .inl (G.2.1 1, n5, .inl f5)), (a6, .inl (G.2.1 1, n6, .inl f6))])
      (QXi G V.1 (fun w => w = [(a0, .inr (8, [.ref a1, .ref a6, .ref o0_2, .ref o0_3, .ref a3, .ref o0_5, .ref o0_6, .int x0_7, .int x0_8])), (a1, .inr (6, [.ref a2, .int x1_1, .int V.2.1, .int V.2.2.1])), (a2, .inl (G.2.1 0, n2, .inl f2)), (a3, .inr (7, [.ref a4, .ref o3_1, .ref a5])), (a4, .inl (G.2.1 1, n4, .inl f4)), (a5, .inl (G.2.1 1, n5, .inl f5)), (a6, .inl (G.2.1 1, n6, .inl V.2.2.2))]) (va_A [(a0, .inr (8, [.ref a1, .ref a6, .ref o0_2, .ref o0_3, .ref a3, .ref o0_5, .ref o0_6, .int x0_7, .int x0_8])), (a1, .inr (6, [.ref a2, .int x1_1, .int x1_2, .int x1_3])), (a2, .inl (G.2.1 0, n2, .inl f2)), (a3, .inr (7, [.ref a4, .ref o3_1, .ref a5])), (a4, .inl (G.2.1 1, n4, .inl f4)), (a5, .inl (G.2.1 1, n5, .inl f5)), (a6, .inl (G.2.1 1, n6, .inl f6))] sz)) 0 0 (va_A [(a0, .inr (8, [.ref a1, .ref a6, .ref o0_2, .ref o0_3, .ref a3, .ref o0_5, .ref o0_6, .int x0_7, .int x0_8])), (a1, .inr (6, [.ref a2, .int x1_1, .int x1_2, .int x1_3])), (a2, .inl (G.2.1 0, n2, .inl f2)), (a3, .inr (7, [.ref a4, .ref o3_1, .ref a5])), (a4, .inl (G.2.1 1, n4, .inl f4)), (a5, .inl (G.2.1 1, n5, .inl f5)), (a6, .inl (G.2.1 1, n6, .inl f6))] sz) := by
  refine Met_in (QQ := fun A => QXi G V.1 (fun w => w = [(a0, .inr (8, [.ref a1, .ref a6, .ref o0_2, .ref o0_3, .ref a3, .ref o0_5, .ref o0_6, .int x0_7, .int x0_8])), (a1, .inr (6, [.ref a2, .int x1_1, .int V.2.1, .int V.2.2.1])), (a2, .inl (G.2.1 0, n2, .inl f2)), (a3, .inr (7, [.ref a4, .ref o3_1, .ref a5])), (a4, .inl (G.2.1 1, n4, .inl f4)), (a5, .inl (G.2.1 1, n5, .inl f5)), (a6, .inl (G.2.1 1, n6, .inl V.2.2.2))]) A) (by decide) (Nat.le_of_ble_eq_true rfl) (fun p e s m below meth c R Q A ls C0 hRf hRl hRc hRs hP hK hD hT hA hS hl hQ => ?_)
  obtain ⟨hx, hb, hml, hown, hts, hr, hlocks, hin⟩ := id C0
  have hown : s.vm.findClass R_Un = some m.cls := hown
  have hl : lv_has ls 7 [(0, .ref a0), (1, .int p1)] := hl
  unfold f_Un_readLengths at h
  have hkc : 0 ≤ R.cells := Nat.zero_le _
  have hks : 0 ≤ R.slots := Nat.zero_le _
  obtain ⟨H, hH⟩ : ∃ H, H = s.heap := ⟨_, rfl⟩
  obtain ⟨locs, hlc⟩ : ∃ x : List Loc, x = [] := ⟨_, rfl⟩
  rw [← hH] at hP
  have hS : va_S A s.heap H locs := by rw [hH, hlc]; exact hS
  suffices hgo : W p l e R s m [.ref a0, .int p1].toArray below meth c H locs 0 0 Q (F0 m 0 ls []) by rw [hH, hlc] at hgo; exact hgo
  refine lv_iconst (v := 0) hx hb d_Un_readLengths_0 (by decide) ?_
  refine lv_istore_n (lv' := [(2, .int 0), (0, .ref a0), (1, .int p1)]) hx hb d_Un_readLengths_1 rfl hl (by decide) rfl (fun ls hl => ?_)
  refine lv_iconst (v := 0) hx hb d_Un_readLengths_2 (by decide) ?_
  refine lv_istore_n (lv' := [(3, .int 0), (2, .int 0), (0, .ref a0), (1, .int p1)]) hx hb d_Un_readLengths_3 rfl hl (by decide) rfl (fun ls hl => ?_)
  obtain ⟨r50, hc50, h⟩ := Bd_e h
  refine w_Un_readLengths_4 C0 hRf hRl hA hK hT N p1 x0_7 x0_8 x1_1 n2 f2 n6 n4 f4 n5 f5 a0 a1 a2 a6 a3 a4 a5 o0_2 o0_3 o0_5 o0_6 o3_1 r50 (kc := 0) (ks := 0) hkc hks ?_ ?_ ?_ N 0 0 x1_2 x1_3 f6  _ _ _ hc50 (hP.sub (ws' := [(a0, .inr (8, [.ref a1, .ref a6, .ref o0_2, .ref o0_3, .ref a3, .ref o0_5, .ref o0_6, .int x0_7, .int x0_8])), (a1, .inr (6, [.ref a2, .int x1_1, .int x1_2, .int x1_3])), (a2, .inl (G.2.1 0, n2, .inl f2)), (a6, .inl (G.2.1 1, n6, .inl f6)), (a3, .inr (7, [.ref a4, .ref o3_1, .ref a5])), (a4, .inl (G.2.1 1, n4, .inl f4)), (a5, .inl (G.2.1 1, n5, .inl f5))]) [0, 1, 2, 6, 3, 4, 5] rfl) (hD.sub (ws' := [(a0, .inr (8, [.ref a1, .ref a6, .ref o0_2, .ref o0_3, .ref a3, .ref o0_5, .ref o0_6, .int x0_7, .int x0_8])), (a1, .inr (6, [.ref a2, .int x1_1, .int x1_2, .int x1_3])), (a2, .inl (G.2.1 0, n2, .inl f2)), (a6, .inl (G.2.1 1, n6, .inl f6)), (a3, .inr (7, [.ref a4, .ref o3_1, .ref a5])), (a4, .inl (G.2.1 1, n4, .inl f4)), (a5, .inl (G.2.1 1, n5, .inl f5))]) [0, 1, 2, 6, 3, 4, 5] (by decide) rfl) hS (lv_sub hl [2, 3, 1, 0] rfl)
  · intro H locs ls et hP hD hS hl
    replace h := (if_pos et).symm.trans h
    refine lv_iconst (v := 0) hx hb d_Un_readLengths_43 (by decide) ?_
    have eV := so1 h
    subst eV
    exact x_zret C0 hQ rfl (hP.sub (ws' := [(a0, .inr (8, [.ref a1, .ref a6, .ref o0_2, .ref o0_3, .ref a3, .ref o0_5, .ref o0_6, .int x0_7, .int x0_8])), (a1, .inr (6, [.ref a2, .int x1_1, .int r50.2.2.1, .int r50.2.2.2.1])), (a2, .inl (G.2.1 0, n2, .inl f2)), (a3, .inr (7, [.ref a4, .ref o3_1, .ref a5])), (a4, .inl (G.2.1 1, n4, .inl f4)), (a5, .inl (G.2.1 1, n5, .inl f5)), (a6, .inl (G.2.1 1, n6, .inl r50.2.2.2.2))]) [0, 1, 2, 4, 5, 6, 3] rfl) (hD.sub (ws' := [(a0, .inr (8, [.ref a1, .ref a6, .ref o0_2, .ref o0_3, .ref a3, .ref o0_5, .ref o0_6, .int x0_7, .int x0_8])), (a1, .inr (6, [.ref a2, .int x1_1, .int r50.2.2.1, .int r50.2.2.2.1])), (a2, .inl (G.2.1 0, n2, .inl f2)), (a3, .inr (7, [.ref a4, .ref o3_1, .ref a5])), (a4, .inl (G.2.1 1, n4, .inl f4)), (a5, .inl (G.2.1 1, n5, .inl f5)), (a6, .inl (G.2.1 1, n6, .inl r50.2.2.2.2))]) [0, 1, 2, 4, 5, 6, 3] (by decide) rfl) hS rfl (Nat.zero_le _) (Nat.zero_le _) d_Un_readLengths_44
  · intro H locs ls et hP hD hS hl
    replace h := (if_pos et).symm.trans h
    refine lv_iconst (v := 0) hx hb d_Un_readLengths_94 (by decide) ?_
    have eV := so1 h
    subst eV
    exact x_zret C0 hQ rfl (hP.sub (ws' := [(a0, .inr (8, [.ref a1, .ref a6, .ref o0_2, .ref o0_3, .ref a3, .ref o0_5, .ref o0_6, .int x0_7, .int x0_8])), (a1, .inr (6, [.ref a2, .int x1_1, .int r50.2.2.1, .int r50.2.2.2.1])), (a2, .inl (G.2.1 0, n2, .inl f2)), (a3, .inr (7, [.ref a4, .ref o3_1, .ref a5])), (a4, .inl (G.2.1 1, n4, .inl f4)), (a5, .inl (G.2.1 1, n5, .inl f5)), (a6, .inl (G.2.1 1, n6, .inl r50.2.2.2.2))]) [0, 1, 2, 4, 5, 6, 3] rfl) (hD.sub (ws' := [(a0, .inr (8, [.ref a1, .ref a6, .ref o0_2, .ref o0_3, .ref a3, .ref o0_5, .ref o0_6, .int x0_7, .int x0_8])), (a1, .inr (6, [.ref a2, .int x1_1, .int r50.2.2.1, .int r50.2.2.2.1])), (a2, .inl (G.2.1 0, n2, .inl f2)), (a3, .inr (7, [.ref a4, .ref o3_1, .ref a5])), (a4, .inl (G.2.1 1, n4, .inl f4)), (a5, .inl (G.2.1 1, n5, .inl f5)), (a6, .inl (G.2.1 1, n6, .inl r50.2.2.2.2))]) [0, 1, 2, 4, 5, 6, 3] (by decide) rfl) hS rfl (Nat.zero_le _) (Nat.zero_le _) d_Un_readLengths_95
  · intro H locs ls et hP hD hS hl
    replace h := (if_neg (show ¬ r50.1 = 0 by rw [et]; decide)).symm.trans h
    refine lv_iload_n hx hb d_Un_readLengths_122 rfl (lv_at hl 1 rfl) ?_
    refine lv_iload_n hx hb d_Un_readLengths_123 rfl (lv_at hl 0 rfl) ?_
    refine lv_icmp_ne (tgt := 131) hx hb d_Un_readLengths_124 (by decide) (fun cq51 => ?_) (fun cq51 => ?_)
    · replace h := (if_neg cq51).symm.trans h
      refine lv_iconst (v := 0) hx hb d_Un_readLengths_131 (by decide) ?_
      have eV := so1 h
      subst eV
      exact x_zret C0 hQ rfl (hP.sub (ws' := [(a0, .inr (8, [.ref a1, .ref a6, .ref o0_2, .ref o0_3, .ref a3, .ref o0_5, .ref o0_6, .int x0_7, .int x0_8])), (a1, .inr (6, [.ref a2, .int x1_1, .int r50.2.2.1, .int r50.2.2.2.1])), (a2, .inl (G.2.1 0, n2, .inl f2)), (a3, .inr (7, [.ref a4, .ref o3_1, .ref a5])), (a4, .inl (G.2.1 1, n4, .inl f4)), (a5, .inl (G.2.1 1, n5, .inl f5)), (a6, .inl (G.2.1 1, n6, .inl r50.2.2.2.2))]) [0, 1, 2, 4, 5, 6, 3] rfl) (hD.sub (ws' := [(a0, .inr (8, [.ref a1, .ref a6, .ref o0_2, .ref o0_3, .ref a3, .ref o0_5, .ref o0_6, .int x0_7, .int x0_8])), (a1, .inr (6, [.ref a2, .int x1_1, .int r50.2.2.1, .int r50.2.2.2.1])), (a2, .inl (G.2.1 0, n2, .inl f2)), (a3, .inr (7, [.ref a4, .ref o3_1, .ref a5])), (a4, .inl (G.2.1 1, n4, .inl f4)), (a5, .inl (G.2.1 1, n5, .inl f5)), (a6, .inl (G.2.1 1, n6, .inl r50.2.2.2.2))]) [0, 1, 2, 4, 5, 6, 3] (by decide) rfl) hS rfl (Nat.zero_le _) (Nat.zero_le _) d_Un_readLengths_132
    · replace h := (if_pos cq51).symm.trans h
      refine lv_iconst (v := 1) hx hb d_Un_readLengths_127 (by decide) ?_
      refine lv_goto (tgt := 132) hx hb d_Un_readLengths_128 (by decide) ?_
      have eV := so1 h
      subst eV
      exact x_zret C0 hQ rfl (hP.sub (ws' := [(a0, .inr (8, [.ref a1, .ref a6, .ref o0_2, .ref o0_3, .ref a3, .ref o0_5, .ref o0_6, .int x0_7, .int x0_8])), (a1, .inr (6, [.ref a2, .int x1_1, .int r50.2.2.1, .int r50.2.2.2.1])), (a2, .inl (G.2.1 0, n2, .inl f2)), (a3, .inr (7, [.ref a4, .ref o3_1, .ref a5])), (a4, .inl (G.2.1 1, n4, .inl f4)), (a5, .inl (G.2.1 1, n5, .inl f5)), (a6, .inl (G.2.1 1, n6, .inl r50.2.2.2.2))]) [0, 1, 2, 4, 5, 6, 3] rfl) (hD.sub (ws' := [(a0, .inr (8, [.ref a1, .ref a6, .ref o0_2, .ref o0_3, .ref a3, .ref o0_5, .ref o0_6, .int x0_7, .int x0_8])), (a1, .inr (6, [.ref a2, .int x1_1, .int r50.2.2.1, .int r50.2.2.2.1])), (a2, .inl (G.2.1 0, n2, .inl f2)), (a3, .inr (7, [.ref a4, .ref o3_1, .ref a5])), (a4, .inl (G.2.1 1, n4, .inl f4)), (a5, .inl (G.2.1 1, n5, .inl f5)), (a6, .inl (G.2.1 1, n6, .inl r50.2.2.2.2))]) [0, 1, 2, 4, 5, 6, 3] (by decide) rfl) hS rfl (Nat.zero_le _) (Nat.zero_le _) d_Un_readLengths_132
