noncomputable def f_Row_init (N : Nat)  : Option ((Unit) × Nat × Nat) :=
Ak 64 <|
some ((), 0, 0)
noncomputable def f_Sha_init (N : Nat)  : Option ((Unit) × Nat × Nat) :=
Ak 80 <|
Ak 5 <|
some ((), 0, 0)
noncomputable def f_BW_init (N : Nat)  : Option ((Unit) × Nat × Nat) :=
Ak 2 <|
Bk (f_Row_init N) fun r3 =>
some ((), 0, 0)
noncomputable def f_Fi_init (N : Nat)  : Option ((Unit) × Nat × Nat) :=
Ak 4096 <|
Ak 64 <|
some ((), 0, 0)
noncomputable def f_Pr_init (N : Nat)  : Option ((Unit) × Nat × Nat) :=
Ak 3 <|
Bk (f_BW_init N) fun r3 =>
Ak 4 <|
Bk (f_Fi_init N) fun r8 =>
some ((), 0, 0)
noncomputable def f_BR_init (N : Nat)  : Option ((Unit) × Nat × Nat) :=
Ak 0 <|
some ((), 0, 0)
noncomputable def f_Co_init (N : Nat) (p1 : Int32) : Option ((Nat) × Nat × Nat) :=
Ak 16 <|
Ak 16 <|
Ga p1 <|
Ak ((p1).toNatClampNeg) <|
some ((p1).toNatClampNeg, 0, 0)
noncomputable def lb_JA_fill_5 (N : Nat) (i1 : Int32) (i3 : Int32) (m0 : Nat) (rec : Int32 → (Nat → Int32) → Option ((Nat → Int32))) (i2 : Int32) (g_0 : (Nat → Int32)) : Option ((Nat → Int32)) :=
if i3 ≤ i2 then (
some g_0)
else (
Ix i2 m0 <|
Lt (upd g_0 (i2).toNatClampNeg i1) fun g8 =>
Lt (i2 + 1) fun v9 =>
rec v9 g8)
noncomputable def lp_JA_fill_5 (N : Nat) (i1 : Int32) (i3 : Int32) (m0 : Nat) (n : Nat) : Int32 → (Nat → Int32) → Option ((Nat → Int32)) := Nat.rec (motive := fun _ => Int32 → (Nat → Int32) → Option ((Nat → Int32))) (fun _ _ => none) (fun _ ih => lb_JA_fill_5 N i1 i3 m0 ih) n
noncomputable def f_JA_fill (N : Nat) (n0 : Nat) (f0 : (Nat → Int32)) (p1 : Int32) : Option ((Nat → Int32)) :=
Lt (nI n0) fun v1 =>
Bd (lp_JA_fill_5 N p1 v1 n0 N 0 f0) fun r10 =>
some r10
noncomputable def lb_Co_tell_11 (N : Nat) (i2 : Int32) (i3 : Int32) (m1 : Nat) (m4 : Nat) (g_4 : (Nat → Int32)) (rec : Int32 → (Nat → Int32) → Option ((Nat → Int32))) (i4 : Int32) (g_1 : (Nat → Int32)) : Option ((Nat → Int32)) :=
if i3 ≤ i4 then (
some g_1)
else (
Ix (i2 + i4) m4 <|
Ix (g_4 (i2 + i4).toNatClampNeg) m1 <|
Ix (g_4 (i2 + i4).toNatClampNeg) m1 <|
Lt (upd g_1 (g_4 (i2 + i4).toNatClampNeg).toNatClampNeg ((g_1 (g_4 (i2 + i4).toNatClampNeg).toNatClampNeg) + 1)) fun g12 =>
Lt (i4 + 1) fun v13 =>
rec v13 g12)
noncomputable def lp_Co_tell_11 (N : Nat) (i2 : Int32) (i3 : Int32) (m1 : Nat) (m4 : Nat) (g_4 : (Nat → Int32)) (n : Nat) : Int32 → (Nat → Int32) → Option ((Nat → Int32)) := Nat.rec (motive := fun _ => Int32 → (Nat → Int32) → Option ((Nat → Int32))) (fun _ _ => none) (fun _ ih => lb_Co_tell_11 N i2 i3 m1 m4 g_4 ih) n
noncomputable def lb_Co_tell_55 (N : Nat) (m1 : Nat) (g_1 : (Nat → Int32)) (m2 : Nat) (rec : Int32 → (Nat → Int32) → Option ((Nat → Int32))) (i4 : Int32) (g_2 : (Nat → Int32)) : Option ((Nat → Int32)) :=
if (15 : Int32) < i4 then (
some g_2)
else (
Ix (i4 - 1) m2 <|
Ix (i4 - 1) m1 <|
Ix i4 m2 <|
Lt (upd g_2 (i4).toNatClampNeg ((g_2 (i4 - 1).toNatClampNeg) + (g_1 (i4 - 1).toNatClampNeg))) fun g29 =>
Lt (i4 + 1) fun v30 =>
rec v30 g29)
noncomputable def lp_Co_tell_55 (N : Nat) (m1 : Nat) (g_1 : (Nat → Int32)) (m2 : Nat) (n : Nat) : Int32 → (Nat → Int32) → Option ((Nat → Int32)) := Nat.rec (motive := fun _ => Int32 → (Nat → Int32) → Option ((Nat → Int32))) (fun _ _ => none) (fun _ ih => lb_Co_tell_55 N m1 g_1 m2 ih) n
noncomputable def lb_Co_tell_97 (N : Nat) (i2 : Int32) (i3 : Int32) (m2 : Nat) (m3 : Nat) (m4 : Nat) (g_4 : (Nat → Int32)) (rec : Int32 → (Nat → Int32) → (Nat → Int32) → Option ((Nat → Int32) × (Nat → Int32))) (i4 : Int32) (g_2 : (Nat → Int32)) (g_3 : (Nat → Int32)) : Option ((Nat → Int32) × (Nat → Int32)) :=
if i3 ≤ i4 then (
some (g_2, g_3))
else (
Ix (i2 + i4) m4 <|
Lt (g_4 (i2 + i4).toNatClampNeg) fun v46 =>
if v46 = 0 then (
Lt (i4 + 1) fun v48 =>
rec v48 g_2 g_3)
else (
Ix v46 m2 <|
Ix (g_2 (v46).toNatClampNeg) m3 <|
Lt (upd g_3 (g_2 (v46).toNatClampNeg).toNatClampNeg i4) fun g51 =>
Ix v46 m2 <|
Ix v46 m2 <|
Lt (upd g_2 (v46).toNatClampNeg ((g_2 (v46).toNatClampNeg) + 1)) fun g54 =>
Lt (i4 + 1) fun v55 =>
rec v55 g54 g51))
noncomputable def lp_Co_tell_97 (N : Nat) (i2 : Int32) (i3 : Int32) (m2 : Nat) (m3 : Nat) (m4 : Nat) (g_4 : (Nat → Int32)) (n : Nat) : Int32 → (Nat → Int32) → (Nat → Int32) → Option ((Nat → Int32) × (Nat → Int32)) := Nat.rec (motive := fun _ => Int32 → (Nat → Int32) → (Nat → Int32) → Option ((Nat → Int32) × (Nat → Int32))) (fun _ _ _ => none) (fun _ ih => lb_Co_tell_97 N i2 i3 m2 m3 m4 g_4 ih) n
noncomputable def f_Co_tell (N : Nat) (n1 : Nat) (f1 : (Nat → Int32)) (n2 : Nat) (f2 : (Nat → Int32)) (n3 : Nat) (f3 : (Nat → Int32)) (n4 : Nat) (f4 : (Nat → Int32)) (p2 : Int32) (p3 : Int32) : Option ((Nat → Int32) × (Nat → Int32) × (Nat → Int32)) :=
Bd (f_JA_fill N n1 f1 0) fun r1 =>
Bd (lp_Co_tell_11 N p2 p3 n1 n2 f2 N 0 r1) fun r14 =>
Ix 0 n1 <|
Lt (upd r14 (0 : Int32).toNatClampNeg 0) fun g16 =>
Ix 0 n3 <|
Lt (upd f3 (0 : Int32).toNatClampNeg 0) fun g18 =>
Bd (lp_Co_tell_55 N n1 g16 n3 N 1 g18) fun r31 =>
Bd (lp_Co_tell_97 N p2 p3 n3 n4 n2 f2 N 0 r31 f4) fun r56 =>
some (g16, r56.1, r56.2)
noncomputable def lb_Un_init_40 (N : Nat) (m3 : Nat) (rec : Int32 → (Nat → Int32) → Option ((Nat → Int32))) (i1 : Int32) (g_3 : (Nat → Int32)) : Option ((Nat → Int32)) :=
if (288 : Int32) ≤ i1 then (
some g_3)
else (
Jn (fun (t25 : Int32) =>
Ix i1 m3 <|
Lt (upd g_3 (i1).toNatClampNeg t25) fun g27 =>
Lt (i1 + 1) fun v28 =>
rec v28 g27) fun j25 =>
if (144 : Int32) ≤ i1 then (
if (256 : Int32) ≤ i1 then (
if (280 : Int32) ≤ i1 then (
j25 8)
else (
j25 7))
else (
j25 9))
else (
j25 8))
noncomputable def lp_Un_init_40 (N : Nat) (m3 : Nat) (n : Nat) : Int32 → (Nat → Int32) → Option ((Nat → Int32)) := Nat.rec (motive := fun _ => Int32 → (Nat → Int32) → Option ((Nat → Int32))) (fun _ _ => none) (fun _ ih => lb_Un_init_40 N m3 ih) n
noncomputable def f_Un_init (N : Nat)  : Option (((Nat → Int32) × (Nat → Int32) × (Nat → Int32) × Nat × (Nat → Int32) × (Nat → Int32) × (Nat → Int32) × Nat × (Nat → Int32) × Nat × Nat × Nat) × Nat × Nat) :=
Ak 4 <|
Bk (f_BR_init N) fun r3 =>
Ak 316 <|
Ak 3 <|
Bk (f_Co_init N 288) fun r9 =>
Bd (lp_Un_init_40 N 316 N 0 ((fun _ => 0))) fun r32 =>
Bd (f_Co_tell N 16 ((fun _ => 0)) 316 r32 16 ((fun _ => 0)) r9 ((fun _ => 0)) 0 288) fun r33 =>
Ak 3 <|
Bk (f_Co_init N 32) fun r36 =>
Bd (f_JA_fill N 316 r32 5) fun r40 =>
Bd (f_Co_tell N 16 ((fun _ => 0)) 316 r40 16 ((fun _ => 0)) r36 ((fun _ => 0)) 0 32) fun r41 =>
Ak 3 <|
Bk (f_Co_init N 19) fun r44 =>
Ak 3 <|
Bk (f_Co_init N 286) fun r50 =>
Ak 3 <|
Bk (f_Co_init N 30) fun r56 =>
some ((r40, r33.1, r33.2.1, r9, r33.2.2, r41.1, r41.2.1, r36, r41.2.2, r44, r50, r56), 0, 0)
noncomputable def f_TP_init (N : Nat)  : Option (((Nat → Int32) × (Nat → Int32) × (Nat → Int32) × Nat × (Nat → Int32) × (Nat → Int32) × (Nat → Int32) × Nat × (Nat → Int32) × Nat × Nat × Nat) × Nat × Nat) :=
Ak 2 <|
Bk (f_Row_init N) fun r3 =>
Ak 2 <|
Bk (f_Row_init N) fun r7 =>
Ak 2 <|
Bk (f_Row_init N) fun r11 =>
Ak 2 <|
Bk (f_Sha_init N) fun r15 =>
Ak 4 <|
Bk (f_Pr_init N) fun r20 =>
Ak 9 <|
Bk (f_Un_init N) fun r29 =>
some ((r29.1, r29.2.1, r29.2.2.1, r29.2.2.2.1, r29.2.2.2.2.1, r29.2.2.2.2.2.1, r29.2.2.2.2.2.2.1, r29.2.2.2.2.2.2.2.1, r29.2.2.2.2.2.2.2.2.1, r29.2.2.2.2.2.2.2.2.2.1, r29.2.2.2.2.2.2.2.2.2.2.1, r29.2.2.2.2.2.2.2.2.2.2.2), 0, 0)
noncomputable def f_Row_length (N : Nat) (x0_1 : Int32) : Option (Int32) :=
some x0_1
noncomputable def f_JA_copyOf (N : Nat) (n0 : Nat) (f0 : (Nat → Int32)) (p1 : Int32) : Option ((Nat × (Nat → Int32)) × Nat × Nat) :=
if p1 = (nI n0) then (
none)
else (
Ga p1 <|
Ak ((p1).toNatClampNeg) <|
Lt (imin (nI n0) p1) fun v5 =>
Gc 0 0 v5 n0 ((p1).toNatClampNeg) f0 <|
Lt (va_cpy f0 ((fun _ => 0)) (0 : Int32).toNatClampNeg (0 : Int32).toNatClampNeg (v5).toNatClampNeg) fun g6 =>
some (((p1).toNatClampNeg, g6), 0, 0))
noncomputable def f_Row_makeRoom (N : Nat) (n1 : Nat) (f1 : (Nat → Int32)) (p1 : Int32) : Option ((Nat × (Nat → Int32)) × Nat × Nat) :=
if p1 ≤ (nI n1) then (
some ((n1, f1), 0, 0))
else (
Lt (imin (4 * (nI n1)) 73736) fun v2 =>
Lt (imax p1 v2) fun v3 =>
Bk (f_JA_copyOf N n1 f1 v3) fun r4 =>
some ((r4.1, r4.2), 0, 0))
noncomputable def f_Row_add (N : Nat) (x0_1 : Int32) (n1 : Nat) (f1 : (Nat → Int32)) (p1 : Int32) : Option ((Int32 × Nat × (Nat → Int32)) × Nat × Nat) :=
Bk (f_Row_makeRoom N n1 f1 (x0_1 + 1)) fun r1 =>
Ix x0_1 r1.1 <|
Lt (upd r1.2 (x0_1).toNatClampNeg (vp_nar .byte p1.toInt8.toInt32)) fun g4 =>
Lt (x0_1 + 1) fun v5 =>
some ((v5, r1.1, g4), 0, 0)
noncomputable def f_Row_addNumber (N : Nat) (x0_1 : Int32) (n1 : Nat) (f1 : (Nat → Int32)) (p1 : Int32) : Option ((Int32 × Nat × (Nat → Int32)) × Nat × Nat) :=
Bk (f_Row_add N x0_1 n1 f1 (us p1 24)) fun r1 =>
Bk (f_Row_add N r1.1 r1.2.1 r1.2.2 (us p1 16)) fun r3 =>
Bk (f_Row_add N r3.1 r3.2.1 r3.2.2 (us p1 8)) fun r5 =>
Bk (f_Row_add N r5.1 r5.2.1 r5.2.2 p1) fun r7 =>
some ((r7.1, r7.2.1, r7.2.2), 0, 0)
noncomputable def f_TP_feed (N : Nat) (x1_1 : Int32) (n2 : Nat) (f2 : (Nat → Int32)) (p1 : Int32) (p2 : Int32) (p3 : Int32) (p4 : Int32) (p5 : Int32) : Option ((Nat × Int32 × Int32 × Nat × (Nat → Int32)) × Nat × Nat) :=
Bd (f_Row_length N x1_1) fun r1 =>
if (r1 + 20) ≤ (65536 : Int32) then (
Bk (f_Row_addNumber N x1_1 n2 f2 p1) fun r3 =>
Bk (f_Row_addNumber N r3.1 r3.2.1 r3.2.2 p2) fun r5 =>
Bk (f_Row_addNumber N r5.1 r5.2.1 r5.2.2 p3) fun r7 =>
Bk (f_Row_addNumber N r7.1 r7.2.1 r7.2.2 p4) fun r9 =>
Bk (f_Row_addNumber N r9.1 r9.2.1 r9.2.2 p5) fun r11 =>
Bd (f_Row_length N r11.1) fun r13 =>
some ((0, r13, r11.1, r11.2.1, r11.2.2), 0, 0))
else (
Ak 6 <|
some ((1, 0, x1_1, n2, f2), 0, 0))
noncomputable def f_Row_shorten (N : Nat) (x0_1 : Int32) (p1 : Int32) : Option (Int32) :=
if p1 < 0 then (
some x0_1)
else (
if x0_1 < p1 then (
some x0_1)
else (
some p1))
noncomputable def f_TP_end (N : Nat) (x1_1 : Int32) (p1 : Int32) : Option ((Nat × Int32 × Int32) × Nat × Nat) :=
Jn (fun (t7 : Unit) =>
Ak 6 <|
some ((1, 0, x1_1), 0, 0)) fun j7 =>
if p1 < 0 then (
j7 ())
else (
Bd (f_Row_length N x1_1) fun r10 =>
if p1 ≤ r10 then (
Bd (f_Row_length N x1_1) fun r12 =>
Bd (f_Row_shorten N x1_1 (r12 - p1)) fun r13 =>
Bd (f_Row_length N r13) fun r14 =>
some ((0, r14, r13), 0, 0))
else (
j7 ()))
noncomputable def f_Row_has (N : Nat) (x0_1 : Int32) (p1 : Int32) : Option (Int32) :=
if p1 < 0 then (
some 0)
else (
if x0_1 ≤ p1 then (
some 0)
else (
some 1))
noncomputable def f_Row_at (N : Nat) (x0_1 : Int32) (n1 : Nat) (f1 : (Nat → Int32)) (p1 : Int32) : Option (Int32) :=
Bd (f_Row_has N x0_1 p1) fun r1 =>
if r1 = 0 then (
some 0)
else (
Ix p1 n1 <|
some ((f1 (p1).toNatClampNeg) &&& 255))
noncomputable def f_Row_put (N : Nat) (x0_1 : Int32) (n1 : Nat) (f1 : (Nat → Int32)) (p1 : Int32) (p2 : Int32) : Option ((Nat → Int32)) :=
Bd (f_Row_has N x0_1 p1) fun r1 =>
if r1 = 0 then (
some f1)
else (
Ix p1 n1 <|
Lt (upd f1 (p1).toNatClampNeg (vp_nar .byte p2.toInt8.toInt32)) fun g4 =>
some g4)
noncomputable def f_TP_change (N : Nat) (x1_1 : Int32) (n2 : Nat) (f2 : (Nat → Int32)) (p1 : Int32) (p2 : Int32) : Option ((Nat × (Nat → Int32)) × Nat × Nat) :=
Bd (f_Row_has N x1_1 p1) fun r1 =>
Jn (fun (t7 : Unit) =>
Ak 6 <|
some ((1, f2), 0, 0)) fun j7 =>
if r1 = 0 then (
j7 ())
else (
if p2 < 0 then (
j7 ())
else (
if p2 ≤ (255 : Int32) then (
Bd (f_Row_at N x1_1 n2 f2 p1) fun r12 =>
Bd (f_Row_put N x1_1 n2 f2 p1 (r12 ^^^ p2)) fun r13 =>
some ((0, r13), 0, 0))
else (
j7 ())))
noncomputable def f_Row_bytes (N : Nat)  : Option (Unit) :=
some ()
noncomputable def f_BW_start (N : Nat)  : Option (Unit) :=
some ()
noncomputable def lb_BW_put_25 (N : Nat)  (rec : Int32 → Int32 → Int32 → Nat → (Nat → Int32) → Option ((Int32 × Int32 × Int32 × Nat × (Nat → Int32)) × Nat × Nat)) (y0_1 : Int32) (y0_2 : Int32) (y1_1 : Int32) (m2 : Nat) (g_2 : (Nat → Int32)) : Option ((Int32 × Int32 × Int32 × Nat × (Nat → Int32)) × Nat × Nat) :=
if y0_2 < (8 : Int32) then (
some ((y0_1, y0_2, y1_1, m2, g_2), 0, 0))
else (
Bk (f_Row_add N y1_1 m2 g_2 (y0_1 &&& 255)) fun r9 =>
Lt (us y0_1 8) fun v11 =>
Lt (y0_2 - 8) fun v12 =>
rec v11 v12 r9.1 r9.2.1 r9.2.2)
noncomputable def lp_BW_put_25 (N : Nat)  (n : Nat) : Int32 → Int32 → Int32 → Nat → (Nat → Int32) → Option ((Int32 × Int32 × Int32 × Nat × (Nat → Int32)) × Nat × Nat) := Nat.rec (motive := fun _ => Int32 → Int32 → Int32 → Nat → (Nat → Int32) → Option ((Int32 × Int32 × Int32 × Nat × (Nat → Int32)) × Nat × Nat)) (fun _ _ _ _ _ => none) (fun _ ih => lb_BW_put_25 N  ih) n
noncomputable def f_BW_put (N : Nat) (x0_1 : Int32) (x0_2 : Int32) (x1_1 : Int32) (n2 : Nat) (f2 : (Nat → Int32)) (p1 : Int32) (p2 : Int32) : Option ((Int32 × Int32 × Int32 × Nat × (Nat → Int32)) × Nat × Nat) :=
Lt (x0_1 ||| (p1 <<< (x0_2 &&& 31))) fun v1 =>
Lt (x0_2 + p2) fun v2 =>
Bk (lp_BW_put_25 N  N v1 v2 x1_1 n2 f2) fun r13 =>
some ((r13.1, r13.2.1, r13.2.2.1, r13.2.2.2.1, r13.2.2.2.2), 0, 0)
noncomputable def f_Pr_startForm (N : Nat) (x0_1 : Int32) (n1 : Nat) (f1 : (Nat → Int32)) : Option ((Int32 × Nat × (Nat → Int32) × Int32 × Int32) × Nat × Nat) :=
Bd (f_Row_shorten N x0_1 0) fun r1 =>
Bk (f_Row_add N r1 n1 f1 120) fun r2 =>
Bk (f_Row_add N r2.1 r2.2.1 r2.2.2 1) fun r4 =>
Bd (f_BW_start N) fun r6 =>
Bk (f_BW_put N 0 0 r4.1 r4.2.1 r4.2.2 1 1) fun r7 =>
Bk (f_BW_put N r7.1 r7.2.1 r7.2.2.1 r7.2.2.2.1 r7.2.2.2.2 1 2) fun r9 =>
some ((r9.2.2.1, r9.2.2.2.1, r9.2.2.2.2, r9.1, r9.2.1), 0, 0)
noncomputable def f_Fi_start (N : Nat) (n1 : Nat) (f1 : (Nat → Int32)) (n2 : Nat) (f2 : (Nat → Int32)) (p1 : Int32) : Option (((Nat → Int32) × Nat × (Nat → Int32)) × Nat × Nat) :=
Bd (f_JA_fill N n1 f1 ((-1))) fun r1 =>
if p1 ≤ (nI n2) then (
some ((r1, n2, f2), 0, 0))
else (
Lt (imin (4 * (nI n2)) 65536) fun v3 =>
Lt (imax p1 v3) fun v4 =>
Ga v4 <|
Ak ((v4).toNatClampNeg) <|
some ((r1, (v4).toNatClampNeg, (fun _ => 0)), 0, 0))
noncomputable def f_Fi_slot (N : Nat) (n0 : Nat) (f0 : (Nat → Int32)) (p1 : Int32) : Option (Int32) :=
Ix p1 n0 <|
Ix (p1 + 1) n0 <|
Ix (p1 + 2) n0 <|
Lt (((((f0 (p1).toNatClampNeg) &&& 255) <<< ((16 : Int32) &&& 31)) ||| (((f0 (p1 + 1).toNatClampNeg) &&& 255) <<< ((8 : Int32) &&& 31))) ||| ((f0 (p1 + 2).toNatClampNeg) &&& 255)) fun v4 =>
some (us (v4 * ((-1640531535))) 20)
noncomputable def lb_Fi_sameBytes_3 (N : Nat) (i1 : Int32) (i2 : Int32) (i3 : Int32) (m0 : Nat) (g_0 : (Nat → Int32)) (rec : Int32 → Option (Int32)) (i4 : Int32) : Option (Int32) :=
if i3 ≤ i4 then (
some i4)
else (
Ix (i1 + i4) m0 <|
Ix (i2 + i4) m0 <|
if (g_0 (i1 + i4).toNatClampNeg) = (g_0 (i2 + i4).toNatClampNeg) then (
Lt (i4 + 1) fun v10 =>
rec v10)
else (
some i4))
noncomputable def lp_Fi_sameBytes_3 (N : Nat) (i1 : Int32) (i2 : Int32) (i3 : Int32) (m0 : Nat) (g_0 : (Nat → Int32)) (n : Nat) : Int32 → Option (Int32) := Nat.rec (motive := fun _ => Int32 → Option (Int32)) (fun _ => none) (fun _ ih => lb_Fi_sameBytes_3 N i1 i2 i3 m0 g_0 ih) n
noncomputable def f_Fi_sameBytes (N : Nat) (n0 : Nat) (f0 : (Nat → Int32)) (p1 : Int32) (p2 : Int32) (p3 : Int32) : Option (Int32) :=
Bd (lp_Fi_sameBytes_3 N p1 p2 p3 n0 f0 N 0) fun r11 =>
some r11
noncomputable def f_Fi_better (N : Nat) (x0_2 : Int32) (x0_3 : Int32) (p1 : Int32) (p2 : Int32) : Option (Int32 × Int32) :=
if p1 < (3 : Int32) then (
some (x0_2, x0_3))
else (
if p1 ≤ x0_2 then (
some (x0_2, x0_3))
else (
some (p1, p2)))
noncomputable def lb_Fi_find_53 (N : Nat) (i3 : Int32) (i4 : Int32) (i5 : Int32) (m2 : Nat) (g_2 : (Nat → Int32)) (m3 : Nat) (g_3 : (Nat → Int32)) (rec : Int32 → Int32 → Int32 → Int32 → Option (Int32 × Int32)) (i6 : Int32) (i7 : Int32) (y0_2 : Int32) (y0_3 : Int32) : Option (Int32 × Int32) :=
if (32768 : Int32) ≤ i7 then (
some (y0_2, y0_3))
else (
if i6 < i5 then (
some (y0_2, y0_3))
else (
if i4 ≤ y0_2 then (
some (y0_2, y0_3))
else (
Ix (i6 + y0_2) m3 <|
Ix (i3 + y0_2) m3 <|
Jn (fun (t27 : Int32 × Int32) =>
Ix i6 m2 <|
Lt (g_2 (i6).toNatClampNeg) fun v29 =>
Lt (i7 + 1) fun v30 =>
rec v29 v30 t27.1 t27.2) fun j27 =>
if (g_3 (i6 + y0_2).toNatClampNeg) = (g_3 (i3 + y0_2).toNatClampNeg) then (
Bd (f_Fi_sameBytes N m3 g_3 i6 i3 i4) fun r32 =>
Bd (f_Fi_better N y0_2 y0_3 r32 (i3 - i6)) fun r33 =>
j27 (r33.1, r33.2))
else (
j27 (y0_2, y0_3)))))
noncomputable def lp_Fi_find_53 (N : Nat) (i3 : Int32) (i4 : Int32) (i5 : Int32) (m2 : Nat) (g_2 : (Nat → Int32)) (m3 : Nat) (g_3 : (Nat → Int32)) (n : Nat) : Int32 → Int32 → Int32 → Int32 → Option (Int32 × Int32) := Nat.rec (motive := fun _ => Int32 → Int32 → Int32 → Int32 → Option (Int32 × Int32)) (fun _ _ _ _ => none) (fun _ ih => lb_Fi_find_53 N i3 i4 i5 m2 g_2 m3 g_3 ih) n
noncomputable def f_Fi_find (N : Nat) (n1 : Nat) (f1 : (Nat → Int32)) (n2 : Nat) (f2 : (Nat → Int32)) (n3 : Nat) (f3 : (Nat → Int32)) (p2 : Int32) (p3 : Int32) : Option (Int32 × Int32) :=
Lt (imin 258 (p2 - p3)) fun v1 =>
if (3 : Int32) ≤ v1 then (
Lt (imax 0 (p3 - 32768)) fun v3 =>
Bd (f_Fi_slot N n1 f1 p3) fun r4 =>
Ix r4 n2 <|
Lt (f2 (r4).toNatClampNeg) fun v6 =>
Bd (lp_Fi_find_53 N p3 v1 v3 n3 f3 n1 f1 N v6 0 0 0) fun r34 =>
some (r34.1, r34.2))
else (
some (0, 0))
noncomputable def f_Fi_length (N : Nat) (x0_2 : Int32) : Option (Int32) :=
some x0_2
noncomputable def f_Fi_distance (N : Nat) (x0_3 : Int32) : Option (Int32) :=
some x0_3
noncomputable def lb_Pr_codeOf_p10_4 (N : Nat) (i0 : Int32) (rec : Int32 → Int32 → Option (Int32)) (i2 : Int32) (i3 : Int32) : Option (Int32) :=
if (29 : Int32) ≤ i3 then (
some i2)
else (
Ix i3 29 <|
if i0 < (tb 0 (i3).toNatClampNeg) then (
some i2)
else (
Lt (i3 + 1) fun v8 =>
rec i3 v8))
noncomputable def lp_Pr_codeOf_p10_4 (N : Nat) (i0 : Int32) (n : Nat) : Int32 → Int32 → Option (Int32) := Nat.rec (motive := fun _ => Int32 → Int32 → Option (Int32)) (fun _ _ => none) (fun _ ih => lb_Pr_codeOf_p10_4 N i0 ih) n
noncomputable def f_Pr_codeOf_p10 (N : Nat) (p0 : Int32) : Option (Int32) :=
Bd (lp_Pr_codeOf_p10_4 N p0 N 0 1) fun r9 =>
some r9
noncomputable def lb_Pr_reversed_4 (N : Nat) (i0 : Int32) (i1 : Int32) (rec : Int32 → Int32 → Option (Int32)) (i2 : Int32) (i3 : Int32) : Option (Int32) :=
if i1 ≤ i3 then (
some i2)
else (
Lt ((i2 <<< ((1 : Int32) &&& 31)) ||| ((us i0 i3) &&& 1)) fun v5 =>
Lt (i3 + 1) fun v6 =>
rec v5 v6)
noncomputable def lp_Pr_reversed_4 (N : Nat) (i0 : Int32) (i1 : Int32) (n : Nat) : Int32 → Int32 → Option (Int32) := Nat.rec (motive := fun _ => Int32 → Int32 → Option (Int32)) (fun _ _ => none) (fun _ ih => lb_Pr_reversed_4 N i0 i1 ih) n
noncomputable def f_Pr_reversed (N : Nat) (p0 : Int32) (p1 : Int32) : Option (Int32) :=
Bd (lp_Pr_reversed_4 N p0 p1 N 0 0) fun r7 =>
some r7
noncomputable def f_Pr_putSymbol (N : Nat) (x1_1 : Int32) (x1_2 : Int32) (x2_1 : Int32) (n3 : Nat) (f3 : (Nat → Int32)) (p1 : Int32) : Option ((Int32 × Int32 × Int32 × Nat × (Nat → Int32)) × Nat × Nat) :=
if (144 : Int32) ≤ p1 then (
if (256 : Int32) ≤ p1 then (
if (280 : Int32) ≤ p1 then (
Bd (f_Pr_reversed N ((192 + p1) - 280) 8) fun r4 =>
Bk (f_BW_put N x1_1 x1_2 x2_1 n3 f3 r4 8) fun r5 =>
some ((r5.1, r5.2.1, r5.2.2.1, r5.2.2.2.1, r5.2.2.2.2), 0, 0))
else (
Bd (f_Pr_reversed N (p1 - 256) 7) fun r7 =>
Bk (f_BW_put N x1_1 x1_2 x2_1 n3 f3 r7 7) fun r8 =>
some ((r8.1, r8.2.1, r8.2.2.1, r8.2.2.2.1, r8.2.2.2.2), 0, 0)))
else (
Bd (f_Pr_reversed N ((400 + p1) - 144) 9) fun r10 =>
Bk (f_BW_put N x1_1 x1_2 x2_1 n3 f3 r10 9) fun r11 =>
some ((r11.1, r11.2.1, r11.2.2.1, r11.2.2.2.1, r11.2.2.2.2), 0, 0)))
else (
Bd (f_Pr_reversed N (48 + p1) 8) fun r13 =>
Bk (f_BW_put N x1_1 x1_2 x2_1 n3 f3 r13 8) fun r14 =>
some ((r14.1, r14.2.1, r14.2.2.1, r14.2.2.2.1, r14.2.2.2.2), 0, 0))
noncomputable def lb_Pr_codeOf_p12_4 (N : Nat) (i0 : Int32) (rec : Int32 → Int32 → Option (Int32)) (i2 : Int32) (i3 : Int32) : Option (Int32) :=
if (30 : Int32) ≤ i3 then (
some i2)
else (
Ix i3 30 <|
if i0 < (tb 2 (i3).toNatClampNeg) then (
some i2)
else (
Lt (i3 + 1) fun v8 =>
rec i3 v8))
noncomputable def lp_Pr_codeOf_p12_4 (N : Nat) (i0 : Int32) (n : Nat) : Int32 → Int32 → Option (Int32) := Nat.rec (motive := fun _ => Int32 → Int32 → Option (Int32)) (fun _ _ => none) (fun _ ih => lb_Pr_codeOf_p12_4 N i0 ih) n
noncomputable def f_Pr_codeOf_p12 (N : Nat) (p0 : Int32) : Option (Int32) :=
Bd (lp_Pr_codeOf_p12_4 N p0 N 0 1) fun r9 =>
some r9
noncomputable def f_Pr_putPair (N : Nat) (x1_1 : Int32) (x1_2 : Int32) (x2_1 : Int32) (n3 : Nat) (f3 : (Nat → Int32)) (p1 : Int32) (p2 : Int32) : Option ((Int32 × Int32 × Int32 × Nat × (Nat → Int32)) × Nat × Nat) :=
Bd (f_Pr_codeOf_p10 N p1) fun r1 =>
Bk (f_Pr_putSymbol N x1_1 x1_2 x2_1 n3 f3 (257 + r1)) fun r2 =>
Ix r1 29 <|
Ix r1 29 <|
Bk (f_BW_put N r2.1 r2.2.1 r2.2.2.1 r2.2.2.2.1 r2.2.2.2.2 (p1 - (tb 0 (r1).toNatClampNeg)) (tb 1 (r1).toNatClampNeg)) fun r6 =>
Bd (f_Pr_codeOf_p12 N p2) fun r8 =>
Bd (f_Pr_reversed N r8 5) fun r9 =>
Bk (f_BW_put N r6.1 r6.2.1 r6.2.2.1 r6.2.2.2.1 r6.2.2.2.2 r9 5) fun r10 =>
Ix r8 30 <|
Ix r8 30 <|
Bk (f_BW_put N r10.1 r10.2.1 r10.2.2.1 r10.2.2.2.1 r10.2.2.2.2 (p2 - (tb 2 (r8).toNatClampNeg)) (tb 3 (r8).toNatClampNeg)) fun r14 =>
some ((r14.1, r14.2.1, r14.2.2.1, r14.2.2.2.1, r14.2.2.2.2), 0, 0)
noncomputable def lb_Fi_note_17 (N : Nat) (i5 : Int32) (m1 : Nat) (m2 : Nat) (m3 : Nat) (g_3 : (Nat → Int32)) (rec : Int32 → (Nat → Int32) → (Nat → Int32) → Option ((Nat → Int32) × (Nat → Int32))) (i6 : Int32) (g_1 : (Nat → Int32)) (g_2 : (Nat → Int32)) : Option ((Nat → Int32) × (Nat → Int32)) :=
if i5 ≤ i6 then (
some (g_1, g_2))
else (
Bd (f_Fi_slot N m3 g_3 i6) fun r11 =>
Ix r11 m1 <|
Ix i6 m2 <|
Lt (upd g_2 (i6).toNatClampNeg (g_1 (r11).toNatClampNeg)) fun g14 =>
Ix r11 m1 <|
Lt (upd g_1 (r11).toNatClampNeg i6) fun g16 =>
Lt (i6 + 1) fun v17 =>
rec v17 g16 g14)
noncomputable def lp_Fi_note_17 (N : Nat) (i5 : Int32) (m1 : Nat) (m2 : Nat) (m3 : Nat) (g_3 : (Nat → Int32)) (n : Nat) : Int32 → (Nat → Int32) → (Nat → Int32) → Option ((Nat → Int32) × (Nat → Int32)) := Nat.rec (motive := fun _ => Int32 → (Nat → Int32) → (Nat → Int32) → Option ((Nat → Int32) × (Nat → Int32))) (fun _ _ _ => none) (fun _ ih => lb_Fi_note_17 N i5 m1 m2 m3 g_3 ih) n
noncomputable def f_Fi_note (N : Nat) (n0 : Nat) (f0 : (Nat → Int32)) (n2 : Nat) (f2 : (Nat → Int32)) (n3 : Nat) (f3 : (Nat → Int32)) (p2 : Int32) (p3 : Int32) (p4 : Int32) : Option ((Nat → Int32) × (Nat → Int32)) :=
Lt (imin (p3 + p4) ((p2 - 3) + 1)) fun v1 =>
Bd (lp_Fi_note_17 N v1 n2 n3 n0 f0 N p3 f2 f3) fun r18 =>
some (r18.1, r18.2)
noncomputable def f_BW_fillByte (N : Nat) (x0_1 : Int32) (x0_2 : Int32) (x1_1 : Int32) (n2 : Nat) (f2 : (Nat → Int32)) : Option ((Int32 × Int32 × Int32 × Nat × (Nat → Int32)) × Nat × Nat) :=
Bk (f_BW_put N x0_1 x0_2 x1_1 n2 f2 0 ((-x0_2) &&& 7)) fun r1 =>
some ((r1.1, r1.2.1, r1.2.2.1, r1.2.2.2.1, r1.2.2.2.2), 0, 0)
noncomputable def lb_Row_adler32_6 (N : Nat) (y0_1 : Int32) (m1 : Nat) (g_1 : (Nat → Int32)) (rec : Int32 → Int32 → Int32 → Option (Int32 × Int32)) (i1 : Int32) (i2 : Int32) (i3 : Int32) : Option (Int32 × Int32) :=
if y0_1 ≤ i3 then (
some (i1, i2))
else (
Ix i3 m1 <|
Lt (irm (i1 + ((g_1 (i3).toNatClampNeg) &&& 255)) 65521) fun v8 =>
Lt (irm (i2 + v8) 65521) fun v9 =>
Lt (i3 + 1) fun v10 =>
rec v8 v9 v10)
noncomputable def lp_Row_adler32_6 (N : Nat) (y0_1 : Int32) (m1 : Nat) (g_1 : (Nat → Int32)) (n : Nat) : Int32 → Int32 → Int32 → Option (Int32 × Int32) := Nat.rec (motive := fun _ => Int32 → Int32 → Int32 → Option (Int32 × Int32)) (fun _ _ _ => none) (fun _ ih => lb_Row_adler32_6 N y0_1 m1 g_1 ih) n
noncomputable def f_Row_adler32 (N : Nat) (x0_1 : Int32) (n1 : Nat) (f1 : (Nat → Int32)) : Option (Int32) :=
Bd (lp_Row_adler32_6 N x0_1 n1 f1 N 1 0 0) fun r11 =>
some ((r11.2 <<< ((16 : Int32) &&& 31)) ||| r11.1)
noncomputable def lb_Pr_run_40 (N : Nat) (i3 : Int32) (m5 : Nat) (m6 : Nat) (m8 : Nat) (g_8 : (Nat → Int32)) (rec : Int32 → Int32 → Int32 → Int32 → Int32 → Int32 → Nat → (Nat → Int32) → Int32 → Int32 → (Nat → Int32) → (Nat → Int32) → Option ((Int32 × Int32 × Int32 × Int32 × Int32 × Nat × (Nat → Int32) × Int32 × Int32 × (Nat → Int32) × (Nat → Int32)) × Nat × Nat)) (i6 : Int32) (y0_2 : Int32) (y0_3 : Int32) (y1_1 : Int32) (y1_2 : Int32) (y2_1 : Int32) (m3 : Nat) (g_3 : (Nat → Int32)) (y4_2 : Int32) (y4_3 : Int32) (g_5 : (Nat → Int32)) (g_6 : (Nat → Int32)) : Option ((Int32 × Int32 × Int32 × Int32 × Int32 × Nat × (Nat → Int32) × Int32 × Int32 × (Nat → Int32) × (Nat → Int32)) × Nat × Nat) :=
if i3 ≤ i6 then (
some ((y0_2, y0_3, y1_1, y1_2, y2_1, m3, g_3, y4_2, y4_3, g_5, g_6), 0, 0))
else (
Bd (f_Fi_find N m8 g_8 m5 g_5 m6 g_6 i3 i6) fun r27 =>
Bd (f_Fi_length N r27.1) fun r28 =>
Jn (fun (t40 : Int32 × Int32 × Int32 × Int32 × Int32 × Nat × (Nat → Int32)) =>
Bd (f_Fi_length N r27.1) fun r41 =>
Lt (imax 1 r41) fun v42 =>
Bd (f_Fi_note N m8 g_8 m5 g_5 m6 g_6 i3 i6 v42) fun r43 =>
Lt (i6 + v42) fun v44 =>
rec v44 t40.1 t40.2.1 t40.2.2.1 t40.2.2.2.1 t40.2.2.2.2.1 t40.2.2.2.2.2.1 t40.2.2.2.2.2.2 r27.1 r27.2 r43.1 r43.2) fun j40 =>
if r28 = 0 then (
Ix i6 m8 <|
Bk (f_Pr_putSymbol N y1_1 y1_2 y2_1 m3 g_3 ((g_8 (i6).toNatClampNeg) &&& 255)) fun r52 =>
Lt (y0_3 + 1) fun v54 =>
j40 (y0_2, v54, r52.1, r52.2.1, r52.2.2.1, r52.2.2.2.1, r52.2.2.2.2))
else (
Bd (f_Fi_length N r27.1) fun r46 =>
Bd (f_Fi_distance N r27.2) fun r47 =>
Bk (f_Pr_putPair N y1_1 y1_2 y2_1 m3 g_3 r46 r47) fun r48 =>
Lt (y0_2 + 1) fun v50 =>
j40 (v50, y0_3, r48.1, r48.2.1, r48.2.2.1, r48.2.2.2.1, r48.2.2.2.2)))
noncomputable def lp_Pr_run_40 (N : Nat) (i3 : Int32) (m5 : Nat) (m6 : Nat) (m8 : Nat) (g_8 : (Nat → Int32)) (n : Nat) : Int32 → Int32 → Int32 → Int32 → Int32 → Int32 → Nat → (Nat → Int32) → Int32 → Int32 → (Nat → Int32) → (Nat → Int32) → Option ((Int32 × Int32 × Int32 × Int32 × Int32 × Nat × (Nat → Int32) × Int32 × Int32 × (Nat → Int32) × (Nat → Int32)) × Nat × Nat) := Nat.rec (motive := fun _ => Int32 → Int32 → Int32 → Int32 → Int32 → Int32 → Nat → (Nat → Int32) → Int32 → Int32 → (Nat → Int32) → (Nat → Int32) → Option ((Int32 × Int32 × Int32 × Int32 × Int32 × Nat × (Nat → Int32) × Int32 × Int32 × (Nat → Int32) × (Nat → Int32)) × Nat × Nat)) (fun _ _ _ _ _ _ _ _ _ _ _ _ => none) (fun _ ih => lb_Pr_run_40 N i3 m5 m6 m8 g_8 ih) n
noncomputable def f_Pr_run (N : Nat) (x0_1 : Int32) (x1_1 : Int32) (n2 : Nat) (f2 : (Nat → Int32)) (x5_2 : Int32) (x5_3 : Int32) (n6 : Nat) (f6 : (Nat → Int32)) (n7 : Nat) (f7 : (Nat → Int32)) (n8 : Nat) (f8 : (Nat → Int32)) : Option ((Int32 × Nat × (Nat → Int32) × Int32 × Int32 × Int32 × Int32 × Int32 × Int32 × (Nat → Int32) × Nat × (Nat → Int32)) × Nat × Nat) :=
Bd (f_Row_length N x0_1) fun r1 =>
Bd (f_Row_bytes N) fun r2 =>
Bk (f_Pr_startForm N x1_1 n2 f2) fun r3 =>
Bk (f_Fi_start N n6 f6 n7 f7 r1) fun r5 =>
Bk (lp_Pr_run_40 N r1 n6 r5.2.1 n8 f8 N 0 0 0 r3.2.2.2.1 r3.2.2.2.2 r3.1 r3.2.1 r3.2.2.1 x5_2 x5_3 r5.1 r5.2.2) fun r55 =>
Bk (f_Pr_putSymbol N r55.2.2.1 r55.2.2.2.1 r55.2.2.2.2.1 r55.2.2.2.2.2.1 r55.2.2.2.2.2.2.1 256) fun r57 =>
Bk (f_BW_fillByte N r57.1 r57.2.1 r57.2.2.1 r57.2.2.2.1 r57.2.2.2.2) fun r59 =>
Bd (f_Row_adler32 N x0_1 n8 f8) fun r61 =>
Bk (f_Row_addNumber N r59.2.2.1 r59.2.2.2.1 r59.2.2.2.2 r61) fun r62 =>
some ((r62.1, r62.2.1, r62.2.2, r55.1, r55.2.1, r59.1, r59.2.1, r55.2.2.2.2.2.2.2.1, r55.2.2.2.2.2.2.2.2.1, r55.2.2.2.2.2.2.2.2.2.1, r5.2.1, r55.2.2.2.2.2.2.2.2.2.2), 0, 0)
noncomputable def f_TP_press (N : Nat) (x1_1 : Int32) (x2_1 : Int32) (n3 : Nat) (f3 : (Nat → Int32)) (x6_2 : Int32) (x6_3 : Int32) (n7 : Nat) (f7 : (Nat → Int32)) (n8 : Nat) (f8 : (Nat → Int32)) (n9 : Nat) (f9 : (Nat → Int32)) : Option ((Int32 × Int32 × Nat × (Nat → Int32) × Int32 × Int32 × Int32 × Int32 × Int32 × Int32 × (Nat → Int32) × Nat × (Nat → Int32)) × Nat × Nat) :=
Bk (f_Pr_run N x1_1 x2_1 n3 f3 x6_2 x6_3 n7 f7 n8 f8 n9 f9) fun r1 =>
Bd (f_Row_length N r1.1) fun r4 =>
some ((r4, r1.1, r1.2.1, r1.2.2.1, r1.2.2.2.1, r1.2.2.2.2.1, r1.2.2.2.2.2.1, r1.2.2.2.2.2.2.1, r1.2.2.2.2.2.2.2.1, r1.2.2.2.2.2.2.2.2.1, r1.2.2.2.2.2.2.2.2.2.1, r1.2.2.2.2.2.2.2.2.2.2.1, r1.2.2.2.2.2.2.2.2.2.2.2), 0, 0)
noncomputable def f_BR_start (N : Nat) (x0_1 : Int32) : Option (Int32) :=
Bd (f_Row_bytes N) fun r1 =>
Bd (f_Row_length N x0_1) fun r2 =>
Lt (8 * r2) fun v3 =>
some v3
noncomputable def lb_BR_take_4 (N : Nat) (i1 : Int32) (y0_1 : Int32) (m1 : Nat) (g_1 : (Nat → Int32)) (rec : Int32 → Int32 → Int32 → Option (Nat × Int32 × Int32)) (i2 : Int32) (i3 : Int32) (y0_2 : Int32) : Option (Nat × Int32 × Int32) :=
if i1 ≤ i3 then (
some (1, i2, y0_2))
else (
if y0_2 < y0_1 then (
Ix (y0_2 >>> ((3 : Int32) &&& 31)) m1 <|
Lt (i2 ||| ((((g_1 (y0_2 >>> ((3 : Int32) &&& 31)).toNatClampNeg) >>> ((y0_2 &&& 7) &&& 31)) &&& 1) <<< (i3 &&& 31))) fun v10 =>
Lt (y0_2 + 1) fun v11 =>
Lt (i3 + 1) fun v12 =>
rec v10 v12 v11)
else (
some (0, i2, y0_2)))
noncomputable def lp_BR_take_4 (N : Nat) (i1 : Int32) (y0_1 : Int32) (m1 : Nat) (g_1 : (Nat → Int32)) (n : Nat) : Int32 → Int32 → Int32 → Option (Nat × Int32 × Int32) := Nat.rec (motive := fun _ => Int32 → Int32 → Int32 → Option (Nat × Int32 × Int32)) (fun _ _ _ => none) (fun _ ih => lb_BR_take_4 N i1 y0_1 m1 g_1 ih) n
noncomputable def f_BR_take (N : Nat) (x0_1 : Int32) (x0_2 : Int32) (x0_3 : Int32) (n1 : Nat) (f1 : (Nat → Int32)) (p1 : Int32) : Option (Int32 × Int32 × Int32) :=
Bd (lp_BR_take_4 N p1 x0_1 n1 f1 N 0 0 x0_2) fun r13 =>
if r13.1 = 0 then (
some (r13.2.1, r13.2.2, 1))
else (
some (r13.2.1, r13.2.2, x0_3))
noncomputable def f_Un_headIsRight (N : Nat) (x1_1 : Int32) (x1_2 : Int32) (x1_3 : Int32) (n2 : Nat) (f2 : (Nat → Int32)) : Option (Int32 × Int32 × Int32) :=
Bd (f_BR_take N x1_1 x1_2 x1_3 n2 f2 8) fun r1 =>
Bd (f_BR_take N x1_1 r1.2.1 r1.2.2 n2 f2 8) fun r2 =>
Jn (fun (t6 : Int32) =>
Jn (fun (t8 : Int32) =>
if t6 = 0 then (
some (0, r2.2.1, r2.2.2))
else (
if t8 = 0 then (
if (irm ((256 * r1.1) + r2.1) 31) = 0 then (
some (1, r2.2.1, r2.2.2))
else (
some (0, r2.2.1, r2.2.2)))
else (
some (0, r2.2.1, r2.2.2)))) fun j8 =>
if (r2.1 &&& 32) = 0 then (
j8 0)
else (
j8 1)) fun j6 =>
Jn (fun (t15 : Unit) =>
j6 0) fun j15 =>
if (r1.1 &&& 15) = (8 : Int32) then (
if (7 : Int32) < (r1.1 >>> ((4 : Int32) &&& 31)) then (
j15 ())
else (
j6 1))
else (
j15 ())
noncomputable def f_BR_skipToByte (N : Nat) (x0_2 : Int32) : Option (Int32) :=
Lt ((x0_2 + 7) &&& ((-8))) fun v1 =>
some v1
noncomputable def f_BR_ranOut (N : Nat) (x0_3 : Int32) : Option (Int32) :=
Gb x0_3 <|
some x0_3
noncomputable def lb_Un_readStored_51 (N : Nat) (i2 : Int32) (y1_1 : Int32) (m2 : Nat) (g_2 : (Nat → Int32)) (rec : Int32 → Int32 → Int32 → Int32 → Nat → (Nat → Int32) → Option ((Int32 × Int32 × Int32 × Nat × (Nat → Int32)) × Nat × Nat)) (i4 : Int32) (y1_2 : Int32) (y1_3 : Int32) (y3_1 : Int32) (m4 : Nat) (g_4 : (Nat → Int32)) : Option ((Int32 × Int32 × Int32 × Nat × (Nat → Int32)) × Nat × Nat) :=
if i2 ≤ i4 then (
some ((y1_2, y1_3, y3_1, m4, g_4), 0, 0))
else (
Bd (f_BR_ranOut N y1_3) fun r15 =>
if r15 = 0 then (
Bd (f_BR_take N y1_1 y1_2 y1_3 m2 g_2 8) fun r17 =>
Bk (f_Row_add N y3_1 m4 g_4 r17.1) fun r18 =>
Lt (i4 + 1) fun v20 =>
rec v20 r17.2.1 r17.2.2 r18.1 r18.2.1 r18.2.2)
else (
some ((y1_2, y1_3, y3_1, m4, g_4), 0, 0)))
noncomputable def lp_Un_readStored_51 (N : Nat) (i2 : Int32) (y1_1 : Int32) (m2 : Nat) (g_2 : (Nat → Int32)) (n : Nat) : Int32 → Int32 → Int32 → Int32 → Nat → (Nat → Int32) → Option ((Int32 × Int32 × Int32 × Nat × (Nat → Int32)) × Nat × Nat) := Nat.rec (motive := fun _ => Int32 → Int32 → Int32 → Int32 → Nat → (Nat → Int32) → Option ((Int32 × Int32 × Int32 × Nat × (Nat → Int32)) × Nat × Nat)) (fun _ _ _ _ _ _ => none) (fun _ ih => lb_Un_readStored_51 N i2 y1_1 m2 g_2 ih) n
noncomputable def f_Un_readStored (N : Nat) (x1_1 : Int32) (x1_2 : Int32) (x1_3 : Int32) (n2 : Nat) (f2 : (Nat → Int32)) (x3_1 : Int32) (n4 : Nat) (f4 : (Nat → Int32)) : Option ((Int32 × Int32 × Int32 × Int32 × Nat × (Nat → Int32)) × Nat × Nat) :=
Bd (f_BR_skipToByte N x1_2) fun r1 =>
Bd (f_BR_take N x1_1 r1 x1_3 n2 f2 16) fun r2 =>
Bd (f_BR_take N x1_1 r2.2.1 r2.2.2 n2 f2 16) fun r3 =>
if (r2.1 ^^^ 65535) = r3.1 then (
Bd (f_Row_length N x3_1) fun r5 =>
if (r5 + r2.1) ≤ (65536 : Int32) then (
Bk (lp_Un_readStored_51 N r2.1 x1_1 n2 f2 N 0 r3.2.1 r3.2.2 x3_1 n4 f4) fun r21 =>
some ((1, r21.1, r21.2.1, r21.2.2.1, r21.2.2.2.1, r21.2.2.2.2), 0, 0))
else (
some ((0, r3.2.1, r3.2.2, x3_1, n4, f4), 0, 0)))
else (
some ((0, r3.2.1, r3.2.2, x3_1, n4, f4), 0, 0))
noncomputable def lb_Co_next_10 (N : Nat) (m1 : Nat) (g_1 : (Nat → Int32)) (y3_1 : Int32) (m4 : Nat) (g_4 : (Nat → Int32)) (rec : Int32 → Int32 → Int32 → Int32 → Int32 → Int32 → Option (Nat × Int32 × Int32 × Int32 × Int32)) (i2 : Int32) (i3 : Int32) (i4 : Int32) (i5 : Int32) (y3_2 : Int32) (y3_3 : Int32) : Option (Nat × Int32 × Int32 × Int32 × Int32) :=
if (15 : Int32) < i5 then (
some (1, i4, 0, y3_2, y3_3))
else (
Bd (f_BR_take N y3_1 y3_2 y3_3 m4 g_4 1) fun r14 =>
Lt ((i2 <<< ((1 : Int32) &&& 31)) ||| r14.1) fun v15 =>
Lt (i3 <<< ((1 : Int32) &&& 31)) fun v16 =>
Lt (v15 - v16) fun v17 =>
Ix i5 m1 <|
if (g_1 (i5).toNatClampNeg) ≤ v17 then (
Ix i5 m1 <|
Lt (i4 + (g_1 (i5).toNatClampNeg)) fun v21 =>
Ix i5 m1 <|
Lt (v16 + (g_1 (i5).toNatClampNeg)) fun v23 =>
Lt (i5 + 1) fun v24 =>
rec v15 v23 v21 v24 r14.2.1 r14.2.2)
else (
some (0, i4, v17, r14.2.1, r14.2.2)))
noncomputable def lp_Co_next_10 (N : Nat) (m1 : Nat) (g_1 : (Nat → Int32)) (y3_1 : Int32) (m4 : Nat) (g_4 : (Nat → Int32)) (n : Nat) : Int32 → Int32 → Int32 → Int32 → Int32 → Int32 → Option (Nat × Int32 × Int32 × Int32 × Int32) := Nat.rec (motive := fun _ => Int32 → Int32 → Int32 → Int32 → Int32 → Int32 → Option (Nat × Int32 × Int32 × Int32 × Int32)) (fun _ _ _ _ _ _ => none) (fun _ ih => lb_Co_next_10 N m1 g_1 y3_1 m4 g_4 ih) n
noncomputable def f_Co_next (N : Nat) (x0_1 : Int32) (x0_2 : Int32) (x0_3 : Int32) (n1 : Nat) (f1 : (Nat → Int32)) (n3 : Nat) (f3 : (Nat → Int32)) (n4 : Nat) (f4 : (Nat → Int32)) : Option (Int32 × Int32 × Int32) :=
Bd (lp_Co_next_10 N n3 f3 x0_1 n1 f1 N 0 0 0 1 x0_2 x0_3) fun r25 =>
if r25.1 = 0 then (
Ix (r25.2.1 + r25.2.2.1) n4 <|
some (f4 (r25.2.1 + r25.2.2.1).toNatClampNeg, r25.2.2.2.1, r25.2.2.2.2))
else (
some ((-1), r25.2.2.2.1, r25.2.2.2.2))
noncomputable def lb_Un_readPair_104 (N : Nat) (i4 : Int32) (i6 : Int32) (rec : Int32 → Int32 → Nat → (Nat → Int32) → Option ((Int32 × Nat × (Nat → Int32)) × Nat × Nat)) (i7 : Int32) (y6_1 : Int32) (m7 : Nat) (g_7 : (Nat → Int32)) : Option ((Int32 × Nat × (Nat → Int32)) × Nat × Nat) :=
if i4 ≤ i7 then (
some ((y6_1, m7, g_7), 0, 0))
else (
Bd (f_Row_length N y6_1) fun r24 =>
Bd (f_Row_at N y6_1 m7 g_7 (r24 - i6)) fun r25 =>
Bk (f_Row_add N y6_1 m7 g_7 r25) fun r26 =>
Lt (i7 + 1) fun v28 =>
rec v28 r26.1 r26.2.1 r26.2.2)
noncomputable def lp_Un_readPair_104 (N : Nat) (i4 : Int32) (i6 : Int32) (n : Nat) : Int32 → Int32 → Nat → (Nat → Int32) → Option ((Int32 × Nat × (Nat → Int32)) × Nat × Nat) := Nat.rec (motive := fun _ => Int32 → Int32 → Nat → (Nat → Int32) → Option ((Int32 × Nat × (Nat → Int32)) × Nat × Nat)) (fun _ _ _ _ => none) (fun _ ih => lb_Un_readPair_104 N i4 i6 ih) n
noncomputable def f_Un_readPair (N : Nat) (x1_1 : Int32) (x1_2 : Int32) (x1_3 : Int32) (n2 : Nat) (f2 : (Nat → Int32)) (n4 : Nat) (f4 : (Nat → Int32)) (n5 : Nat) (f5 : (Nat → Int32)) (x6_1 : Int32) (n7 : Nat) (f7 : (Nat → Int32)) (p1 : Int32) : Option ((Int32 × Int32 × Int32 × Int32 × Nat × (Nat → Int32)) × Nat × Nat) :=
if p1 < (29 : Int32) then (
Ix p1 29 <|
Ix p1 29 <|
Bd (f_BR_take N x1_1 x1_2 x1_3 n2 f2 (tb 1 (p1).toNatClampNeg)) fun r4 =>
Lt ((tb 0 (p1).toNatClampNeg) + r4.1) fun v5 =>
Bd (f_Co_next N x1_1 r4.2.1 r4.2.2 n2 f2 n4 f4 n5 f5) fun r6 =>
if r6.1 < 0 then (
some ((0, r6.2.1, r6.2.2, x6_1, n7, f7), 0, 0))
else (
if r6.1 < (30 : Int32) then (
Ix r6.1 30 <|
Ix r6.1 30 <|
Bd (f_BR_take N x1_1 r6.2.1 r6.2.2 n2 f2 (tb 3 (r6.1).toNatClampNeg)) fun r11 =>
Lt ((tb 2 (r6.1).toNatClampNeg) + r11.1) fun v12 =>
Bd (f_Row_length N x6_1) fun r13 =>
if r13 < v12 then (
some ((0, r11.2.1, r11.2.2, x6_1, n7, f7), 0, 0))
else (
Bd (f_Row_length N x6_1) fun r15 =>
if (r15 + v5) ≤ (65536 : Int32) then (
Bk (lp_Un_readPair_104 N v5 v12 N 0 x6_1 n7 f7) fun r29 =>
some ((1, r11.2.1, r11.2.2, r29.1, r29.2.1, r29.2.2), 0, 0))
else (
some ((0, r11.2.1, r11.2.2, x6_1, n7, f7), 0, 0))))
else (
some ((0, r6.2.1, r6.2.2, x6_1, n7, f7), 0, 0))))
else (
some ((0, x1_2, x1_3, x6_1, n7, f7), 0, 0))
noncomputable def lb_Un_readCoded_3 (N : Nat) (y1_1 : Int32) (m2 : Nat) (g_2 : (Nat → Int32)) (m4 : Nat) (g_4 : (Nat → Int32)) (m5 : Nat) (g_5 : (Nat → Int32)) (m7 : Nat) (g_7 : (Nat → Int32)) (m8 : Nat) (g_8 : (Nat → Int32)) (rec : Int32 → Int32 → Int32 → Int32 → Nat → (Nat → Int32) → Option ((Nat × Int32 × Int32 × Int32 × Nat × (Nat → Int32)) × Nat × Nat)) (i4 : Int32) (y1_2 : Int32) (y1_3 : Int32) (y9_1 : Int32) (m10 : Nat) (g_10 : (Nat → Int32)) : Option ((Nat × Int32 × Int32 × Int32 × Nat × (Nat → Int32)) × Nat × Nat) :=
if (524288 : Int32) ≤ i4 then (
some ((1, y1_2, y1_3, y9_1, m10, g_10), 0, 0))
else (
Bd (f_BR_ranOut N y1_3) fun r18 =>
if r18 = 0 then (
Bd (f_Co_next N y1_1 y1_2 y1_3 m2 g_2 m4 g_4 m5 g_5) fun r20 =>
if r20.1 = (256 : Int32) then (
some ((0, r20.2.1, r20.2.2, y9_1, m10, g_10), 0, 0))
else (
if r20.1 ≤ (256 : Int32) then (
if r20.1 < 0 then (
some ((1, r20.2.1, r20.2.2, y9_1, m10, g_10), 0, 0))
else (
Bd (f_Row_length N y9_1) fun r24 =>
if r24 < (65536 : Int32) then (
Bk (f_Row_add N y9_1 m10 g_10 r20.1) fun r26 =>
Lt (i4 + 1) fun v28 =>
rec v28 r20.2.1 r20.2.2 r26.1 r26.2.1 r26.2.2)
else (
some ((1, r20.2.1, r20.2.2, y9_1, m10, g_10), 0, 0))))
else (
Bk (f_Un_readPair N y1_1 r20.2.1 r20.2.2 m2 g_2 m7 g_7 m8 g_8 y9_1 m10 g_10 (r20.1 - 257)) fun r29 =>
if r29.1 = 0 then (
some ((1, r29.2.1, r29.2.2.1, r29.2.2.2.1, r29.2.2.2.2.1, r29.2.2.2.2.2), 0, 0))
else (
Lt (i4 + 1) fun v32 =>
rec v32 r29.2.1 r29.2.2.1 r29.2.2.2.1 r29.2.2.2.2.1 r29.2.2.2.2.2))))
else (
some ((1, y1_2, y1_3, y9_1, m10, g_10), 0, 0)))
noncomputable def lp_Un_readCoded_3 (N : Nat) (y1_1 : Int32) (m2 : Nat) (g_2 : (Nat → Int32)) (m4 : Nat) (g_4 : (Nat → Int32)) (m5 : Nat) (g_5 : (Nat → Int32)) (m7 : Nat) (g_7 : (Nat → Int32)) (m8 : Nat) (g_8 : (Nat → Int32)) (n : Nat) : Int32 → Int32 → Int32 → Int32 → Nat → (Nat → Int32) → Option ((Nat × Int32 × Int32 × Int32 × Nat × (Nat → Int32)) × Nat × Nat) := Nat.rec (motive := fun _ => Int32 → Int32 → Int32 → Int32 → Nat → (Nat → Int32) → Option ((Nat × Int32 × Int32 × Int32 × Nat × (Nat → Int32)) × Nat × Nat)) (fun _ _ _ _ _ _ => none) (fun _ ih => lb_Un_readCoded_3 N y1_1 m2 g_2 m4 g_4 m5 g_5 m7 g_7 m8 g_8 ih) n
noncomputable def f_Un_readCoded (N : Nat) (x1_1 : Int32) (x1_2 : Int32) (x1_3 : Int32) (n2 : Nat) (f2 : (Nat → Int32)) (n4 : Nat) (f4 : (Nat → Int32)) (n5 : Nat) (f5 : (Nat → Int32)) (x6_1 : Int32) (n7 : Nat) (f7 : (Nat → Int32)) (n9 : Nat) (f9 : (Nat → Int32)) (n10 : Nat) (f10 : (Nat → Int32)) : Option ((Int32 × Int32 × Int32 × Int32 × Nat × (Nat → Int32)) × Nat × Nat) :=
Bk (lp_Un_readCoded_3 N x1_1 n2 f2 n4 f4 n5 f5 n9 f9 n10 f10 N 0 x1_2 x1_3 x6_1 n7 f7) fun r33 =>
if r33.1 = 0 then (
some ((1, r33.2.1, r33.2.2.1, r33.2.2.2.1, r33.2.2.2.2.1, r33.2.2.2.2.2), 0, 0))
else (
some ((0, r33.2.1, r33.2.2.1, r33.2.2.2.1, r33.2.2.2.2.1, r33.2.2.2.2.2), 0, 0))
noncomputable def lb_Co_isFull_5 (N : Nat) (m1 : Nat) (g_1 : (Nat → Int32)) (rec : Int32 → Int32 → Option (Int32)) (i1 : Int32) (i2 : Int32) : Option (Int32) :=
if (15 : Int32) < i2 then (
some i1)
else (
Ix i2 m1 <|
Lt (i1 - ((g_1 (i2).toNatClampNeg) <<< ((15 - i2) &&& 31))) fun v7 =>
Lt (i2 + 1) fun v8 =>
rec v7 v8)
noncomputable def lp_Co_isFull_5 (N : Nat) (m1 : Nat) (g_1 : (Nat → Int32)) (n : Nat) : Int32 → Int32 → Option (Int32) := Nat.rec (motive := fun _ => Int32 → Int32 → Option (Int32)) (fun _ _ => none) (fun _ ih => lb_Co_isFull_5 N m1 g_1 ih) n
noncomputable def f_Co_isFull (N : Nat) (n1 : Nat) (f1 : (Nat → Int32)) : Option (Int32) :=
Bd (lp_Co_isFull_5 N n1 f1 N 32768 1) fun r9 =>
if r9 = 0 then (
some 1)
else (
some 0)
noncomputable def f_Un_readTimes (N : Nat) (x1_1 : Int32) (x1_2 : Int32) (x1_3 : Int32) (n2 : Nat) (f2 : (Nat → Int32)) (p1 : Int32) : Option (Int32 × Int32 × Int32) :=
if p1 = 16 then (
Bd (f_BR_take N x1_1 x1_2 x1_3 n2 f2 2) fun r2 =>
some (3 + r2.1, r2.2.1, r2.2.2))
else if p1 = 17 then (
Bd (f_BR_take N x1_1 x1_2 x1_3 n2 f2 3) fun r4 =>
some (3 + r4.1, r4.2.1, r4.2.2))
else if p1 = 18 then (
Bd (f_BR_take N x1_1 x1_2 x1_3 n2 f2 7) fun r6 =>
some (11 + r6.1, r6.2.1, r6.2.2))
else (
some (1, x1_2, x1_3))
noncomputable def lb_Un_readLengths_96 (N : Nat) (i5 : Int32) (i6 : Int32) (m3 : Nat) (rec : Int32 → (Nat → Int32) → Option (Int32 × (Nat → Int32))) (i2 : Int32) (g_3 : (Nat → Int32)) : Option (Int32 × (Nat → Int32)) :=
if i6 ≤ i2 then (
some (i2, g_3))
else (
Ix i2 m3 <|
Lt (upd g_3 (i2).toNatClampNeg i5) fun g41 =>
Lt (i2 + 1) fun v42 =>
rec v42 g41)
noncomputable def lp_Un_readLengths_96 (N : Nat) (i5 : Int32) (i6 : Int32) (m3 : Nat) (n : Nat) : Int32 → (Nat → Int32) → Option (Int32 × (Nat → Int32)) := Nat.rec (motive := fun _ => Int32 → (Nat → Int32) → Option (Int32 × (Nat → Int32))) (fun _ _ => none) (fun _ ih => lb_Un_readLengths_96 N i5 i6 m3 ih) n
noncomputable def lb_Un_readLengths_4 (N : Nat) (i1 : Int32) (y1_1 : Int32) (m2 : Nat) (g_2 : (Nat → Int32)) (m3 : Nat) (m5 : Nat) (g_5 : (Nat → Int32)) (m6 : Nat) (g_6 : (Nat → Int32)) (rec : Int32 → Int32 → Int32 → Int32 → (Nat → Int32) → Option (Nat × Int32 × Int32 × Int32 × (Nat → Int32))) (i2 : Int32) (i3 : Int32) (y1_2 : Int32) (y1_3 : Int32) (g_3 : (Nat → Int32)) : Option (Nat × Int32 × Int32 × Int32 × (Nat → Int32)) :=
if i1 ≤ i3 then (
some (1, i2, y1_2, y1_3, g_3))
else (
if i1 ≤ i2 then (
some (1, i2, y1_2, y1_3, g_3))
else (
Bd (f_Co_next N y1_1 y1_2 y1_3 m2 g_2 m5 g_5 m6 g_6) fun r23 =>
if r23.1 < 0 then (
some (0, i2, r23.2.1, r23.2.2, g_3))
else (
Jn (fun (t27 : Unit) =>
Jn (fun (t31 : Int32) =>
Bd (f_Un_readTimes N y1_1 r23.2.1 r23.2.2 m2 g_2 r23.1) fun r32 =>
Lt (i2 + r32.1) fun v33 =>
if v33 ≤ i1 then (
Bd (lp_Un_readLengths_96 N t31 v33 m3 N i2 g_3) fun r43 =>
Lt (i3 + 1) fun v44 =>
rec r43.1 v44 r32.2.1 r32.2.2 r43.2)
else (
some (0, i2, r32.2.1, r32.2.2, g_3))) fun j31 =>
if (16 : Int32) ≤ r23.1 then (
if r23.1 = (16 : Int32) then (
Ix (i2 - 1) m3 <|
j31 (g_3 (i2 - 1).toNatClampNeg))
else (
j31 0))
else (
j31 r23.1)) fun j27 =>
if r23.1 = (16 : Int32) then (
if i2 = 0 then (
some (0, i2, r23.2.1, r23.2.2, g_3))
else (
j27 ()))
else (
j27 ()))))
noncomputable def lp_Un_readLengths_4 (N : Nat) (i1 : Int32) (y1_1 : Int32) (m2 : Nat) (g_2 : (Nat → Int32)) (m3 : Nat) (m5 : Nat) (g_5 : (Nat → Int32)) (m6 : Nat) (g_6 : (Nat → Int32)) (n : Nat) : Int32 → Int32 → Int32 → Int32 → (Nat → Int32) → Option (Nat × Int32 × Int32 × Int32 × (Nat → Int32)) := Nat.rec (motive := fun _ => Int32 → Int32 → Int32 → Int32 → (Nat → Int32) → Option (Nat × Int32 × Int32 × Int32 × (Nat → Int32))) (fun _ _ _ _ _ => none) (fun _ ih => lb_Un_readLengths_4 N i1 y1_1 m2 g_2 m3 m5 g_5 m6 g_6 ih) n
noncomputable def f_Un_readLengths (N : Nat) (x1_1 : Int32) (x1_2 : Int32) (x1_3 : Int32) (n2 : Nat) (f2 : (Nat → Int32)) (n4 : Nat) (f4 : (Nat → Int32)) (n5 : Nat) (f5 : (Nat → Int32)) (n6 : Nat) (f6 : (Nat → Int32)) (p1 : Int32) : Option (Int32 × Int32 × Int32 × (Nat → Int32)) :=
Bd (lp_Un_readLengths_4 N p1 x1_1 n2 f2 n6 n4 f4 n5 f5 N 0 0 x1_2 x1_3 f6) fun r50 =>
if r50.1 = 0 then (
some (0, r50.2.2.1, r50.2.2.2.1, r50.2.2.2.2))
else (
if r50.2.1 = p1 then (
some (1, r50.2.2.1, r50.2.2.2.1, r50.2.2.2.2))
else (
some (0, r50.2.2.1, r50.2.2.2.1, r50.2.2.2.2)))
noncomputable def lb_Co_isScant_4 (N : Nat) (m1 : Nat) (g_1 : (Nat → Int32)) (rec : Int32 → Int32 → Option (Int32)) (i1 : Int32) (i2 : Int32) : Option (Int32) :=
if (15 : Int32) < i2 then (
some i1)
else (
Ix i2 m1 <|
Lt (i1 + (g_1 (i2).toNatClampNeg)) fun v7 =>
Lt (i2 + 1) fun v8 =>
rec v7 v8)
noncomputable def lp_Co_isScant_4 (N : Nat) (m1 : Nat) (g_1 : (Nat → Int32)) (n : Nat) : Int32 → Int32 → Option (Int32) := Nat.rec (motive := fun _ => Int32 → Int32 → Option (Int32)) (fun _ _ => none) (fun _ ih => lb_Co_isScant_4 N m1 g_1 ih) n
noncomputable def f_Co_isScant (N : Nat) (n1 : Nat) (f1 : (Nat → Int32)) : Option (Int32) :=
Bd (lp_Co_isScant_4 N n1 f1 N 0 1) fun r9 =>
if r9 = 0 then (
some 1)
else (
if r9 = (1 : Int32) then (
Ix 1 n1 <|
if (f1 (1 : Int32).toNatClampNeg) = (1 : Int32) then (
some 1)
else (
some 0))
else (
some 0))
noncomputable def lb_Un_readCodes_61 (N : Nat) (i3 : Int32) (y1_1 : Int32) (m2 : Nat) (g_2 : (Nat → Int32)) (m3 : Nat) (rec : Int32 → Int32 → Int32 → (Nat → Int32) → Option (Int32 × Int32 × (Nat → Int32))) (i4 : Int32) (y1_2 : Int32) (y1_3 : Int32) (g_3 : (Nat → Int32)) : Option (Int32 × Int32 × (Nat → Int32)) :=
if i3 ≤ i4 then (
some (y1_2, y1_3, g_3))
else (
Ix i4 19 <|
Bd (f_BR_take N y1_1 y1_2 y1_3 m2 g_2 3) fun r18 =>
Ix (tb 4 (i4).toNatClampNeg) m3 <|
Lt (upd g_3 (tb 4 (i4).toNatClampNeg).toNatClampNeg r18.1) fun g20 =>
Lt (i4 + 1) fun v21 =>
rec v21 r18.2.1 r18.2.2 g20)
noncomputable def lp_Un_readCodes_61 (N : Nat) (i3 : Int32) (y1_1 : Int32) (m2 : Nat) (g_2 : (Nat → Int32)) (m3 : Nat) (n : Nat) : Int32 → Int32 → Int32 → (Nat → Int32) → Option (Int32 × Int32 × (Nat → Int32)) := Nat.rec (motive := fun _ => Int32 → Int32 → Int32 → (Nat → Int32) → Option (Int32 × Int32 × (Nat → Int32))) (fun _ _ _ _ => none) (fun _ ih => lb_Un_readCodes_61 N i3 y1_1 m2 g_2 m3 ih) n
noncomputable def f_Un_readCodes (N : Nat) (x1_1 : Int32) (x1_2 : Int32) (x1_3 : Int32) (n2 : Nat) (f2 : (Nat → Int32)) (n3 : Nat) (f3 : (Nat → Int32)) (n5 : Nat) (f5 : (Nat → Int32)) (n6 : Nat) (f6 : (Nat → Int32)) (n7 : Nat) (f7 : (Nat → Int32)) (n9 : Nat) (f9 : (Nat → Int32)) (n10 : Nat) (f10 : (Nat → Int32)) (n11 : Nat) (f11 : (Nat → Int32)) (n13 : Nat) (f13 : (Nat → Int32)) (n14 : Nat) (f14 : (Nat → Int32)) (n15 : Nat) (f15 : (Nat → Int32)) : Option (Int32 × Int32 × Int32 × (Nat → Int32) × (Nat → Int32) × (Nat → Int32) × (Nat → Int32) × (Nat → Int32) × (Nat → Int32) × (Nat → Int32) × (Nat → Int32) × (Nat → Int32) × (Nat → Int32)) :=
Bd (f_BR_take N x1_1 x1_2 x1_3 n2 f2 5) fun r1 =>
Lt (r1.1 + 257) fun v2 =>
Bd (f_BR_take N x1_1 r1.2.1 r1.2.2 n2 f2 5) fun r3 =>
Lt (r3.1 + 1) fun v4 =>
Bd (f_BR_take N x1_1 r3.2.1 r3.2.2 n2 f2 4) fun r5 =>
Lt (r5.1 + 4) fun v6 =>
if (286 : Int32) < v2 then (
some (0, r5.2.1, r5.2.2, f3, f5, f6, f7, f9, f10, f11, f13, f14, f15))
else (
if v4 ≤ (30 : Int32) then (
Bd (f_JA_fill N n3 f3 0) fun r9 =>
Bd (lp_Un_readCodes_61 N v6 x1_1 n2 f2 n3 N 0 r5.2.1 r5.2.2 r9) fun r22 =>
Bd (f_Co_tell N n5 f5 n3 r22.2.2 n6 f6 n7 f7 0 19) fun r23 =>
Bd (f_Co_isFull N n5 r23.1) fun r24 =>
if r24 = 0 then (
some (0, r22.1, r22.2.1, r22.2.2, r23.1, r23.2.1, r23.2.2, f9, f10, f11, f13, f14, f15))
else (
Bd (f_Un_readLengths N x1_1 r22.1 r22.2.1 n2 f2 n5 r23.1 n7 r23.2.2 n3 r22.2.2 (v2 + v4)) fun r26 =>
if r26.1 = 0 then (
some (0, r26.2.1, r26.2.2.1, r26.2.2.2, r23.1, r23.2.1, r23.2.2, f9, f10, f11, f13, f14, f15))
else (
Bd (f_Co_tell N n9 f9 n3 r26.2.2.2 n10 f10 n11 f11 0 v2) fun r28 =>
Bd (f_Co_tell N n13 f13 n3 r26.2.2.2 n14 f14 n15 f15 v2 v4) fun r29 =>
Ix 256 n3 <|
Jn (fun (t32 : Int32) =>
if t32 = 0 then (
some (0, r26.2.1, r26.2.2.1, r26.2.2.2, r23.1, r23.2.1, r23.2.2, r28.1, r28.2.1, r28.2.2, r29.1, r29.2.1, r29.2.2))
else (
Bd (f_Co_isFull N n9 r28.1) fun r34 =>
if r34 = 0 then (
some (0, r26.2.1, r26.2.2.1, r26.2.2.2, r23.1, r23.2.1, r23.2.2, r28.1, r28.2.1, r28.2.2, r29.1, r29.2.1, r29.2.2))
else (
Bd (f_Co_isFull N n13 r29.1) fun r36 =>
if r36 = 0 then (
Bd (f_Co_isScant N n13 r29.1) fun r38 =>
if r38 = 0 then (
some (0, r26.2.1, r26.2.2.1, r26.2.2.2, r23.1, r23.2.1, r23.2.2, r28.1, r28.2.1, r28.2.2, r29.1, r29.2.1, r29.2.2))
else (
some (1, r26.2.1, r26.2.2.1, r26.2.2.2, r23.1, r23.2.1, r23.2.2, r28.1, r28.2.1, r28.2.2, r29.1, r29.2.1, r29.2.2)))
else (
some (1, r26.2.1, r26.2.2.1, r26.2.2.2, r23.1, r23.2.1, r23.2.2, r28.1, r28.2.1, r28.2.2, r29.1, r29.2.1, r29.2.2))))) fun j32 =>
if (r26.2.2.2 (256 : Int32).toNatClampNeg) = 0 then (
j32 0)
else (
j32 1))))
else (
some (0, r5.2.1, r5.2.2, f3, f5, f6, f7, f9, f10, f11, f13, f14, f15)))
noncomputable def f_Un_readBlock (N : Nat) (x0_8 : Int32) (x1_1 : Int32) (x1_2 : Int32) (x1_3 : Int32) (n2 : Nat) (f2 : (Nat → Int32)) (x3_1 : Int32) (n4 : Nat) (f4 : (Nat → Int32)) (n6 : Nat) (f6 : (Nat → Int32)) (n7 : Nat) (f7 : (Nat → Int32)) (n9 : Nat) (f9 : (Nat → Int32)) (n10 : Nat) (f10 : (Nat → Int32)) (n11 : Nat) (f11 : (Nat → Int32)) (n13 : Nat) (f13 : (Nat → Int32)) (n14 : Nat) (f14 : (Nat → Int32)) (n15 : Nat) (f15 : (Nat → Int32)) (n17 : Nat) (f17 : (Nat → Int32)) (n18 : Nat) (f18 : (Nat → Int32)) (n19 : Nat) (f19 : (Nat → Int32)) (n21 : Nat) (f21 : (Nat → Int32)) (n22 : Nat) (f22 : (Nat → Int32)) (n23 : Nat) (f23 : (Nat → Int32)) (p1 : Int32) : Option ((Int32 × Int32 × Int32 × Int32 × Int32 × Nat × (Nat → Int32) × (Nat → Int32) × (Nat → Int32) × (Nat → Int32) × (Nat → Int32) × (Nat → Int32) × (Nat → Int32) × (Nat → Int32) × (Nat → Int32) × (Nat → Int32) × (Nat → Int32)) × Nat × Nat) :=
if p1 = 0 then (
Bk (f_Un_readStored N x1_1 x1_2 x1_3 n2 f2 x3_1 n4 f4) fun r2 =>
Gb r2.1 <|
some ((r2.1, x0_8, r2.2.1, r2.2.2.1, r2.2.2.2.1, r2.2.2.2.2.1, r2.2.2.2.2.2, f11, f13, f14, f15, f17, f18, f19, f21, f22, f23), 0, 0))
else if p1 = 1 then (
Bk (f_Un_readCoded N x1_1 x1_2 x1_3 n2 f2 n6 f6 n7 f7 x3_1 n4 f4 n9 f9 n10 f10) fun r5 =>
Gb r5.1 <|
some ((r5.1, x0_8, r5.2.1, r5.2.2.1, r5.2.2.2.1, r5.2.2.2.2.1, r5.2.2.2.2.2, f11, f13, f14, f15, f17, f18, f19, f21, f22, f23), 0, 0))
else if p1 = 2 then (
Lt (x0_8 + 1) fun v8 =>
Bd (f_Un_readCodes N x1_1 x1_2 x1_3 n2 f2 n11 f11 n13 f13 n14 f14 n15 f15 n17 f17 n18 f18 n19 f19 n21 f21 n22 f22 n23 f23) fun r9 =>
if r9.1 = 0 then (
some ((0, v8, r9.2.1, r9.2.2.1, x3_1, n4, f4, r9.2.2.2.1, r9.2.2.2.2.1, r9.2.2.2.2.2.1, r9.2.2.2.2.2.2.1, r9.2.2.2.2.2.2.2.1, r9.2.2.2.2.2.2.2.2.1, r9.2.2.2.2.2.2.2.2.2.1, r9.2.2.2.2.2.2.2.2.2.2.1, r9.2.2.2.2.2.2.2.2.2.2.2.1, r9.2.2.2.2.2.2.2.2.2.2.2.2), 0, 0))
else (
Bk (f_Un_readCoded N x1_1 r9.2.1 r9.2.2.1 n2 f2 n17 r9.2.2.2.2.2.2.2.1 n19 r9.2.2.2.2.2.2.2.2.2.1 x3_1 n4 f4 n21 r9.2.2.2.2.2.2.2.2.2.2.1 n23 r9.2.2.2.2.2.2.2.2.2.2.2.2) fun r11 =>
if r11.1 = 0 then (
some ((0, v8, r11.2.1, r11.2.2.1, r11.2.2.2.1, r11.2.2.2.2.1, r11.2.2.2.2.2, r9.2.2.2.1, r9.2.2.2.2.1, r9.2.2.2.2.2.1, r9.2.2.2.2.2.2.1, r9.2.2.2.2.2.2.2.1, r9.2.2.2.2.2.2.2.2.1, r9.2.2.2.2.2.2.2.2.2.1, r9.2.2.2.2.2.2.2.2.2.2.1, r9.2.2.2.2.2.2.2.2.2.2.2.1, r9.2.2.2.2.2.2.2.2.2.2.2.2), 0, 0))
else (
some ((1, v8, r11.2.1, r11.2.2.1, r11.2.2.2.1, r11.2.2.2.2.1, r11.2.2.2.2.2, r9.2.2.2.1, r9.2.2.2.2.1, r9.2.2.2.2.2.1, r9.2.2.2.2.2.2.1, r9.2.2.2.2.2.2.2.1, r9.2.2.2.2.2.2.2.2.1, r9.2.2.2.2.2.2.2.2.2.1, r9.2.2.2.2.2.2.2.2.2.2.1, r9.2.2.2.2.2.2.2.2.2.2.2.1, r9.2.2.2.2.2.2.2.2.2.2.2.2), 0, 0))))
else (
some ((0, x0_8, x1_2, x1_3, x3_1, n4, f4, f11, f13, f14, f15, f17, f18, f19, f21, f22, f23), 0, 0))
noncomputable def lb_BR_takeNumber_4 (N : Nat) (y0_1 : Int32) (m1 : Nat) (g_1 : (Nat → Int32)) (rec : Int32 → Int32 → Int32 → Int32 → Option (Int32 × Int32 × Int32)) (i1 : Int32) (i2 : Int32) (y0_2 : Int32) (y0_3 : Int32) : Option (Int32 × Int32 × Int32) :=
if (4 : Int32) ≤ i2 then (
some (i1, y0_2, y0_3))
else (
Bd (f_BR_take N y0_1 y0_2 y0_3 m1 g_1 8) fun r6 =>
Lt ((i1 <<< ((8 : Int32) &&& 31)) ||| r6.1) fun v7 =>
Lt (i2 + 1) fun v8 =>
rec v7 v8 r6.2.1 r6.2.2)
noncomputable def lp_BR_takeNumber_4 (N : Nat) (y0_1 : Int32) (m1 : Nat) (g_1 : (Nat → Int32)) (n : Nat) : Int32 → Int32 → Int32 → Int32 → Option (Int32 × Int32 × Int32) := Nat.rec (motive := fun _ => Int32 → Int32 → Int32 → Int32 → Option (Int32 × Int32 × Int32)) (fun _ _ _ _ => none) (fun _ ih => lb_BR_takeNumber_4 N y0_1 m1 g_1 ih) n
noncomputable def f_BR_takeNumber (N : Nat) (x0_1 : Int32) (x0_2 : Int32) (x0_3 : Int32) (n1 : Nat) (f1 : (Nat → Int32)) : Option (Int32 × Int32 × Int32) :=
Bd (lp_BR_takeNumber_4 N x0_1 n1 f1 N 0 0 x0_2 x0_3) fun r9 =>
some (r9.1, r9.2.1, r9.2.2)
noncomputable def f_BR_isAtEnd (N : Nat) (x0_1 : Int32) (x0_2 : Int32) (x0_3 : Int32) : Option (Int32) :=
if x0_2 = x0_1 then (
if x0_3 = 0 then (
some 1)
else (
some 0))
else (
some 0)
noncomputable def lb_Un_read_37 (N : Nat) (y1_1 : Int32) (m2 : Nat) (g_2 : (Nat → Int32)) (m3 : Nat) (m5 : Nat) (g_5 : (Nat → Int32)) (m6 : Nat) (g_6 : (Nat → Int32)) (m8 : Nat) (g_8 : (Nat → Int32)) (m9 : Nat) (g_9 : (Nat → Int32)) (m11 : Nat) (m12 : Nat) (m13 : Nat) (m15 : Nat) (m16 : Nat) (m17 : Nat) (m19 : Nat) (m20 : Nat) (m21 : Nat) (rec : Int32 → Int32 → Int32 → Int32 → Int32 → Int32 → (Nat → Int32) → (Nat → Int32) → (Nat → Int32) → (Nat → Int32) → (Nat → Int32) → (Nat → Int32) → (Nat → Int32) → (Nat → Int32) → (Nat → Int32) → (Nat → Int32) → Int32 → Nat → (Nat → Int32) → Option ((Nat × Int32 × Int32 × Int32 × Int32 × Int32 × (Nat → Int32) × (Nat → Int32) × (Nat → Int32) × (Nat → Int32) × (Nat → Int32) × (Nat → Int32) × (Nat → Int32) × (Nat → Int32) × (Nat → Int32) × (Nat → Int32) × Int32 × Nat × (Nat → Int32)) × Nat × Nat)) (i3 : Int32) (i4 : Int32) (y0_7 : Int32) (y0_8 : Int32) (y1_2 : Int32) (y1_3 : Int32) (g_3 : (Nat → Int32)) (g_11 : (Nat → Int32)) (g_12 : (Nat → Int32)) (g_13 : (Nat → Int32)) (g_15 : (Nat → Int32)) (g_16 : (Nat → Int32)) (g_17 : (Nat → Int32)) (g_19 : (Nat → Int32)) (g_20 : (Nat → Int32)) (g_21 : (Nat → Int32)) (y23_1 : Int32) (m24 : Nat) (g_24 : (Nat → Int32)) : Option ((Nat × Int32 × Int32 × Int32 × Int32 × Int32 × (Nat → Int32) × (Nat → Int32) × (Nat → Int32) × (Nat → Int32) × (Nat → Int32) × (Nat → Int32) × (Nat → Int32) × (Nat → Int32) × (Nat → Int32) × (Nat → Int32) × Int32 × Nat × (Nat → Int32)) × Nat × Nat) :=
if (524288 : Int32) ≤ i4 then (
some ((1, i3, y0_7, y0_8, y1_2, y1_3, g_3, g_11, g_12, g_13, g_15, g_16, g_17, g_19, g_20, g_21, y23_1, m24, g_24), 0, 0))
else (
if i3 = 0 then (
Bd (f_BR_take N y1_1 y1_2 y1_3 m2 g_2 1) fun r20 =>
Jn (fun (t22 : Int32) =>
Bd (f_BR_take N y1_1 r20.2.1 r20.2.2 m2 g_2 2) fun r23 =>
Bk (f_Un_readBlock N y0_8 y1_1 r23.2.1 r23.2.2 m2 g_2 y23_1 m24 g_24 m5 g_5 m6 g_6 m8 g_8 m9 g_9 m3 g_3 m11 g_11 m12 g_12 m13 g_13 m15 g_15 m16 g_16 m17 g_17 m19 g_19 m20 g_20 m21 g_21 r23.1) fun r24 =>
if r24.1 = 0 then (
some ((0, t22, y0_7, r24.2.1, r24.2.2.1, r24.2.2.2.1, r24.2.2.2.2.2.2.2.1, r24.2.2.2.2.2.2.2.2.1, r24.2.2.2.2.2.2.2.2.2.1, r24.2.2.2.2.2.2.2.2.2.2.1, r24.2.2.2.2.2.2.2.2.2.2.2.1, r24.2.2.2.2.2.2.2.2.2.2.2.2.1, r24.2.2.2.2.2.2.2.2.2.2.2.2.2.1, r24.2.2.2.2.2.2.2.2.2.2.2.2.2.2.1, r24.2.2.2.2.2.2.2.2.2.2.2.2.2.2.2.1, r24.2.2.2.2.2.2.2.2.2.2.2.2.2.2.2.2, r24.2.2.2.2.1, r24.2.2.2.2.2.1, r24.2.2.2.2.2.2.1), 0, 0))
else (
Bd (f_BR_ranOut N r24.2.2.2.1) fun r27 =>
if r27 = 0 then (
Lt (y0_7 + 1) fun v29 =>
Lt (i4 + 1) fun v30 =>
rec t22 v30 v29 r24.2.1 r24.2.2.1 r24.2.2.2.1 r24.2.2.2.2.2.2.2.1 r24.2.2.2.2.2.2.2.2.1 r24.2.2.2.2.2.2.2.2.2.1 r24.2.2.2.2.2.2.2.2.2.2.1 r24.2.2.2.2.2.2.2.2.2.2.2.1 r24.2.2.2.2.2.2.2.2.2.2.2.2.1 r24.2.2.2.2.2.2.2.2.2.2.2.2.2.1 r24.2.2.2.2.2.2.2.2.2.2.2.2.2.2.1 r24.2.2.2.2.2.2.2.2.2.2.2.2.2.2.2.1 r24.2.2.2.2.2.2.2.2.2.2.2.2.2.2.2.2 r24.2.2.2.2.1 r24.2.2.2.2.2.1 r24.2.2.2.2.2.2.1)
else (
some ((0, t22, y0_7, r24.2.1, r24.2.2.1, r24.2.2.2.1, r24.2.2.2.2.2.2.2.1, r24.2.2.2.2.2.2.2.2.1, r24.2.2.2.2.2.2.2.2.2.1, r24.2.2.2.2.2.2.2.2.2.2.1, r24.2.2.2.2.2.2.2.2.2.2.2.1, r24.2.2.2.2.2.2.2.2.2.2.2.2.1, r24.2.2.2.2.2.2.2.2.2.2.2.2.2.1, r24.2.2.2.2.2.2.2.2.2.2.2.2.2.2.1, r24.2.2.2.2.2.2.2.2.2.2.2.2.2.2.2.1, r24.2.2.2.2.2.2.2.2.2.2.2.2.2.2.2.2, r24.2.2.2.2.1, r24.2.2.2.2.2.1, r24.2.2.2.2.2.2.1), 0, 0)))) fun j22 =>
if r20.1 = (1 : Int32) then (
j22 1)
else (
j22 0))
else (
some ((1, i3, y0_7, y0_8, y1_2, y1_3, g_3, g_11, g_12, g_13, g_15, g_16, g_17, g_19, g_20, g_21, y23_1, m24, g_24), 0, 0)))
noncomputable def lp_Un_read_37 (N : Nat) (y1_1 : Int32) (m2 : Nat) (g_2 : (Nat → Int32)) (m3 : Nat) (m5 : Nat) (g_5 : (Nat → Int32)) (m6 : Nat) (g_6 : (Nat → Int32)) (m8 : Nat) (g_8 : (Nat → Int32)) (m9 : Nat) (g_9 : (Nat → Int32)) (m11 : Nat) (m12 : Nat) (m13 : Nat) (m15 : Nat) (m16 : Nat) (m17 : Nat) (m19 : Nat) (m20 : Nat) (m21 : Nat) (n : Nat) : Int32 → Int32 → Int32 → Int32 → Int32 → Int32 → (Nat → Int32) → (Nat → Int32) → (Nat → Int32) → (Nat → Int32) → (Nat → Int32) → (Nat → Int32) → (Nat → Int32) → (Nat → Int32) → (Nat → Int32) → (Nat → Int32) → Int32 → Nat → (Nat → Int32) → Option ((Nat × Int32 × Int32 × Int32 × Int32 × Int32 × (Nat → Int32) × (Nat → Int32) × (Nat → Int32) × (Nat → Int32) × (Nat → Int32) × (Nat → Int32) × (Nat → Int32) × (Nat → Int32) × (Nat → Int32) × (Nat → Int32) × Int32 × Nat × (Nat → Int32)) × Nat × Nat) := Nat.rec (motive := fun _ => Int32 → Int32 → Int32 → Int32 → Int32 → Int32 → (Nat → Int32) → (Nat → Int32) → (Nat → Int32) → (Nat → Int32) → (Nat → Int32) → (Nat → Int32) → (Nat → Int32) → (Nat → Int32) → (Nat → Int32) → (Nat → Int32) → Int32 → Nat → (Nat → Int32) → Option ((Nat × Int32 × Int32 × Int32 × Int32 × Int32 × (Nat → Int32) × (Nat → Int32) × (Nat → Int32) × (Nat → Int32) × (Nat → Int32) × (Nat → Int32) × (Nat → Int32) × (Nat → Int32) × (Nat → Int32) × (Nat → Int32) × Int32 × Nat × (Nat → Int32)) × Nat × Nat)) (fun _ _ _ _ _ _ _ _ _ _ _ _ _ _ _ _ _ _ _ => none) (fun _ ih => lb_Un_read_37 N y1_1 m2 g_2 m3 m5 g_5 m6 g_6 m8 g_8 m9 g_9 m11 m12 m13 m15 m16 m17 m19 m20 m21 ih) n
noncomputable def f_Un_read (N : Nat) (x1_1 : Int32) (x3_1 : Int32) (n4 : Nat) (f4 : (Nat → Int32)) (n5 : Nat) (f5 : (Nat → Int32)) (n7 : Nat) (f7 : (Nat → Int32)) (n8 : Nat) (f8 : (Nat → Int32)) (n10 : Nat) (f10 : (Nat → Int32)) (n11 : Nat) (f11 : (Nat → Int32)) (n12 : Nat) (f12 : (Nat → Int32)) (n14 : Nat) (f14 : (Nat → Int32)) (n15 : Nat) (f15 : (Nat → Int32)) (n16 : Nat) (f16 : (Nat → Int32)) (n18 : Nat) (f18 : (Nat → Int32)) (n19 : Nat) (f19 : (Nat → Int32)) (n20 : Nat) (f20 : (Nat → Int32)) (n22 : Nat) (f22 : (Nat → Int32)) (n23 : Nat) (f23 : (Nat → Int32)) (n24 : Nat) (f24 : (Nat → Int32)) : Option ((Int32 × Int32 × Int32 × Int32 × Int32 × Int32 × Int32 × Nat × (Nat → Int32) × (Nat → Int32) × (Nat → Int32) × (Nat → Int32) × (Nat → Int32) × (Nat → Int32) × (Nat → Int32) × (Nat → Int32) × (Nat → Int32) × (Nat → Int32) × (Nat → Int32)) × Nat × Nat) :=
Bd (f_BR_start N x1_1) fun r1 =>
Bd (f_Row_shorten N x3_1 0) fun r2 =>
Bd (f_Un_headIsRight N r1 0 0 n4 f4) fun r3 =>
if r3.1 = 0 then (
some ((0, 0, 0, r1, r3.2.1, r3.2.2, r2, n5, f5, f12, f14, f15, f16, f18, f19, f20, f22, f23, f24), 0, 0))
else (
Bk (lp_Un_read_37 N r1 n4 f4 n12 n7 f7 n8 f8 n10 f10 n11 f11 n14 n15 n16 n18 n19 n20 n22 n23 n24 N 0 0 0 0 r3.2.1 r3.2.2 f12 f14 f15 f16 f18 f19 f20 f22 f23 f24 r2 n5 f5) fun r32 =>
if r32.1 = 0 then (
some ((0, r32.2.2.1, r32.2.2.2.1, r1, r32.2.2.2.2.1, r32.2.2.2.2.2.1, r32.2.2.2.2.2.2.2.2.2.2.2.2.2.2.2.2.1, r32.2.2.2.2.2.2.2.2.2.2.2.2.2.2.2.2.2.1, r32.2.2.2.2.2.2.2.2.2.2.2.2.2.2.2.2.2.2, r32.2.2.2.2.2.2.1, r32.2.2.2.2.2.2.2.1, r32.2.2.2.2.2.2.2.2.1, r32.2.2.2.2.2.2.2.2.2.1, r32.2.2.2.2.2.2.2.2.2.2.1, r32.2.2.2.2.2.2.2.2.2.2.2.1, r32.2.2.2.2.2.2.2.2.2.2.2.2.1, r32.2.2.2.2.2.2.2.2.2.2.2.2.2.1, r32.2.2.2.2.2.2.2.2.2.2.2.2.2.2.1, r32.2.2.2.2.2.2.2.2.2.2.2.2.2.2.2.1), 0, 0))
else (
Bd (f_BR_skipToByte N r32.2.2.2.2.1) fun r35 =>
if r32.2.1 = 0 then (
some ((0, r32.2.2.1, r32.2.2.2.1, r1, r35, r32.2.2.2.2.2.1, r32.2.2.2.2.2.2.2.2.2.2.2.2.2.2.2.2.1, r32.2.2.2.2.2.2.2.2.2.2.2.2.2.2.2.2.2.1, r32.2.2.2.2.2.2.2.2.2.2.2.2.2.2.2.2.2.2, r32.2.2.2.2.2.2.1, r32.2.2.2.2.2.2.2.1, r32.2.2.2.2.2.2.2.2.1, r32.2.2.2.2.2.2.2.2.2.1, r32.2.2.2.2.2.2.2.2.2.2.1, r32.2.2.2.2.2.2.2.2.2.2.2.1, r32.2.2.2.2.2.2.2.2.2.2.2.2.1, r32.2.2.2.2.2.2.2.2.2.2.2.2.2.1, r32.2.2.2.2.2.2.2.2.2.2.2.2.2.2.1, r32.2.2.2.2.2.2.2.2.2.2.2.2.2.2.2.1), 0, 0))
else (
Bd (f_BR_takeNumber N r1 r35 r32.2.2.2.2.2.1 n4 f4) fun r37 =>
Bd (f_Row_adler32 N r32.2.2.2.2.2.2.2.2.2.2.2.2.2.2.2.2.1 r32.2.2.2.2.2.2.2.2.2.2.2.2.2.2.2.2.2.1 r32.2.2.2.2.2.2.2.2.2.2.2.2.2.2.2.2.2.2) fun r38 =>
if r37.1 = r38 then (
Bd (f_BR_isAtEnd N r1 r37.2.1 r37.2.2) fun r40 =>
if r40 = 0 then (
some ((0, r32.2.2.1, r32.2.2.2.1, r1, r37.2.1, r37.2.2, r32.2.2.2.2.2.2.2.2.2.2.2.2.2.2.2.2.1, r32.2.2.2.2.2.2.2.2.2.2.2.2.2.2.2.2.2.1, r32.2.2.2.2.2.2.2.2.2.2.2.2.2.2.2.2.2.2, r32.2.2.2.2.2.2.1, r32.2.2.2.2.2.2.2.1, r32.2.2.2.2.2.2.2.2.1, r32.2.2.2.2.2.2.2.2.2.1, r32.2.2.2.2.2.2.2.2.2.2.1, r32.2.2.2.2.2.2.2.2.2.2.2.1, r32.2.2.2.2.2.2.2.2.2.2.2.2.1, r32.2.2.2.2.2.2.2.2.2.2.2.2.2.1, r32.2.2.2.2.2.2.2.2.2.2.2.2.2.2.1, r32.2.2.2.2.2.2.2.2.2.2.2.2.2.2.2.1), 0, 0))
else (
some ((1, r32.2.2.1, r32.2.2.2.1, r1, r37.2.1, r37.2.2, r32.2.2.2.2.2.2.2.2.2.2.2.2.2.2.2.2.1, r32.2.2.2.2.2.2.2.2.2.2.2.2.2.2.2.2.2.1, r32.2.2.2.2.2.2.2.2.2.2.2.2.2.2.2.2.2.2, r32.2.2.2.2.2.2.1, r32.2.2.2.2.2.2.2.1, r32.2.2.2.2.2.2.2.2.1, r32.2.2.2.2.2.2.2.2.2.1, r32.2.2.2.2.2.2.2.2.2.2.1, r32.2.2.2.2.2.2.2.2.2.2.2.1, r32.2.2.2.2.2.2.2.2.2.2.2.2.1, r32.2.2.2.2.2.2.2.2.2.2.2.2.2.1, r32.2.2.2.2.2.2.2.2.2.2.2.2.2.2.1, r32.2.2.2.2.2.2.2.2.2.2.2.2.2.2.2.1), 0, 0)))
else (
some ((0, r32.2.2.1, r32.2.2.2.1, r1, r37.2.1, r37.2.2, r32.2.2.2.2.2.2.2.2.2.2.2.2.2.2.2.2.1, r32.2.2.2.2.2.2.2.2.2.2.2.2.2.2.2.2.2.1, r32.2.2.2.2.2.2.2.2.2.2.2.2.2.2.2.2.2.2, r32.2.2.2.2.2.2.1, r32.2.2.2.2.2.2.2.1, r32.2.2.2.2.2.2.2.2.1, r32.2.2.2.2.2.2.2.2.2.1, r32.2.2.2.2.2.2.2.2.2.2.1, r32.2.2.2.2.2.2.2.2.2.2.2.1, r32.2.2.2.2.2.2.2.2.2.2.2.2.1, r32.2.2.2.2.2.2.2.2.2.2.2.2.2.1, r32.2.2.2.2.2.2.2.2.2.2.2.2.2.2.1, r32.2.2.2.2.2.2.2.2.2.2.2.2.2.2.2.1), 0, 0)))))
noncomputable def f_Un_blocks (N : Nat) (x0_7 : Int32) : Option (Int32) :=
some x0_7
noncomputable def f_Un_toldBlocks (N : Nat) (x0_8 : Int32) : Option (Int32) :=
some x0_8
noncomputable def f_TP_open (N : Nat) (x0_6 : Int32) (x0_7 : Int32) (x0_8 : Int32) (x1_1 : Int32) (n2 : Nat) (f2 : (Nat → Int32)) (x3_1 : Int32) (n4 : Nat) (f4 : (Nat → Int32)) (x6_1 : Int32) (n8 : Nat) (f8 : (Nat → Int32)) (n10 : Nat) (f10 : (Nat → Int32)) (n11 : Nat) (f11 : (Nat → Int32)) (n13 : Nat) (f13 : (Nat → Int32)) (n14 : Nat) (f14 : (Nat → Int32)) (n15 : Nat) (f15 : (Nat → Int32)) (n17 : Nat) (f17 : (Nat → Int32)) (n18 : Nat) (f18 : (Nat → Int32)) (n19 : Nat) (f19 : (Nat → Int32)) (n21 : Nat) (f21 : (Nat → Int32)) (n22 : Nat) (f22 : (Nat → Int32)) (n23 : Nat) (f23 : (Nat → Int32)) (n25 : Nat) (f25 : (Nat → Int32)) (n26 : Nat) (f26 : (Nat → Int32)) (n27 : Nat) (f27 : (Nat → Int32)) : Option ((Nat × Int32 × Int32 × Int32 × Int32 × Int32 × Nat × (Nat → Int32) × Int32 × Nat × (Nat → Int32) × Int32 × Int32 × Int32 × Int32 × Int32 × (Nat → Int32) × (Nat → Int32) × (Nat → Int32) × (Nat → Int32) × (Nat → Int32) × (Nat → Int32) × (Nat → Int32) × (Nat → Int32) × (Nat → Int32) × (Nat → Int32)) × Nat × Nat) :=
Bk (f_Un_read N x6_1 x3_1 n8 f8 n4 f4 n10 f10 n11 f11 n13 f13 n14 f14 n15 f15 n17 f17 n18 f18 n19 f19 n21 f21 n22 f22 n23 f23 n25 f25 n26 f26 n27 f27) fun r1 =>
if r1.1 = 0 then (
Lt (x0_8 + 1) fun v7 =>
Ak 6 <|
some ((1, 0, x0_6, x0_7, v7, x1_1, n2, f2, r1.2.2.2.2.2.2.1, r1.2.2.2.2.2.2.2.1, r1.2.2.2.2.2.2.2.2.1, r1.2.1, r1.2.2.1, r1.2.2.2.1, r1.2.2.2.2.1, r1.2.2.2.2.2.1, r1.2.2.2.2.2.2.2.2.2.1, r1.2.2.2.2.2.2.2.2.2.2.1, r1.2.2.2.2.2.2.2.2.2.2.2.1, r1.2.2.2.2.2.2.2.2.2.2.2.2.1, r1.2.2.2.2.2.2.2.2.2.2.2.2.2.1, r1.2.2.2.2.2.2.2.2.2.2.2.2.2.2.1, r1.2.2.2.2.2.2.2.2.2.2.2.2.2.2.2.1, r1.2.2.2.2.2.2.2.2.2.2.2.2.2.2.2.2.1, r1.2.2.2.2.2.2.2.2.2.2.2.2.2.2.2.2.2.1, r1.2.2.2.2.2.2.2.2.2.2.2.2.2.2.2.2.2.2), 0, 0))
else (
Bd (f_Un_blocks N r1.2.1) fun r4 =>
Bd (f_Un_toldBlocks N r1.2.2.1) fun r5 =>
Bd (f_Row_length N r1.2.2.2.2.2.2.1) fun r6 =>
some ((0, r6, r4, r5, x0_8, r1.2.2.2.2.2.2.1, r1.2.2.2.2.2.2.2.1, r1.2.2.2.2.2.2.2.2.1, x1_1, n2, f2, r1.2.1, r1.2.2.1, r1.2.2.2.1, r1.2.2.2.2.1, r1.2.2.2.2.2.1, r1.2.2.2.2.2.2.2.2.2.1, r1.2.2.2.2.2.2.2.2.2.2.1, r1.2.2.2.2.2.2.2.2.2.2.2.1, r1.2.2.2.2.2.2.2.2.2.2.2.2.1, r1.2.2.2.2.2.2.2.2.2.2.2.2.2.1, r1.2.2.2.2.2.2.2.2.2.2.2.2.2.2.1, r1.2.2.2.2.2.2.2.2.2.2.2.2.2.2.2.1, r1.2.2.2.2.2.2.2.2.2.2.2.2.2.2.2.2.1, r1.2.2.2.2.2.2.2.2.2.2.2.2.2.2.2.2.2.1, r1.2.2.2.2.2.2.2.2.2.2.2.2.2.2.2.2.2.2), 0, 0))
noncomputable def f_Row_copyFrom (N : Nat) (x0_1 : Int32) (n2 : Nat) (f2 : (Nat → Int32)) (n3 : Nat) (f3 : (Nat → Int32)) : Option ((Int32 × Nat × (Nat → Int32)) × Nat × Nat) :=
Bk (f_Row_makeRoom N n2 f2 x0_1) fun r1 =>
Gc 0 0 x0_1 n3 r1.1 f3 <|
Lt (va_cpy f3 r1.2 (0 : Int32).toNatClampNeg (0 : Int32).toNatClampNeg (x0_1).toNatClampNeg) fun g3 =>
some ((x0_1, r1.1, g3), 0, 0)
noncomputable def f_TP_turn (N : Nat) (x1_1 : Int32) (x2_1 : Int32) (n3 : Nat) (f3 : (Nat → Int32)) (n4 : Nat) (f4 : (Nat → Int32)) : Option ((Nat × Int32 × Int32 × Nat × (Nat → Int32)) × Nat × Nat) :=
Bd (f_Row_length N x1_1) fun r1 =>
if r1 ≤ (65536 : Int32) then (
Bk (f_Row_copyFrom N x1_1 n3 f3 n4 f4) fun r3 =>
Bd (f_Row_length N r3.1) fun r5 =>
some ((0, r5, r3.1, r3.2.1, r3.2.2), 0, 0))
else (
Ak 6 <|
some ((1, 0, x2_1, n3, f3), 0, 0))
noncomputable def f_Sha_paddedByte (N : Nat) (x0_1 : Int32) (n1 : Nat) (f1 : (Nat → Int32)) (p1 : Int32) (p2 : Int32) : Option (Int32) :=
Bd (f_Row_length N x0_1) fun r1 =>
if r1 ≤ p1 then (
if p1 = r1 then (
some 128)
else (
if p1 < (p2 - 4) then (
some 0)
else (
some ((us (8 * r1) (8 * ((p2 - 1) - p1))) &&& 255))))
else (
Bd (f_Row_at N x0_1 n1 f1 p1) fun r5 =>
some r5)
noncomputable def f_Sha_rotated (N : Nat) (p0 : Int32) (p1 : Int32) : Option (Int32) :=
some ((p0 <<< (p1 &&& 31)) ||| (us p0 (32 - p1)))
noncomputable def lb_Sha_fillWords_16 (N : Nat) (i2 : Int32) (i3 : Int32) (i4 : Int32) (y2_1 : Int32) (m3 : Nat) (g_3 : (Nat → Int32)) (rec : Int32 → Int32 → Option (Int32)) (i5 : Int32) (i6 : Int32) : Option (Int32) :=
if (4 : Int32) ≤ i6 then (
some i5)
else (
Bd (f_Sha_paddedByte N y2_1 m3 g_3 ((i2 + (4 * i4)) + i6) i3) fun r16 =>
Lt ((i5 <<< ((8 : Int32) &&& 31)) ||| r16) fun v17 =>
Lt (i6 + 1) fun v18 =>
rec v17 v18)
noncomputable def lp_Sha_fillWords_16 (N : Nat) (i2 : Int32) (i3 : Int32) (i4 : Int32) (y2_1 : Int32) (m3 : Nat) (g_3 : (Nat → Int32)) (n : Nat) : Int32 → Int32 → Option (Int32) := Nat.rec (motive := fun _ => Int32 → Int32 → Option (Int32)) (fun _ _ => none) (fun _ ih => lb_Sha_fillWords_16 N i2 i3 i4 y2_1 m3 g_3 ih) n
noncomputable def lb_Sha_fillWords_3 (N : Nat) (i2 : Int32) (i3 : Int32) (m1 : Nat) (y2_1 : Int32) (m3 : Nat) (g_3 : (Nat → Int32)) (rec : Int32 → (Nat → Int32) → Option ((Nat → Int32))) (i4 : Int32) (g_1 : (Nat → Int32)) : Option ((Nat → Int32)) :=
if (16 : Int32) ≤ i4 then (
some g_1)
else (
Bd (lp_Sha_fillWords_16 N i2 i3 i4 y2_1 m3 g_3 N 0 0) fun r19 =>
Ix i4 m1 <|
Lt (upd g_1 (i4).toNatClampNeg r19) fun g21 =>
Lt (i4 + 1) fun v22 =>
rec v22 g21)
noncomputable def lp_Sha_fillWords_3 (N : Nat) (i2 : Int32) (i3 : Int32) (m1 : Nat) (y2_1 : Int32) (m3 : Nat) (g_3 : (Nat → Int32)) (n : Nat) : Int32 → (Nat → Int32) → Option ((Nat → Int32)) := Nat.rec (motive := fun _ => Int32 → (Nat → Int32) → Option ((Nat → Int32))) (fun _ _ => none) (fun _ ih => lb_Sha_fillWords_3 N i2 i3 m1 y2_1 m3 g_3 ih) n
noncomputable def lb_Sha_fillWords_69 (N : Nat) (m1 : Nat) (rec : Int32 → (Nat → Int32) → Option ((Nat → Int32))) (i4 : Int32) (g_1 : (Nat → Int32)) : Option ((Nat → Int32)) :=
if (nI m1) ≤ i4 then (
some g_1)
else (
Ix (i4 - 3) m1 <|
Ix (i4 - 8) m1 <|
Ix (i4 - 14) m1 <|
Ix (i4 - 16) m1 <|
Lt ((((g_1 (i4 - 3).toNatClampNeg) ^^^ (g_1 (i4 - 8).toNatClampNeg)) ^^^ (g_1 (i4 - 14).toNatClampNeg)) ^^^ (g_1 (i4 - 16).toNatClampNeg)) fun v39 =>
Bd (f_Sha_rotated N v39 1) fun r40 =>
Ix i4 m1 <|
Lt (upd g_1 (i4).toNatClampNeg r40) fun g42 =>
Lt (i4 + 1) fun v43 =>
rec v43 g42)
noncomputable def lp_Sha_fillWords_69 (N : Nat) (m1 : Nat) (n : Nat) : Int32 → (Nat → Int32) → Option ((Nat → Int32)) := Nat.rec (motive := fun _ => Int32 → (Nat → Int32) → Option ((Nat → Int32))) (fun _ _ => none) (fun _ ih => lb_Sha_fillWords_69 N m1 ih) n
noncomputable def f_Sha_fillWords (N : Nat) (x0_1 : Int32) (n1 : Nat) (f1 : (Nat → Int32)) (n3 : Nat) (f3 : (Nat → Int32)) (p2 : Int32) (p3 : Int32) : Option ((Nat → Int32)) :=
Bd (lp_Sha_fillWords_3 N p2 p3 n3 x0_1 n1 f1 N 0 f3) fun r23 =>
Bd (lp_Sha_fillWords_69 N n3 N 16 r23) fun r44 =>
some r44
noncomputable def f_Sha_chosen (N : Nat) (p0 : Int32) (p1 : Int32) (p2 : Int32) (p3 : Int32) : Option (Int32) :=
if (20 : Int32) ≤ p0 then (
Jn (fun (t4 : Unit) =>
some ((p1 ^^^ p2) ^^^ p3)) fun j4 =>
if p0 < (40 : Int32) then (
j4 ())
else (
if p0 < (60 : Int32) then (
some (((p1 &&& p2) ||| (p1 &&& p3)) ||| (p2 &&& p3)))
else (
j4 ())))
else (
some ((p1 &&& p2) ||| ((p1 ^^^ ((-1))) &&& p3)))
noncomputable def f_Sha_addend (N : Nat) (p0 : Int32) : Option (Int32) :=
if (20 : Int32) ≤ p0 then (
if (40 : Int32) ≤ p0 then (
if (60 : Int32) ≤ p0 then (
some ((-899497514)))
else (
some ((-1894007588))))
else (
some 1859775393))
else (
some 1518500249)
noncomputable def lb_Sha_mixBlock_40 (N : Nat) (m1 : Nat) (g_1 : (Nat → Int32)) (rec : Int32 → Int32 → Int32 → Int32 → Int32 → Int32 → Option (Int32 × Int32 × Int32 × Int32 × Int32)) (i1 : Int32) (i2 : Int32) (i3 : Int32) (i4 : Int32) (i5 : Int32) (i6 : Int32) : Option (Int32 × Int32 × Int32 × Int32 × Int32) :=
if (nI m1) ≤ i6 then (
some (i1, i2, i3, i4, i5))
else (
Bd (f_Sha_rotated N i1 5) fun r20 =>
Bd (f_Sha_chosen N i6 i2 i3 i4) fun r21 =>
Bd (f_Sha_addend N i6) fun r22 =>
Ix i6 m1 <|
Lt ((((r20 + r21) + i5) + r22) + (g_1 (i6).toNatClampNeg)) fun v24 =>
Bd (f_Sha_rotated N i2 30) fun r25 =>
Lt (i6 + 1) fun v26 =>
rec v24 i1 r25 i3 i4 v26)
noncomputable def lp_Sha_mixBlock_40 (N : Nat) (m1 : Nat) (g_1 : (Nat → Int32)) (n : Nat) : Int32 → Int32 → Int32 → Int32 → Int32 → Int32 → Option (Int32 × Int32 × Int32 × Int32 × Int32) := Nat.rec (motive := fun _ => Int32 → Int32 → Int32 → Int32 → Int32 → Int32 → Option (Int32 × Int32 × Int32 × Int32 × Int32)) (fun _ _ _ _ _ _ => none) (fun _ ih => lb_Sha_mixBlock_40 N m1 g_1 ih) n
noncomputable def f_Sha_mixBlock (N : Nat) (n1 : Nat) (f1 : (Nat → Int32)) (n2 : Nat) (f2 : (Nat → Int32)) : Option ((Nat → Int32)) :=
Ix 0 n1 <|
Lt (f1 (0 : Int32).toNatClampNeg) fun v2 =>
Ix 1 n1 <|
Lt (f1 (1 : Int32).toNatClampNeg) fun v4 =>
Ix 2 n1 <|
Lt (f1 (2 : Int32).toNatClampNeg) fun v6 =>
Ix 3 n1 <|
Lt (f1 (3 : Int32).toNatClampNeg) fun v8 =>
Ix 4 n1 <|
Lt (f1 (4 : Int32).toNatClampNeg) fun v10 =>
Bd (lp_Sha_mixBlock_40 N n2 f2 N v2 v4 v6 v8 v10 0) fun r27 =>
Ix 0 n1 <|
Ix 0 n1 <|
Lt (upd f1 (0 : Int32).toNatClampNeg ((f1 (0 : Int32).toNatClampNeg) + r27.1)) fun g30 =>
Ix 1 n1 <|
Ix 1 n1 <|
Lt (upd g30 (1 : Int32).toNatClampNeg ((g30 (1 : Int32).toNatClampNeg) + r27.2.1)) fun g33 =>
Ix 2 n1 <|
Ix 2 n1 <|
Lt (upd g33 (2 : Int32).toNatClampNeg ((g33 (2 : Int32).toNatClampNeg) + r27.2.2.1)) fun g36 =>
Ix 3 n1 <|
Ix 3 n1 <|
Lt (upd g36 (3 : Int32).toNatClampNeg ((g36 (3 : Int32).toNatClampNeg) + r27.2.2.2.1)) fun g39 =>
Ix 4 n1 <|
Ix 4 n1 <|
Lt (upd g39 (4 : Int32).toNatClampNeg ((g39 (4 : Int32).toNatClampNeg) + r27.2.2.2.2)) fun g42 =>
some g42
noncomputable def lb_Sha_run_58 (N : Nat) (i2 : Int32) (m1 : Nat) (m2 : Nat) (y3_1 : Int32) (m4 : Nat) (g_4 : (Nat → Int32)) (rec : Int32 → (Nat → Int32) → (Nat → Int32) → Option ((Nat → Int32) × (Nat → Int32))) (i3 : Int32) (g_1 : (Nat → Int32)) (g_2 : (Nat → Int32)) : Option ((Nat → Int32) × (Nat → Int32)) :=
if i2 ≤ i3 then (
some (g_1, g_2))
else (
Bd (f_Sha_fillWords N y3_1 m4 g_4 m1 g_1 i3 i2) fun r18 =>
Bd (f_Sha_mixBlock N m2 g_2 m1 r18) fun r19 =>
Lt (i3 + 64) fun v20 =>
rec v20 r18 r19)
noncomputable def lp_Sha_run_58 (N : Nat) (i2 : Int32) (m1 : Nat) (m2 : Nat) (y3_1 : Int32) (m4 : Nat) (g_4 : (Nat → Int32)) (n : Nat) : Int32 → (Nat → Int32) → (Nat → Int32) → Option ((Nat → Int32) × (Nat → Int32)) := Nat.rec (motive := fun _ => Int32 → (Nat → Int32) → (Nat → Int32) → Option ((Nat → Int32) × (Nat → Int32))) (fun _ _ _ => none) (fun _ ih => lb_Sha_run_58 N i2 m1 m2 y3_1 m4 g_4 ih) n
noncomputable def f_Sha_run (N : Nat) (n1 : Nat) (f1 : (Nat → Int32)) (x2_1 : Int32) (n3 : Nat) (f3 : (Nat → Int32)) (n4 : Nat) (f4 : (Nat → Int32)) : Option ((Nat → Int32) × (Nat → Int32)) :=
Ix 0 n1 <|
Lt (upd f1 (0 : Int32).toNatClampNeg 1732584193) fun g2 =>
Ix 1 n1 <|
Lt (upd g2 (1 : Int32).toNatClampNeg ((-271733879))) fun g4 =>
Ix 2 n1 <|
Lt (upd g4 (2 : Int32).toNatClampNeg ((-1732584194))) fun g6 =>
Ix 3 n1 <|
Lt (upd g6 (3 : Int32).toNatClampNeg 271733878) fun g8 =>
Ix 4 n1 <|
Lt (upd g8 (4 : Int32).toNatClampNeg ((-1009589776))) fun g10 =>
Bd (f_Row_length N x2_1) fun r11 =>
Lt ((((r11 + 8) / 64) + 1) * 64) fun v12 =>
Bd (lp_Sha_run_58 N v12 n4 n1 x2_1 n3 f3 N 0 f4 g10) fun r21 =>
some (r21.2, r21.1)
noncomputable def f_Sha_word (N : Nat) (n1 : Nat) (f1 : (Nat → Int32)) (p1 : Int32) : Option (Int64) :=
Jn (fun (t4 : Unit) =>
some 0) fun j4 =>
if p1 < 0 then (
j4 ())
else (
if (nI n1) ≤ p1 then (
j4 ())
else (
Ix p1 n1 <|
some (((f1 (p1).toNatClampNeg).toInt64) &&& 4294967295)))
noncomputable def f_TP_hash (N : Nat) (n2 : Nat) (f2 : (Nat → Int32)) (x3_1 : Int32) (n4 : Nat) (f4 : (Nat → Int32)) (n5 : Nat) (f5 : (Nat → Int32)) (p1 : Int32) : Option ((Nat × Int64 × (Nat → Int32) × (Nat → Int32)) × Nat × Nat) :=
Jn (fun (t8 : Unit) =>
Ak 6 <|
some ((1, 0, f2, f5), 0, 0)) fun j8 =>
if p1 < 0 then (
j8 ())
else (
if p1 ≤ (2 : Int32) then (
Bd (f_Sha_run N n2 f2 x3_1 n4 f4 n5 f5) fun r12 =>
if p1 = (2 : Int32) then (
Bd (f_Sha_word N n2 r12.1 4) fun r16 =>
some ((0, r16, r12.1, r12.2), 0, 0))
else (
Bd (f_Sha_word N n2 r12.1 (2 * p1)) fun r14 =>
Bd (f_Sha_word N n2 r12.1 ((2 * p1) + 1)) fun r15 =>
some ((0, (r14 <<< ((32 : Int32).toInt64 &&& 63)) ||| r15, r12.1, r12.2), 0, 0)))
else (
j8 ()))
noncomputable def f_TP_letter (N : Nat) (x1_1 : Int32) (n2 : Nat) (f2 : (Nat → Int32)) (p1 : Int32) : Option ((Nat × Int32) × Nat × Nat) :=
Bd (f_Row_has N x1_1 p1) fun r1 =>
if r1 = 0 then (
Ak 6 <|
some ((1, 0), 0, 0))
else (
Bd (f_Row_at N x1_1 n2 f2 p1) fun r3 =>
some ((0, r3), 0, 0))
noncomputable def f_Pr_pairs (N : Nat) (x0_2 : Int32) : Option (Int32) :=
some x0_2
noncomputable def f_Pr_literals (N : Nat) (x0_3 : Int32) : Option (Int32) :=
some x0_3
noncomputable def f_TP_count (N : Nat) (x0_6 : Int32) (x0_7 : Int32) (x0_8 : Int32) (x1_1 : Int32) (x2_1 : Int32) (x3_2 : Int32) (x3_3 : Int32) (p1 : Int32) : Option (Int32) :=
if p1 = 0 then (
Bd (f_Row_length N x1_1) fun r2 =>
some r2)
else if p1 = 1 then (
Bd (f_Row_length N x2_1) fun r4 =>
some r4)
else if p1 = 2 then (
Bd (f_Pr_pairs N x3_2) fun r6 =>
some r6)
else if p1 = 3 then (
Bd (f_Pr_literals N x3_3) fun r8 =>
some r8)
else if p1 = 4 then (
some x0_6)
else if p1 = 5 then (
some x0_7)
else if p1 = 6 then (
some x0_8)
else (
some ((-1)))
noncomputable def lb_Pr_codeOf_4 (N : Nat) (i0 : Int32) (m0 : Nat) (g_0 : (Nat → Int32)) (rec : Int32 → Int32 → Option (Int32)) (i2 : Int32) (i3 : Int32) : Option (Int32) :=
if (nI m0) ≤ i3 then (
some i2)
else (
Ix i3 m0 <|
if i0 < (g_0 (i3).toNatClampNeg) then (
some i2)
else (
Lt (i3 + 1) fun v8 =>
rec i3 v8))
noncomputable def lp_Pr_codeOf_4 (N : Nat) (i0 : Int32) (m0 : Nat) (g_0 : (Nat → Int32)) (n : Nat) : Int32 → Int32 → Option (Int32) := Nat.rec (motive := fun _ => Int32 → Int32 → Option (Int32)) (fun _ _ => none) (fun _ ih => lb_Pr_codeOf_4 N i0 m0 g_0 ih) n
noncomputable def f_Pr_codeOf (N : Nat) (n0 : Nat) (f0 : (Nat → Int32)) (p0 : Int32) : Option (Int32) :=
Bd (lp_Pr_codeOf_4 N p0 n0 f0 N 0 1) fun r9 =>
some r9
noncomputable def f_Mo_init (N : Nat)  : Option ((Unit) × Nat × Nat) :=
Ak 65536 <|
Ak 74000 <|
Ak 65536 <|
Ak 340 <|
Ak 340 <|
Ak 320 <|
Ak 17 <|
Ak 17 <|
Ak 80 <|
Ak 5 <|
some ((), 0, 0)
noncomputable def f_Mo_thrown (N : Nat) (x0_10 : Int32) : Option (Int32) :=
some x0_10
noncomputable def f_Mo_refuse (N : Nat) (p1 : Int32) : Option (Int32 × Int32) :=
some (0, p1)
noncomputable def lb_Mo_feed_26 (N : Nat) (i1 : Int32) (i2 : Int32) (i3 : Int32) (i4 : Int32) (i5 : Int32) (m1 : Nat) (rec : Int32 → Int32 → (Nat → Int32) → Option (Int32 × (Nat → Int32))) (i6 : Int32) (y0_3 : Int32) (g_1 : (Nat → Int32)) : Option (Int32 × (Nat → Int32)) :=
if (20 : Int32) ≤ i6 then (
some (y0_3, g_1))
else (
Jn (fun (t17 : Int32) =>
Ix y0_3 m1 <|
Lt (upd g_1 (y0_3).toNatClampNeg (vp_nar .byte ((us t17 (24 - ((irm i6 4) * 8))).toInt8.toInt32))) fun g19 =>
Lt (y0_3 + 1) fun v20 =>
Lt (i6 + 1) fun v21 =>
rec v21 v20 g19) fun j17 =>
if (4 : Int32) ≤ i6 then (
if (8 : Int32) ≤ i6 then (
if (12 : Int32) ≤ i6 then (
if (16 : Int32) ≤ i6 then (
j17 i5)
else (
j17 i4))
else (
j17 i3))
else (
j17 i2))
else (
j17 i1))
noncomputable def lp_Mo_feed_26 (N : Nat) (i1 : Int32) (i2 : Int32) (i3 : Int32) (i4 : Int32) (i5 : Int32) (m1 : Nat) (n : Nat) : Int32 → Int32 → (Nat → Int32) → Option (Int32 × (Nat → Int32)) := Nat.rec (motive := fun _ => Int32 → Int32 → (Nat → Int32) → Option (Int32 × (Nat → Int32))) (fun _ _ _ => none) (fun _ ih => lb_Mo_feed_26 N i1 i2 i3 i4 i5 m1 ih) n
noncomputable def f_Mo_feed (N : Nat) (x0_3 : Int32) (n1 : Nat) (f1 : (Nat → Int32)) (p1 : Int32) (p2 : Int32) (p3 : Int32) (p4 : Int32) (p5 : Int32) : Option (Int32 × Int32 × Int32 × (Nat → Int32)) :=
if (x0_3 + 20) ≤ (65536 : Int32) then (
Bd (lp_Mo_feed_26 N p1 p2 p3 p4 p5 n1 N 0 x0_3 f1) fun r26 =>
some (r26.1, r26.1, 0, r26.2))
else (
Bd (f_Mo_refuse N 1) fun r27 =>
some (r27.1, x0_3, r27.2, f1))
noncomputable def f_Mo_end (N : Nat) (x0_3 : Int32) (p1 : Int32) : Option (Int32 × Int32 × Int32) :=
Jn (fun (t4 : Unit) =>
Bd (f_Mo_refuse N 1) fun r5 =>
some (r5.1, x0_3, r5.2)) fun j4 =>
if p1 < 0 then (
j4 ())
else (
if p1 ≤ x0_3 then (
Lt (x0_3 - p1) fun v8 =>
some (v8, v8, 0))
else (
j4 ()))
noncomputable def f_Mo_change (N : Nat) (x0_3 : Int32) (n1 : Nat) (f1 : (Nat → Int32)) (p1 : Int32) (p2 : Int32) : Option (Int32 × (Nat → Int32)) :=
Jn (fun (t8 : Unit) =>
some (1, f1)) fun j8 =>
if p1 < 0 then (
j8 ())
else (
if x0_3 ≤ p1 then (
j8 ())
else (
if p2 < 0 then (
j8 ())
else (
if p2 ≤ (255 : Int32) then (
Ix p1 n1 <|
Ix p1 n1 <|
Lt (upd f1 (p1).toNatClampNeg (vp_nar .byte (((f1 (p1).toNatClampNeg) ^^^ p2).toInt8.toInt32))) fun g15 =>
some (0, g15))
else (
j8 ()))))
noncomputable def f_Mo_putBit (N : Nat) (x0_11 : Int32) (n1 : Nat) (f1 : (Nat → Int32)) (p1 : Int32) : Option (Int32 × (Nat → Int32)) :=
Lt (2 + (x0_11 / 8)) fun v1 =>
Jn (fun (t5 : (Nat → Int32)) =>
Jn (fun (t10 : (Nat → Int32)) =>
Lt (x0_11 + 1) fun v11 =>
some (v11, t10)) fun j10 =>
if p1 = 0 then (
j10 t5)
else (
Ix v1 n1 <|
Ix v1 n1 <|
Lt (upd t5 (v1).toNatClampNeg (vp_nar .byte (((t5 (v1).toNatClampNeg) ||| ((1 : Int32) <<< ((irm x0_11 8) &&& 31))).toInt8.toInt32))) fun g15 =>
j10 g15)) fun j5 =>
if (irm x0_11 8) = 0 then (
Ix v1 n1 <|
Lt (upd f1 (v1).toNatClampNeg (vp_nar .byte 0)) fun g18 =>
j5 g18)
else (
j5 f1)
noncomputable def lb_Mo_putCode_4 (N : Nat) (i1 : Int32) (m1 : Nat) (rec : Int32 → Int32 → (Nat → Int32) → Option (Int32 × (Nat → Int32))) (i3 : Int32) (y0_11 : Int32) (g_1 : (Nat → Int32)) : Option (Int32 × (Nat → Int32)) :=
if i3 < 0 then (
some (y0_11, g_1))
else (
Bd (f_Mo_putBit N y0_11 m1 g_1 ((us i1 i3) &&& 1)) fun r6 =>
Lt (i3 + (-1)) fun v7 =>
rec v7 r6.1 r6.2)
noncomputable def lp_Mo_putCode_4 (N : Nat) (i1 : Int32) (m1 : Nat) (n : Nat) : Int32 → Int32 → (Nat → Int32) → Option (Int32 × (Nat → Int32)) := Nat.rec (motive := fun _ => Int32 → Int32 → (Nat → Int32) → Option (Int32 × (Nat → Int32))) (fun _ _ _ => none) (fun _ ih => lb_Mo_putCode_4 N i1 m1 ih) n
noncomputable def f_Mo_putCode (N : Nat) (x0_11 : Int32) (n1 : Nat) (f1 : (Nat → Int32)) (p1 : Int32) (p2 : Int32) : Option (Int32 × (Nat → Int32)) :=
Lt (p2 - 1) fun v1 =>
Bd (lp_Mo_putCode_4 N p1 n1 N v1 x0_11 f1) fun r8 =>
some (r8.1, r8.2)
noncomputable def lb_Mo_putNumber_2 (N : Nat) (i1 : Int32) (i2 : Int32) (m1 : Nat) (rec : Int32 → Int32 → (Nat → Int32) → Option (Int32 × (Nat → Int32))) (i3 : Int32) (y0_11 : Int32) (g_1 : (Nat → Int32)) : Option (Int32 × (Nat → Int32)) :=
if i2 ≤ i3 then (
some (y0_11, g_1))
else (
Bd (f_Mo_putBit N y0_11 m1 g_1 ((us i1 i3) &&& 1)) fun r5 =>
Lt (i3 + 1) fun v6 =>
rec v6 r5.1 r5.2)
noncomputable def lp_Mo_putNumber_2 (N : Nat) (i1 : Int32) (i2 : Int32) (m1 : Nat) (n : Nat) : Int32 → Int32 → (Nat → Int32) → Option (Int32 × (Nat → Int32)) := Nat.rec (motive := fun _ => Int32 → Int32 → (Nat → Int32) → Option (Int32 × (Nat → Int32))) (fun _ _ _ => none) (fun _ ih => lb_Mo_putNumber_2 N i1 i2 m1 ih) n
noncomputable def f_Mo_putNumber (N : Nat) (x0_11 : Int32) (n1 : Nat) (f1 : (Nat → Int32)) (p1 : Int32) (p2 : Int32) : Option (Int32 × (Nat → Int32)) :=
Bd (lp_Mo_putNumber_2 N p1 p2 n1 N 0 x0_11 f1) fun r7 =>
some (r7.1, r7.2)
noncomputable def f_Mo_putSign (N : Nat) (x0_11 : Int32) (n1 : Nat) (f1 : (Nat → Int32)) (p1 : Int32) : Option (Int32 × (Nat → Int32)) :=
if (144 : Int32) ≤ p1 then (
if (256 : Int32) ≤ p1 then (
if (280 : Int32) ≤ p1 then (
Bd (f_Mo_putCode N x0_11 n1 f1 ((192 + p1) - 280) 8) fun r4 =>
some (r4.1, r4.2))
else (
Bd (f_Mo_putCode N x0_11 n1 f1 (p1 - 256) 7) fun r5 =>
some (r5.1, r5.2)))
else (
Bd (f_Mo_putCode N x0_11 n1 f1 ((400 + p1) - 144) 9) fun r6 =>
some (r6.1, r6.2)))
else (
Bd (f_Mo_putCode N x0_11 n1 f1 (48 + p1) 8) fun r7 =>
some (r7.1, r7.2))
noncomputable def f_Mo_lengthBits (N : Nat) (p0 : Int32) : Option (Int32) :=
if p0 < (265 : Int32) then (
some 0)
else (
if p0 = (285 : Int32) then (
some 0)
else (
some ((p0 - 261) / 4)))
noncomputable def lb_Mo_lengthBase_6 (N : Nat) (i0 : Int32) (rec : Int32 → Int32 → Option (Int32)) (i1 : Int32) (i2 : Int32) : Option (Int32) :=
if i0 ≤ i2 then (
some i1)
else (
Bd (f_Mo_lengthBits N i2) fun r6 =>
Lt (i1 + ((1 : Int32) <<< (r6 &&& 31))) fun v7 =>
Lt (i2 + 1) fun v8 =>
rec v7 v8)
noncomputable def lp_Mo_lengthBase_6 (N : Nat) (i0 : Int32) (n : Nat) : Int32 → Int32 → Option (Int32) := Nat.rec (motive := fun _ => Int32 → Int32 → Option (Int32)) (fun _ _ => none) (fun _ ih => lb_Mo_lengthBase_6 N i0 ih) n
noncomputable def f_Mo_lengthBase (N : Nat) (p0 : Int32) : Option (Int32) :=
Bd (lp_Mo_lengthBase_6 N p0 N 3 257) fun r9 =>
if p0 = (285 : Int32) then (
some 258)
else (
some r9)
noncomputable def f_Mo_distanceBits (N : Nat) (p0 : Int32) : Option (Int32) :=
if (4 : Int32) ≤ p0 then (
some ((p0 / 2) - 1))
else (
some 0)
noncomputable def lb_Mo_distanceBase_4 (N : Nat) (i0 : Int32) (rec : Int32 → Int32 → Option (Int32)) (i1 : Int32) (i2 : Int32) : Option (Int32) :=
if i0 ≤ i2 then (
some i1)
else (
Bd (f_Mo_distanceBits N i2) fun r6 =>
Lt (i1 + ((1 : Int32) <<< (r6 &&& 31))) fun v7 =>
Lt (i2 + 1) fun v8 =>
rec v7 v8)
noncomputable def lp_Mo_distanceBase_4 (N : Nat) (i0 : Int32) (n : Nat) : Int32 → Int32 → Option (Int32) := Nat.rec (motive := fun _ => Int32 → Int32 → Option (Int32)) (fun _ _ => none) (fun _ ih => lb_Mo_distanceBase_4 N i0 ih) n
noncomputable def f_Mo_distanceBase (N : Nat) (p0 : Int32) : Option (Int32) :=
Bd (lp_Mo_distanceBase_4 N p0 N 1 0) fun r9 =>
some r9
noncomputable def lb_Mo_putPair_4 (N : Nat) (i1 : Int32) (rec : Int32 → Option (Int32)) (i3 : Int32) : Option (Int32) :=
if (285 : Int32) ≤ i3 then (
some i3)
else (
Bd (f_Mo_lengthBase N (i3 + 1)) fun r6 =>
if i1 < r6 then (
some i3)
else (
Lt (i3 + 1) fun v8 =>
rec v8))
noncomputable def lp_Mo_putPair_4 (N : Nat) (i1 : Int32) (n : Nat) : Int32 → Option (Int32) := Nat.rec (motive := fun _ => Int32 → Option (Int32)) (fun _ => none) (fun _ ih => lb_Mo_putPair_4 N i1 ih) n
noncomputable def lb_Mo_putPair_49 (N : Nat) (i2 : Int32) (rec : Int32 → Option (Int32)) (i4 : Int32) : Option (Int32) :=
if (29 : Int32) ≤ i4 then (
some i4)
else (
Bd (f_Mo_distanceBase N (i4 + 1)) fun r19 =>
if i2 < r19 then (
some i4)
else (
Lt (i4 + 1) fun v21 =>
rec v21))
noncomputable def lp_Mo_putPair_49 (N : Nat) (i2 : Int32) (n : Nat) : Int32 → Option (Int32) := Nat.rec (motive := fun _ => Int32 → Option (Int32)) (fun _ => none) (fun _ ih => lb_Mo_putPair_49 N i2 ih) n
noncomputable def f_Mo_putPair (N : Nat) (x0_11 : Int32) (n1 : Nat) (f1 : (Nat → Int32)) (p1 : Int32) (p2 : Int32) : Option (Int32 × (Nat → Int32)) :=
Bd (lp_Mo_putPair_4 N p1 N 257) fun r9 =>
Bd (f_Mo_putSign N x0_11 n1 f1 r9) fun r10 =>
Bd (f_Mo_lengthBase N r9) fun r11 =>
Bd (f_Mo_lengthBits N r9) fun r12 =>
Bd (f_Mo_putNumber N r10.1 n1 r10.2 (p1 - r11) r12) fun r13 =>
Bd (lp_Mo_putPair_49 N p2 N 0) fun r22 =>
Bd (f_Mo_putCode N r13.1 n1 r13.2 r22 5) fun r23 =>
Bd (f_Mo_distanceBase N r22) fun r24 =>
Bd (f_Mo_distanceBits N r22) fun r25 =>
Bd (f_Mo_putNumber N r23.1 n1 r23.2 (p2 - r24) r25) fun r26 =>
some (r26.1, r26.2)
noncomputable def lb_Mo_common_2 (N : Nat) (i1 : Int32) (i2 : Int32) (y0_3 : Int32) (m1 : Nat) (g_1 : (Nat → Int32)) (rec : Int32 → Option (Int32)) (i3 : Int32) : Option (Int32) :=
if (258 : Int32) ≤ i3 then (
some i3)
else (
if y0_3 ≤ (i1 + i3) then (
some i3)
else (
Ix (i1 + i3) m1 <|
Ix ((i1 + i3) - i2) m1 <|
if (g_1 (i1 + i3).toNatClampNeg) = (g_1 ((i1 + i3) - i2).toNatClampNeg) then (
Lt (i3 + 1) fun v12 =>
rec v12)
else (
some i3)))
noncomputable def lp_Mo_common_2 (N : Nat) (i1 : Int32) (i2 : Int32) (y0_3 : Int32) (m1 : Nat) (g_1 : (Nat → Int32)) (n : Nat) : Int32 → Option (Int32) := Nat.rec (motive := fun _ => Int32 → Option (Int32)) (fun _ => none) (fun _ ih => lb_Mo_common_2 N i1 i2 y0_3 m1 g_1 ih) n
noncomputable def f_Mo_common (N : Nat) (x0_3 : Int32) (n1 : Nat) (f1 : (Nat → Int32)) (p1 : Int32) (p2 : Int32) : Option (Int32) :=
Bd (lp_Mo_common_2 N p1 p2 x0_3 n1 f1 N 0) fun r13 =>
some r13
noncomputable def lb_Mo_adler_8 (N : Nat) (i2 : Int32) (m0 : Nat) (g_0 : (Nat → Int32)) (rec : Int32 → Int32 → Int32 → Option (Int32 × Int32)) (i3 : Int32) (i4 : Int32) (i5 : Int32) : Option (Int32 × Int32) :=
if i2 ≤ i5 then (
some (i3, i4))
else (
Ix i5 m0 <|
Lt (irm (i3 + ((g_0 (i5).toNatClampNeg) &&& 255)) 65521) fun v8 =>
Lt (irm (i4 + v8) 65521) fun v9 =>
Lt (i5 + 1) fun v10 =>
rec v8 v9 v10)
noncomputable def lp_Mo_adler_8 (N : Nat) (i2 : Int32) (m0 : Nat) (g_0 : (Nat → Int32)) (n : Nat) : Int32 → Int32 → Int32 → Option (Int32 × Int32) := Nat.rec (motive := fun _ => Int32 → Int32 → Int32 → Option (Int32 × Int32)) (fun _ _ _ => none) (fun _ ih => lb_Mo_adler_8 N i2 m0 g_0 ih) n
noncomputable def f_Mo_adler (N : Nat) (n0 : Nat) (f0 : (Nat → Int32)) (p2 : Int32) : Option (Int32) :=
Bd (lp_Mo_adler_8 N p2 n0 f0 N 1 0 0) fun r11 =>
some ((r11.2 <<< ((16 : Int32) &&& 31)) ||| r11.1)
noncomputable def lb_Mo_press_58 (N : Nat) (i1 : Int32) (y0_3 : Int32) (m1 : Nat) (g_1 : (Nat → Int32)) (rec : Int32 → Int32 → Int32 → Option (Int32 × Int32)) (i2 : Int32) (i3 : Int32) (i4 : Int32) : Option (Int32 × Int32) :=
if (32768 : Int32) < i4 then (
some (i2, i3))
else (
if i1 < i4 then (
some (i2, i3))
else (
if (258 : Int32) ≤ i2 then (
some (i2, i3))
else (
if y0_3 ≤ (i1 + i2) then (
some (i2, i3))
else (
Jn (fun (t54 : Unit) =>
Bd (f_Mo_common N y0_3 m1 g_1 i1 i4) fun r55 =>
if i2 < r55 then (
Lt (i4 + 1) fun v57 =>
rec r55 i4 v57)
else (
Lt (i4 + 1) fun v58 =>
rec i2 i3 v58)) fun j54 =>
if i2 ≤ 0 then (
j54 ())
else (
Ix (i1 + i2) m1 <|
Ix ((i1 + i2) - i4) m1 <|
if (g_1 (i1 + i2).toNatClampNeg) = (g_1 ((i1 + i2) - i4).toNatClampNeg) then (
j54 ())
else (
Lt (i4 + 1) fun v63 =>
rec i2 i3 v63))))))
noncomputable def lp_Mo_press_58 (N : Nat) (i1 : Int32) (y0_3 : Int32) (m1 : Nat) (g_1 : (Nat → Int32)) (n : Nat) : Int32 → Int32 → Int32 → Option (Int32 × Int32) := Nat.rec (motive := fun _ => Int32 → Int32 → Int32 → Option (Int32 × Int32)) (fun _ _ _ => none) (fun _ ih => lb_Mo_press_58 N i1 y0_3 m1 g_1 ih) n
noncomputable def lb_Mo_press_43 (N : Nat) (y0_3 : Int32) (m1 : Nat) (g_1 : (Nat → Int32)) (m2 : Nat) (rec : Int32 → Int32 → Int32 → Int32 → (Nat → Int32) → Option (Int32 × Int32 × Int32 × (Nat → Int32))) (i1 : Int32) (y0_5 : Int32) (y0_6 : Int32) (y0_11 : Int32) (g_2 : (Nat → Int32)) : Option (Int32 × Int32 × Int32 × (Nat → Int32)) :=
if y0_3 ≤ i1 then (
some (y0_5, y0_6, y0_11, g_2))
else (
Bd (lp_Mo_press_58 N i1 y0_3 m1 g_1 N 0 0 1) fun r64 =>
if r64.1 < (3 : Int32) then (
Ix i1 m1 <|
Bd (f_Mo_putSign N y0_11 m2 g_2 ((g_1 (i1).toNatClampNeg) &&& 255)) fun r67 =>
Lt (y0_6 + 1) fun v68 =>
Lt (i1 + 1) fun v69 =>
rec v69 y0_5 v68 r67.1 r67.2)
else (
Bd (f_Mo_putPair N y0_11 m2 g_2 r64.1 r64.2) fun r70 =>
Lt (y0_5 + 1) fun v71 =>
Lt (i1 + r64.1) fun v72 =>
rec v72 v71 y0_6 r70.1 r70.2))
noncomputable def lp_Mo_press_43 (N : Nat) (y0_3 : Int32) (m1 : Nat) (g_1 : (Nat → Int32)) (m2 : Nat) (n : Nat) : Int32 → Int32 → Int32 → Int32 → (Nat → Int32) → Option (Int32 × Int32 × Int32 × (Nat → Int32)) := Nat.rec (motive := fun _ => Int32 → Int32 → Int32 → Int32 → (Nat → Int32) → Option (Int32 × Int32 × Int32 × (Nat → Int32))) (fun _ _ _ _ _ => none) (fun _ ih => lb_Mo_press_43 N y0_3 m1 g_1 m2 ih) n
noncomputable def lb_Mo_press_244 (N : Nat) (i2 : Int32) (m2 : Nat) (rec : Int32 → Int32 → (Nat → Int32) → Option (Int32 × (Nat → Int32))) (i3 : Int32) (y0_4 : Int32) (g_2 : (Nat → Int32)) : Option (Int32 × (Nat → Int32)) :=
if i3 < 0 then (
some (y0_4, g_2))
else (
Ix y0_4 m2 <|
Lt (upd g_2 (y0_4).toNatClampNeg (vp_nar .byte ((us i2 i3).toInt8.toInt32))) fun g84 =>
Lt (y0_4 + 1) fun v85 =>
Lt (i3 + (-8)) fun v86 =>
rec v86 v85 g84)
noncomputable def lp_Mo_press_244 (N : Nat) (i2 : Int32) (m2 : Nat) (n : Nat) : Int32 → Int32 → (Nat → Int32) → Option (Int32 × (Nat → Int32)) := Nat.rec (motive := fun _ => Int32 → Int32 → (Nat → Int32) → Option (Int32 × (Nat → Int32))) (fun _ _ _ => none) (fun _ ih => lb_Mo_press_244 N i2 m2 ih) n
noncomputable def f_Mo_press (N : Nat) (x0_3 : Int32) (n1 : Nat) (f1 : (Nat → Int32)) (n2 : Nat) (f2 : (Nat → Int32)) : Option (Int32 × Int32 × Int32 × Int32 × Int32 × (Nat → Int32)) :=
Ix 0 n1 <|
Lt (upd f1 (0 : Int32).toNatClampNeg (vp_nar .byte 120)) fun g2 =>
Ix 1 n1 <|
Lt (upd g2 (1 : Int32).toNatClampNeg (vp_nar .byte 1)) fun g4 =>
Bd (f_Mo_putNumber N 0 n1 g4 3 3) fun r5 =>
Bd (lp_Mo_press_43 N x0_3 n2 f2 n1 N 0 0 0 r5.1 r5.2) fun r73 =>
Bd (f_Mo_putSign N r73.2.2.1 n1 r73.2.2.2 256) fun r74 =>
Lt (2 + ((r74.1 + 7) / 8)) fun v75 =>
Bd (f_Mo_adler N n2 f2 x0_3) fun r76 =>
Bd (lp_Mo_press_244 N r76 n1 N 24 v75 r74.2) fun r87 =>
some (r87.1, r87.1, r73.1, r73.2.1, r74.1, r87.2)
noncomputable def f_Mo_bit (N : Nat) (x0_3 : Int32) (x0_12 : Int32) (x0_16 : Int32) (n1 : Nat) (f1 : (Nat → Int32)) : Option (Int32 × Int32 × Int32) :=
if x0_12 < (x0_3 * 8) then (
Lt (x0_12 + 1) fun v2 =>
Ix ((v2 - 1) / 8) n1 <|
some ((us (f1 ((v2 - 1) / 8).toNatClampNeg) (irm (v2 - 1) 8)) &&& 1, v2, x0_16))
else (
some (0, x0_12, 1))
noncomputable def lb_Mo_number_4 (N : Nat) (i1 : Int32) (y0_3 : Int32) (m1 : Nat) (g_1 : (Nat → Int32)) (rec : Int32 → Int32 → Int32 → Int32 → Option (Int32 × Int32 × Int32)) (i2 : Int32) (i3 : Int32) (y0_12 : Int32) (y0_16 : Int32) : Option (Int32 × Int32 × Int32) :=
if i1 ≤ i3 then (
some (i2, y0_12, y0_16))
else (
Bd (f_Mo_bit N y0_3 y0_12 y0_16 m1 g_1) fun r6 =>
Lt (i2 ||| (r6.1 <<< (i3 &&& 31))) fun v7 =>
Lt (i3 + 1) fun v8 =>
rec v7 v8 r6.2.1 r6.2.2)
noncomputable def lp_Mo_number_4 (N : Nat) (i1 : Int32) (y0_3 : Int32) (m1 : Nat) (g_1 : (Nat → Int32)) (n : Nat) : Int32 → Int32 → Int32 → Int32 → Option (Int32 × Int32 × Int32) := Nat.rec (motive := fun _ => Int32 → Int32 → Int32 → Int32 → Option (Int32 × Int32 × Int32)) (fun _ _ _ _ => none) (fun _ ih => lb_Mo_number_4 N i1 y0_3 m1 g_1 ih) n
noncomputable def f_Mo_number (N : Nat) (x0_3 : Int32) (x0_12 : Int32) (x0_16 : Int32) (n1 : Nat) (f1 : (Nat → Int32)) (p1 : Int32) : Option (Int32 × Int32 × Int32) :=
Bd (lp_Mo_number_4 N p1 x0_3 n1 f1 N 0 0 x0_12 x0_16) fun r9 =>
some (r9.1, r9.2.1, r9.2.2)
noncomputable def lb_Mo_assign_2 (N : Nat) (m3 : Nat) (rec : Int32 → (Nat → Int32) → Option ((Nat → Int32))) (i3 : Int32) (g_3 : (Nat → Int32)) : Option ((Nat → Int32)) :=
if (17 : Int32) ≤ i3 then (
some g_3)
else (
Ix i3 m3 <|
Lt (upd g_3 (i3).toNatClampNeg 0) fun g7 =>
Lt (i3 + 1) fun v8 =>
rec v8 g7)
noncomputable def lp_Mo_assign_2 (N : Nat) (m3 : Nat) (n : Nat) : Int32 → (Nat → Int32) → Option ((Nat → Int32)) := Nat.rec (motive := fun _ => Int32 → (Nat → Int32) → Option ((Nat → Int32))) (fun _ _ => none) (fun _ ih => lb_Mo_assign_2 N m3 ih) n
noncomputable def lb_Mo_assign_23 (N : Nat) (i1 : Int32) (i2 : Int32) (m1 : Nat) (g_1 : (Nat → Int32)) (m3 : Nat) (rec : Int32 → (Nat → Int32) → Option ((Nat → Int32))) (i3 : Int32) (g_3 : (Nat → Int32)) : Option ((Nat → Int32)) :=
if i2 ≤ i3 then (
some g_3)
else (
Ix (i1 + i3) m1 <|
if (g_1 (i1 + i3).toNatClampNeg) ≤ 0 then (
Lt (i3 + 1) fun v22 =>
rec v22 g_3)
else (
Ix (i1 + i3) m1 <|
Ix (g_1 (i1 + i3).toNatClampNeg) m3 <|
Ix (g_1 (i1 + i3).toNatClampNeg) m3 <|
Lt (upd g_3 (g_1 (i1 + i3).toNatClampNeg).toNatClampNeg ((g_3 (g_1 (i1 + i3).toNatClampNeg).toNatClampNeg) + 1)) fun g26 =>
Lt (i3 + 1) fun v27 =>
rec v27 g26))
noncomputable def lp_Mo_assign_23 (N : Nat) (i1 : Int32) (i2 : Int32) (m1 : Nat) (g_1 : (Nat → Int32)) (m3 : Nat) (n : Nat) : Int32 → (Nat → Int32) → Option ((Nat → Int32)) := Nat.rec (motive := fun _ => Int32 → (Nat → Int32) → Option ((Nat → Int32))) (fun _ _ => none) (fun _ ih => lb_Mo_assign_23 N i1 i2 m1 g_1 m3 ih) n
noncomputable def lb_Mo_assign_67 (N : Nat) (m3 : Nat) (g_3 : (Nat → Int32)) (m4 : Nat) (rec : Int32 → Int32 → (Nat → Int32) → Option ((Nat → Int32))) (i3 : Int32) (i4 : Int32) (g_4 : (Nat → Int32)) : Option ((Nat → Int32)) :=
if (17 : Int32) ≤ i4 then (
some g_4)
else (
Ix (i4 - 1) m3 <|
Lt ((i3 + (g_3 (i4 - 1).toNatClampNeg)) <<< ((1 : Int32) &&& 31)) fun v37 =>
Ix i4 m4 <|
Lt (upd g_4 (i4).toNatClampNeg v37) fun g39 =>
Lt (i4 + 1) fun v40 =>
rec v37 v40 g39)
noncomputable def lp_Mo_assign_67 (N : Nat) (m3 : Nat) (g_3 : (Nat → Int32)) (m4 : Nat) (n : Nat) : Int32 → Int32 → (Nat → Int32) → Option ((Nat → Int32)) := Nat.rec (motive := fun _ => Int32 → Int32 → (Nat → Int32) → Option ((Nat → Int32))) (fun _ _ _ => none) (fun _ ih => lb_Mo_assign_67 N m3 g_3 m4 ih) n
noncomputable def lb_Mo_assign_105 (N : Nat) (i1 : Int32) (i2 : Int32) (m1 : Nat) (g_1 : (Nat → Int32)) (m2 : Nat) (m4 : Nat) (rec : Int32 → (Nat → Int32) → (Nat → Int32) → Option ((Nat → Int32) × (Nat → Int32))) (i4 : Int32) (g_2 : (Nat → Int32)) (g_4 : (Nat → Int32)) : Option ((Nat → Int32) × (Nat → Int32)) :=
if i2 ≤ i4 then (
some (g_2, g_4))
else (
Ix (i1 + i4) m1 <|
Lt (g_1 (i1 + i4).toNatClampNeg) fun v56 =>
Ix v56 m4 <|
Ix (i1 + i4) m2 <|
Lt (upd g_2 (i1 + i4).toNatClampNeg (g_4 (v56).toNatClampNeg)) fun g59 =>
if v56 ≤ 0 then (
Lt (i4 + 1) fun v61 =>
rec v61 g59 g_4)
else (
Ix v56 m4 <|
Ix v56 m4 <|
Lt (upd g_4 (v56).toNatClampNeg ((g_4 (v56).toNatClampNeg) + 1)) fun g64 =>
Lt (i4 + 1) fun v65 =>
rec v65 g59 g64))
noncomputable def lp_Mo_assign_105 (N : Nat) (i1 : Int32) (i2 : Int32) (m1 : Nat) (g_1 : (Nat → Int32)) (m2 : Nat) (m4 : Nat) (n : Nat) : Int32 → (Nat → Int32) → (Nat → Int32) → Option ((Nat → Int32) × (Nat → Int32)) := Nat.rec (motive := fun _ => Int32 → (Nat → Int32) → (Nat → Int32) → Option ((Nat → Int32) × (Nat → Int32))) (fun _ _ _ => none) (fun _ ih => lb_Mo_assign_105 N i1 i2 m1 g_1 m2 m4 ih) n
noncomputable def f_Mo_assign (N : Nat) (n1 : Nat) (f1 : (Nat → Int32)) (n2 : Nat) (f2 : (Nat → Int32)) (n3 : Nat) (f3 : (Nat → Int32)) (n4 : Nat) (f4 : (Nat → Int32)) (p1 : Int32) (p2 : Int32) : Option ((Nat → Int32) × (Nat → Int32) × (Nat → Int32)) :=
Bd (lp_Mo_assign_2 N n1 N 0 f1) fun r9 =>
Bd (lp_Mo_assign_23 N p1 p2 n2 f2 n1 N 0 r9) fun r28 =>
Bd (lp_Mo_assign_67 N n1 r28 n3 N 0 1 f3) fun r41 =>
Bd (lp_Mo_assign_105 N p1 p2 n2 f2 n4 n3 N 0 f4 r41) fun r66 =>
some (r28, r66.2, r66.1)
noncomputable def lb_Mo_fill_5 (N : Nat) (i1 : Int32) (i2 : Int32) (m1 : Nat) (g_1 : (Nat → Int32)) (rec : Int32 → Int32 → Option (Int32)) (i3 : Int32) (i4 : Int32) : Option (Int32) :=
if i2 ≤ i4 then (
some i3)
else (
Ix (i1 + i4) m1 <|
if (g_1 (i1 + i4).toNatClampNeg) ≤ 0 then (
Lt (i4 + 1) fun v11 =>
rec i3 v11)
else (
Ix (i1 + i4) m1 <|
Lt (i3 + ((32768 : Int32) >>> ((g_1 (i1 + i4).toNatClampNeg) &&& 31))) fun v13 =>
Lt (i4 + 1) fun v14 =>
rec v13 v14))
noncomputable def lp_Mo_fill_5 (N : Nat) (i1 : Int32) (i2 : Int32) (m1 : Nat) (g_1 : (Nat → Int32)) (n : Nat) : Int32 → Int32 → Option (Int32) := Nat.rec (motive := fun _ => Int32 → Int32 → Option (Int32)) (fun _ _ => none) (fun _ ih => lb_Mo_fill_5 N i1 i2 m1 g_1 ih) n
noncomputable def f_Mo_fill (N : Nat) (n1 : Nat) (f1 : (Nat → Int32)) (p1 : Int32) (p2 : Int32) : Option (Int32) :=
Bd (lp_Mo_fill_5 N p1 p2 n1 f1 N 0 0) fun r15 =>
some r15
noncomputable def lb_Mo_sign_31 (N : Nat) (i1 : Int32) (i2 : Int32) (i3 : Int32) (i4 : Int32) (y0_16 : Int32) (m2 : Nat) (g_2 : (Nat → Int32)) (m3 : Nat) (g_3 : (Nat → Int32)) (rec : Int32 → Option (Nat × Int32)) (i5 : Int32) : Option (Nat × Int32) :=
if i2 ≤ i5 then (
some (1, i5))
else (
if y0_16 = 0 then (
Ix (i1 + i5) m2 <|
if (g_2 (i1 + i5).toNatClampNeg) = i4 then (
Ix (i1 + i5) m3 <|
if (g_3 (i1 + i5).toNatClampNeg) = i3 then (
some (0, i5))
else (
Lt (i5 + 1) fun v34 =>
rec v34))
else (
Lt (i5 + 1) fun v31 =>
rec v31))
else (
some (1, i5)))
noncomputable def lp_Mo_sign_31 (N : Nat) (i1 : Int32) (i2 : Int32) (i3 : Int32) (i4 : Int32) (y0_16 : Int32) (m2 : Nat) (g_2 : (Nat → Int32)) (m3 : Nat) (g_3 : (Nat → Int32)) (n : Nat) : Int32 → Option (Nat × Int32) := Nat.rec (motive := fun _ => Int32 → Option (Nat × Int32)) (fun _ => none) (fun _ ih => lb_Mo_sign_31 N i1 i2 i3 i4 y0_16 m2 g_2 m3 g_3 ih) n
noncomputable def lb_Mo_sign_5 (N : Nat) (i1 : Int32) (i2 : Int32) (y0_3 : Int32) (m1 : Nat) (g_1 : (Nat → Int32)) (m2 : Nat) (g_2 : (Nat → Int32)) (m3 : Nat) (g_3 : (Nat → Int32)) (rec : Int32 → Int32 → Int32 → Int32 → Option (Nat × Int32 × Int32 × Int32)) (i3 : Int32) (i4 : Int32) (y0_12 : Int32) (y0_16 : Int32) : Option (Nat × Int32 × Int32 × Int32) :=
if (16 : Int32) ≤ i4 then (
some (1, 0, y0_12, y0_16))
else (
if y0_16 = 0 then (
Bd (f_Mo_bit N y0_3 y0_12 y0_16 m1 g_1) fun r17 =>
Lt ((i3 <<< ((1 : Int32) &&& 31)) ||| r17.1) fun v18 =>
Bd (lp_Mo_sign_31 N i1 i2 v18 i4 r17.2.2 m2 g_2 m3 g_3 N 0) fun r35 =>
if r35.1 = 0 then (
some (0, r35.2, r17.2.1, r17.2.2))
else (
Lt (i4 + 1) fun v36 =>
rec v18 v36 r17.2.1 r17.2.2))
else (
some (1, 0, y0_12, y0_16)))
noncomputable def lp_Mo_sign_5 (N : Nat) (i1 : Int32) (i2 : Int32) (y0_3 : Int32) (m1 : Nat) (g_1 : (Nat → Int32)) (m2 : Nat) (g_2 : (Nat → Int32)) (m3 : Nat) (g_3 : (Nat → Int32)) (n : Nat) : Int32 → Int32 → Int32 → Int32 → Option (Nat × Int32 × Int32 × Int32) := Nat.rec (motive := fun _ => Int32 → Int32 → Int32 → Int32 → Option (Nat × Int32 × Int32 × Int32)) (fun _ _ _ _ => none) (fun _ ih => lb_Mo_sign_5 N i1 i2 y0_3 m1 g_1 m2 g_2 m3 g_3 ih) n
noncomputable def f_Mo_sign (N : Nat) (x0_3 : Int32) (x0_12 : Int32) (x0_16 : Int32) (n1 : Nat) (f1 : (Nat → Int32)) (n2 : Nat) (f2 : (Nat → Int32)) (n3 : Nat) (f3 : (Nat → Int32)) (p1 : Int32) (p2 : Int32) : Option (Int32 × Int32 × Int32) :=
Bd (lp_Mo_sign_5 N p1 p2 x0_3 n1 f1 n2 f2 n3 f3 N 0 1 x0_12 x0_16) fun r37 =>
if r37.1 = 0 then (
some (r37.2.1, r37.2.2.1, r37.2.2.2))
else (
some ((-1), r37.2.2.1, 1))
noncomputable def f_Mo_give (N : Nat) (x0_13 : Int32) (x0_16 : Int32) (n1 : Nat) (f1 : (Nat → Int32)) (p1 : Int32) : Option (Int32 × Int32 × (Nat → Int32)) :=
Jn (fun (t2 : Int32) =>
if t2 = 0 then (
Ix x0_13 n1 <|
Lt (upd f1 (x0_13).toNatClampNeg (vp_nar .byte p1.toInt8.toInt32)) fun g5 =>
Lt (x0_13 + 1) fun v6 =>
some (v6, t2, g5))
else (
some (x0_13, t2, f1))) fun j2 =>
if x0_13 = (65536 : Int32) then (
j2 1)
else (
j2 x0_16)
noncomputable def lb_Mo_pair_95 (N : Nat) (i2 : Int32) (i4 : Int32) (m2 : Nat) (rec : Int32 → Int32 → Int32 → (Nat → Int32) → Option (Int32 × Int32 × (Nat → Int32))) (i5 : Int32) (y0_13 : Int32) (y0_16 : Int32) (g_2 : (Nat → Int32)) : Option (Int32 × Int32 × (Nat → Int32)) :=
if i2 ≤ i5 then (
some (y0_13, y0_16, g_2))
else (
if y0_16 = 0 then (
Ix (y0_13 - i4) m2 <|
Bd (f_Mo_give N y0_13 y0_16 m2 g_2 (g_2 (y0_13 - i4).toNatClampNeg)) fun r26 =>
Lt (i5 + 1) fun v27 =>
rec v27 r26.1 r26.2.1 r26.2.2)
else (
some (y0_13, y0_16, g_2)))
noncomputable def lp_Mo_pair_95 (N : Nat) (i2 : Int32) (i4 : Int32) (m2 : Nat) (n : Nat) : Int32 → Int32 → Int32 → (Nat → Int32) → Option (Int32 × Int32 × (Nat → Int32)) := Nat.rec (motive := fun _ => Int32 → Int32 → Int32 → (Nat → Int32) → Option (Int32 × Int32 × (Nat → Int32))) (fun _ _ _ _ => none) (fun _ ih => lb_Mo_pair_95 N i2 i4 m2 ih) n
noncomputable def f_Mo_pair (N : Nat) (x0_3 : Int32) (x0_12 : Int32) (x0_13 : Int32) (x0_16 : Int32) (n1 : Nat) (f1 : (Nat → Int32)) (n2 : Nat) (f2 : (Nat → Int32)) (n3 : Nat) (f3 : (Nat → Int32)) (n4 : Nat) (f4 : (Nat → Int32)) (p1 : Int32) : Option (Int32 × Int32 × Int32 × (Nat → Int32)) :=
Jn (fun (t2 : Int32) =>
if t2 = 0 then (
Bd (f_Mo_lengthBase N p1) fun r4 =>
Bd (f_Mo_lengthBits N p1) fun r5 =>
Bd (f_Mo_number N x0_3 x0_12 t2 n1 f1 r5) fun r6 =>
Lt (r4 + r6.1) fun v7 =>
Bd (f_Mo_sign N x0_3 r6.2.1 r6.2.2 n1 f1 n2 f2 n3 f3 288 32) fun r8 =>
Jn (fun (t10 : Int32) =>
if t10 = 0 then (
Bd (f_Mo_distanceBase N r8.1) fun r12 =>
Bd (f_Mo_distanceBits N r8.1) fun r13 =>
Bd (f_Mo_number N x0_3 r8.2.1 t10 n1 f1 r13) fun r14 =>
Lt (r12 + r14.1) fun v15 =>
Jn (fun (t17 : Int32) =>
Bd (lp_Mo_pair_95 N v7 v15 n4 N 0 x0_13 t17 f4) fun r28 =>
some (r14.2.1, r28.1, r28.2.1, r28.2.2)) fun j17 =>
if v15 ≤ x0_13 then (
j17 r14.2.2)
else (
j17 1))
else (
some (r8.2.1, x0_13, t10, f4))) fun j10 =>
if r8.1 ≤ (29 : Int32) then (
j10 r8.2.2)
else (
j10 1))
else (
some (x0_12, x0_13, t2, f4))) fun j2 =>
if p1 ≤ (285 : Int32) then (
j2 x0_16)
else (
j2 1)
noncomputable def lb_Mo_signs_2 (N : Nat) (y0_3 : Int32) (m1 : Nat) (g_1 : (Nat → Int32)) (m2 : Nat) (m3 : Nat) (g_3 : (Nat → Int32)) (m4 : Nat) (g_4 : (Nat → Int32)) (rec : Int32 → Int32 → Int32 → Int32 → (Nat → Int32) → Option (Int32 × Int32 × Int32 × (Nat → Int32))) (i1 : Int32) (y0_12 : Int32) (y0_13 : Int32) (y0_16 : Int32) (g_2 : (Nat → Int32)) : Option (Int32 × Int32 × Int32 × (Nat → Int32)) :=
if y0_16 = 0 then (
if i1 = (256 : Int32) then (
some (y0_12, y0_13, y0_16, g_2))
else (
Bd (f_Mo_sign N y0_3 y0_12 y0_16 m1 g_1 m3 g_3 m4 g_4 0 288) fun r11 =>
if r11.2.2 = 0 then (
if r11.1 = (256 : Int32) then (
some (r11.2.1, y0_13, r11.2.2, g_2))
else (
if (256 : Int32) ≤ r11.1 then (
Bd (f_Mo_pair N y0_3 r11.2.1 y0_13 r11.2.2 m1 g_1 m3 g_3 m4 g_4 m2 g_2 r11.1) fun r15 =>
rec r11.1 r15.1 r15.2.1 r15.2.2.1 r15.2.2.2)
else (
Bd (f_Mo_give N y0_13 r11.2.2 m2 g_2 r11.1) fun r16 =>
rec r11.1 r11.2.1 r16.1 r16.2.1 r16.2.2)))
else (
some (r11.2.1, y0_13, r11.2.2, g_2))))
else (
some (y0_12, y0_13, y0_16, g_2))
noncomputable def lp_Mo_signs_2 (N : Nat) (y0_3 : Int32) (m1 : Nat) (g_1 : (Nat → Int32)) (m2 : Nat) (m3 : Nat) (g_3 : (Nat → Int32)) (m4 : Nat) (g_4 : (Nat → Int32)) (n : Nat) : Int32 → Int32 → Int32 → Int32 → (Nat → Int32) → Option (Int32 × Int32 × Int32 × (Nat → Int32)) := Nat.rec (motive := fun _ => Int32 → Int32 → Int32 → Int32 → (Nat → Int32) → Option (Int32 × Int32 × Int32 × (Nat → Int32))) (fun _ _ _ _ _ => none) (fun _ ih => lb_Mo_signs_2 N y0_3 m1 g_1 m2 m3 g_3 m4 g_4 ih) n
noncomputable def f_Mo_signs (N : Nat) (x0_3 : Int32) (x0_12 : Int32) (x0_13 : Int32) (x0_16 : Int32) (n1 : Nat) (f1 : (Nat → Int32)) (n2 : Nat) (f2 : (Nat → Int32)) (n3 : Nat) (f3 : (Nat → Int32)) (n4 : Nat) (f4 : (Nat → Int32)) : Option (Int32 × Int32 × Int32 × (Nat → Int32)) :=
Bd (lp_Mo_signs_2 N x0_3 n1 f1 n4 n2 f2 n3 f3 N 0 x0_12 x0_13 x0_16 f4) fun r17 =>
some (r17.1, r17.2.1, r17.2.2.1, r17.2.2.2)
noncomputable def lb_Mo_fixed_2 (N : Nat) (m1 : Nat) (rec : Int32 → (Nat → Int32) → Option ((Nat → Int32))) (i1 : Int32) (g_1 : (Nat → Int32)) : Option ((Nat → Int32)) :=
if (288 : Int32) ≤ i1 then (
some g_1)
else (
Jn (fun (t13 : Int32) =>
Ix i1 m1 <|
Lt (upd g_1 (i1).toNatClampNeg t13) fun g15 =>
Lt (i1 + 1) fun v16 =>
rec v16 g15) fun j13 =>
if (144 : Int32) ≤ i1 then (
if (256 : Int32) ≤ i1 then (
if (280 : Int32) ≤ i1 then (
j13 8)
else (
j13 7))
else (
j13 9))
else (
j13 8))
noncomputable def lp_Mo_fixed_2 (N : Nat) (m1 : Nat) (n : Nat) : Int32 → (Nat → Int32) → Option ((Nat → Int32)) := Nat.rec (motive := fun _ => Int32 → (Nat → Int32) → Option ((Nat → Int32))) (fun _ _ => none) (fun _ ih => lb_Mo_fixed_2 N m1 ih) n
noncomputable def lb_Mo_fixed_61 (N : Nat) (m1 : Nat) (rec : Int32 → (Nat → Int32) → Option ((Nat → Int32))) (i1 : Int32) (g_1 : (Nat → Int32)) : Option ((Nat → Int32)) :=
if (32 : Int32) ≤ i1 then (
some g_1)
else (
Ix (288 + i1) m1 <|
Lt (upd g_1 (288 + i1).toNatClampNeg 5) fun g27 =>
Lt (i1 + 1) fun v28 =>
rec v28 g27)
noncomputable def lp_Mo_fixed_61 (N : Nat) (m1 : Nat) (n : Nat) : Int32 → (Nat → Int32) → Option ((Nat → Int32)) := Nat.rec (motive := fun _ => Int32 → (Nat → Int32) → Option ((Nat → Int32))) (fun _ _ => none) (fun _ ih => lb_Mo_fixed_61 N m1 ih) n
noncomputable def f_Mo_fixed (N : Nat) (n1 : Nat) (f1 : (Nat → Int32)) : Option ((Nat → Int32)) :=
Bd (lp_Mo_fixed_2 N n1 N 0 f1) fun r20 =>
Bd (lp_Mo_fixed_61 N n1 N 0 r20) fun r29 =>
some r29
noncomputable def lb_Mo_stored_46 (N : Nat) (i1 : Int32) (y0_3 : Int32) (m1 : Nat) (g_1 : (Nat → Int32)) (m2 : Nat) (rec : Int32 → Int32 → Int32 → Int32 → (Nat → Int32) → Option (Int32 × Int32 × Int32 × (Nat → Int32))) (i3 : Int32) (y0_12 : Int32) (y0_13 : Int32) (y0_16 : Int32) (g_2 : (Nat → Int32)) : Option (Int32 × Int32 × Int32 × (Nat → Int32)) :=
if i1 ≤ i3 then (
some (y0_12, y0_13, y0_16, g_2))
else (
if y0_16 = 0 then (
Bd (f_Mo_number N y0_3 y0_12 y0_16 m1 g_1 8) fun r15 =>
if r15.2.2 = 0 then (
Bd (f_Mo_give N y0_13 r15.2.2 m2 g_2 r15.1) fun r18 =>
Lt (i3 + 1) fun v19 =>
rec v19 r15.2.1 r18.1 r18.2.1 r18.2.2)
else (
Lt (i3 + 1) fun v17 =>
rec v17 r15.2.1 y0_13 r15.2.2 g_2))
else (
some (y0_12, y0_13, y0_16, g_2)))
noncomputable def lp_Mo_stored_46 (N : Nat) (i1 : Int32) (y0_3 : Int32) (m1 : Nat) (g_1 : (Nat → Int32)) (m2 : Nat) (n : Nat) : Int32 → Int32 → Int32 → Int32 → (Nat → Int32) → Option (Int32 × Int32 × Int32 × (Nat → Int32)) := Nat.rec (motive := fun _ => Int32 → Int32 → Int32 → Int32 → (Nat → Int32) → Option (Int32 × Int32 × Int32 × (Nat → Int32))) (fun _ _ _ _ _ => none) (fun _ ih => lb_Mo_stored_46 N i1 y0_3 m1 g_1 m2 ih) n
noncomputable def f_Mo_stored (N : Nat) (x0_3 : Int32) (x0_12 : Int32) (x0_13 : Int32) (x0_16 : Int32) (n1 : Nat) (f1 : (Nat → Int32)) (n2 : Nat) (f2 : (Nat → Int32)) : Option (Int32 × Int32 × Int32 × (Nat → Int32)) :=
Lt (((x0_12 + 7) / 8) * 8) fun v1 =>
Bd (f_Mo_number N x0_3 v1 x0_16 n1 f1 16) fun r2 =>
Bd (f_Mo_number N x0_3 r2.2.1 r2.2.2 n1 f1 16) fun r3 =>
Jn (fun (t5 : Int32) =>
Bd (lp_Mo_stored_46 N r2.1 x0_3 n1 f1 n2 N 0 r3.2.1 x0_13 t5 f2) fun r20 =>
some (r20.1, r20.2.1, r20.2.2.1, r20.2.2.2)) fun j5 =>
if (r2.1 + r3.1) = (65535 : Int32) then (
j5 r3.2.2)
else (
j5 1)
noncomputable def f_Mo_placeOf (N : Nat) (p0 : Int32) : Option (Int32) :=
if (3 : Int32) ≤ p0 then (
if p0 = (3 : Int32) then (
some 0)
else (
if (irm p0 2) = 0 then (
some (8 + ((p0 - 4) / 2)))
else (
some (7 - ((p0 - 5) / 2)))))
else (
some (16 + p0))
noncomputable def lb_Mo_table_47 (N : Nat) (i3 : Int32) (y0_3 : Int32) (m1 : Nat) (g_1 : (Nat → Int32)) (m2 : Nat) (rec : Int32 → Int32 → Int32 → (Nat → Int32) → Option (Int32 × Int32 × (Nat → Int32))) (i4 : Int32) (y0_12 : Int32) (y0_16 : Int32) (g_2 : (Nat → Int32)) : Option (Int32 × Int32 × (Nat → Int32)) :=
if (19 : Int32) ≤ i4 then (
some (y0_12, y0_16, g_2))
else (
Bd (f_Mo_placeOf N i4) fun r20 =>
Jn (fun (t23 : Int32 × Int32 × Int32) =>
Ix (320 + r20) m2 <|
Lt (upd g_2 (320 + r20).toNatClampNeg t23.1) fun g25 =>
Lt (i4 + 1) fun v26 =>
rec v26 t23.2.1 t23.2.2 g25) fun j23 =>
if i3 ≤ i4 then (
j23 (0, y0_12, y0_16))
else (
Bd (f_Mo_number N y0_3 y0_12 y0_16 m1 g_1 3) fun r28 =>
j23 (r28.1, r28.2.1, r28.2.2)))
noncomputable def lp_Mo_table_47 (N : Nat) (i3 : Int32) (y0_3 : Int32) (m1 : Nat) (g_1 : (Nat → Int32)) (m2 : Nat) (n : Nat) : Int32 → Int32 → Int32 → (Nat → Int32) → Option (Int32 × Int32 × (Nat → Int32)) := Nat.rec (motive := fun _ => Int32 → Int32 → Int32 → (Nat → Int32) → Option (Int32 × Int32 × (Nat → Int32))) (fun _ _ _ _ => none) (fun _ ih => lb_Mo_table_47 N i3 y0_3 m1 g_1 m2 ih) n
noncomputable def lb_Mo_table_252 (N : Nat) (i5 : Int32) (i6 : Int32) (y0_16 : Int32) (m4 : Nat) (rec : Int32 → Int32 → (Nat → Int32) → Option (Int32 × (Nat → Int32))) (i4 : Int32) (i7 : Int32) (g_4 : (Nat → Int32)) : Option (Int32 × (Nat → Int32)) :=
if i6 ≤ i7 then (
some (i4, g_4))
else (
if y0_16 = 0 then (
Jn (fun (t94 : Int32) =>
Ix i4 m4 <|
Lt (upd g_4 (i4).toNatClampNeg t94) fun g96 =>
Lt (i4 + 1) fun v97 =>
Lt (i7 + 1) fun v98 =>
rec v97 v98 g96) fun j94 =>
if i5 = (16 : Int32) then (
Ix (i4 - 1) m4 <|
j94 (g_4 (i4 - 1).toNatClampNeg))
else (
j94 0))
else (
some (i4, g_4)))
noncomputable def lp_Mo_table_252 (N : Nat) (i5 : Int32) (i6 : Int32) (y0_16 : Int32) (m4 : Nat) (n : Nat) : Int32 → Int32 → (Nat → Int32) → Option (Int32 × (Nat → Int32)) := Nat.rec (motive := fun _ => Int32 → Int32 → (Nat → Int32) → Option (Int32 × (Nat → Int32))) (fun _ _ _ => none) (fun _ ih => lb_Mo_table_252 N i5 i6 y0_16 m4 ih) n
noncomputable def lb_Mo_table_120 (N : Nat) (i1 : Int32) (i2 : Int32) (y0_3 : Int32) (m1 : Nat) (g_1 : (Nat → Int32)) (m2 : Nat) (g_2 : (Nat → Int32)) (m3 : Nat) (g_3 : (Nat → Int32)) (m4 : Nat) (rec : Int32 → Int32 → Int32 → (Nat → Int32) → Option (Nat × Int32 × Int32 × (Nat → Int32))) (i4 : Int32) (y0_12 : Int32) (y0_16 : Int32) (g_4 : (Nat → Int32)) : Option (Nat × Int32 × Int32 × (Nat → Int32)) :=
if (i1 + i2) ≤ i4 then (
some (1, y0_12, y0_16, g_4))
else (
if y0_16 = 0 then (
Bd (f_Mo_sign N y0_3 y0_12 y0_16 m1 g_1 m2 g_2 m3 g_3 320 19) fun r66 =>
if r66.2.2 = 0 then (
if (16 : Int32) ≤ r66.1 then (
Jn (fun (t74 : Int32 × Int32 × Int32) =>
Jn (fun (t80 : Int32) =>
Bd (lp_Mo_table_252 N r66.1 t74.1 t80 m4 N i4 0 g_4) fun r101 =>
rec r101.1 t74.2.1 t80 r101.2) fun j80 =>
Jn (fun (t106 : Unit) =>
j80 1) fun j106 =>
Jn (fun (t109 : Unit) =>
if (i4 + t74.1) ≤ (i1 + i2) then (
j80 t74.2.2)
else (
j106 ())) fun j109 =>
if r66.1 = (16 : Int32) then (
if i4 = 0 then (
j106 ())
else (
j109 ()))
else (
j109 ())) fun j74 =>
if r66.1 = (16 : Int32) then (
Bd (f_Mo_number N y0_3 r66.2.1 r66.2.2 m1 g_1 2) fun r117 =>
j74 (3 + r117.1, r117.2.1, r117.2.2))
else (
if r66.1 = (17 : Int32) then (
Bd (f_Mo_number N y0_3 r66.2.1 r66.2.2 m1 g_1 3) fun r116 =>
j74 (3 + r116.1, r116.2.1, r116.2.2))
else (
Bd (f_Mo_number N y0_3 r66.2.1 r66.2.2 m1 g_1 7) fun r115 =>
j74 (11 + r115.1, r115.2.1, r115.2.2))))
else (
Ix i4 m4 <|
Lt (upd g_4 (i4).toNatClampNeg r66.1) fun g119 =>
Lt (i4 + 1) fun v120 =>
rec v120 r66.2.1 r66.2.2 g119))
else (
some (0, r66.2.1, r66.2.2, g_4)))
else (
some (1, y0_12, y0_16, g_4)))
noncomputable def lp_Mo_table_120 (N : Nat) (i1 : Int32) (i2 : Int32) (y0_3 : Int32) (m1 : Nat) (g_1 : (Nat → Int32)) (m2 : Nat) (g_2 : (Nat → Int32)) (m3 : Nat) (g_3 : (Nat → Int32)) (m4 : Nat) (n : Nat) : Int32 → Int32 → Int32 → (Nat → Int32) → Option (Nat × Int32 × Int32 × (Nat → Int32)) := Nat.rec (motive := fun _ => Int32 → Int32 → Int32 → (Nat → Int32) → Option (Nat × Int32 × Int32 × (Nat → Int32))) (fun _ _ _ _ => none) (fun _ ih => lb_Mo_table_120 N i1 i2 y0_3 m1 g_1 m2 g_2 m3 g_3 m4 ih) n
noncomputable def lb_Mo_table_308 (N : Nat) (i1 : Int32) (m2 : Nat) (m4 : Nat) (g_4 : (Nat → Int32)) (rec : Int32 → (Nat → Int32) → Option ((Nat → Int32))) (i5 : Int32) (g_2 : (Nat → Int32)) : Option ((Nat → Int32)) :=
if (288 : Int32) ≤ i5 then (
some g_2)
else (
Jn (fun (t132 : Int32) =>
Ix i5 m2 <|
Lt (upd g_2 (i5).toNatClampNeg t132) fun g134 =>
Lt (i5 + 1) fun v135 =>
rec v135 g134) fun j132 =>
if i1 ≤ i5 then (
j132 0)
else (
Ix i5 m4 <|
j132 (g_4 (i5).toNatClampNeg)))
noncomputable def lp_Mo_table_308 (N : Nat) (i1 : Int32) (m2 : Nat) (m4 : Nat) (g_4 : (Nat → Int32)) (n : Nat) : Int32 → (Nat → Int32) → Option ((Nat → Int32)) := Nat.rec (motive := fun _ => Int32 → (Nat → Int32) → Option ((Nat → Int32))) (fun _ _ => none) (fun _ ih => lb_Mo_table_308 N i1 m2 m4 g_4 ih) n
noncomputable def lb_Mo_table_349 (N : Nat) (i1 : Int32) (i2 : Int32) (m2 : Nat) (m4 : Nat) (g_4 : (Nat → Int32)) (rec : Int32 → (Nat → Int32) → Option ((Nat → Int32))) (i5 : Int32) (g_2 : (Nat → Int32)) : Option ((Nat → Int32)) :=
if (32 : Int32) ≤ i5 then (
some g_2)
else (
Jn (fun (t149 : Int32) =>
Ix (288 + i5) m2 <|
Lt (upd g_2 (288 + i5).toNatClampNeg t149) fun g151 =>
Lt (i5 + 1) fun v152 =>
rec v152 g151) fun j149 =>
if i2 ≤ i5 then (
j149 0)
else (
Ix (i1 + i5) m4 <|
j149 (g_4 (i1 + i5).toNatClampNeg)))
noncomputable def lp_Mo_table_349 (N : Nat) (i1 : Int32) (i2 : Int32) (m2 : Nat) (m4 : Nat) (g_4 : (Nat → Int32)) (n : Nat) : Int32 → (Nat → Int32) → Option ((Nat → Int32)) := Nat.rec (motive := fun _ => Int32 → (Nat → Int32) → Option ((Nat → Int32))) (fun _ _ => none) (fun _ ih => lb_Mo_table_349 N i1 i2 m2 m4 g_4 ih) n
noncomputable def lb_Mo_table_438 (N : Nat) (m2 : Nat) (g_2 : (Nat → Int32)) (rec : Int32 → Int32 → Option (Int32)) (i6 : Int32) (i7 : Int32) : Option (Int32) :=
if (32 : Int32) ≤ i7 then (
some i6)
else (
Ix (288 + i7) m2 <|
if (g_2 (288 + i7).toNatClampNeg) ≤ 0 then (
Lt (i7 + 1) fun v172 =>
rec i6 v172)
else (
Lt (i6 + 1) fun v173 =>
Lt (i7 + 1) fun v174 =>
rec v173 v174))
noncomputable def lp_Mo_table_438 (N : Nat) (m2 : Nat) (g_2 : (Nat → Int32)) (n : Nat) : Int32 → Int32 → Option (Int32) := Nat.rec (motive := fun _ => Int32 → Int32 → Option (Int32)) (fun _ _ => none) (fun _ ih => lb_Mo_table_438 N m2 g_2 ih) n
noncomputable def f_Mo_table (N : Nat) (x0_3 : Int32) (x0_12 : Int32) (x0_16 : Int32) (n1 : Nat) (f1 : (Nat → Int32)) (n2 : Nat) (f2 : (Nat → Int32)) (n3 : Nat) (f3 : (Nat → Int32)) (n4 : Nat) (f4 : (Nat → Int32)) (n5 : Nat) (f5 : (Nat → Int32)) (n6 : Nat) (f6 : (Nat → Int32)) : Option (Int32 × Int32 × (Nat → Int32) × (Nat → Int32) × (Nat → Int32) × (Nat → Int32) × (Nat → Int32)) :=
Bd (f_Mo_number N x0_3 x0_12 x0_16 n1 f1 5) fun r1 =>
Lt (257 + r1.1) fun v2 =>
Bd (f_Mo_number N x0_3 r1.2.1 r1.2.2 n1 f1 5) fun r3 =>
Lt (1 + r3.1) fun v4 =>
Bd (f_Mo_number N x0_3 r3.2.1 r3.2.2 n1 f1 4) fun r5 =>
Lt (4 + r5.1) fun v6 =>
Jn (fun (t10 : Int32) =>
Bd (lp_Mo_table_47 N v6 x0_3 n1 f1 n2 N 0 r5.2.1 t10 f2) fun r29 =>
Bd (f_Mo_fill N n2 r29.2.2 320 19) fun r30 =>
Jn (fun (t32 : Int32) =>
Bd (f_Mo_assign N n3 f3 n2 r29.2.2 n4 f4 n5 f5 320 19) fun r33 =>
Bd (lp_Mo_table_120 N v2 v4 x0_3 n1 f1 n2 r29.2.2 n5 r33.2.2 n6 N 0 r29.1 t32 f6) fun r121 =>
if r121.1 = 0 then (
some (r121.2.1, r121.2.2.1, r29.2.2, r33.1, r33.2.1, r33.2.2, r121.2.2.2))
else (
Bd (lp_Mo_table_308 N v2 n2 n6 r121.2.2.2 N 0 r29.2.2) fun r138 =>
Bd (lp_Mo_table_349 N v2 v4 n2 n6 r121.2.2.2 N 0 r138) fun r155 =>
Bd (f_Mo_fill N n2 r155 0 288) fun r156 =>
Jn (fun (t161 : Int32) =>
Bd (f_Mo_fill N n2 r155 288 32) fun r162 =>
Bd (lp_Mo_table_438 N n2 r155 N 0 0) fun r175 =>
if r162 = (32768 : Int32) then (
some (r121.2.1, t161, r155, r33.1, r33.2.1, r33.2.2, r121.2.2.2))
else (
if r175 ≤ 0 then (
some (r121.2.1, t161, r155, r33.1, r33.2.1, r33.2.2, r121.2.2.2))
else (
Jn (fun (t180 : Unit) =>
some (r121.2.1, 1, r155, r33.1, r33.2.1, r33.2.2, r121.2.2.2)) fun j180 =>
if r175 = (1 : Int32) then (
if r162 = (16384 : Int32) then (
some (r121.2.1, t161, r155, r33.1, r33.2.1, r33.2.2, r121.2.2.2))
else (
j180 ()))
else (
j180 ())))) fun j161 =>
Jn (fun (t186 : Unit) =>
j161 1) fun j186 =>
if r156 = (32768 : Int32) then (
Ix 256 n2 <|
if (r155 (256 : Int32).toNatClampNeg) = 0 then (
j186 ())
else (
j161 r121.2.2.1))
else (
j186 ()))) fun j32 =>
if r30 = (32768 : Int32) then (
j32 r29.2.1)
else (
j32 1)) fun j10 =>
Jn (fun (t193 : Unit) =>
j10 1) fun j193 =>
if (286 : Int32) < v2 then (
j193 ())
else (
if v4 ≤ (30 : Int32) then (
j10 r5.2.2)
else (
j193 ()))
noncomputable def f_Mo_block (N : Nat) (x0_3 : Int32) (x0_12 : Int32) (x0_13 : Int32) (x0_14 : Int32) (x0_15 : Int32) (x0_16 : Int32) (n1 : Nat) (f1 : (Nat → Int32)) (n2 : Nat) (f2 : (Nat → Int32)) (n3 : Nat) (f3 : (Nat → Int32)) (n4 : Nat) (f4 : (Nat → Int32)) (n5 : Nat) (f5 : (Nat → Int32)) (n6 : Nat) (f6 : (Nat → Int32)) (n7 : Nat) (f7 : (Nat → Int32)) (p1 : Int32) : Option (Int32 × Int32 × Int32 × Int32 × Int32 × (Nat → Int32) × (Nat → Int32) × (Nat → Int32) × (Nat → Int32) × (Nat → Int32) × (Nat → Int32)) :=
Lt (x0_14 + 1) fun v1 =>
Jn (fun (t3 : Int32) =>
Jn (fun (t6 : Int32 × Int32 × Int32 × (Nat → Int32)) =>
Jn (fun (t9 : (Nat → Int32)) =>
Jn (fun (t13 : Int32 × Int32 × Int32 × (Nat → Int32) × (Nat → Int32) × (Nat → Int32) × (Nat → Int32) × (Nat → Int32)) =>
if t13.2.2.1 = 0 then (
if p1 = 0 then (
some (t13.1, t6.2.1, v1, t13.2.1, t13.2.2.1, t6.2.2.2, t13.2.2.2.1, t13.2.2.2.2.2.2.1, t13.2.2.2.2.2.2.2, t13.2.2.2.2.1, t13.2.2.2.2.2.1))
else (
Bd (f_Mo_assign N n4 t13.2.2.2.2.2.2.1 n3 t13.2.2.2.1 n5 t13.2.2.2.2.2.2.2 n6 t13.2.2.2.2.1 0 288) fun r16 =>
Bd (f_Mo_assign N n4 r16.1 n3 t13.2.2.2.1 n5 r16.2.1 n6 r16.2.2 288 32) fun r17 =>
Bd (f_Mo_signs N x0_3 t13.1 t6.2.1 t13.2.2.1 n1 f1 n3 t13.2.2.2.1 n6 r17.2.2 n2 t6.2.2.2) fun r18 =>
some (r18.1, r18.2.1, v1, t13.2.1, r18.2.2.1, r18.2.2.2, t13.2.2.2.1, r17.1, r17.2.1, r17.2.2, t13.2.2.2.2.2.1)))
else (
some (t13.1, t6.2.1, v1, t13.2.1, t13.2.2.1, t6.2.2.2, t13.2.2.2.1, t13.2.2.2.2.2.2.1, t13.2.2.2.2.2.2.2, t13.2.2.2.2.1, t13.2.2.2.2.2.1))) fun j13 =>
if p1 = (2 : Int32) then (
Lt (x0_15 + 1) fun v20 =>
Bd (f_Mo_table N x0_3 t6.1 t6.2.2.1 n1 f1 n3 t9 n4 f4 n5 f5 n6 f6 n7 f7) fun r21 =>
j13 (r21.1, v20, r21.2.1, r21.2.2.1, r21.2.2.2.2.2.1, r21.2.2.2.2.2.2, r21.2.2.2.1, r21.2.2.2.2.1))
else (
j13 (t6.1, x0_15, t6.2.2.1, t9, f6, f7, f4, f5))) fun j9 =>
if p1 = (1 : Int32) then (
Bd (f_Mo_fixed N n3 f3) fun r23 =>
j9 r23)
else (
j9 f3)) fun j6 =>
if p1 = 0 then (
Bd (f_Mo_stored N x0_3 x0_12 x0_13 t3 n1 f1 n2 f2) fun r25 =>
j6 (r25.1, r25.2.1, r25.2.2.1, r25.2.2.2))
else (
j6 (x0_12, x0_13, t3, f2))) fun j3 =>
if p1 = (3 : Int32) then (
j3 1)
else (
j3 x0_16)
noncomputable def lb_Mo_open_101 (N : Nat) (y0_3 : Int32) (m1 : Nat) (g_1 : (Nat → Int32)) (m3 : Nat) (m4 : Nat) (m5 : Nat) (m6 : Nat) (m7 : Nat) (m8 : Nat) (rec : Int32 → Int32 → Int32 → Int32 → Int32 → Int32 → (Nat → Int32) → (Nat → Int32) → (Nat → Int32) → (Nat → Int32) → (Nat → Int32) → (Nat → Int32) → Option (Int32 × Int32 × Int32 × Int32 × Int32 × (Nat → Int32) × (Nat → Int32) × (Nat → Int32) × (Nat → Int32) × (Nat → Int32) × (Nat → Int32))) (i3 : Int32) (y0_12 : Int32) (y0_13 : Int32) (y0_14 : Int32) (y0_15 : Int32) (y0_16 : Int32) (g_3 : (Nat → Int32)) (g_4 : (Nat → Int32)) (g_5 : (Nat → Int32)) (g_6 : (Nat → Int32)) (g_7 : (Nat → Int32)) (g_8 : (Nat → Int32)) : Option (Int32 × Int32 × Int32 × Int32 × Int32 × (Nat → Int32) × (Nat → Int32) × (Nat → Int32) × (Nat → Int32) × (Nat → Int32) × (Nat → Int32)) :=
if i3 = 0 then (
if y0_16 = 0 then (
Bd (f_Mo_bit N y0_3 y0_12 y0_16 m1 g_1) fun r21 =>
Jn (fun (t23 : Int32) =>
Bd (f_Mo_number N y0_3 r21.2.1 r21.2.2 m1 g_1 2) fun r24 =>
Bd (f_Mo_block N y0_3 r24.2.1 y0_13 y0_14 y0_15 r24.2.2 m1 g_1 m3 g_3 m4 g_4 m7 g_7 m8 g_8 m5 g_5 m6 g_6 r24.1) fun r25 =>
rec t23 r25.1 r25.2.1 r25.2.2.1 r25.2.2.2.1 r25.2.2.2.2.1 r25.2.2.2.2.2.1 r25.2.2.2.2.2.2.1 r25.2.2.2.2.2.2.2.2.2.1 r25.2.2.2.2.2.2.2.2.2.2 r25.2.2.2.2.2.2.2.1 r25.2.2.2.2.2.2.2.2.1) fun j23 =>
if r21.1 = (1 : Int32) then (
j23 1)
else (
j23 0))
else (
some (y0_12, y0_13, y0_14, y0_15, y0_16, g_3, g_4, g_5, g_6, g_7, g_8)))
else (
some (y0_12, y0_13, y0_14, y0_15, y0_16, g_3, g_4, g_5, g_6, g_7, g_8))
noncomputable def lp_Mo_open_101 (N : Nat) (y0_3 : Int32) (m1 : Nat) (g_1 : (Nat → Int32)) (m3 : Nat) (m4 : Nat) (m5 : Nat) (m6 : Nat) (m7 : Nat) (m8 : Nat) (n : Nat) : Int32 → Int32 → Int32 → Int32 → Int32 → Int32 → (Nat → Int32) → (Nat → Int32) → (Nat → Int32) → (Nat → Int32) → (Nat → Int32) → (Nat → Int32) → Option (Int32 × Int32 × Int32 × Int32 × Int32 × (Nat → Int32) × (Nat → Int32) × (Nat → Int32) × (Nat → Int32) × (Nat → Int32) × (Nat → Int32)) := Nat.rec (motive := fun _ => Int32 → Int32 → Int32 → Int32 → Int32 → Int32 → (Nat → Int32) → (Nat → Int32) → (Nat → Int32) → (Nat → Int32) → (Nat → Int32) → (Nat → Int32) → Option (Int32 × Int32 × Int32 × Int32 × Int32 × (Nat → Int32) × (Nat → Int32) × (Nat → Int32) × (Nat → Int32) × (Nat → Int32) × (Nat → Int32))) (fun _ _ _ _ _ _ _ _ _ _ _ _ => none) (fun _ ih => lb_Mo_open_101 N y0_3 m1 g_1 m3 m4 m5 m6 m7 m8 ih) n
noncomputable def lb_Mo_open_161 (N : Nat) (y0_3 : Int32) (m1 : Nat) (g_1 : (Nat → Int32)) (rec : Int32 → Int32 → Int32 → Int32 → Option (Int32 × Int32 × Int32)) (i4 : Int32) (i5 : Int32) (y0_12 : Int32) (y0_16 : Int32) : Option (Int32 × Int32 × Int32) :=
if (4 : Int32) ≤ i5 then (
some (i4, y0_12, y0_16))
else (
Bd (f_Mo_number N y0_3 y0_12 y0_16 m1 g_1 8) fun r34 =>
Lt ((i4 <<< ((8 : Int32) &&& 31)) ||| r34.1) fun v35 =>
Lt (i5 + 1) fun v36 =>
rec v35 v36 r34.2.1 r34.2.2)
noncomputable def lp_Mo_open_161 (N : Nat) (y0_3 : Int32) (m1 : Nat) (g_1 : (Nat → Int32)) (n : Nat) : Int32 → Int32 → Int32 → Int32 → Option (Int32 × Int32 × Int32) := Nat.rec (motive := fun _ => Int32 → Int32 → Int32 → Int32 → Option (Int32 × Int32 × Int32)) (fun _ _ _ _ => none) (fun _ ih => lb_Mo_open_161 N y0_3 m1 g_1 ih) n
noncomputable def lb_Mo_open_244 (N : Nat) (y0_13 : Int32) (m2 : Nat) (m3 : Nat) (g_3 : (Nat → Int32)) (rec : Int32 → (Nat → Int32) → Option ((Nat → Int32))) (i5 : Int32) (g_2 : (Nat → Int32)) : Option ((Nat → Int32)) :=
if y0_13 ≤ i5 then (
some g_2)
else (
Ix i5 m3 <|
Ix i5 m2 <|
Lt (upd g_2 (i5).toNatClampNeg (vp_nar .byte (g_3 (i5).toNatClampNeg))) fun g63 =>
Lt (i5 + 1) fun v64 =>
rec v64 g63)
noncomputable def lp_Mo_open_244 (N : Nat) (y0_13 : Int32) (m2 : Nat) (m3 : Nat) (g_3 : (Nat → Int32)) (n : Nat) : Int32 → (Nat → Int32) → Option ((Nat → Int32)) := Nat.rec (motive := fun _ => Int32 → (Nat → Int32) → Option ((Nat → Int32))) (fun _ _ => none) (fun _ ih => lb_Mo_open_244 N y0_13 m2 m3 g_3 ih) n
noncomputable def f_Mo_open (N : Nat) (x0_3 : Int32) (x0_4 : Int32) (x0_7 : Int32) (x0_8 : Int32) (x0_9 : Int32) (n1 : Nat) (f1 : (Nat → Int32)) (n2 : Nat) (f2 : (Nat → Int32)) (n3 : Nat) (f3 : (Nat → Int32)) (n4 : Nat) (f4 : (Nat → Int32)) (n5 : Nat) (f5 : (Nat → Int32)) (n6 : Nat) (f6 : (Nat → Int32)) (n7 : Nat) (f7 : (Nat → Int32)) (n8 : Nat) (f8 : (Nat → Int32)) : Option (Int32 × Int32 × Int32 × Int32 × Int32 × Int32 × Int32 × Int32 × Int32 × Int32 × Int32 × (Nat → Int32) × (Nat → Int32) × (Nat → Int32) × (Nat → Int32) × (Nat → Int32) × (Nat → Int32) × (Nat → Int32)) :=
Jn (fun (t2 : Int32) =>
Gb t2 <|
Bd (f_Mo_number N x0_3 0 t2 n1 f1 8) fun r4 =>
Bd (f_Mo_number N x0_3 r4.2.1 r4.2.2 n1 f1 8) fun r5 =>
Jn (fun (t11 : Int32) =>
Bd (lp_Mo_open_101 N x0_3 n1 f1 n2 n3 n6 n7 n4 n5 N 0 r5.2.1 0 0 0 t11 f2 f3 f6 f7 f4 f5) fun r27 =>
Lt (((r27.1 + 7) / 8) * 8) fun v28 =>
Bd (lp_Mo_open_161 N x0_3 n1 f1 N 0 0 v28 r27.2.2.2.2.1) fun r37 =>
Jn (fun (t48 : Unit) =>
Lt (x0_9 + 1) fun v49 =>
Bd (f_Mo_refuse N 1) fun r50 =>
some (r50.1, x0_4, x0_7, x0_8, v49, r50.2, r37.2.1, r27.2.1, r27.2.2.1, r27.2.2.2.1, r37.2.2, r27.2.2.2.2.2.1, r27.2.2.2.2.2.2.1, r27.2.2.2.2.2.2.2.2.2.1, r27.2.2.2.2.2.2.2.2.2.2, r27.2.2.2.2.2.2.2.1, r27.2.2.2.2.2.2.2.2.1, f8)) fun j48 =>
if r37.2.2 = 0 then (
if r37.2.1 = (x0_3 * 8) then (
Bd (f_Mo_adler N n2 r27.2.2.2.2.2.1 r27.2.1) fun r53 =>
if r37.1 = r53 then (
Bd (lp_Mo_open_244 N r27.2.1 n8 n2 r27.2.2.2.2.2.1 N 0 f8) fun r65 =>
some (r27.2.1, r27.2.1, r27.2.2.1, r27.2.2.2.1, x0_9, 0, r37.2.1, r27.2.1, r27.2.2.1, r27.2.2.2.1, r37.2.2, r27.2.2.2.2.2.1, r27.2.2.2.2.2.2.1, r27.2.2.2.2.2.2.2.2.2.1, r27.2.2.2.2.2.2.2.2.2.2, r27.2.2.2.2.2.2.2.1, r27.2.2.2.2.2.2.2.2.1, r65))
else (
j48 ()))
else (
j48 ()))
else (
j48 ())) fun j11 =>
Jn (fun (t70 : Unit) =>
j11 1) fun j70 =>
if (irm r4.1 16) = (8 : Int32) then (
if (7 : Int32) < (r4.1 / 16) then (
j70 ())
else (
if (irm ((r4.1 * 256) + r5.1) 31) = 0 then (
if (r5.1 &&& 32) = 0 then (
j11 r5.2.2)
else (
j70 ()))
else (
j70 ())))
else (
j70 ())) fun j2 =>
if (2 : Int32) ≤ x0_3 then (
j2 0)
else (
j2 1)
noncomputable def lb_Mo_turn_22 (N : Nat) (y0_4 : Int32) (m1 : Nat) (m2 : Nat) (g_2 : (Nat → Int32)) (rec : Int32 → (Nat → Int32) → Option ((Nat → Int32))) (i1 : Int32) (g_1 : (Nat → Int32)) : Option ((Nat → Int32)) :=
if y0_4 ≤ i1 then (
some g_1)
else (
Ix i1 m2 <|
Ix i1 m1 <|
Lt (upd g_1 (i1).toNatClampNeg (vp_nar .byte (g_2 (i1).toNatClampNeg))) fun g10 =>
Lt (i1 + 1) fun v11 =>
rec v11 g10)
noncomputable def lp_Mo_turn_22 (N : Nat) (y0_4 : Int32) (m1 : Nat) (m2 : Nat) (g_2 : (Nat → Int32)) (n : Nat) : Int32 → (Nat → Int32) → Option ((Nat → Int32)) := Nat.rec (motive := fun _ => Int32 → (Nat → Int32) → Option ((Nat → Int32))) (fun _ _ => none) (fun _ ih => lb_Mo_turn_22 N y0_4 m1 m2 g_2 ih) n
noncomputable def f_Mo_turn (N : Nat) (x0_3 : Int32) (x0_4 : Int32) (n1 : Nat) (f1 : (Nat → Int32)) (n2 : Nat) (f2 : (Nat → Int32)) : Option (Int32 × Int32 × Int32 × (Nat → Int32)) :=
if x0_4 ≤ (65536 : Int32) then (
Bd (lp_Mo_turn_22 N x0_4 n2 n1 f1 N 0 f2) fun r12 =>
some (x0_4, x0_4, 0, r12))
else (
Bd (f_Mo_refuse N 1) fun r13 =>
some (r13.1, x0_3, r13.2, f2))
noncomputable def f_Mo_padded (N : Nat) (x0_3 : Int32) (n1 : Nat) (f1 : (Nat → Int32)) (p1 : Int32) (p2 : Int32) : Option (Int32) :=
if x0_3 ≤ p1 then (
if p1 = x0_3 then (
some 128)
else (
if (p2 - 4) ≤ p1 then (
some ((us (x0_3 * 8) (((p2 - 1) - p1) * 8)) &&& 255))
else (
some 0)))
else (
Ix p1 n1 <|
some ((f1 (p1).toNatClampNeg) &&& 255))
noncomputable def f_Mo_turned (N : Nat) (p0 : Int32) (p1 : Int32) : Option (Int32) :=
some ((p0 <<< (p1 &&& 31)) ||| (us p0 (32 - p1)))
noncomputable def lb_Mo_chunk_2 (N : Nat) (i1 : Int32) (i2 : Int32) (y0_3 : Int32) (m1 : Nat) (g_1 : (Nat → Int32)) (m2 : Nat) (rec : Int32 → (Nat → Int32) → Option ((Nat → Int32))) (i3 : Int32) (g_2 : (Nat → Int32)) : Option ((Nat → Int32)) :=
if (16 : Int32) ≤ i3 then (
some g_2)
else (
Bd (f_Mo_padded N y0_3 m1 g_1 (i1 + (i3 * 4)) i2) fun r10 =>
Bd (f_Mo_padded N y0_3 m1 g_1 ((i1 + (i3 * 4)) + 1) i2) fun r11 =>
Bd (f_Mo_padded N y0_3 m1 g_1 ((i1 + (i3 * 4)) + 2) i2) fun r12 =>
Bd (f_Mo_padded N y0_3 m1 g_1 ((i1 + (i3 * 4)) + 3) i2) fun r13 =>
Ix i3 m2 <|
Lt (upd g_2 (i3).toNatClampNeg ((((r10 <<< ((24 : Int32) &&& 31)) ||| (r11 <<< ((16 : Int32) &&& 31))) ||| (r12 <<< ((8 : Int32) &&& 31))) ||| r13)) fun g15 =>
Lt (i3 + 1) fun v16 =>
rec v16 g15)
noncomputable def lp_Mo_chunk_2 (N : Nat) (i1 : Int32) (i2 : Int32) (y0_3 : Int32) (m1 : Nat) (g_1 : (Nat → Int32)) (m2 : Nat) (n : Nat) : Int32 → (Nat → Int32) → Option ((Nat → Int32)) := Nat.rec (motive := fun _ => Int32 → (Nat → Int32) → Option ((Nat → Int32))) (fun _ _ => none) (fun _ ih => lb_Mo_chunk_2 N i1 i2 y0_3 m1 g_1 m2 ih) n
noncomputable def lb_Mo_chunk_81 (N : Nat) (m2 : Nat) (rec : Int32 → (Nat → Int32) → Option ((Nat → Int32))) (i3 : Int32) (g_2 : (Nat → Int32)) : Option ((Nat → Int32)) :=
if (80 : Int32) ≤ i3 then (
some g_2)
else (
Ix (i3 - 3) m2 <|
Ix (i3 - 8) m2 <|
Ix (i3 - 14) m2 <|
Ix (i3 - 16) m2 <|
Bd (f_Mo_turned N ((((g_2 (i3 - 3).toNatClampNeg) ^^^ (g_2 (i3 - 8).toNatClampNeg)) ^^^ (g_2 (i3 - 14).toNatClampNeg)) ^^^ (g_2 (i3 - 16).toNatClampNeg)) 1) fun r32 =>
Ix i3 m2 <|
Lt (upd g_2 (i3).toNatClampNeg r32) fun g34 =>
Lt (i3 + 1) fun v35 =>
rec v35 g34)
noncomputable def lp_Mo_chunk_81 (N : Nat) (m2 : Nat) (n : Nat) : Int32 → (Nat → Int32) → Option ((Nat → Int32)) := Nat.rec (motive := fun _ => Int32 → (Nat → Int32) → Option ((Nat → Int32))) (fun _ _ => none) (fun _ ih => lb_Mo_chunk_81 N m2 ih) n
noncomputable def lb_Mo_chunk_183 (N : Nat) (m2 : Nat) (g_2 : (Nat → Int32)) (rec : Int32 → Int32 → Int32 → Int32 → Int32 → Int32 → Option (Int32 × Int32 × Int32 × Int32 × Int32)) (i3 : Int32) (i4 : Int32) (i5 : Int32) (i6 : Int32) (i7 : Int32) (i8 : Int32) : Option (Int32 × Int32 × Int32 × Int32 × Int32) :=
if (80 : Int32) ≤ i8 then (
some (i3, i4, i5, i6, i7))
else (
Jn (fun (t61 : Int32) =>
Bd (f_Mo_turned N i3 5) fun r62 =>
Ix i8 m2 <|
Lt (((r62 + t61) + i7) + (g_2 (i8).toNatClampNeg)) fun v64 =>
Bd (f_Mo_turned N i4 30) fun r65 =>
Lt (i8 + 1) fun v66 =>
rec v64 i3 r65 i5 i6 v66) fun j61 =>
if (20 : Int32) ≤ i8 then (
if (40 : Int32) ≤ i8 then (
if (60 : Int32) ≤ i8 then (
j61 (((i4 ^^^ i5) ^^^ i6) + ((-899497514))))
else (
j61 ((((i4 &&& i5) ^^^ (i4 &&& i6)) ^^^ (i5 &&& i6)) + ((-1894007588)))))
else (
j61 (((i4 ^^^ i5) ^^^ i6) + 1859775393)))
else (
j61 (((i4 &&& i5) + 1518500249) + ((i4 ^^^ ((-1))) &&& i6))))
noncomputable def lp_Mo_chunk_183 (N : Nat) (m2 : Nat) (g_2 : (Nat → Int32)) (n : Nat) : Int32 → Int32 → Int32 → Int32 → Int32 → Int32 → Option (Int32 × Int32 × Int32 × Int32 × Int32) := Nat.rec (motive := fun _ => Int32 → Int32 → Int32 → Int32 → Int32 → Int32 → Option (Int32 × Int32 × Int32 × Int32 × Int32)) (fun _ _ _ _ _ _ => none) (fun _ ih => lb_Mo_chunk_183 N m2 g_2 ih) n
noncomputable def f_Mo_chunk (N : Nat) (x0_3 : Int32) (n1 : Nat) (f1 : (Nat → Int32)) (n2 : Nat) (f2 : (Nat → Int32)) (n3 : Nat) (f3 : (Nat → Int32)) (p1 : Int32) (p2 : Int32) : Option ((Nat → Int32) × (Nat → Int32)) :=
Bd (lp_Mo_chunk_2 N p1 p2 x0_3 n1 f1 n2 N 0 f2) fun r17 =>
Bd (lp_Mo_chunk_81 N n2 N 16 r17) fun r36 =>
Ix 0 n3 <|
Lt (f3 (0 : Int32).toNatClampNeg) fun v38 =>
Ix 1 n3 <|
Lt (f3 (1 : Int32).toNatClampNeg) fun v40 =>
Ix 2 n3 <|
Lt (f3 (2 : Int32).toNatClampNeg) fun v42 =>
Ix 3 n3 <|
Lt (f3 (3 : Int32).toNatClampNeg) fun v44 =>
Ix 4 n3 <|
Lt (f3 (4 : Int32).toNatClampNeg) fun v46 =>
Bd (lp_Mo_chunk_183 N n2 r36 N v38 v40 v42 v44 v46 0) fun r70 =>
Ix 0 n3 <|
Ix 0 n3 <|
Lt (upd f3 (0 : Int32).toNatClampNeg ((f3 (0 : Int32).toNatClampNeg) + r70.1)) fun g73 =>
Ix 1 n3 <|
Ix 1 n3 <|
Lt (upd g73 (1 : Int32).toNatClampNeg ((g73 (1 : Int32).toNatClampNeg) + r70.2.1)) fun g76 =>
Ix 2 n3 <|
Ix 2 n3 <|
Lt (upd g76 (2 : Int32).toNatClampNeg ((g76 (2 : Int32).toNatClampNeg) + r70.2.2.1)) fun g79 =>
Ix 3 n3 <|
Ix 3 n3 <|
Lt (upd g79 (3 : Int32).toNatClampNeg ((g79 (3 : Int32).toNatClampNeg) + r70.2.2.2.1)) fun g82 =>
Ix 4 n3 <|
Ix 4 n3 <|
Lt (upd g82 (4 : Int32).toNatClampNeg ((g82 (4 : Int32).toNatClampNeg) + r70.2.2.2.2)) fun g85 =>
some (r36, g85)
noncomputable def lb_Mo_hash_80 (N : Nat) (i2 : Int32) (y0_3 : Int32) (m1 : Nat) (g_1 : (Nat → Int32)) (m2 : Nat) (m3 : Nat) (rec : Int32 → (Nat → Int32) → (Nat → Int32) → Option ((Nat → Int32) × (Nat → Int32))) (i3 : Int32) (g_2 : (Nat → Int32)) (g_3 : (Nat → Int32)) : Option ((Nat → Int32) × (Nat → Int32)) :=
if i2 ≤ i3 then (
some (g_2, g_3))
else (
Bd (f_Mo_chunk N y0_3 m1 g_1 m2 g_2 m3 g_3 i3 i2) fun r41 =>
Lt (i3 + 64) fun v42 =>
rec v42 r41.1 r41.2)
noncomputable def lp_Mo_hash_80 (N : Nat) (i2 : Int32) (y0_3 : Int32) (m1 : Nat) (g_1 : (Nat → Int32)) (m2 : Nat) (m3 : Nat) (n : Nat) : Int32 → (Nat → Int32) → (Nat → Int32) → Option ((Nat → Int32) × (Nat → Int32)) := Nat.rec (motive := fun _ => Int32 → (Nat → Int32) → (Nat → Int32) → Option ((Nat → Int32) × (Nat → Int32))) (fun _ _ _ => none) (fun _ ih => lb_Mo_hash_80 N i2 y0_3 m1 g_1 m2 m3 ih) n
noncomputable def f_Mo_hash (N : Nat) (x0_3 : Int32) (n1 : Nat) (f1 : (Nat → Int32)) (n2 : Nat) (f2 : (Nat → Int32)) (n3 : Nat) (f3 : (Nat → Int32)) (p1 : Int32) : Option (Int64 × Int32 × (Nat → Int32) × (Nat → Int32)) :=
Jn (fun (t22 : Unit) =>
Bd (f_Mo_refuse N 1) fun r23 =>
some (r23.1.toInt64, r23.2, f1, f3)) fun j22 =>
if p1 < 0 then (
j22 ())
else (
if p1 ≤ (2 : Int32) then (
Ix 0 n1 <|
Lt (upd f1 (0 : Int32).toNatClampNeg 1732584193) fun g27 =>
Ix 1 n1 <|
Lt (upd g27 (1 : Int32).toNatClampNeg ((-271733879))) fun g29 =>
Ix 2 n1 <|
Lt (upd g29 (2 : Int32).toNatClampNeg ((-1732584194))) fun g31 =>
Ix 3 n1 <|
Lt (upd g31 (3 : Int32).toNatClampNeg 271733878) fun g33 =>
Ix 4 n1 <|
Lt (upd g33 (4 : Int32).toNatClampNeg ((-1009589776))) fun g35 =>
Lt ((((x0_3 + 9) + 63) / 64) * 64) fun v36 =>
Bd (lp_Mo_hash_80 N v36 x0_3 n2 f2 n3 n1 N 0 f3 g35) fun r43 =>
Ix (p1 * 2) n1 <|
Lt ((r43.2 (p1 * 2).toNatClampNeg).toInt64) fun v45 =>
if p1 = (2 : Int32) then (
some (v45 &&& 4294967295, 0, r43.2, r43.1))
else (
Ix ((p1 * 2) + 1) n1 <|
some ((v45 <<< ((32 : Int32).toInt64 &&& 63)) ||| (((r43.2 ((p1 * 2) + 1).toNatClampNeg).toInt64) &&& 4294967295), 0, r43.2, r43.1)))
else (
j22 ()))
noncomputable def f_Mo_letter (N : Nat) (x0_4 : Int32) (n1 : Nat) (f1 : (Nat → Int32)) (p1 : Int32) : Option (Int32 × Int32) :=
Jn (fun (t4 : Unit) =>
Bd (f_Mo_refuse N 1) fun r5 =>
some (r5.1, r5.2)) fun j4 =>
if p1 < 0 then (
j4 ())
else (
if p1 < x0_4 then (
Ix p1 n1 <|
some ((f1 (p1).toNatClampNeg) &&& 255, 0))
else (
j4 ()))
noncomputable def f_Mo_count (N : Nat) (x0_3 : Int32) (x0_4 : Int32) (x0_5 : Int32) (x0_6 : Int32) (x0_7 : Int32) (x0_8 : Int32) (x0_9 : Int32) (p1 : Int32) : Option (Int32) :=
if p1 = 0 then (
some x0_3)
else if p1 = 1 then (
some x0_4)
else if p1 = 2 then (
some x0_5)
else if p1 = 3 then (
some x0_6)
else if p1 = 4 then (
some x0_7)
else if p1 = 5 then (
some x0_8)
else if p1 = 6 then (
some x0_9)
else (
some ((-1)))
noncomputable def f_La_feed (N : Nat) (x1_1 : Int32) (n2 : Nat) (f2 : (Nat → Int32)) (n3 : Nat) (f3 : (Nat → Int64)) (p1 : Int32) (p2 : Int32) (p3 : Int32) (p4 : Int32) (p5 : Int32) : Option ((Int32 × Int32 × Nat × (Nat → Int32) × (Nat → Int64)) × Nat × Nat) :=
Bk (f_TP_feed N x1_1 n2 f2 p1 p2 p3 p4 p5) fun r1 =>
if r1.1 = 0 then (
Ix 0 n3 <|
Lt (vp_updL f3 (0 : Int32).toNatClampNeg r1.2.1.toInt64) fun g5 =>
some ((0, r1.2.2.1, r1.2.2.2.1, r1.2.2.2.2, g5), 0, 0))
else (
some ((1, r1.2.2.1, r1.2.2.2.1, r1.2.2.2.2, f3), 0, 0))
noncomputable def f_La_end (N : Nat) (x1_1 : Int32) (n2 : Nat) (f2 : (Nat → Int64)) (p1 : Int32) : Option ((Int32 × Int32 × (Nat → Int64)) × Nat × Nat) :=
Bk (f_TP_end N x1_1 p1) fun r1 =>
if r1.1 = 0 then (
Ix 0 n2 <|
Lt (vp_updL f2 (0 : Int32).toNatClampNeg r1.2.1.toInt64) fun g4 =>
some ((0, r1.2.2, g4), 0, 0))
else (
some ((1, r1.2.2, f2), 0, 0))
noncomputable def f_La_change (N : Nat) (x1_1 : Int32) (n2 : Nat) (f2 : (Nat → Int32)) (p1 : Int32) (p2 : Int32) : Option ((Int32 × (Nat → Int32)) × Nat × Nat) :=
Bk (f_TP_change N x1_1 n2 f2 p1 p2) fun r1 =>
if r1.1 = 0 then (
some ((0, r1.2), 0, 0))
else (
some ((1, r1.2), 0, 0))
noncomputable def f_La_open (N : Nat) (x0_6 : Int32) (x0_7 : Int32) (x0_8 : Int32) (x1_1 : Int32) (n2 : Nat) (f2 : (Nat → Int32)) (x3_1 : Int32) (n4 : Nat) (f4 : (Nat → Int32)) (x6_1 : Int32) (n8 : Nat) (f8 : (Nat → Int32)) (n10 : Nat) (f10 : (Nat → Int32)) (n11 : Nat) (f11 : (Nat → Int32)) (n13 : Nat) (f13 : (Nat → Int32)) (n14 : Nat) (f14 : (Nat → Int32)) (n15 : Nat) (f15 : (Nat → Int32)) (n17 : Nat) (f17 : (Nat → Int32)) (n18 : Nat) (f18 : (Nat → Int32)) (n19 : Nat) (f19 : (Nat → Int32)) (n21 : Nat) (f21 : (Nat → Int32)) (n22 : Nat) (f22 : (Nat → Int32)) (n23 : Nat) (f23 : (Nat → Int32)) (n25 : Nat) (f25 : (Nat → Int32)) (n26 : Nat) (f26 : (Nat → Int32)) (n27 : Nat) (f27 : (Nat → Int32)) (n28 : Nat) (f28 : (Nat → Int64)) : Option ((Int32 × Int32 × Int32 × Int32 × Int32 × Nat × (Nat → Int32) × Int32 × Nat × (Nat → Int32) × Int32 × Int32 × Int32 × Int32 × Int32 × (Nat → Int32) × (Nat → Int32) × (Nat → Int32) × (Nat → Int32) × (Nat → Int32) × (Nat → Int32) × (Nat → Int32) × (Nat → Int32) × (Nat → Int32) × (Nat → Int32) × (Nat → Int64)) × Nat × Nat) :=
Bk (f_TP_open N x0_6 x0_7 x0_8 x1_1 n2 f2 x3_1 n4 f4 x6_1 n8 f8 n10 f10 n11 f11 n13 f13 n14 f14 n15 f15 n17 f17 n18 f18 n19 f19 n21 f21 n22 f22 n23 f23 n25 f25 n26 f26 n27 f27) fun r1 =>
if r1.1 = 0 then (
Ix 0 n28 <|
Lt (vp_updL f28 (0 : Int32).toNatClampNeg r1.2.1.toInt64) fun g8 =>
some ((0, r1.2.2.1, r1.2.2.2.1, r1.2.2.2.2.1, r1.2.2.2.2.2.1, r1.2.2.2.2.2.2.1, r1.2.2.2.2.2.2.2.1, r1.2.2.2.2.2.2.2.2.1, r1.2.2.2.2.2.2.2.2.2.1, r1.2.2.2.2.2.2.2.2.2.2.1, r1.2.2.2.2.2.2.2.2.2.2.2.1, r1.2.2.2.2.2.2.2.2.2.2.2.2.1, r1.2.2.2.2.2.2.2.2.2.2.2.2.2.1, r1.2.2.2.2.2.2.2.2.2.2.2.2.2.2.1, r1.2.2.2.2.2.2.2.2.2.2.2.2.2.2.2.1, r1.2.2.2.2.2.2.2.2.2.2.2.2.2.2.2.2.1, r1.2.2.2.2.2.2.2.2.2.2.2.2.2.2.2.2.2.1, r1.2.2.2.2.2.2.2.2.2.2.2.2.2.2.2.2.2.2.1, r1.2.2.2.2.2.2.2.2.2.2.2.2.2.2.2.2.2.2.2.1, r1.2.2.2.2.2.2.2.2.2.2.2.2.2.2.2.2.2.2.2.2.1, r1.2.2.2.2.2.2.2.2.2.2.2.2.2.2.2.2.2.2.2.2.2.1, r1.2.2.2.2.2.2.2.2.2.2.2.2.2.2.2.2.2.2.2.2.2.2.1, r1.2.2.2.2.2.2.2.2.2.2.2.2.2.2.2.2.2.2.2.2.2.2.2.1, r1.2.2.2.2.2.2.2.2.2.2.2.2.2.2.2.2.2.2.2.2.2.2.2.2.1, r1.2.2.2.2.2.2.2.2.2.2.2.2.2.2.2.2.2.2.2.2.2.2.2.2.2, g8), 0, 0))
else (
some ((1, r1.2.2.1, r1.2.2.2.1, r1.2.2.2.2.1, r1.2.2.2.2.2.1, r1.2.2.2.2.2.2.1, r1.2.2.2.2.2.2.2.1, r1.2.2.2.2.2.2.2.2.1, r1.2.2.2.2.2.2.2.2.2.1, r1.2.2.2.2.2.2.2.2.2.2.1, r1.2.2.2.2.2.2.2.2.2.2.2.1, r1.2.2.2.2.2.2.2.2.2.2.2.2.1, r1.2.2.2.2.2.2.2.2.2.2.2.2.2.1, r1.2.2.2.2.2.2.2.2.2.2.2.2.2.2.1, r1.2.2.2.2.2.2.2.2.2.2.2.2.2.2.2.1, r1.2.2.2.2.2.2.2.2.2.2.2.2.2.2.2.2.1, r1.2.2.2.2.2.2.2.2.2.2.2.2.2.2.2.2.2.1, r1.2.2.2.2.2.2.2.2.2.2.2.2.2.2.2.2.2.2.1, r1.2.2.2.2.2.2.2.2.2.2.2.2.2.2.2.2.2.2.2.1, r1.2.2.2.2.2.2.2.2.2.2.2.2.2.2.2.2.2.2.2.2.1, r1.2.2.2.2.2.2.2.2.2.2.2.2.2.2.2.2.2.2.2.2.2.1, r1.2.2.2.2.2.2.2.2.2.2.2.2.2.2.2.2.2.2.2.2.2.2.1, r1.2.2.2.2.2.2.2.2.2.2.2.2.2.2.2.2.2.2.2.2.2.2.2.1, r1.2.2.2.2.2.2.2.2.2.2.2.2.2.2.2.2.2.2.2.2.2.2.2.2.1, r1.2.2.2.2.2.2.2.2.2.2.2.2.2.2.2.2.2.2.2.2.2.2.2.2.2, f28), 0, 0))
noncomputable def f_La_turn (N : Nat) (x1_1 : Int32) (x2_1 : Int32) (n3 : Nat) (f3 : (Nat → Int32)) (n4 : Nat) (f4 : (Nat → Int32)) (n5 : Nat) (f5 : (Nat → Int64)) : Option ((Int32 × Int32 × Nat × (Nat → Int32) × (Nat → Int64)) × Nat × Nat) :=
Bk (f_TP_turn N x1_1 x2_1 n3 f3 n4 f4) fun r1 =>
if r1.1 = 0 then (
Ix 0 n5 <|
Lt (vp_updL f5 (0 : Int32).toNatClampNeg r1.2.1.toInt64) fun g5 =>
some ((0, r1.2.2.1, r1.2.2.2.1, r1.2.2.2.2, g5), 0, 0))
else (
some ((1, r1.2.2.1, r1.2.2.2.1, r1.2.2.2.2, f5), 0, 0))
noncomputable def f_La_hash (N : Nat) (n2 : Nat) (f2 : (Nat → Int32)) (x3_1 : Int32) (n4 : Nat) (f4 : (Nat → Int32)) (n5 : Nat) (f5 : (Nat → Int32)) (n6 : Nat) (f6 : (Nat → Int64)) (p1 : Int32) : Option ((Int32 × (Nat → Int32) × (Nat → Int32) × (Nat → Int64)) × Nat × Nat) :=
Bk (f_TP_hash N n2 f2 x3_1 n4 f4 n5 f5 p1) fun r1 =>
if r1.1 = 0 then (
Ix 0 n6 <|
Lt (vp_updL f6 (0 : Int32).toNatClampNeg r1.2.1) fun g4 =>
some ((0, r1.2.2.1, r1.2.2.2, g4), 0, 0))
else (
some ((1, r1.2.2.1, r1.2.2.2, f6), 0, 0))
noncomputable def f_La_letter (N : Nat) (x1_1 : Int32) (n2 : Nat) (f2 : (Nat → Int32)) (n3 : Nat) (f3 : (Nat → Int64)) (p1 : Int32) : Option ((Int32 × (Nat → Int64)) × Nat × Nat) :=
Bk (f_TP_letter N x1_1 n2 f2 p1) fun r1 =>
if r1.1 = 0 then (
Ix 0 n3 <|
Lt (vp_updL f3 (0 : Int32).toNatClampNeg r1.2.toInt64) fun g4 =>
some ((0, g4), 0, 0))
else (
some ((1, f3), 0, 0))
noncomputable def lb_La_law_23 (N : Nat) (Lx : Nat) (xs : (Nat → Int32)) (m8 : Nat) (m9 : Nat) (m13 : Nat) (m17 : Nat) (m19 : Nat) (g_19 : (Nat → Int32)) (m21 : Nat) (g_21 : (Nat → Int32)) (m23 : Nat) (g_23 : (Nat → Int32)) (m25 : Nat) (g_25 : (Nat → Int32)) (m27 : Nat) (m28 : Nat) (m29 : Nat) (m31 : Nat) (m32 : Nat) (m33 : Nat) (m35 : Nat) (m36 : Nat) (m37 : Nat) (m39 : Nat) (m40 : Nat) (m41 : Nat) (m42 : Nat) (m43 : Nat) (m44 : Nat) (m45 : Nat) (m46 : Nat) (m47 : Nat) (m48 : Nat) (m49 : Nat) (rec : Int32 → Int32 → Int32 → Int32 → Int32 → Nat → (Nat → Int32) → Int32 → Nat → (Nat → Int32) → Int32 → Nat → (Nat → Int32) → (Nat → Int32) → (Nat → Int32) → Int32 → Int32 → Int32 → Int32 → Int32 → Int32 → (Nat → Int32) → Nat → (Nat → Int32) → Int32 → Int32 → Int32 → Int32 → Int32 → (Nat → Int32) → (Nat → Int32) → (Nat → Int32) → (Nat → Int32) → (Nat → Int32) → (Nat → Int32) → (Nat → Int32) → (Nat → Int32) → (Nat → Int32) → (Nat → Int32) → Int32 → Int32 → Int32 → Int32 → Int32 → Int32 → Int32 → Int32 → Int32 → Int32 → Int32 → Int32 → Int32 → Int32 → (Nat → Int32) → (Nat → Int32) → (Nat → Int32) → (Nat → Int32) → (Nat → Int32) → (Nat → Int32) → (Nat → Int32) → (Nat → Int32) → (Nat → Int32) → (Nat → Int32) → (Nat → Int64) → Option ((Nat × Int32 × Int32 × Int32 × Int32 × Nat × (Nat → Int32) × Int32 × Nat × (Nat → Int32) × Int32 × Nat × (Nat → Int32) × (Nat → Int32) × (Nat → Int32) × Int32 × Int32 × Int32 × Int32 × Int32 × Int32 × (Nat → Int32) × Nat × (Nat → Int32) × Int32 × Int32 × Int32 × Int32 × Int32 × (Nat → Int32) × (Nat → Int32) × (Nat → Int32) × (Nat → Int32) × (Nat → Int32) × (Nat → Int32) × (Nat → Int32) × (Nat → Int32) × (Nat → Int32) × (Nat → Int32) × Int32 × Int32 × Int32 × Int32 × Int32 × Int32 × Int32 × Int32 × Int32 × Int32 × Int32 × Int32 × Int32 × Int32 × (Nat → Int32) × (Nat → Int32) × (Nat → Int32) × (Nat → Int32) × (Nat → Int32) × (Nat → Int32) × (Nat → Int32) × (Nat → Int32) × (Nat → Int32) × (Nat → Int32) × (Nat → Int64)) × Nat × Nat)) (i4 : Int32) (y0_6 : Int32) (y0_7 : Int32) (y0_8 : Int32) (y1_1 : Int32) (m2 : Nat) (g_2 : (Nat → Int32)) (y3_1 : Int32) (m4 : Nat) (g_4 : (Nat → Int32)) (y5_1 : Int32) (m6 : Nat) (g_6 : (Nat → Int32)) (g_8 : (Nat → Int32)) (g_9 : (Nat → Int32)) (y10_2 : Int32) (y10_3 : Int32) (y11_1 : Int32) (y11_2 : Int32) (y12_2 : Int32) (y12_3 : Int32) (g_13 : (Nat → Int32)) (m14 : Nat) (g_14 : (Nat → Int32)) (y15_7 : Int32) (y15_8 : Int32) (y16_1 : Int32) (y16_2 : Int32) (y16_3 : Int32) (g_17 : (Nat → Int32)) (g_27 : (Nat → Int32)) (g_28 : (Nat → Int32)) (g_29 : (Nat → Int32)) (g_31 : (Nat → Int32)) (g_32 : (Nat → Int32)) (g_33 : (Nat → Int32)) (g_35 : (Nat → Int32)) (g_36 : (Nat → Int32)) (g_37 : (Nat → Int32)) (y38_3 : Int32) (y38_4 : Int32) (y38_5 : Int32) (y38_6 : Int32) (y38_7 : Int32) (y38_8 : Int32) (y38_9 : Int32) (y38_10 : Int32) (y38_11 : Int32) (y38_12 : Int32) (y38_13 : Int32) (y38_14 : Int32) (y38_15 : Int32) (y38_16 : Int32) (g_39 : (Nat → Int32)) (g_40 : (Nat → Int32)) (g_41 : (Nat → Int32)) (g_42 : (Nat → Int32)) (g_43 : (Nat → Int32)) (g_44 : (Nat → Int32)) (g_45 : (Nat → Int32)) (g_46 : (Nat → Int32)) (g_47 : (Nat → Int32)) (g_48 : (Nat → Int32)) (g_49 : (Nat → Int64)) : Option ((Nat × Int32 × Int32 × Int32 × Int32 × Nat × (Nat → Int32) × Int32 × Nat × (Nat → Int32) × Int32 × Nat × (Nat → Int32) × (Nat → Int32) × (Nat → Int32) × Int32 × Int32 × Int32 × Int32 × Int32 × Int32 × (Nat → Int32) × Nat × (Nat → Int32) × Int32 × Int32 × Int32 × Int32 × Int32 × (Nat → Int32) × (Nat → Int32) × (Nat → Int32) × (Nat → Int32) × (Nat → Int32) × (Nat → Int32) × (Nat → Int32) × (Nat → Int32) × (Nat → Int32) × (Nat → Int32) × Int32 × Int32 × Int32 × Int32 × Int32 × Int32 × Int32 × Int32 × Int32 × Int32 × Int32 × Int32 × Int32 × Int32 × (Nat → Int32) × (Nat → Int32) × (Nat → Int32) × (Nat → Int32) × (Nat → Int32) × (Nat → Int32) × (Nat → Int32) × (Nat → Int32) × (Nat → Int32) × (Nat → Int32) × (Nat → Int64)) × Nat × Nat) :=
if ((Int32.ofNat Lx) - 6) < i4 then (
some ((1, y0_6, y0_7, y0_8, y1_1, m2, g_2, y3_1, m4, g_4, y5_1, m6, g_6, g_8, g_9, y10_2, y10_3, y11_1, y11_2, y12_2, y12_3, g_13, m14, g_14, y15_7, y15_8, y16_1, y16_2, y16_3, g_17, g_27, g_28, g_29, g_31, g_32, g_33, g_35, g_36, g_37, y38_3, y38_4, y38_5, y38_6, y38_7, y38_8, y38_9, y38_10, y38_11, y38_12, y38_13, y38_14, y38_15, y38_16, g_39, g_40, g_41, g_42, g_43, g_44, g_45, g_46, g_47, g_48, g_49), 0, 0))
else (
Ix i4 Lx <|
Lt ((xs (i4).toNatClampNeg) &&& 15) fun v171 =>
if v171 = 0 then (
Ix (i4 + 1) Lx <|
Ix (i4 + 2) Lx <|
Ix (i4 + 3) Lx <|
Ix (i4 + 4) Lx <|
Ix (i4 + 5) Lx <|
Bk (f_La_feed N y1_1 m2 g_2 m49 g_49 (xs (i4 + 1).toNatClampNeg) (xs (i4 + 2).toNatClampNeg) (xs (i4 + 3).toNatClampNeg) (xs (i4 + 4).toNatClampNeg) (xs (i4 + 5).toNatClampNeg)) fun r178 =>
Ix (i4 + 1) Lx <|
Ix (i4 + 2) Lx <|
Ix (i4 + 3) Lx <|
Ix (i4 + 4) Lx <|
Ix (i4 + 5) Lx <|
Bd (f_Mo_feed N y38_3 m39 g_39 (xs (i4 + 1).toNatClampNeg) (xs (i4 + 2).toNatClampNeg) (xs (i4 + 3).toNatClampNeg) (xs (i4 + 4).toNatClampNeg) (xs (i4 + 5).toNatClampNeg)) fun r185 =>
Bd (f_Mo_thrown N r185.2.2.1) fun r186 =>
if r186 = r178.1 then (
if r178.1 = 0 then (
Ix 0 m49 <|
if (lg_cmp (r178.2.2.2.2 (0 : Int32).toNatClampNeg) r185.1.toInt64) = 0 then (
Lt (i4 + 6) fun v192 =>
rec v192 y0_6 y0_7 y0_8 r178.2.1 r178.2.2.1 r178.2.2.2.1 y3_1 m4 g_4 y5_1 m6 g_6 g_8 g_9 y10_2 y10_3 y11_1 y11_2 y12_2 y12_3 g_13 m14 g_14 y15_7 y15_8 y16_1 y16_2 y16_3 g_17 g_27 g_28 g_29 g_31 g_32 g_33 g_35 g_36 g_37 r185.2.1 y38_4 y38_5 y38_6 y38_7 y38_8 y38_9 r185.2.2.1 y38_11 y38_12 y38_13 y38_14 y38_15 y38_16 r185.2.2.2 g_40 g_41 g_42 g_43 g_44 g_45 g_46 g_47 g_48 r178.2.2.2.2)
else (
some ((0, y0_6, y0_7, y0_8, r178.2.1, r178.2.2.1, r178.2.2.2.1, y3_1, m4, g_4, y5_1, m6, g_6, g_8, g_9, y10_2, y10_3, y11_1, y11_2, y12_2, y12_3, g_13, m14, g_14, y15_7, y15_8, y16_1, y16_2, y16_3, g_17, g_27, g_28, g_29, g_31, g_32, g_33, g_35, g_36, g_37, r185.2.1, y38_4, y38_5, y38_6, y38_7, y38_8, y38_9, r185.2.2.1, y38_11, y38_12, y38_13, y38_14, y38_15, y38_16, r185.2.2.2, g_40, g_41, g_42, g_43, g_44, g_45, g_46, g_47, g_48, r178.2.2.2.2), 0, 0)))
else (
Lt (i4 + 6) fun v189 =>
rec v189 y0_6 y0_7 y0_8 r178.2.1 r178.2.2.1 r178.2.2.2.1 y3_1 m4 g_4 y5_1 m6 g_6 g_8 g_9 y10_2 y10_3 y11_1 y11_2 y12_2 y12_3 g_13 m14 g_14 y15_7 y15_8 y16_1 y16_2 y16_3 g_17 g_27 g_28 g_29 g_31 g_32 g_33 g_35 g_36 g_37 r185.2.1 y38_4 y38_5 y38_6 y38_7 y38_8 y38_9 r185.2.2.1 y38_11 y38_12 y38_13 y38_14 y38_15 y38_16 r185.2.2.2 g_40 g_41 g_42 g_43 g_44 g_45 g_46 g_47 g_48 r178.2.2.2.2))
else (
some ((0, y0_6, y0_7, y0_8, r178.2.1, r178.2.2.1, r178.2.2.2.1, y3_1, m4, g_4, y5_1, m6, g_6, g_8, g_9, y10_2, y10_3, y11_1, y11_2, y12_2, y12_3, g_13, m14, g_14, y15_7, y15_8, y16_1, y16_2, y16_3, g_17, g_27, g_28, g_29, g_31, g_32, g_33, g_35, g_36, g_37, r185.2.1, y38_4, y38_5, y38_6, y38_7, y38_8, y38_9, r185.2.2.1, y38_11, y38_12, y38_13, y38_14, y38_15, y38_16, r185.2.2.2, g_40, g_41, g_42, g_43, g_44, g_45, g_46, g_47, g_48, r178.2.2.2.2), 0, 0)))
else if v171 = 1 then (
Ix (i4 + 1) Lx <|
Bk (f_La_end N y1_1 m49 g_49 (xs (i4 + 1).toNatClampNeg)) fun r195 =>
Ix (i4 + 1) Lx <|
Bd (f_Mo_end N y38_3 (xs (i4 + 1).toNatClampNeg)) fun r197 =>
Bd (f_Mo_thrown N r197.2.2) fun r198 =>
if r198 = r195.1 then (
if r195.1 = 0 then (
Ix 0 m49 <|
if (lg_cmp (r195.2.2 (0 : Int32).toNatClampNeg) r197.1.toInt64) = 0 then (
Lt (i4 + 6) fun v204 =>
rec v204 y0_6 y0_7 y0_8 r195.2.1 m2 g_2 y3_1 m4 g_4 y5_1 m6 g_6 g_8 g_9 y10_2 y10_3 y11_1 y11_2 y12_2 y12_3 g_13 m14 g_14 y15_7 y15_8 y16_1 y16_2 y16_3 g_17 g_27 g_28 g_29 g_31 g_32 g_33 g_35 g_36 g_37 r197.2.1 y38_4 y38_5 y38_6 y38_7 y38_8 y38_9 r197.2.2 y38_11 y38_12 y38_13 y38_14 y38_15 y38_16 g_39 g_40 g_41 g_42 g_43 g_44 g_45 g_46 g_47 g_48 r195.2.2)
else (
some ((0, y0_6, y0_7, y0_8, r195.2.1, m2, g_2, y3_1, m4, g_4, y5_1, m6, g_6, g_8, g_9, y10_2, y10_3, y11_1, y11_2, y12_2, y12_3, g_13, m14, g_14, y15_7, y15_8, y16_1, y16_2, y16_3, g_17, g_27, g_28, g_29, g_31, g_32, g_33, g_35, g_36, g_37, r197.2.1, y38_4, y38_5, y38_6, y38_7, y38_8, y38_9, r197.2.2, y38_11, y38_12, y38_13, y38_14, y38_15, y38_16, g_39, g_40, g_41, g_42, g_43, g_44, g_45, g_46, g_47, g_48, r195.2.2), 0, 0)))
else (
Lt (i4 + 6) fun v201 =>
rec v201 y0_6 y0_7 y0_8 r195.2.1 m2 g_2 y3_1 m4 g_4 y5_1 m6 g_6 g_8 g_9 y10_2 y10_3 y11_1 y11_2 y12_2 y12_3 g_13 m14 g_14 y15_7 y15_8 y16_1 y16_2 y16_3 g_17 g_27 g_28 g_29 g_31 g_32 g_33 g_35 g_36 g_37 r197.2.1 y38_4 y38_5 y38_6 y38_7 y38_8 y38_9 r197.2.2 y38_11 y38_12 y38_13 y38_14 y38_15 y38_16 g_39 g_40 g_41 g_42 g_43 g_44 g_45 g_46 g_47 g_48 r195.2.2))
else (
some ((0, y0_6, y0_7, y0_8, r195.2.1, m2, g_2, y3_1, m4, g_4, y5_1, m6, g_6, g_8, g_9, y10_2, y10_3, y11_1, y11_2, y12_2, y12_3, g_13, m14, g_14, y15_7, y15_8, y16_1, y16_2, y16_3, g_17, g_27, g_28, g_29, g_31, g_32, g_33, g_35, g_36, g_37, r197.2.1, y38_4, y38_5, y38_6, y38_7, y38_8, y38_9, r197.2.2, y38_11, y38_12, y38_13, y38_14, y38_15, y38_16, g_39, g_40, g_41, g_42, g_43, g_44, g_45, g_46, g_47, g_48, r195.2.2), 0, 0)))
else if v171 = 2 then (
Ix (i4 + 1) Lx <|
Ix (i4 + 2) Lx <|
Bk (f_La_change N y1_1 m2 g_2 (xs (i4 + 1).toNatClampNeg) (xs (i4 + 2).toNatClampNeg)) fun r208 =>
Ix (i4 + 1) Lx <|
Ix (i4 + 2) Lx <|
Bd (f_Mo_change N y38_3 m39 g_39 (xs (i4 + 1).toNatClampNeg) (xs (i4 + 2).toNatClampNeg)) fun r211 =>
Bd (f_Mo_thrown N r211.1) fun r212 =>
if r212 = r208.1 then (
Lt (i4 + 6) fun v214 =>
rec v214 y0_6 y0_7 y0_8 y1_1 m2 r208.2 y3_1 m4 g_4 y5_1 m6 g_6 g_8 g_9 y10_2 y10_3 y11_1 y11_2 y12_2 y12_3 g_13 m14 g_14 y15_7 y15_8 y16_1 y16_2 y16_3 g_17 g_27 g_28 g_29 g_31 g_32 g_33 g_35 g_36 g_37 y38_3 y38_4 y38_5 y38_6 y38_7 y38_8 y38_9 r211.1 y38_11 y38_12 y38_13 y38_14 y38_15 y38_16 r211.2 g_40 g_41 g_42 g_43 g_44 g_45 g_46 g_47 g_48 g_49)
else (
some ((0, y0_6, y0_7, y0_8, y1_1, m2, r208.2, y3_1, m4, g_4, y5_1, m6, g_6, g_8, g_9, y10_2, y10_3, y11_1, y11_2, y12_2, y12_3, g_13, m14, g_14, y15_7, y15_8, y16_1, y16_2, y16_3, g_17, g_27, g_28, g_29, g_31, g_32, g_33, g_35, g_36, g_37, y38_3, y38_4, y38_5, y38_6, y38_7, y38_8, y38_9, r211.1, y38_11, y38_12, y38_13, y38_14, y38_15, y38_16, r211.2, g_40, g_41, g_42, g_43, g_44, g_45, g_46, g_47, g_48, g_49), 0, 0)))
else if v171 = 3 then (
Bk (f_TP_press N y1_1 y3_1 m4 g_4 y12_2 y12_3 m13 g_13 m14 g_14 m2 g_2) fun r216 =>
Bd (f_Mo_press N y38_3 m40 g_40 m39 g_39) fun r219 =>
if r216.1 = r219.1 then (
Lt (i4 + 6) fun v221 =>
rec v221 y0_6 y0_7 y0_8 y1_1 m2 g_2 r216.2.1 r216.2.2.1 r216.2.2.2.1 y5_1 m6 g_6 g_8 g_9 r216.2.2.2.2.1 r216.2.2.2.2.2.1 r216.2.2.2.2.2.2.1 r216.2.2.2.2.2.2.2.1 r216.2.2.2.2.2.2.2.2.1 r216.2.2.2.2.2.2.2.2.2.1 r216.2.2.2.2.2.2.2.2.2.2.1 r216.2.2.2.2.2.2.2.2.2.2.2.1 r216.2.2.2.2.2.2.2.2.2.2.2.2 y15_7 y15_8 y16_1 y16_2 y16_3 g_17 g_27 g_28 g_29 g_31 g_32 g_33 g_35 g_36 g_37 y38_3 r219.2.1 r219.2.2.1 r219.2.2.2.1 y38_7 y38_8 y38_9 0 r219.2.2.2.2.1 y38_12 y38_13 y38_14 y38_15 y38_16 g_39 r219.2.2.2.2.2 g_41 g_42 g_43 g_44 g_45 g_46 g_47 g_48 g_49)
else (
some ((0, y0_6, y0_7, y0_8, y1_1, m2, g_2, r216.2.1, r216.2.2.1, r216.2.2.2.1, y5_1, m6, g_6, g_8, g_9, r216.2.2.2.2.1, r216.2.2.2.2.2.1, r216.2.2.2.2.2.2.1, r216.2.2.2.2.2.2.2.1, r216.2.2.2.2.2.2.2.2.1, r216.2.2.2.2.2.2.2.2.2.1, r216.2.2.2.2.2.2.2.2.2.2.1, r216.2.2.2.2.2.2.2.2.2.2.2.1, r216.2.2.2.2.2.2.2.2.2.2.2.2, y15_7, y15_8, y16_1, y16_2, y16_3, g_17, g_27, g_28, g_29, g_31, g_32, g_33, g_35, g_36, g_37, y38_3, r219.2.1, r219.2.2.1, r219.2.2.2.1, y38_7, y38_8, y38_9, 0, r219.2.2.2.2.1, y38_12, y38_13, y38_14, y38_15, y38_16, g_39, r219.2.2.2.2.2, g_41, g_42, g_43, g_44, g_45, g_46, g_47, g_48, g_49), 0, 0)))
else if v171 = 4 then (
Bk (f_La_open N y0_6 y0_7 y0_8 y3_1 m4 g_4 y5_1 m6 g_6 y1_1 m2 g_2 m19 g_19 m21 g_21 m23 g_23 m25 g_25 m17 g_17 m27 g_27 m28 g_28 m29 g_29 m31 g_31 m32 g_32 m33 g_33 m35 g_35 m36 g_36 m37 g_37 m49 g_49) fun r223 =>
Bd (f_Mo_open N y38_3 y38_4 y38_7 y38_8 y38_9 m39 g_39 m41 g_41 m42 g_42 m45 g_45 m46 g_46 m43 g_43 m44 g_44 m40 g_40) fun r228 =>
Bd (f_Mo_thrown N r228.2.2.2.2.2.1) fun r229 =>
if r229 = r223.1 then (
if r223.1 = 0 then (
Ix 0 m49 <|
if (lg_cmp (r223.2.2.2.2.2.2.2.2.2.2.2.2.2.2.2.2.2.2.2.2.2.2.2.2.2 (0 : Int32).toNatClampNeg) r228.1.toInt64) = 0 then (
Lt (i4 + 6) fun v235 =>
rec v235 r223.2.1 r223.2.2.1 r223.2.2.2.1 y1_1 m2 g_2 r223.2.2.2.2.1 r223.2.2.2.2.2.1 r223.2.2.2.2.2.2.1 r223.2.2.2.2.2.2.2.1 r223.2.2.2.2.2.2.2.2.1 r223.2.2.2.2.2.2.2.2.2.1 g_8 g_9 y10_2 y10_3 y11_1 y11_2 y12_2 y12_3 g_13 m14 g_14 r223.2.2.2.2.2.2.2.2.2.2.1 r223.2.2.2.2.2.2.2.2.2.2.2.1 r223.2.2.2.2.2.2.2.2.2.2.2.2.1 r223.2.2.2.2.2.2.2.2.2.2.2.2.2.1 r223.2.2.2.2.2.2.2.2.2.2.2.2.2.2.1 r223.2.2.2.2.2.2.2.2.2.2.2.2.2.2.2.1 r223.2.2.2.2.2.2.2.2.2.2.2.2.2.2.2.2.1 r223.2.2.2.2.2.2.2.2.2.2.2.2.2.2.2.2.2.1 r223.2.2.2.2.2.2.2.2.2.2.2.2.2.2.2.2.2.2.1 r223.2.2.2.2.2.2.2.2.2.2.2.2.2.2.2.2.2.2.2.1 r223.2.2.2.2.2.2.2.2.2.2.2.2.2.2.2.2.2.2.2.2.1 r223.2.2.2.2.2.2.2.2.2.2.2.2.2.2.2.2.2.2.2.2.2.1 r223.2.2.2.2.2.2.2.2.2.2.2.2.2.2.2.2.2.2.2.2.2.2.1 r223.2.2.2.2.2.2.2.2.2.2.2.2.2.2.2.2.2.2.2.2.2.2.2.1 r223.2.2.2.2.2.2.2.2.2.2.2.2.2.2.2.2.2.2.2.2.2.2.2.2.1 y38_3 r228.2.1 y38_5 y38_6 r228.2.2.1 r228.2.2.2.1 r228.2.2.2.2.1 r228.2.2.2.2.2.1 y38_11 r228.2.2.2.2.2.2.1 r228.2.2.2.2.2.2.2.1 r228.2.2.2.2.2.2.2.2.1 r228.2.2.2.2.2.2.2.2.2.1 r228.2.2.2.2.2.2.2.2.2.2.1 g_39 r228.2.2.2.2.2.2.2.2.2.2.2.2.2.2.2.2.2 r228.2.2.2.2.2.2.2.2.2.2.2.1 r228.2.2.2.2.2.2.2.2.2.2.2.2.1 r228.2.2.2.2.2.2.2.2.2.2.2.2.2.2.2.1 r228.2.2.2.2.2.2.2.2.2.2.2.2.2.2.2.2.1 r228.2.2.2.2.2.2.2.2.2.2.2.2.2.1 r228.2.2.2.2.2.2.2.2.2.2.2.2.2.2.1 g_47 g_48 r223.2.2.2.2.2.2.2.2.2.2.2.2.2.2.2.2.2.2.2.2.2.2.2.2.2)
else (
some ((0, r223.2.1, r223.2.2.1, r223.2.2.2.1, y1_1, m2, g_2, r223.2.2.2.2.1, r223.2.2.2.2.2.1, r223.2.2.2.2.2.2.1, r223.2.2.2.2.2.2.2.1, r223.2.2.2.2.2.2.2.2.1, r223.2.2.2.2.2.2.2.2.2.1, g_8, g_9, y10_2, y10_3, y11_1, y11_2, y12_2, y12_3, g_13, m14, g_14, r223.2.2.2.2.2.2.2.2.2.2.1, r223.2.2.2.2.2.2.2.2.2.2.2.1, r223.2.2.2.2.2.2.2.2.2.2.2.2.1, r223.2.2.2.2.2.2.2.2.2.2.2.2.2.1, r223.2.2.2.2.2.2.2.2.2.2.2.2.2.2.1, r223.2.2.2.2.2.2.2.2.2.2.2.2.2.2.2.1, r223.2.2.2.2.2.2.2.2.2.2.2.2.2.2.2.2.1, r223.2.2.2.2.2.2.2.2.2.2.2.2.2.2.2.2.2.1, r223.2.2.2.2.2.2.2.2.2.2.2.2.2.2.2.2.2.2.1, r223.2.2.2.2.2.2.2.2.2.2.2.2.2.2.2.2.2.2.2.1, r223.2.2.2.2.2.2.2.2.2.2.2.2.2.2.2.2.2.2.2.2.1, r223.2.2.2.2.2.2.2.2.2.2.2.2.2.2.2.2.2.2.2.2.2.1, r223.2.2.2.2.2.2.2.2.2.2.2.2.2.2.2.2.2.2.2.2.2.2.1, r223.2.2.2.2.2.2.2.2.2.2.2.2.2.2.2.2.2.2.2.2.2.2.2.1, r223.2.2.2.2.2.2.2.2.2.2.2.2.2.2.2.2.2.2.2.2.2.2.2.2.1, y38_3, r228.2.1, y38_5, y38_6, r228.2.2.1, r228.2.2.2.1, r228.2.2.2.2.1, r228.2.2.2.2.2.1, y38_11, r228.2.2.2.2.2.2.1, r228.2.2.2.2.2.2.2.1, r228.2.2.2.2.2.2.2.2.1, r228.2.2.2.2.2.2.2.2.2.1, r228.2.2.2.2.2.2.2.2.2.2.1, g_39, r228.2.2.2.2.2.2.2.2.2.2.2.2.2.2.2.2.2, r228.2.2.2.2.2.2.2.2.2.2.2.1, r228.2.2.2.2.2.2.2.2.2.2.2.2.1, r228.2.2.2.2.2.2.2.2.2.2.2.2.2.2.2.1, r228.2.2.2.2.2.2.2.2.2.2.2.2.2.2.2.2.1, r228.2.2.2.2.2.2.2.2.2.2.2.2.2.1, r228.2.2.2.2.2.2.2.2.2.2.2.2.2.2.1, g_47, g_48, r223.2.2.2.2.2.2.2.2.2.2.2.2.2.2.2.2.2.2.2.2.2.2.2.2.2), 0, 0)))
else (
Lt (i4 + 6) fun v232 =>
rec v232 r223.2.1 r223.2.2.1 r223.2.2.2.1 y1_1 m2 g_2 r223.2.2.2.2.1 r223.2.2.2.2.2.1 r223.2.2.2.2.2.2.1 r223.2.2.2.2.2.2.2.1 r223.2.2.2.2.2.2.2.2.1 r223.2.2.2.2.2.2.2.2.2.1 g_8 g_9 y10_2 y10_3 y11_1 y11_2 y12_2 y12_3 g_13 m14 g_14 r223.2.2.2.2.2.2.2.2.2.2.1 r223.2.2.2.2.2.2.2.2.2.2.2.1 r223.2.2.2.2.2.2.2.2.2.2.2.2.1 r223.2.2.2.2.2.2.2.2.2.2.2.2.2.1 r223.2.2.2.2.2.2.2.2.2.2.2.2.2.2.1 r223.2.2.2.2.2.2.2.2.2.2.2.2.2.2.2.1 r223.2.2.2.2.2.2.2.2.2.2.2.2.2.2.2.2.1 r223.2.2.2.2.2.2.2.2.2.2.2.2.2.2.2.2.2.1 r223.2.2.2.2.2.2.2.2.2.2.2.2.2.2.2.2.2.2.1 r223.2.2.2.2.2.2.2.2.2.2.2.2.2.2.2.2.2.2.2.1 r223.2.2.2.2.2.2.2.2.2.2.2.2.2.2.2.2.2.2.2.2.1 r223.2.2.2.2.2.2.2.2.2.2.2.2.2.2.2.2.2.2.2.2.2.1 r223.2.2.2.2.2.2.2.2.2.2.2.2.2.2.2.2.2.2.2.2.2.2.1 r223.2.2.2.2.2.2.2.2.2.2.2.2.2.2.2.2.2.2.2.2.2.2.2.1 r223.2.2.2.2.2.2.2.2.2.2.2.2.2.2.2.2.2.2.2.2.2.2.2.2.1 y38_3 r228.2.1 y38_5 y38_6 r228.2.2.1 r228.2.2.2.1 r228.2.2.2.2.1 r228.2.2.2.2.2.1 y38_11 r228.2.2.2.2.2.2.1 r228.2.2.2.2.2.2.2.1 r228.2.2.2.2.2.2.2.2.1 r228.2.2.2.2.2.2.2.2.2.1 r228.2.2.2.2.2.2.2.2.2.2.1 g_39 r228.2.2.2.2.2.2.2.2.2.2.2.2.2.2.2.2.2 r228.2.2.2.2.2.2.2.2.2.2.2.1 r228.2.2.2.2.2.2.2.2.2.2.2.2.1 r228.2.2.2.2.2.2.2.2.2.2.2.2.2.2.2.1 r228.2.2.2.2.2.2.2.2.2.2.2.2.2.2.2.2.1 r228.2.2.2.2.2.2.2.2.2.2.2.2.2.1 r228.2.2.2.2.2.2.2.2.2.2.2.2.2.2.1 g_47 g_48 r223.2.2.2.2.2.2.2.2.2.2.2.2.2.2.2.2.2.2.2.2.2.2.2.2.2))
else (
some ((0, r223.2.1, r223.2.2.1, r223.2.2.2.1, y1_1, m2, g_2, r223.2.2.2.2.1, r223.2.2.2.2.2.1, r223.2.2.2.2.2.2.1, r223.2.2.2.2.2.2.2.1, r223.2.2.2.2.2.2.2.2.1, r223.2.2.2.2.2.2.2.2.2.1, g_8, g_9, y10_2, y10_3, y11_1, y11_2, y12_2, y12_3, g_13, m14, g_14, r223.2.2.2.2.2.2.2.2.2.2.1, r223.2.2.2.2.2.2.2.2.2.2.2.1, r223.2.2.2.2.2.2.2.2.2.2.2.2.1, r223.2.2.2.2.2.2.2.2.2.2.2.2.2.1, r223.2.2.2.2.2.2.2.2.2.2.2.2.2.2.1, r223.2.2.2.2.2.2.2.2.2.2.2.2.2.2.2.1, r223.2.2.2.2.2.2.2.2.2.2.2.2.2.2.2.2.1, r223.2.2.2.2.2.2.2.2.2.2.2.2.2.2.2.2.2.1, r223.2.2.2.2.2.2.2.2.2.2.2.2.2.2.2.2.2.2.1, r223.2.2.2.2.2.2.2.2.2.2.2.2.2.2.2.2.2.2.2.1, r223.2.2.2.2.2.2.2.2.2.2.2.2.2.2.2.2.2.2.2.2.1, r223.2.2.2.2.2.2.2.2.2.2.2.2.2.2.2.2.2.2.2.2.2.1, r223.2.2.2.2.2.2.2.2.2.2.2.2.2.2.2.2.2.2.2.2.2.2.1, r223.2.2.2.2.2.2.2.2.2.2.2.2.2.2.2.2.2.2.2.2.2.2.2.1, r223.2.2.2.2.2.2.2.2.2.2.2.2.2.2.2.2.2.2.2.2.2.2.2.2.1, y38_3, r228.2.1, y38_5, y38_6, r228.2.2.1, r228.2.2.2.1, r228.2.2.2.2.1, r228.2.2.2.2.2.1, y38_11, r228.2.2.2.2.2.2.1, r228.2.2.2.2.2.2.2.1, r228.2.2.2.2.2.2.2.2.1, r228.2.2.2.2.2.2.2.2.2.1, r228.2.2.2.2.2.2.2.2.2.2.1, g_39, r228.2.2.2.2.2.2.2.2.2.2.2.2.2.2.2.2.2, r228.2.2.2.2.2.2.2.2.2.2.2.1, r228.2.2.2.2.2.2.2.2.2.2.2.2.1, r228.2.2.2.2.2.2.2.2.2.2.2.2.2.2.2.1, r228.2.2.2.2.2.2.2.2.2.2.2.2.2.2.2.2.1, r228.2.2.2.2.2.2.2.2.2.2.2.2.2.1, r228.2.2.2.2.2.2.2.2.2.2.2.2.2.2.1, g_47, g_48, r223.2.2.2.2.2.2.2.2.2.2.2.2.2.2.2.2.2.2.2.2.2.2.2.2.2), 0, 0)))
else if v171 = 5 then (
Bk (f_La_turn N y3_1 y1_1 m2 g_2 m4 g_4 m49 g_49) fun r237 =>
Bd (f_Mo_turn N y38_3 y38_4 m40 g_40 m39 g_39) fun r239 =>
Bd (f_Mo_thrown N r239.2.2.1) fun r240 =>
if r240 = r237.1 then (
if r237.1 = 0 then (
Ix 0 m49 <|
if (lg_cmp (r237.2.2.2.2 (0 : Int32).toNatClampNeg) r239.1.toInt64) = 0 then (
Lt (i4 + 6) fun v246 =>
rec v246 y0_6 y0_7 y0_8 r237.2.1 r237.2.2.1 r237.2.2.2.1 y3_1 m4 g_4 y5_1 m6 g_6 g_8 g_9 y10_2 y10_3 y11_1 y11_2 y12_2 y12_3 g_13 m14 g_14 y15_7 y15_8 y16_1 y16_2 y16_3 g_17 g_27 g_28 g_29 g_31 g_32 g_33 g_35 g_36 g_37 r239.2.1 y38_4 y38_5 y38_6 y38_7 y38_8 y38_9 r239.2.2.1 y38_11 y38_12 y38_13 y38_14 y38_15 y38_16 r239.2.2.2 g_40 g_41 g_42 g_43 g_44 g_45 g_46 g_47 g_48 r237.2.2.2.2)
else (
some ((0, y0_6, y0_7, y0_8, r237.2.1, r237.2.2.1, r237.2.2.2.1, y3_1, m4, g_4, y5_1, m6, g_6, g_8, g_9, y10_2, y10_3, y11_1, y11_2, y12_2, y12_3, g_13, m14, g_14, y15_7, y15_8, y16_1, y16_2, y16_3, g_17, g_27, g_28, g_29, g_31, g_32, g_33, g_35, g_36, g_37, r239.2.1, y38_4, y38_5, y38_6, y38_7, y38_8, y38_9, r239.2.2.1, y38_11, y38_12, y38_13, y38_14, y38_15, y38_16, r239.2.2.2, g_40, g_41, g_42, g_43, g_44, g_45, g_46, g_47, g_48, r237.2.2.2.2), 0, 0)))
else (
Lt (i4 + 6) fun v243 =>
rec v243 y0_6 y0_7 y0_8 r237.2.1 r237.2.2.1 r237.2.2.2.1 y3_1 m4 g_4 y5_1 m6 g_6 g_8 g_9 y10_2 y10_3 y11_1 y11_2 y12_2 y12_3 g_13 m14 g_14 y15_7 y15_8 y16_1 y16_2 y16_3 g_17 g_27 g_28 g_29 g_31 g_32 g_33 g_35 g_36 g_37 r239.2.1 y38_4 y38_5 y38_6 y38_7 y38_8 y38_9 r239.2.2.1 y38_11 y38_12 y38_13 y38_14 y38_15 y38_16 r239.2.2.2 g_40 g_41 g_42 g_43 g_44 g_45 g_46 g_47 g_48 r237.2.2.2.2))
else (
some ((0, y0_6, y0_7, y0_8, r237.2.1, r237.2.2.1, r237.2.2.2.1, y3_1, m4, g_4, y5_1, m6, g_6, g_8, g_9, y10_2, y10_3, y11_1, y11_2, y12_2, y12_3, g_13, m14, g_14, y15_7, y15_8, y16_1, y16_2, y16_3, g_17, g_27, g_28, g_29, g_31, g_32, g_33, g_35, g_36, g_37, r239.2.1, y38_4, y38_5, y38_6, y38_7, y38_8, y38_9, r239.2.2.1, y38_11, y38_12, y38_13, y38_14, y38_15, y38_16, r239.2.2.2, g_40, g_41, g_42, g_43, g_44, g_45, g_46, g_47, g_48, r237.2.2.2.2), 0, 0)))
else if v171 = 6 then (
Ix (i4 + 1) Lx <|
Bk (f_La_hash N m9 g_9 y1_1 m2 g_2 m8 g_8 m49 g_49 (xs (i4 + 1).toNatClampNeg)) fun r249 =>
Ix (i4 + 1) Lx <|
Bd (f_Mo_hash N y38_3 m48 g_48 m39 g_39 m47 g_47 (xs (i4 + 1).toNatClampNeg)) fun r251 =>
Bd (f_Mo_thrown N r251.2.1) fun r252 =>
if r252 = r249.1 then (
if r249.1 = 0 then (
Ix 0 m49 <|
if (lg_cmp (r249.2.2.2 (0 : Int32).toNatClampNeg) r251.1) = 0 then (
Lt (i4 + 6) fun v258 =>
rec v258 y0_6 y0_7 y0_8 y1_1 m2 g_2 y3_1 m4 g_4 y5_1 m6 g_6 r249.2.2.1 r249.2.1 y10_2 y10_3 y11_1 y11_2 y12_2 y12_3 g_13 m14 g_14 y15_7 y15_8 y16_1 y16_2 y16_3 g_17 g_27 g_28 g_29 g_31 g_32 g_33 g_35 g_36 g_37 y38_3 y38_4 y38_5 y38_6 y38_7 y38_8 y38_9 r251.2.1 y38_11 y38_12 y38_13 y38_14 y38_15 y38_16 g_39 g_40 g_41 g_42 g_43 g_44 g_45 g_46 r251.2.2.2 r251.2.2.1 r249.2.2.2)
else (
some ((0, y0_6, y0_7, y0_8, y1_1, m2, g_2, y3_1, m4, g_4, y5_1, m6, g_6, r249.2.2.1, r249.2.1, y10_2, y10_3, y11_1, y11_2, y12_2, y12_3, g_13, m14, g_14, y15_7, y15_8, y16_1, y16_2, y16_3, g_17, g_27, g_28, g_29, g_31, g_32, g_33, g_35, g_36, g_37, y38_3, y38_4, y38_5, y38_6, y38_7, y38_8, y38_9, r251.2.1, y38_11, y38_12, y38_13, y38_14, y38_15, y38_16, g_39, g_40, g_41, g_42, g_43, g_44, g_45, g_46, r251.2.2.2, r251.2.2.1, r249.2.2.2), 0, 0)))
else (
Lt (i4 + 6) fun v255 =>
rec v255 y0_6 y0_7 y0_8 y1_1 m2 g_2 y3_1 m4 g_4 y5_1 m6 g_6 r249.2.2.1 r249.2.1 y10_2 y10_3 y11_1 y11_2 y12_2 y12_3 g_13 m14 g_14 y15_7 y15_8 y16_1 y16_2 y16_3 g_17 g_27 g_28 g_29 g_31 g_32 g_33 g_35 g_36 g_37 y38_3 y38_4 y38_5 y38_6 y38_7 y38_8 y38_9 r251.2.1 y38_11 y38_12 y38_13 y38_14 y38_15 y38_16 g_39 g_40 g_41 g_42 g_43 g_44 g_45 g_46 r251.2.2.2 r251.2.2.1 r249.2.2.2))
else (
some ((0, y0_6, y0_7, y0_8, y1_1, m2, g_2, y3_1, m4, g_4, y5_1, m6, g_6, r249.2.2.1, r249.2.1, y10_2, y10_3, y11_1, y11_2, y12_2, y12_3, g_13, m14, g_14, y15_7, y15_8, y16_1, y16_2, y16_3, g_17, g_27, g_28, g_29, g_31, g_32, g_33, g_35, g_36, g_37, y38_3, y38_4, y38_5, y38_6, y38_7, y38_8, y38_9, r251.2.1, y38_11, y38_12, y38_13, y38_14, y38_15, y38_16, g_39, g_40, g_41, g_42, g_43, g_44, g_45, g_46, r251.2.2.2, r251.2.2.1, r249.2.2.2), 0, 0)))
else if v171 = 7 then (
Ix (i4 + 1) Lx <|
Bk (f_La_letter N y3_1 m4 g_4 m49 g_49 (xs (i4 + 1).toNatClampNeg)) fun r261 =>
Ix (i4 + 1) Lx <|
Bd (f_Mo_letter N y38_4 m40 g_40 (xs (i4 + 1).toNatClampNeg)) fun r263 =>
Bd (f_Mo_thrown N r263.2) fun r264 =>
if r264 = r261.1 then (
if r261.1 = 0 then (
Ix 0 m49 <|
if (lg_cmp (r261.2 (0 : Int32).toNatClampNeg) r263.1.toInt64) = 0 then (
Lt (i4 + 6) fun v270 =>
rec v270 y0_6 y0_7 y0_8 y1_1 m2 g_2 y3_1 m4 g_4 y5_1 m6 g_6 g_8 g_9 y10_2 y10_3 y11_1 y11_2 y12_2 y12_3 g_13 m14 g_14 y15_7 y15_8 y16_1 y16_2 y16_3 g_17 g_27 g_28 g_29 g_31 g_32 g_33 g_35 g_36 g_37 y38_3 y38_4 y38_5 y38_6 y38_7 y38_8 y38_9 r263.2 y38_11 y38_12 y38_13 y38_14 y38_15 y38_16 g_39 g_40 g_41 g_42 g_43 g_44 g_45 g_46 g_47 g_48 r261.2)
else (
some ((0, y0_6, y0_7, y0_8, y1_1, m2, g_2, y3_1, m4, g_4, y5_1, m6, g_6, g_8, g_9, y10_2, y10_3, y11_1, y11_2, y12_2, y12_3, g_13, m14, g_14, y15_7, y15_8, y16_1, y16_2, y16_3, g_17, g_27, g_28, g_29, g_31, g_32, g_33, g_35, g_36, g_37, y38_3, y38_4, y38_5, y38_6, y38_7, y38_8, y38_9, r263.2, y38_11, y38_12, y38_13, y38_14, y38_15, y38_16, g_39, g_40, g_41, g_42, g_43, g_44, g_45, g_46, g_47, g_48, r261.2), 0, 0)))
else (
Lt (i4 + 6) fun v267 =>
rec v267 y0_6 y0_7 y0_8 y1_1 m2 g_2 y3_1 m4 g_4 y5_1 m6 g_6 g_8 g_9 y10_2 y10_3 y11_1 y11_2 y12_2 y12_3 g_13 m14 g_14 y15_7 y15_8 y16_1 y16_2 y16_3 g_17 g_27 g_28 g_29 g_31 g_32 g_33 g_35 g_36 g_37 y38_3 y38_4 y38_5 y38_6 y38_7 y38_8 y38_9 r263.2 y38_11 y38_12 y38_13 y38_14 y38_15 y38_16 g_39 g_40 g_41 g_42 g_43 g_44 g_45 g_46 g_47 g_48 r261.2))
else (
some ((0, y0_6, y0_7, y0_8, y1_1, m2, g_2, y3_1, m4, g_4, y5_1, m6, g_6, g_8, g_9, y10_2, y10_3, y11_1, y11_2, y12_2, y12_3, g_13, m14, g_14, y15_7, y15_8, y16_1, y16_2, y16_3, g_17, g_27, g_28, g_29, g_31, g_32, g_33, g_35, g_36, g_37, y38_3, y38_4, y38_5, y38_6, y38_7, y38_8, y38_9, r263.2, y38_11, y38_12, y38_13, y38_14, y38_15, y38_16, g_39, g_40, g_41, g_42, g_43, g_44, g_45, g_46, g_47, g_48, r261.2), 0, 0)))
else if v171 = 8 then (
Ix (i4 + 1) Lx <|
Bd (f_TP_count N y0_6 y0_7 y0_8 y1_1 y3_1 y10_2 y10_3 (xs (i4 + 1).toNatClampNeg)) fun r273 =>
Ix (i4 + 1) Lx <|
Bd (f_Mo_count N y38_3 y38_4 y38_5 y38_6 y38_7 y38_8 y38_9 (xs (i4 + 1).toNatClampNeg)) fun r275 =>
if r273 = r275 then (
Lt (i4 + 6) fun v277 =>
rec v277 y0_6 y0_7 y0_8 y1_1 m2 g_2 y3_1 m4 g_4 y5_1 m6 g_6 g_8 g_9 y10_2 y10_3 y11_1 y11_2 y12_2 y12_3 g_13 m14 g_14 y15_7 y15_8 y16_1 y16_2 y16_3 g_17 g_27 g_28 g_29 g_31 g_32 g_33 g_35 g_36 g_37 y38_3 y38_4 y38_5 y38_6 y38_7 y38_8 y38_9 0 y38_11 y38_12 y38_13 y38_14 y38_15 y38_16 g_39 g_40 g_41 g_42 g_43 g_44 g_45 g_46 g_47 g_48 g_49)
else (
some ((0, y0_6, y0_7, y0_8, y1_1, m2, g_2, y3_1, m4, g_4, y5_1, m6, g_6, g_8, g_9, y10_2, y10_3, y11_1, y11_2, y12_2, y12_3, g_13, m14, g_14, y15_7, y15_8, y16_1, y16_2, y16_3, g_17, g_27, g_28, g_29, g_31, g_32, g_33, g_35, g_36, g_37, y38_3, y38_4, y38_5, y38_6, y38_7, y38_8, y38_9, 0, y38_11, y38_12, y38_13, y38_14, y38_15, y38_16, g_39, g_40, g_41, g_42, g_43, g_44, g_45, g_46, g_47, g_48, g_49), 0, 0)))
else (
Lt (i4 + 6) fun v278 =>
rec v278 y0_6 y0_7 y0_8 y1_1 m2 g_2 y3_1 m4 g_4 y5_1 m6 g_6 g_8 g_9 y10_2 y10_3 y11_1 y11_2 y12_2 y12_3 g_13 m14 g_14 y15_7 y15_8 y16_1 y16_2 y16_3 g_17 g_27 g_28 g_29 g_31 g_32 g_33 g_35 g_36 g_37 y38_3 y38_4 y38_5 y38_6 y38_7 y38_8 y38_9 y38_10 y38_11 y38_12 y38_13 y38_14 y38_15 y38_16 g_39 g_40 g_41 g_42 g_43 g_44 g_45 g_46 g_47 g_48 g_49))
noncomputable def lp_La_law_23 (N : Nat) (Lx : Nat) (xs : (Nat → Int32)) (m8 : Nat) (m9 : Nat) (m13 : Nat) (m17 : Nat) (m19 : Nat) (g_19 : (Nat → Int32)) (m21 : Nat) (g_21 : (Nat → Int32)) (m23 : Nat) (g_23 : (Nat → Int32)) (m25 : Nat) (g_25 : (Nat → Int32)) (m27 : Nat) (m28 : Nat) (m29 : Nat) (m31 : Nat) (m32 : Nat) (m33 : Nat) (m35 : Nat) (m36 : Nat) (m37 : Nat) (m39 : Nat) (m40 : Nat) (m41 : Nat) (m42 : Nat) (m43 : Nat) (m44 : Nat) (m45 : Nat) (m46 : Nat) (m47 : Nat) (m48 : Nat) (m49 : Nat) (n : Nat) : Int32 → Int32 → Int32 → Int32 → Int32 → Nat → (Nat → Int32) → Int32 → Nat → (Nat → Int32) → Int32 → Nat → (Nat → Int32) → (Nat → Int32) → (Nat → Int32) → Int32 → Int32 → Int32 → Int32 → Int32 → Int32 → (Nat → Int32) → Nat → (Nat → Int32) → Int32 → Int32 → Int32 → Int32 → Int32 → (Nat → Int32) → (Nat → Int32) → (Nat → Int32) → (Nat → Int32) → (Nat → Int32) → (Nat → Int32) → (Nat → Int32) → (Nat → Int32) → (Nat → Int32) → (Nat → Int32) → Int32 → Int32 → Int32 → Int32 → Int32 → Int32 → Int32 → Int32 → Int32 → Int32 → Int32 → Int32 → Int32 → Int32 → (Nat → Int32) → (Nat → Int32) → (Nat → Int32) → (Nat → Int32) → (Nat → Int32) → (Nat → Int32) → (Nat → Int32) → (Nat → Int32) → (Nat → Int32) → (Nat → Int32) → (Nat → Int64) → Option ((Nat × Int32 × Int32 × Int32 × Int32 × Nat × (Nat → Int32) × Int32 × Nat × (Nat → Int32) × Int32 × Nat × (Nat → Int32) × (Nat → Int32) × (Nat → Int32) × Int32 × Int32 × Int32 × Int32 × Int32 × Int32 × (Nat → Int32) × Nat × (Nat → Int32) × Int32 × Int32 × Int32 × Int32 × Int32 × (Nat → Int32) × (Nat → Int32) × (Nat → Int32) × (Nat → Int32) × (Nat → Int32) × (Nat → Int32) × (Nat → Int32) × (Nat → Int32) × (Nat → Int32) × (Nat → Int32) × Int32 × Int32 × Int32 × Int32 × Int32 × Int32 × Int32 × Int32 × Int32 × Int32 × Int32 × Int32 × Int32 × Int32 × (Nat → Int32) × (Nat → Int32) × (Nat → Int32) × (Nat → Int32) × (Nat → Int32) × (Nat → Int32) × (Nat → Int32) × (Nat → Int32) × (Nat → Int32) × (Nat → Int32) × (Nat → Int64)) × Nat × Nat) := Nat.rec (motive := fun _ => Int32 → Int32 → Int32 → Int32 → Int32 → Nat → (Nat → Int32) → Int32 → Nat → (Nat → Int32) → Int32 → Nat → (Nat → Int32) → (Nat → Int32) → (Nat → Int32) → Int32 → Int32 → Int32 → Int32 → Int32 → Int32 → (Nat → Int32) → Nat → (Nat → Int32) → Int32 → Int32 → Int32 → Int32 → Int32 → (Nat → Int32) → (Nat → Int32) → (Nat → Int32) → (Nat → Int32) → (Nat → Int32) → (Nat → Int32) → (Nat → Int32) → (Nat → Int32) → (Nat → Int32) → (Nat → Int32) → Int32 → Int32 → Int32 → Int32 → Int32 → Int32 → Int32 → Int32 → Int32 → Int32 → Int32 → Int32 → Int32 → Int32 → (Nat → Int32) → (Nat → Int32) → (Nat → Int32) → (Nat → Int32) → (Nat → Int32) → (Nat → Int32) → (Nat → Int32) → (Nat → Int32) → (Nat → Int32) → (Nat → Int32) → (Nat → Int64) → Option ((Nat × Int32 × Int32 × Int32 × Int32 × Nat × (Nat → Int32) × Int32 × Nat × (Nat → Int32) × Int32 × Nat × (Nat → Int32) × (Nat → Int32) × (Nat → Int32) × Int32 × Int32 × Int32 × Int32 × Int32 × Int32 × (Nat → Int32) × Nat × (Nat → Int32) × Int32 × Int32 × Int32 × Int32 × Int32 × (Nat → Int32) × (Nat → Int32) × (Nat → Int32) × (Nat → Int32) × (Nat → Int32) × (Nat → Int32) × (Nat → Int32) × (Nat → Int32) × (Nat → Int32) × (Nat → Int32) × Int32 × Int32 × Int32 × Int32 × Int32 × Int32 × Int32 × Int32 × Int32 × Int32 × Int32 × Int32 × Int32 × Int32 × (Nat → Int32) × (Nat → Int32) × (Nat → Int32) × (Nat → Int32) × (Nat → Int32) × (Nat → Int32) × (Nat → Int32) × (Nat → Int32) × (Nat → Int32) × (Nat → Int32) × (Nat → Int64)) × Nat × Nat)) (fun _ _ _ _ _ _ _ _ _ _ _ _ _ _ _ _ _ _ _ _ _ _ _ _ _ _ _ _ _ _ _ _ _ _ _ _ _ _ _ _ _ _ _ _ _ _ _ _ _ _ _ _ _ _ _ _ _ _ _ _ _ _ _ _ => none) (fun _ ih => lb_La_law_23 N Lx xs m8 m9 m13 m17 m19 g_19 m21 g_21 m23 g_23 m25 g_25 m27 m28 m29 m31 m32 m33 m35 m36 m37 m39 m40 m41 m42 m43 m44 m45 m46 m47 m48 m49 ih) n
noncomputable def f_La_law (N Lx : Nat) (xs : Nat → Int32) : Option (Int32 × Nat × Nat) :=
Ak 9 <|
Bk (f_TP_init N) fun r3 =>
Ak 24 <|
Bk (f_Mo_init N) fun r46 =>
Ak 1 <|
Bk (lp_La_law_23 N Lx xs 80 5 4096 316 16 r3.2.1 r3.2.2.2.1 r3.2.2.2.2.1 16 r3.2.2.2.2.2.1 r3.2.2.2.2.2.2.2.1 r3.2.2.2.2.2.2.2.2.1 16 16 r3.2.2.2.2.2.2.2.2.2.1 16 16 r3.2.2.2.2.2.2.2.2.2.2.1 16 16 r3.2.2.2.2.2.2.2.2.2.2.2 65536 74000 65536 340 340 320 17 17 80 5 1 N 0 0 0 0 0 64 ((fun _ => 0)) 0 64 ((fun _ => 0)) 0 64 ((fun _ => 0)) ((fun _ => 0)) ((fun _ => 0)) 0 0 0 0 0 0 ((fun _ => 0)) 64 ((fun _ => 0)) 0 0 0 0 0 r3.1 ((fun _ => 0)) ((fun _ => 0)) ((fun _ => 0)) ((fun _ => 0)) ((fun _ => 0)) ((fun _ => 0)) ((fun _ => 0)) ((fun _ => 0)) ((fun _ => 0)) 0 0 0 0 0 0 0 0 0 0 0 0 0 0 ((fun _ => 0)) ((fun _ => 0)) ((fun _ => 0)) ((fun _ => 0)) ((fun _ => 0)) ((fun _ => 0)) ((fun _ => 0)) ((fun _ => 0)) ((fun _ => 0)) ((fun _ => 0)) ((fun _ => 0))) fun r279 =>
if r279.1 = 0 then (
some (0, 0, 0))
else (
some (1, 0, 0))
