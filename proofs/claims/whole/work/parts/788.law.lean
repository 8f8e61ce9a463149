/-! the law comes to its end with true, in the room that the claim gives (ours) -/
theorem law_pure (L : Nat) (xs : Nat → Int32) (hL : L ≤ 3072) : ∃ K Z : Nat, f_Lw NF L xs = some (1, K, Z) ∧ K ≤ 601024 ∧ Z ≤ 7293034 := by
  obtain ⟨g, nl, stl, sl, nd, std, sd, eU, hC, hD⟩ := Un_init
  have kR : f_Row_init NF = some ((), 1 + 0, 64 + 0) := Ak_s rfl
  have kS : f_Sha_init NF = some ((), 1 + (1 + 0), 80 + (5 + 0)) := Ak_s (Ak_s rfl)
  have kBW : f_BW_init NF = some ((), 1 + (1 + 0 + 0), 2 + (64 + 0 + 0)) := Ak_s (Bk_s kR rfl)
  have kFi : f_Fi_init NF = some ((), 1 + (1 + 0), 4096 + (64 + 0)) := Ak_s (Ak_s rfl)
  have kPr : f_Pr_init NF = some ((), 1 + (1 + (1 + 0 + 0) + (1 + (1 + (1 + 0) + 0))), 3 + (2 + (64 + 0 + 0) + (4 + (4096 + (64 + 0) + 0)))) := Ak_s (Bk_s kBW (Ak_s (Bk_s kFi rfl)))
  have kTP : f_TP_init NF = some ((g, nl, stl, 288, sl, nd, std, 32, sd, 19, 286, 30), 40, 5681) := by
    unfold f_TP_init
    rw [kR, kS, kPr, eU]
    rfl
  have kMo : f_Mo_init NF = some ((), 10, 206191) := by
    unfold f_Mo_init
    rfl
  have hG := law_loop (xs := xs) hC hD hL 512 0 NF (by omega) (by decide) (Or.inl rfl)
  have hz0 : sb_Fit (fun _ : Nat => (0 : Int32)) := sb_fit0
  have hR0 : Rw 64 (fun _ => 0) [] := ⟨by show 0 ≤ 64; omega, by omega, by omega, hz0, fun i hi => absurd hi (Nat.not_lt_zero _)⟩
  have hM0 : Md (fun _ => 0) [] := ⟨hz0, fun i hi => absurd hi (Nat.not_lt_zero _)⟩
  obtain ⟨k, z, er, hk, hz⟩ := hG (mkS (0) (0) (0) (0) (64) (fun _ => 0) (0) (64) (fun _ => 0) (0) (64) (fun _ => 0) (fun _ => 0) (fun _ => 0) (0) (0) (0) (0) (0) (0) (fun _ => 0) (64) (fun _ => 0) (0) (0) (0) (0) (0) (g) (fun _ => 0) (fun _ => 0) (fun _ => 0) (fun _ => 0) (fun _ => 0) (fun _ => 0) (fun _ => 0) (fun _ => 0) (fun _ => 0) (0) (0) (0) (0) (0) (0) (0) (0) (0) (0) (0) (0) (0) (0) (fun _ => 0) (fun _ => 0) (fun _ => 0) (fun _ => 0) (fun _ => 0) (fun _ => 0) (fun _ => 0) (fun _ => 0) (fun _ => 0) (fun _ => 0) (fun _ => 0)) ⟨[], [], [], 0, 0, 0, rfl, hR0, by show 0 ≤ 65536; omega, rfl, hR0, rfl, hR0, by show 64 ≤ 64; omega, by show 64 ≤ 65536; omega, rfl, rfl, rfl, rfl, rfl, rfl, rfl, rfl, rfl, hM0, rfl, hM0, hz0⟩
  have hk : k ≤ 512 + (kap 64 + kap 64 + kap 64 + kap2 64) := hk
  have hz : z ≤ 6 * 512 + (phi 64 + phi 64 + phi 64 + phi2 64) := hz
  have v1 : kap 64 = 73672 := rfl
  have v2 : kap2 64 = 65472 := rfl
  have v3 : phi 64 = 221080 := rfl
  have v4 : phi2 64 = 196480 := rfl
  rw [v1, v2] at hk
  rw [v3, v4] at hz
  have er : lp_Lw NF L xs 80 5 4096 316 16 nl 288 sl 16 nd 32 sd 16 16 19 16 16 286 16 16 30 65536 74000 65536 340 340 320 17 17 80 5 1 NF 0 0 0 0 0 64 (fun _ => 0) 0 64 (fun _ => 0) 0 64 (fun _ => 0) (fun _ => 0) (fun _ => 0) 0 0 0 0 0 0 (fun _ => 0) 64 (fun _ => 0) 0 0 0 0 0 g (fun _ => 0) (fun _ => 0) (fun _ => 0) (fun _ => 0) (fun _ => 0) (fun _ => 0) (fun _ => 0) (fun _ => 0) (fun _ => 0) 0 0 0 0 0 0 0 0 0 0 0 0 0 0 (fun _ => 0) (fun _ => 0) (fun _ => 0) (fun _ => 0) (fun _ => 0) (fun _ => 0) (fun _ => 0) (fun _ => 0) (fun _ => 0) (fun _ => 0) (fun _ => 0) = some (0, k, z) := er
  refine ⟨1 + (40 + (1 + (10 + (1 + (k + 0))))), 9 + (5681 + (24 + (206191 + (1 + (z + 0))))), ?_, by omega, by omega⟩
  unfold f_Lw
  refine Ak_s ?_
  refine Bk_s kTP ?_
  refine Ak_s ?_
  refine Bk_s kMo ?_
  refine Ak_s ?_
  refine Bk_s er ?_
  rfl
