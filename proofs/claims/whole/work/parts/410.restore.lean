/-! restore -/
def rs (S : St) (a n1 n2 n3 : Nat) : St := fun k j => if 2 ≤ k ∧ k ≤ 5 ∧ j < n1 then S 16 (a + 5 * (k - 2) + j) else if k = 6 ∧ j < n2 then S 16 (a + 20 + j) else if k = 7 ∧ j < n3 then S 16 (a + 44 + j) else S k j
theorem rs_0 (S : St) (a : Nat) : rs S a 0 0 0 = S := by
  funext k j; unfold rs; rw [if_neg (by omega), if_neg (by omega), if_neg (by omega)]
theorem rs_16 {S : St} {a n1 n2 n3 k j : Nat} (h : k < 2 ∨ 7 < k) : rs S a n1 n2 n3 k j = S k j := by
  unfold rs; rw [if_neg (by omega), if_neg (by omega), if_neg (by omega)]
theorem rs_step1 {S : St} {a i : Nat} : sto (sto (sto (sto (rs S a i 0 0) 2 i (S 16 (a + i))) 3 i (S 16 (a + 5 + i))) 4 i (S 16 (a + 10 + i))) 5 i (S 16 (a + 15 + i)) = rs S a (i + 1) 0 0 := by
  funext k j
  simp only [sto_at]
  unfold rs
  by_cases hj : j = i
  · subst hj
    by_cases k5 : k = 5
    · subst k5; rw [if_pos ⟨rfl, rfl⟩, if_pos (by omega)]
    · rw [if_neg (fun q => k5 q.1)]
      by_cases k4 : k = 4
      · subst k4; rw [if_pos ⟨rfl, rfl⟩, if_pos (by omega)]
      · rw [if_neg (fun q => k4 q.1)]
        by_cases k3 : k = 3
        · subst k3; rw [if_pos ⟨rfl, rfl⟩, if_pos (by omega)]
        · rw [if_neg (fun q => k3 q.1)]
          by_cases k2 : k = 2
          · subst k2; rw [if_pos ⟨rfl, rfl⟩, if_pos (by omega)]; rfl
          · rw [if_neg (fun q => k2 q.1)]
            repeat (rw [if_neg (by omega)])
  · rw [if_neg (fun q => hj q.2), if_neg (fun q => hj q.2), if_neg (fun q => hj q.2), if_neg (fun q => hj q.2)]
    by_cases c : 2 ≤ k ∧ k ≤ 5 ∧ j < i
    · rw [if_pos c, if_pos (by omega)]
    · rw [if_neg c]
      repeat (rw [if_neg (by omega)])
theorem rs_step2 {S : St} {a i : Nat} : sto (rs S a 5 i 0) 6 i (S 16 (a + 20 + i)) = rs S a 5 (i + 1) 0 := by
  funext k j
  rw [sto_at]
  unfold rs
  by_cases e : k = 6 ∧ j = i
  · rw [if_pos e, if_neg (by omega), if_pos (by omega), e.2]
  · rw [if_neg e]
    by_cases c : 2 ≤ k ∧ k ≤ 5 ∧ j < 5
    · rw [if_pos c, if_pos c]
    · rw [if_neg c, if_neg c]
      by_cases c2 : k = 6 ∧ j < i
      · rw [if_pos c2, if_pos (by omega)]
      · rw [if_neg c2, if_neg (show ¬ (k = 6 ∧ j < i + 1) by omega)]
theorem rs_step3 {S : St} {a i : Nat} : sto (rs S a 5 24 i) 7 i (S 16 (a + 44 + i)) = rs S a 5 24 (i + 1) := by
  funext k j
  rw [sto_at]
  unfold rs
  by_cases e : k = 7 ∧ j = i
  · rw [if_pos e, if_neg (by omega), if_neg (by omega), if_pos (by omega), e.2]
  · rw [if_neg e]
    by_cases c : 2 ≤ k ∧ k ≤ 5 ∧ j < 5
    · rw [if_pos c, if_pos c]
    · rw [if_neg c, if_neg c]
      by_cases c2 : k = 6 ∧ j < 24
      · rw [if_pos c2, if_pos c2]
      · rw [if_neg c2, if_neg c2]
        by_cases c3 : k = 7 ∧ j < i
        · rw [if_pos c3, if_pos (by omega)]
        · rw [if_neg c3, if_neg (show ¬ (k = 7 ∧ j < i + 1) by omega)]
def rsF (S : St) (a : Nat) : St := sto (sto (rs S a 5 24 36) 0 8 (S 16 (a + 80))) 0 9 (S 16 (a + 81))
theorem x5_restore {S : St} {n : Nat} (hn : n < 2) (hk : ¬ S 17 n = 0) : f_X5_restore 4096 (nI n) S = some (1, rsF S (82 * n)) := by
  have hin : f_X5_in (nI n) 0 1 = some 1 := by rw [x5_in, if_neg (show ¬ (nI n < 0 ∨ 1 < nI n) from rng_t (b := 1) (by decide) (by omega) rfl)]
  have e82 : (82 : Int32) * nI n = nI (82 * n) := by rw [show (82 : Int32) = nI 82 from rfl, pk_mul]
  have hix1 : ix (nI n) 2 := ix_n hn (by decide)
  have hcl1 : (nI n).toNatClampNeg = n := nI_clamp (by omega)
  simp only [f_X5_restore, hin, bd_s, z01, e82, gd_t hix1, hcl1, hk, ↓reduceIte]
  have ad : ∀ x y : Nat, nI x + nI y = nI (x + y) := nI_add
  have a5 : ∀ x : Nat, nI x + 5 = nI (x + 5) := fun x => nI_add x 5
  have a10 : ∀ x : Nat, nI x + 10 = nI (x + 10) := fun x => nI_add x 10
  have a15 : ∀ x : Nat, nI x + 15 = nI (x + 15) := fun x => nI_add x 15
  have a20 : ∀ x : Nat, nI x + 20 = nI (x + 20) := fun x => nI_add x 20
  have a44 : ∀ x : Nat, nI x + 44 = nI (x + 44) := fun x => nI_add x 44
  have a80 : ∀ x : Nat, nI x + 80 = nI (x + 80) := fun x => nI_add x 80
  have a81 : ∀ x : Nat, nI x + 81 = nI (x + 81) := fun x => nI_add x 81
  have st := lp_run (F := F_X5_restore_31 4096) (res := some (1, rsF S (82 * n))) (fun i => (nI (82 * n), nI i, rs S (82 * n) i 0 0)) 5 4096 (by decide) (fun i hi k => ?_) (fun k => ?_)
  · rw [rs_0] at st; exact st
  · show FB_X5_restore_31 4096 k (nI (82 * n)) (nI i) (rs S (82 * n) i 0 0) = k (nI (82 * n), nI (i + 1), rs S (82 * n) (i + 1) 0 0)
    have h5 : ¬ (5 : Int32) ≤ nI i := nI_ge (a := i) (b := 5) hi (by decide)
    simp only [FB_X5_restore_31, h5, ad, a5, a10, a15, gd_t (ix_n hi (show 5 ≤ 65536 by decide)), gd_t (ix_n (show 82 * n + i < 164 by omega) (by decide)), gd_t (ix_n (show 82 * n + 5 + i < 164 by omega) (by decide)), gd_t (ix_n (show 82 * n + 10 + i < 164 by omega) (by decide)), gd_t (ix_n (show 82 * n + 15 + i < 164 by omega) (by decide)), nI_clamp (show i < 2 ^ 31 by omega), nI_clamp (show 82 * n + i < 2 ^ 31 by omega), nI_clamp (show 82 * n + 5 + i < 2 ^ 31 by omega), nI_clamp (show 82 * n + 10 + i < 2 ^ 31 by omega), nI_clamp (show 82 * n + 15 + i < 2 ^ 31 by omega), bd_s, ↓reduceIte, nI_1]
    simp only [sto_n (show (16 : Nat) ≠ 2 by decide), sto_n (show (16 : Nat) ≠ 3 by decide), sto_n (show (16 : Nat) ≠ 4 by decide), rs_16 (show (16 : Nat) < 2 ∨ 7 < 16 by decide)]
    rw [rs_step1]
  · show FB_X5_restore_31 4096 k (nI (82 * n)) (nI 5) (rs S (82 * n) 5 0 0) = _
    have h5 : (5 : Int32) ≤ nI 5 := by decide
    simp only [FB_X5_restore_31, h5, ↓reduceIte]
    refine lp_run (F := F_X5_restore_108 4096) (fun i => (nI (82 * n), nI i, rs S (82 * n) 5 i 0)) 24 4096 (by decide) (fun i hi k => ?_) (fun k => ?_)
    · show FB_X5_restore_108 4096 k (nI (82 * n)) (nI i) (rs S (82 * n) 5 i 0) = k (nI (82 * n), nI (i + 1), rs S (82 * n) 5 (i + 1) 0)
      have h24 : ¬ (24 : Int32) ≤ nI i := nI_ge (a := i) (b := 24) hi (by decide)
      simp only [FB_X5_restore_108, h24, ad, a20, gd_t (ix_n hi (show 24 ≤ 65536 by decide)), gd_t (ix_n (show 82 * n + 20 + i < 164 by omega) (by decide)), nI_clamp (show i < 2 ^ 31 by omega), nI_clamp (show 82 * n + 20 + i < 2 ^ 31 by omega), bd_s, ↓reduceIte, nI_1, rs_16 (show (16 : Nat) < 2 ∨ 7 < 16 by decide), rs_step2]
    · show FB_X5_restore_108 4096 k (nI (82 * n)) (nI 24) (rs S (82 * n) 5 24 0) = _
      have h24 : (24 : Int32) ≤ nI 24 := by decide
      simp only [FB_X5_restore_108, h24, ↓reduceIte]
      refine lp_run (F := F_X5_restore_139 4096) (fun i => (nI (82 * n), nI i, rs S (82 * n) 5 24 i)) 36 4096 (by decide) (fun i hi k => ?_) (fun k => ?_)
      · show FB_X5_restore_139 4096 k (nI (82 * n)) (nI i) (rs S (82 * n) 5 24 i) = k (nI (82 * n), nI (i + 1), rs S (82 * n) 5 24 (i + 1))
        have h36 : ¬ (36 : Int32) ≤ nI i := nI_ge (a := i) (b := 36) hi (by decide)
        simp only [FB_X5_restore_139, h36, ad, a44, gd_t (ix_n hi (show 36 ≤ 65536 by decide)), gd_t (ix_n (show 82 * n + 44 + i < 164 by omega) (by decide)), nI_clamp (show i < 2 ^ 31 by omega), nI_clamp (show 82 * n + 44 + i < 2 ^ 31 by omega), bd_s, ↓reduceIte, nI_1, rs_16 (show (16 : Nat) < 2 ∨ 7 < 16 by decide), rs_step3]
      · show FB_X5_restore_139 4096 k (nI (82 * n)) (nI 36) (rs S (82 * n) 5 24 36) = _
        have h36 : (36 : Int32) ≤ nI 36 := by decide
        simp only [FB_X5_restore_139, h36, a80, a81, gd_t (ix_n (show 82 * n + 80 < 164 by omega) (by decide)), gd_t (ix_n (show 82 * n + 81 < 164 by omega) (by decide)), nI_clamp (show 82 * n + 80 < 2 ^ 31 by omega), nI_clamp (show 82 * n + 81 < 2 ^ 31 by omega), bd_s, ↓reduceIte, sto_n (show (16 : Nat) ≠ 0 by decide), rs_16 (show (16 : Nat) < 2 ∨ 7 < 16 by decide)]
        rfl
theorem x4_restore {S : St} {n : Nat} (hn : n < 2) (hk : ¬ S 6 n = 0) : f_X4_restore (nI n) S = some (1, tk S 2 9 (29 + n) (31 + 9 * n)) := by
  have hin : f_X4_within (nI n) 0 1 = some 1 := by rw [x4_within, if_neg (show ¬ (nI n < 0 ∨ 1 < nI n) from rng_t (b := 1) (by decide) (by omega) rfl)]
  have hix1 : ix (nI n) 2 := ix_n hn (by decide)
  have hcl1 : (nI n).toNatClampNeg = n := nI_clamp (by omega)
  rcases (show n = 0 ∨ n = 1 by omega) with rfl | rfl
  · have e : nI 0 = (0 : Int32) := rfl
    simp only [f_X4_restore, hin, bd_s, z01, gd_t hix1, hcl1, hk, ↓reduceIte]
    rw [if_pos e, tf2_29]; rfl
  · have e : ¬ nI 1 = (0 : Int32) := by decide
    simp only [f_X4_restore, hin, bd_s, z01, gd_t hix1, hcl1, hk, e, ↓reduceIte]
    rw [tf2_30]; rfl
theorem rsF_k {S : St} {a k j : Nat} (h : 7 < k ∨ k = 1 ∨ (k = 0 ∧ j ≠ 8 ∧ j ≠ 9)) : rsF S a k j = S k j := by
  unfold rsF
  rw [sto_at, if_neg (by omega), sto_at, if_neg (by omega), rs_16 (by omega)]
theorem vM_rs {S : St} {n r j : Nat} (hr : inB r j) : vM (rsF S (82 * n)) r j = vN S n r j := by
  unfold vM vN rsF
  rcases hr with ⟨rfl, hj⟩ | ⟨h1, h9, hj⟩
  · rw [if_pos rfl, if_pos rfl]
    simp only [sto_at]
    rcases hj with rfl | rfl
    · rfl
    · rfl
  · rw [if_neg (show ¬ r = 0 by omega), if_neg (show ¬ r = 0 by omega)]
    simp only [sto_at]
    unfold bl at hj
    by_cases e4 : r ≤ 4
    · rw [if_pos e4] at hj
      rw [if_pos e4, if_pos e4, if_neg (by omega), if_neg (by omega)]
      unfold rs
      rw [if_pos (by omega)]
      congr 1
    · rw [if_neg e4] at hj
      rw [if_neg e4, if_neg e4]
      by_cases e8 : r ≤ 8
      · rw [if_pos e8] at hj
        rw [if_pos e8, if_pos e8, if_neg (by omega), if_neg (by omega)]
        unfold rs
        rw [if_neg (by omega), if_pos (by omega)]
        congr 1; omega
      · rw [if_neg e8] at hj
        rw [if_neg e8, if_neg e8, if_neg (by omega), if_neg (by omega)]
        unfold rs
        rw [if_neg (by omega), if_neg (by omega), if_pos (by omega)]
theorem vU_tk {S : St} {n r j : Nat} (hr : inB r j) : vU (tk S 2 9 (29 + n) (31 + 9 * n)) r j = vI S n r j := by
  unfold vI vU
  rcases hr with ⟨rfl, hj⟩ | ⟨h1, h9, hj⟩
  · rw [if_pos rfl, if_pos rfl]
    unfold tk
    rw [if_pos ⟨rfl, hj⟩]
  · rw [if_neg (show ¬ r = 0 by omega), if_neg (show ¬ r = 0 by omega)]
    unfold tk
    rw [if_neg (by omega), if_pos ⟨by omega, by omega, by rw [show 8 + r - 9 + 1 = r by omega]; exact hj⟩]
    congr 1; omega
theorem pu_23 : lp_23 4096 Rel := by
  intro x Su Sm ⟨K, hR⟩
  rcases c_in x 1 (by decide) with ⟨hu, hm⟩ | ⟨n, hn, rfl, hu, hm⟩
  · have hu : f_X4_within x 0 1 = some 0 := hu
    have hm : f_X5_in x 0 1 = some 0 := hm
    exact ⟨-2, Su, by simp only [f_X4_restore, hu, bd_s, ↓reduceIte], Sm, by simp only [f_X5_restore, hm, bd_s, ↓reduceIte], K, hR⟩
  · have hn2 : n < 2 := by omega
    have hu : f_X4_within (nI n) 0 1 = some 1 := hu
    have hm : f_X5_in (nI n) 0 1 = some 1 := hm
    have hix1 : ix (nI n) 2 := ix_n hn2 (by decide)
    have hcl1 : (nI n).toNatClampNeg = n := nI_clamp (by omega)
    obtain ⟨g1, g2⟩ := hR.2.2.2.2 n hn2
    rcases g2 with g2 | ⟨g2, Kn, g3, g4, g5⟩
    · have g2m : Sm 17 n = 0 := by rw [← g1]; exact g2
      exact ⟨-3, Su, by simp only [f_X4_restore, hu, bd_s, z01, gd_t hix1, hcl1, g2, ↓reduceIte], Sm, by simp only [f_X5_restore, hm, bd_s, z01, gd_t hix1, hcl1, g2m, ↓reduceIte], K, hR⟩
    · have n1 : ¬ Su 6 n = 0 := by rw [g2]; exact z01
      have n2 : ¬ Sm 17 n = 0 := by rw [← g1]; exact n1
      refine ⟨1, _, x4_restore hn2 n1, _, x5_restore hn2 n2, Kn, g3, rep_same g4 (fun r j hj => vU_tk hj), rep_same g5 (fun r j hj => vM_rs hj), ?_, imgR_same hR.2.2.2.2 ?_ ?_ (fun m r j hm2 hj => ?_) (fun m r j hm2 hj => ?_)⟩
      · obtain ⟨c, h4, h5, h6, h7⟩ := hR.2.2.2.1
        refine ⟨c, h4, ?_, ?_, ?_⟩
        · rw [tk_out (by omega) (by omega)]; exact h5
        · rw [rsF_k (by omega)]; exact h6
        · funext j
          rw [tk_out (by omega) (by omega), rsF_k (by omega), h7]
      · funext j; rw [tk_out (by omega) (by omega)]
      · funext j; rw [rsF_k (by omega)]
      · unfold vI
        by_cases e0 : r = 0
        · rw [if_pos e0, if_pos e0, tk_out (by omega) (by omega)]
        · rw [if_neg e0, if_neg e0, tk_out (by omega) (by omega)]
      · unfold vN
        simp only [rsF_k (show 7 < 16 ∨ 16 = 1 ∨ _ from Or.inl (by decide))]
