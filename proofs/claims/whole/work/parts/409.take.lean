/-! the class's takeFrom; image and restore -/
theorem str_at (S : St) (k : Nat) (f : Nat → Int32) (k' j : Nat) : str S k f k' j = if k' = k then f j else S k' j := by
  unfold str
  by_cases e : k' = k
  · rw [if_pos e, if_pos e]
  · rw [if_neg e, if_neg e]
theorem cpy0 (f g : Nat → Int32) (n j : Nat) : va_cpy f g 0 0 n j = if j < n then f j else g j := by
  unfold va_cpy
  by_cases h : j < n
  · rw [if_pos (by omega), if_pos h, Nat.zero_add, Nat.sub_zero]
  · rw [if_neg (by omega), if_neg h]
def tk (S : St) (d da s sa : Nat) : St := fun k j => if k = d ∧ (j = 9 ∨ j = 10) then S s j else if da ≤ k ∧ k ≤ da + 8 ∧ j < bl (k - da + 1) then S (k - da + sa) j else S k j
theorem c5 : Int32.toNatClampNeg 5 = 5 := rfl
theorem c6 : Int32.toNatClampNeg 6 = 6 := rfl
theorem c36 : Int32.toNatClampNeg 36 = 36 := rfl
theorem tf29 (S : St) : f_X0_takeFrom_29_2 S = some (tk S 29 31 2 9) := by
  simp only [f_X0_takeFrom_29_2, bd_s, c5, c6, c36]
  congr 1
  funext k j
  have hk : k = 29 ∨ k = 31 ∨ k = 32 ∨ k = 33 ∨ k = 34 ∨ k = 35 ∨ k = 36 ∨ k = 37 ∨ k = 38 ∨ k = 39 ∨ (k ≠ 29 ∧ (k < 31 ∨ 39 < k)) := by omega
  rcases hk with rfl | rfl | rfl | rfl | rfl | rfl | rfl | rfl | rfl | rfl | ⟨h1, h2⟩
  · simp only [sto_at, str_at, cpy0, tk, bl]
    by_cases j10 : j = 10
    · subst j10; rfl
    · by_cases j9 : j = 9
      · subst j9; rfl
      · simp [j9, j10]
  all_goals try (simp [sto_at, str_at, cpy0, tk, bl]; done)
  have e : ∀ q, 31 ≤ q → q ≤ 39 → ¬ k = q := fun q a b c => by omega
  simp only [sto_at, str_at, h1, false_and, e 31 (by decide) (by decide), e 32 (by decide) (by decide), e 33 (by decide) (by decide), e 34 (by decide) (by decide), e 35 (by decide) (by decide), e 36 (by decide) (by decide), e 37 (by decide) (by decide), e 38 (by decide) (by decide), e 39 (by decide) (by decide), ↓reduceIte, tk]
  rw [if_neg (by omega)]
theorem tf30 (S : St) : f_X0_takeFrom_30_2 S = some (tk S 30 40 2 9) := by
  simp only [f_X0_takeFrom_30_2, bd_s, c5, c6, c36]
  congr 1
  funext k j
  have hk : k = 30 ∨ k = 40 ∨ k = 41 ∨ k = 42 ∨ k = 43 ∨ k = 44 ∨ k = 45 ∨ k = 46 ∨ k = 47 ∨ k = 48 ∨ (k ≠ 30 ∧ (k < 40 ∨ 48 < k)) := by omega
  rcases hk with rfl | rfl | rfl | rfl | rfl | rfl | rfl | rfl | rfl | rfl | ⟨h1, h2⟩
  · simp only [sto_at, str_at, cpy0, tk, bl]
    by_cases j10 : j = 10
    · subst j10; rfl
    · by_cases j9 : j = 9
      · subst j9; rfl
      · simp [j9, j10]
  all_goals try (simp [sto_at, str_at, cpy0, tk, bl]; done)
  have e : ∀ q, 40 ≤ q → q ≤ 48 → ¬ k = q := fun q a b c => by omega
  simp only [sto_at, str_at, h1, false_and, e 40 (by decide) (by decide), e 41 (by decide) (by decide), e 42 (by decide) (by decide), e 43 (by decide) (by decide), e 44 (by decide) (by decide), e 45 (by decide) (by decide), e 46 (by decide) (by decide), e 47 (by decide) (by decide), e 48 (by decide) (by decide), ↓reduceIte, tk]
  rw [if_neg (by omega)]
theorem tf2_29 (S : St) : f_X0_takeFrom_2_29 S = some (tk S 2 9 29 31) := by
  simp only [f_X0_takeFrom_2_29, bd_s, c5, c6, c36]
  congr 1
  funext k j
  have hk : k = 2 ∨ k = 9 ∨ k = 10 ∨ k = 11 ∨ k = 12 ∨ k = 13 ∨ k = 14 ∨ k = 15 ∨ k = 16 ∨ k = 17 ∨ (k ≠ 2 ∧ (k < 9 ∨ 17 < k)) := by omega
  rcases hk with rfl | rfl | rfl | rfl | rfl | rfl | rfl | rfl | rfl | rfl | ⟨h1, h2⟩
  · simp only [sto_at, str_at, cpy0, tk, bl]
    by_cases j10 : j = 10
    · subst j10; rfl
    · by_cases j9 : j = 9
      · subst j9; rfl
      · simp [j9, j10]
  all_goals try (simp [sto_at, str_at, cpy0, tk, bl]; done)
  have e : ∀ q, 9 ≤ q → q ≤ 17 → ¬ k = q := fun q a b c => by omega
  simp only [sto_at, str_at, h1, false_and, e 9 (by decide) (by decide), e 10 (by decide) (by decide), e 11 (by decide) (by decide), e 12 (by decide) (by decide), e 13 (by decide) (by decide), e 14 (by decide) (by decide), e 15 (by decide) (by decide), e 16 (by decide) (by decide), e 17 (by decide) (by decide), ↓reduceIte, tk]
  rw [if_neg (by omega)]
theorem tf2_30 (S : St) : f_X0_takeFrom_2_30 S = some (tk S 2 9 30 40) := by
  simp only [f_X0_takeFrom_2_30, bd_s, c5, c6, c36]
  congr 1
  funext k j
  have hk : k = 2 ∨ k = 9 ∨ k = 10 ∨ k = 11 ∨ k = 12 ∨ k = 13 ∨ k = 14 ∨ k = 15 ∨ k = 16 ∨ k = 17 ∨ (k ≠ 2 ∧ (k < 9 ∨ 17 < k)) := by omega
  rcases hk with rfl | rfl | rfl | rfl | rfl | rfl | rfl | rfl | rfl | rfl | ⟨h1, h2⟩
  · simp only [sto_at, str_at, cpy0, tk, bl]
    by_cases j10 : j = 10
    · subst j10; rfl
    · by_cases j9 : j = 9
      · subst j9; rfl
      · simp [j9, j10]
  all_goals try (simp [sto_at, str_at, cpy0, tk, bl]; done)
  have e : ∀ q, 9 ≤ q → q ≤ 17 → ¬ k = q := fun q a b c => by omega
  simp only [sto_at, str_at, h1, false_and, e 9 (by decide) (by decide), e 10 (by decide) (by decide), e 11 (by decide) (by decide), e 12 (by decide) (by decide), e 13 (by decide) (by decide), e 14 (by decide) (by decide), e 15 (by decide) (by decide), e 16 (by decide) (by decide), e 17 (by decide) (by decide), ↓reduceIte, tk]
  rw [if_neg (by omega)]
theorem tk_out {S : St} {d da s sa k j : Nat} (h1 : k ≠ d) (h2 : k < da ∨ da + 8 < k) : tk S d da s sa k j = S k j := by
  unfold tk; rw [if_neg (fun q => h1 q.1), if_neg (by omega)]
/-- the image's book is the book -/
theorem vI_tk {S : St} {n r j : Nat} (hn : n < 2) (hr : inB r j) (v : Int32) : vI (sto (tk S (29 + n) (31 + 9 * n) 2 9) 6 n v) n r j = vU S r j := by
  unfold vI vU
  rcases hr with ⟨rfl, hj⟩ | ⟨h1, h9, hj⟩
  · rw [if_pos rfl, if_pos rfl, sto_n (by omega)]
    unfold tk
    rw [if_pos ⟨rfl, hj⟩]
  · rw [if_neg (show ¬ r = 0 by omega), if_neg (show ¬ r = 0 by omega), sto_n (by omega)]
    unfold tk
    rw [if_neg (by omega), if_pos ⟨by omega, by omega, by rw [show 30 + 9 * n + r - (31 + 9 * n) + 1 = r by omega]; exact hj⟩]
    congr 1; omega
theorem vI_tk2 {S : St} {n m r j : Nat} (hn : n < 2) (hm : m < 2) (hnm : m ≠ n) (hr : inB r j) (v : Int32) : vI (sto (tk S (29 + n) (31 + 9 * n) 2 9) 6 n v) m r j = vI S m r j := by
  unfold vI
  rcases hr with ⟨rfl, hj⟩ | ⟨h1, h9, hj⟩
  · rw [if_pos rfl, if_pos rfl, sto_n (by omega), tk_out (by omega) (by omega)]
  · rw [if_neg (show ¬ r = 0 by omega), if_neg (show ¬ r = 0 by omega), sto_n (by omega), tk_out (by omega) (by omega)]
theorem vN_im {S : St} {n r j : Nat} (hr : inB r j) (v : Int32) : vN (sto (im2 S (82 * n) 82) 17 n v) n r j = vM S r j := by
  unfold vN vM
  rw [sto_n (by decide)]
  rcases hr with ⟨rfl, hj⟩ | ⟨h1, h9, hj⟩
  · rw [if_pos rfl, if_pos rfl]
    unfold im2 imV
    rw [if_pos ⟨rfl, by omega, by omega⟩, if_neg (by omega), if_neg (by omega), if_neg (by omega), if_neg (by omega), if_neg (by omega), if_neg (by omega)]
    rcases hj with rfl | rfl
    · rw [if_pos (by omega), if_pos rfl]
    · rw [if_neg (by omega), if_neg (by decide)]
  · rw [if_neg (show ¬ r = 0 by omega), if_neg (show ¬ r = 0 by omega)]
    unfold bl at hj
    by_cases e4 : r ≤ 4
    · rw [if_pos e4] at hj
      rw [if_pos e4, if_pos e4]
      unfold im2 imV
      rw [if_pos ⟨rfl, by omega, by omega⟩]
      rcases (show r = 1 ∨ r = 2 ∨ r = 3 ∨ r = 4 by omega) with rfl | rfl | rfl | rfl
      · rw [if_pos (by omega)]; congr 1; omega
      · rw [if_neg (by omega), if_pos (by omega)]; congr 1; omega
      · rw [if_neg (by omega), if_neg (by omega), if_pos (by omega)]; congr 1; omega
      · rw [if_neg (by omega), if_neg (by omega), if_neg (by omega), if_pos (by omega)]; congr 1; omega
    · rw [if_neg e4] at hj
      rw [if_neg e4, if_neg e4]
      by_cases e8 : r ≤ 8
      · rw [if_pos e8] at hj
        rw [if_pos e8, if_pos e8]
        unfold im2 imV
        rw [if_pos ⟨rfl, by omega, by omega⟩, if_neg (by omega), if_neg (by omega), if_neg (by omega), if_neg (by omega), if_pos (by omega)]; congr 1; omega
      · rw [if_neg e8] at hj
        rw [if_neg e8, if_neg e8]
        unfold im2 imV
        rw [if_pos ⟨rfl, by omega, by omega⟩, if_neg (by omega), if_neg (by omega), if_neg (by omega), if_neg (by omega), if_neg (by omega), if_pos (by omega)]; congr 1; omega
theorem vN_im2 {S : St} {n m r j : Nat} (hn : n < 2) (hm : m < 2) (hnm : m ≠ n) (hr : inB r j) (v : Int32) : vN (sto (im2 S (82 * n) 82) 17 n v) m r j = vN S m r j := by
  have key : ∀ q, (82 * m ≤ q ∧ q < 82 * m + 82) → sto (im2 S (82 * n) 82) 17 n v 16 q = S 16 q := fun q hq => by
    rw [sto_n (by decide)]; unfold im2; rw [if_neg (by omega)]
  unfold vN
  rcases hr with ⟨rfl, hj⟩ | ⟨h1, h9, hj⟩
  · rw [if_pos rfl, if_pos rfl, key _ (by omega)]
  · rw [if_neg (show ¬ r = 0 by omega), if_neg (show ¬ r = 0 by omega)]
    unfold bl at hj
    by_cases e4 : r ≤ 4
    · rw [if_pos e4] at hj
      rw [if_pos e4, if_pos e4, key _ (by omega)]
    · rw [if_neg e4] at hj
      rw [if_neg e4, if_neg e4]
      by_cases e8 : r ≤ 8
      · rw [if_pos e8] at hj
        rw [if_pos e8, if_pos e8, key _ (by omega)]
      · rw [if_neg e8] at hj
        rw [if_neg e8, if_neg e8, key _ (by omega)]
theorem x4_image {S : St} {n : Nat} (hn : n < 2) : f_X4_image (nI n) S = some (1, sto (tk S (29 + n) (31 + 9 * n) 2 9) 6 n 1) := by
  have hin : f_X4_within (nI n) 0 1 = some 1 := by rw [x4_within, if_neg (show ¬ (nI n < 0 ∨ 1 < nI n) from rng_t (b := 1) (by decide) (by omega) rfl)]
  have hix1 : ix (nI n) 2 := ix_n hn (by decide)
  have hcl1 : (nI n).toNatClampNeg = n := nI_clamp (by omega)
  have v1 : vp_nar .boolean 1 = 1 := rfl
  rcases (show n = 0 ∨ n = 1 by omega) with rfl | rfl
  · have e : nI 0 = (0 : Int32) := rfl
    simp only [f_X4_image, hin, bd_s, z01, gd_t hix1, hcl1, v1, ↓reduceIte]
    rw [if_pos e, tf29]; rfl
  · have e : ¬ nI 1 = (0 : Int32) := by decide
    simp only [f_X4_image, hin, bd_s, z01, gd_t hix1, hcl1, v1, e, ↓reduceIte]
    rw [tf30]; rfl
theorem pu_22 : lp_22 4096 Rel := by
  intro x Su Sm ⟨K, hR⟩
  rcases c_in x 1 (by decide) with ⟨hu, hm⟩ | ⟨n, hn, rfl, hu, hm⟩
  · have hu : f_X4_within x 0 1 = some 0 := hu
    have hm : f_X5_in x 0 1 = some 0 := hm
    exact ⟨-2, Su, by simp only [f_X4_image, hu, bd_s, ↓reduceIte], Sm, by simp only [f_X5_image, hm, bd_s, ↓reduceIte], K, hR⟩
  · have hn2 : n < 2 := by omega
    refine ⟨1, _, x4_image hn2, _, x5_image hn2, K, hR.1, rep_same hR.2.1 (fun r j hj => ?_), rep_same hR.2.2.1 (fun r j hj => ?_), ?_, fun m hm2 => ?_⟩
    · rw [vU_out (by decide) (by decide) hj]
      unfold vU
      rcases hj with ⟨rfl, _⟩ | ⟨h1, h9, _⟩
      · rw [if_pos rfl, if_pos rfl, tk_out (by omega) (by omega)]
      · rw [if_neg (show ¬ r = 0 by omega), if_neg (show ¬ r = 0 by omega), tk_out (by omega) (by omega)]
    · rw [vM_out (by omega) hj]
      unfold vM
      simp only [im2_k (show (0 : Nat) ≠ 16 by decide), im2_k (show (6 : Nat) ≠ 16 by decide), im2_k (show (7 : Nat) ≠ 16 by decide)]
      by_cases e0 : r = 0
      · rw [if_pos e0, if_pos e0]
      · rw [if_neg e0, if_neg e0]
        by_cases e4 : r ≤ 4
        · rw [if_pos e4, if_pos e4, im2_k (by omega)]
        · rw [if_neg e4, if_neg e4]
    · obtain ⟨c, h4, h5, h6, h7⟩ := hR.2.2.2.1
      refine ⟨c, h4, ?_, ?_, ?_⟩
      · rw [sto_n (by decide), tk_out (by omega) (by omega)]; exact h5
      · rw [sto_n (by decide), im2_k (by decide)]; exact h6
      · rw [sto_n (by decide), sto_n (by decide)]
        funext j
        rw [tk_out (by omega) (by omega), im2_k (by decide), h7]
    · obtain ⟨g1, g2⟩ := hR.2.2.2.2 m hm2
      by_cases e : m = n
      · subst e
        refine ⟨?_, Or.inr ⟨?_, K, hR.1, rep_same hR.2.1 (fun r j hj => vI_tk hn2 hj 1), rep_same hR.2.2.1 (fun r j hj => vN_im hj 1)⟩⟩
        · rw [sto_s, sto_s, if_pos rfl, if_pos rfl]
        · rw [sto_s, if_pos rfl]
      · have f1 : sto (tk Su (29 + n) (31 + 9 * n) 2 9) 6 n 1 6 m = Su 6 m := by rw [sto_s, if_neg e, tk_out (by omega) (by omega)]
        have f2 : sto (im2 Sm (82 * n) 82) 17 n 1 17 m = Sm 17 m := by rw [sto_s, if_neg e, im2_k (by decide)]
        refine ⟨by rw [f1, f2]; exact g1, ?_⟩
        rw [f1]
        rcases g2 with g2 | ⟨g2, Kn, g3, g4, g5⟩
        · exact Or.inl g2
        · exact Or.inr ⟨g2, Kn, g3, rep_same g4 (fun r j hj => vI_tk2 hn2 hm2 e hj 1), rep_same g5 (fun r j hj => vN_im2 hn2 hm2 e hj 1)⟩
