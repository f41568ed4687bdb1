/-! image -/
theorem sto_at (S : St) (k i : Nat) (v : Int32) (k' j : Nat) : sto S k i v k' j = if k' = k ∧ j = i then v else S k' j := by
  by_cases e : k' = k
  · subst e
    rw [sto_s]
    by_cases e2 : j = i
    · rw [if_pos e2, if_pos ⟨rfl, e2⟩]
    · rw [if_neg e2, if_neg (fun q => e2 q.2)]
  · rw [sto_n e, if_neg (fun q => e q.1)]
/-- what an image's row holds at j, a the image's start -/
def imV (S : St) (a j : Nat) : Int32 := if j < a + 5 then S 2 (j - a) else if j < a + 10 then S 3 (j - a - 5) else if j < a + 15 then S 4 (j - a - 10) else if j < a + 20 then S 5 (j - a - 15) else if j < a + 44 then S 6 (j - a - 20) else if j < a + 80 then S 7 (j - a - 44) else if j < a + 81 then S 0 8 else S 0 9
def im1 (S : St) (a i : Nat) : St := fun k j => if k = 16 ∧ ((a ≤ j ∧ j < a + i) ∨ (a + 5 ≤ j ∧ j < a + 5 + i) ∨ (a + 10 ≤ j ∧ j < a + 10 + i) ∨ (a + 15 ≤ j ∧ j < a + 15 + i)) then imV S a j else S k j
def im2 (S : St) (a m : Nat) : St := fun k j => if k = 16 ∧ a ≤ j ∧ j < a + m then imV S a j else S k j
theorem im1_k {S : St} {a i k j : Nat} (h : k ≠ 16) : im1 S a i k j = S k j := by unfold im1; rw [if_neg (fun q => h q.1)]
theorem im2_k {S : St} {a i k j : Nat} (h : k ≠ 16) : im2 S a i k j = S k j := by unfold im2; rw [if_neg (fun q => h q.1)]
theorem im1_step {S : St} {a i : Nat} (hi : i < 5) : sto (sto (sto (sto (im1 S a i) 16 (a + i) (S 2 i)) 16 (a + 5 + i) (S 3 i)) 16 (a + 10 + i) (S 4 i)) 16 (a + 15 + i) (S 5 i) = im1 S a (i + 1) := by
  funext k j
  simp only [sto_at]
  unfold im1
  by_cases hk : k = 16
  · subst hk
    by_cases e1 : j = a + 15 + i
    · rw [if_pos ⟨rfl, e1⟩, if_pos ⟨rfl, by omega⟩]
      unfold imV
      rw [if_neg (by omega), if_neg (by omega), if_neg (by omega), if_pos (by omega)]
      congr 1; omega
    · rw [if_neg (fun q => e1 q.2)]
      by_cases e2 : j = a + 10 + i
      · rw [if_pos ⟨rfl, e2⟩, if_pos ⟨rfl, by omega⟩]
        unfold imV
        rw [if_neg (by omega), if_neg (by omega), if_pos (by omega)]
        congr 1; omega
      · rw [if_neg (fun q => e2 q.2)]
        by_cases e3 : j = a + 5 + i
        · rw [if_pos ⟨rfl, e3⟩, if_pos ⟨rfl, by omega⟩]
          unfold imV
          rw [if_neg (by omega), if_pos (by omega)]
          congr 1; omega
        · rw [if_neg (fun q => e3 q.2)]
          by_cases e4 : j = a + i
          · rw [if_pos ⟨rfl, e4⟩, if_pos ⟨rfl, by omega⟩]
            unfold imV
            rw [if_pos (by omega)]
            congr 1; omega
          · rw [if_neg (fun q => e4 q.2)]
            by_cases c : ((a ≤ j ∧ j < a + i) ∨ (a + 5 ≤ j ∧ j < a + 5 + i) ∨ (a + 10 ≤ j ∧ j < a + 10 + i) ∨ (a + 15 ≤ j ∧ j < a + 15 + i))
            · rw [if_pos ⟨rfl, c⟩, if_pos ⟨rfl, by omega⟩]
            · rw [if_neg (fun q => c q.2), if_neg (fun q => by have := q.2; omega)]
  · rw [if_neg (fun q => hk q.1), if_neg (fun q => hk q.1), if_neg (fun q => hk q.1), if_neg (fun q => hk q.1), if_neg (fun q => hk q.1), if_neg (fun q => hk q.1)]
theorem im12 (S : St) (a : Nat) : im1 S a 5 = im2 S a 20 := by
  funext k j
  unfold im1 im2
  by_cases c : k = 16 ∧ a ≤ j ∧ j < a + 20
  · rw [if_pos c, if_pos ⟨c.1, by omega⟩]
  · rw [if_neg c, if_neg (fun q => c ⟨q.1, by have := q.2; omega⟩)]
theorem im1_0 (S : St) (a : Nat) : im1 S a 0 = S := by
  funext k j
  unfold im1
  rw [if_neg (fun q => by have := q.2; omega)]
theorem im2_step {S : St} {a m : Nat} {v : Int32} (hv : v = imV S a (a + m)) : sto (im2 S a m) 16 (a + m) v = im2 S a (m + 1) := by
  funext k j
  rw [sto_at]
  unfold im2
  by_cases e : k = 16 ∧ j = a + m
  · rw [if_pos e, if_pos ⟨e.1, by omega⟩, hv, e.2]
  · rw [if_neg e]
    by_cases c : k = 16 ∧ a ≤ j ∧ j < a + m
    · rw [if_pos c, if_pos ⟨c.1, by omega⟩]
    · rw [if_neg c, if_neg (fun q => by
        rcases Nat.lt_or_ge j (a + m) with z | z
        · exact c ⟨q.1, q.2.1, z⟩
        · exact e ⟨q.1, by omega⟩)]
theorem x5_image {S : St} {n : Nat} (hn : n < 2) : f_X5_image 4096 (nI n) S = some (1, sto (im2 S (82 * n) 82) 17 n 1) := by
  have hin : f_X5_in (nI n) 0 1 = some 1 := by rw [x5_in, if_neg (show ¬ (nI n < 0 ∨ 1 < nI n) from rng_t (b := 1) (by decide) (by omega) rfl)]
  have e82 : (82 : Int32) * nI n = nI (82 * n) := by rw [show (82 : Int32) = nI 82 from rfl, pk_mul]
  have hix1 : ix (nI n) 2 := ix_n hn (by decide)
  have hcl1 : (nI n).toNatClampNeg = n := nI_clamp (by omega)
  simp only [f_X5_image, hin, bd_s, z01, e82, ↓reduceIte]
  have ad : ∀ x y : Nat, nI x + nI y = nI (x + y) := nI_add
  have a5 : ∀ x : Nat, nI x + 5 = nI (x + 5) := fun x => nI_add x 5
  have a10 : ∀ x : Nat, nI x + 10 = nI (x + 10) := fun x => nI_add x 10
  have a15 : ∀ x : Nat, nI x + 15 = nI (x + 15) := fun x => nI_add x 15
  have a20 : ∀ x : Nat, nI x + 20 = nI (x + 20) := fun x => nI_add x 20
  have a44 : ∀ x : Nat, nI x + 44 = nI (x + 44) := fun x => nI_add x 44
  have a80 : ∀ x : Nat, nI x + 80 = nI (x + 80) := fun x => nI_add x 80
  have a81 : ∀ x : Nat, nI x + 81 = nI (x + 81) := fun x => nI_add x 81
  have st := lp_run (F := F_X5_image_19 4096) (res := some (1, sto (im2 S (82 * n) 82) 17 n 1)) (fun i => (nI n, nI (82 * n), nI i, im1 S (82 * n) i)) 5 4096 (by decide) (fun i hi k => ?_) (fun k => ?_)
  · rw [im1_0] at st; exact st
  · show FB_X5_image_19 4096 k (nI n) (nI (82 * n)) (nI i) (im1 S (82 * n) i) = k (nI n, nI (82 * n), nI (i + 1), im1 S (82 * n) (i + 1))
    have h5 : ¬ (5 : Int32) ≤ nI i := nI_ge (a := i) (b := 5) hi (by decide)
    simp only [FB_X5_image_19, h5, ad, a5, a10, a15, gd_t (ix_n hi (show 5 ≤ 65536 by decide)), gd_t (ix_n (show 82 * n + i < 164 by omega) (by decide)), gd_t (ix_n (show 82 * n + 5 + i < 164 by omega) (by decide)), gd_t (ix_n (show 82 * n + 10 + i < 164 by omega) (by decide)), gd_t (ix_n (show 82 * n + 15 + i < 164 by omega) (by decide)), nI_clamp (show i < 2 ^ 31 by omega), nI_clamp (show 82 * n + i < 2 ^ 31 by omega), nI_clamp (show 82 * n + 5 + i < 2 ^ 31 by omega), nI_clamp (show 82 * n + 10 + i < 2 ^ 31 by omega), nI_clamp (show 82 * n + 15 + i < 2 ^ 31 by omega), bd_s, ↓reduceIte, nI_1]
    simp only [sto_n (show (3 : Nat) ≠ 16 by decide), sto_n (show (4 : Nat) ≠ 16 by decide), sto_n (show (5 : Nat) ≠ 16 by decide), im1_k (show (2 : Nat) ≠ 16 by decide), im1_k (show (3 : Nat) ≠ 16 by decide), im1_k (show (4 : Nat) ≠ 16 by decide), im1_k (show (5 : Nat) ≠ 16 by decide)]
    rw [im1_step hi]
  · show FB_X5_image_19 4096 k (nI n) (nI (82 * n)) (nI 5) (im1 S (82 * n) 5) = _
    have h5 : (5 : Int32) ≤ nI 5 := by decide
    simp only [FB_X5_image_19, h5, ↓reduceIte]
    rw [im12]
    refine lp_run (F := F_X5_image_96 4096) (fun i => (nI n, nI (82 * n), nI i, im2 S (82 * n) (20 + i))) 24 4096 (by decide) (fun i hi k => ?_) (fun k => ?_)
    · show FB_X5_image_96 4096 k (nI n) (nI (82 * n)) (nI i) (im2 S (82 * n) (20 + i)) = k (nI n, nI (82 * n), nI (i + 1), im2 S (82 * n) (20 + (i + 1)))
      have h24 : ¬ (24 : Int32) ≤ nI i := nI_ge (a := i) (b := 24) hi (by decide)
      simp only [FB_X5_image_96, h24, ad, a20, gd_t (ix_n hi (show 24 ≤ 65536 by decide)), gd_t (ix_n (show 82 * n + 20 + i < 164 by omega) (by decide)), nI_clamp (show i < 2 ^ 31 by omega), nI_clamp (show 82 * n + 20 + i < 2 ^ 31 by omega), bd_s, ↓reduceIte, nI_1, im2_k (show (6 : Nat) ≠ 16 by decide)]
      rw [show 82 * n + 20 + i = 82 * n + (20 + i) by omega, im2_step (by unfold imV; rw [if_neg (by omega), if_neg (by omega), if_neg (by omega), if_neg (by omega), if_pos (by omega)]; congr 1; omega)]
      rfl
    · show FB_X5_image_96 4096 k (nI n) (nI (82 * n)) (nI 24) (im2 S (82 * n) (20 + 24)) = _
      have h24 : (24 : Int32) ≤ nI 24 := by decide
      simp only [FB_X5_image_96, h24, ↓reduceIte]
      refine lp_run (F := F_X5_image_127 4096) (fun i => (nI n, nI (82 * n), nI i, im2 S (82 * n) (44 + i))) 36 4096 (by decide) (fun i hi k => ?_) (fun k => ?_)
      · show FB_X5_image_127 4096 k (nI n) (nI (82 * n)) (nI i) (im2 S (82 * n) (44 + i)) = k (nI n, nI (82 * n), nI (i + 1), im2 S (82 * n) (44 + (i + 1)))
        have h36 : ¬ (36 : Int32) ≤ nI i := nI_ge (a := i) (b := 36) hi (by decide)
        simp only [FB_X5_image_127, h36, ad, a44, gd_t (ix_n hi (show 36 ≤ 65536 by decide)), gd_t (ix_n (show 82 * n + 44 + i < 164 by omega) (by decide)), nI_clamp (show i < 2 ^ 31 by omega), nI_clamp (show 82 * n + 44 + i < 2 ^ 31 by omega), bd_s, ↓reduceIte, nI_1, im2_k (show (7 : Nat) ≠ 16 by decide)]
        rw [show 82 * n + 44 + i = 82 * n + (44 + i) by omega, im2_step (by unfold imV; rw [if_neg (by omega), if_neg (by omega), if_neg (by omega), if_neg (by omega), if_neg (by omega), if_pos (by omega)]; congr 1; omega)]
        rfl
      · show FB_X5_image_127 4096 k (nI n) (nI (82 * n)) (nI 36) (im2 S (82 * n) (44 + 36)) = _
        have h36 : (36 : Int32) ≤ nI 36 := by decide
        have g1 : sto (im2 S (82 * n) 80) 16 (82 * n + 80) (S 0 8) = im2 S (82 * n) 81 := im2_step (by unfold imV; rw [if_neg (by omega), if_neg (by omega), if_neg (by omega), if_neg (by omega), if_neg (by omega), if_neg (by omega), if_pos (by omega)])
        have g2 : sto (im2 S (82 * n) 81) 16 (82 * n + 81) (S 0 9) = im2 S (82 * n) 82 := im2_step (by unfold imV; rw [if_neg (by omega), if_neg (by omega), if_neg (by omega), if_neg (by omega), if_neg (by omega), if_neg (by omega), if_neg (by omega)])
        simp only [FB_X5_image_127, h36, a80, a81, gd_t hix1, hcl1, gd_t (ix_n (show 82 * n + 80 < 164 by omega) (by decide)), gd_t (ix_n (show 82 * n + 81 < 164 by omega) (by decide)), nI_clamp (show 82 * n + 80 < 2 ^ 31 by omega), nI_clamp (show 82 * n + 81 < 2 ^ 31 by omega), bd_s, ↓reduceIte, im2_k (show (0 : Nat) ≠ 16 by decide), Nat.reduceAdd, g1, g2]
        rfl
