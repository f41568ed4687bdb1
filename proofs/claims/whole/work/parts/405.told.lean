/-! told -/
theorem x5_inN {n a b : Nat} (hn : n < 2 ^ 31) (ha : a < 2 ^ 31) (hb : b < 2 ^ 31) : f_X5_in (nI n) (nI a) (nI b) = some (if a ≤ n ∧ n ≤ b then 1 else 0) := by
  rw [x5_in]
  by_cases h : a ≤ n ∧ n ≤ b
  · rw [if_pos h, if_neg]
    rintro (q | q)
    · exact nI_nlt h.1 hn q
    · exact nI_nlt h.2 hb q
  · rw [if_neg h, if_pos]
    rcases Nat.lt_or_ge n a with q | q
    · exact Or.inl (nI_lt q ha)
    · exact Or.inr (nI_lt (by omega) hn)
theorem x4_isPieceN {n : Nat} (hn : n < 2 ^ 31) : f_X4_isPiece (nI n) = some (if n ≤ 5 then 1 else 0) := by
  rw [x4_isPiece]
  by_cases h : n ≤ 5
  · rw [if_pos h, if_neg (show ¬ (nI n < 0 ∨ 5 < nI n) from rng_t (b := 5) (by decide) h rfl)]
  · rw [if_neg h, if_pos (show nI n < 0 ∨ 5 < nI n from Or.inr (nI_lt (a := 5) (by omega) hn))]
theorem lit_eq {n m : Nat} (hn : n < 2 ^ 31) (hm : m < 2 ^ 31) : nI n = nI m ↔ n = m := nI_eq hn hm
theorem pu_24 : lp_24 Rel := by
  intro x Su Sm ⟨K, hR⟩
  obtain ⟨h1, h2, h3, ⟨c, h4, h5, h6, h7⟩, h8⟩ := id hR
  by_cases hneg : x < 0
  · have hi : x.toInt < 0 := by have := Int32.lt_iff_toInt_lt.mp hneg; exact this
    have hl : ∀ k : Nat, k < 2 ^ 31 → x < nI k := fun k hk => Int32.lt_iff_toInt_lt.mpr (by rw [nI_toInt hk]; omega)
    have hne : ∀ k : Nat, k < 2 ^ 31 → ¬ x = nI k := fun k hk q => by rw [q, nI_toInt hk] at hi; omega
    have g0 : ¬ x = 0 := hne 0 (by decide)
    have g1 : ¬ x = 1 := hne 1 (by decide)
    have g2 : ¬ x = 2 := hne 2 (by decide)
    have g100 : x < 100 := hl 100 (by decide)
    have g10 : x < 10 := hl 10 (by decide)
    have m1 : f_X5_in x 10 15 = some 0 := by rw [x5_in, if_pos (show x < 10 ∨ 15 < x from Or.inl (hl 10 (by decide)))]
    have m2 : f_X5_in x 20 25 = some 0 := by rw [x5_in, if_pos (show x < 20 ∨ 25 < x from Or.inl (hl 20 (by decide)))]
    have m3 : f_X5_in x 30 35 = some 0 := by rw [x5_in, if_pos (show x < 30 ∨ 35 < x from Or.inl (hl 30 (by decide)))]
    have m4 : f_X5_in x 40 45 = some 0 := by rw [x5_in, if_pos (show x < 40 ∨ 45 < x from Or.inl (hl 40 (by decide)))]
    have m5 : f_X5_in x 100 145 = some 0 := by rw [x5_in, if_pos (show x < 100 ∨ 145 < x from Or.inl (hl 100 (by decide)))]
    exact ⟨-2, by simp only [f_X4_told, g100, g10, g0, g1, g2, ↓reduceIte], by simp only [f_X5_told, B_X5_told_139, m1, m2, m3, m4, m5, g0, g1, g2, bd_s, ↓reduceIte], K, hR⟩
  · obtain ⟨n, hn, rfl⟩ := nI_of hneg
    have m1 : f_X5_in (nI n) 10 15 = some (if 10 ≤ n ∧ n ≤ 15 then 1 else 0) := x5_inN hn (by decide) (by decide)
    have m2 : f_X5_in (nI n) 20 25 = some (if 20 ≤ n ∧ n ≤ 25 then 1 else 0) := x5_inN hn (by decide) (by decide)
    have m3 : f_X5_in (nI n) 30 35 = some (if 30 ≤ n ∧ n ≤ 35 then 1 else 0) := x5_inN hn (by decide) (by decide)
    have m4 : f_X5_in (nI n) 40 45 = some (if 40 ≤ n ∧ n ≤ 45 then 1 else 0) := x5_inN hn (by decide) (by decide)
    have m5 : f_X5_in (nI n) 100 145 = some (if 100 ≤ n ∧ n ≤ 145 then 1 else 0) := x5_inN hn (by decide) (by decide)
    have q0 : (nI n = (0 : Int32)) = (n = 0) := propext (nI_eq (b := 0) hn (by decide))
    have q1 : (nI n = (1 : Int32)) = (n = 1) := propext (nI_eq (b := 1) hn (by decide))
    have q2 : (nI n = (2 : Int32)) = (n = 2) := propext (nI_eq (b := 2) hn (by decide))
    have l10 : (nI n < (10 : Int32)) = (n < 10) := propext (nI_ltI (b := 10) hn (by decide))
    have l100 : (nI n < (100 : Int32)) = (n < 100) := propext (nI_ltI (b := 100) hn (by decide))
    have r10 : nI n - nI n / 10 * 10 = nI (n % 10) := pk_rem (d := 10) hn (by decide) (by decide)
    have d10 : nI n / 10 = nI (n / 10) := pk_div (d := 10) hn (by decide) (by decide)
    rcases (show n < 10 ∨ (10 ≤ n ∧ n < 100) ∨ 100 ≤ n by omega) with hc | hc | hc
    · have n1 : ¬ (10 ≤ n ∧ n ≤ 15) := by omega
      have n2 : ¬ (20 ≤ n ∧ n ≤ 25) := by omega
      have n3 : ¬ (30 ≤ n ∧ n ≤ 35) := by omega
      have n4 : ¬ (40 ≤ n ∧ n ≤ 45) := by omega
      have n5 : ¬ (100 ≤ n ∧ n ≤ 145) := by omega
      have hc2 : n < 100 := by omega
      have eu : f_X4_told (nI n) Su = if n = 0 then some (nI c) else if n = 1 then some (nI (K 0 9)) else if n = 2 then some (nI (K 0 10)) else some (-2) := by
        simp only [f_X4_told, l100, l10, q0, q1, q2, hc, hc2, ↓reduceIte, h5, uWh h2, uCn h2]
      have em : f_X5_told (nI n) Sm = if n = 0 then some (nI c) else if n = 1 then some (nI (K 0 9)) else if n = 2 then some (nI (K 0 10)) else some (-2) := by
        simp only [f_X5_told, B_X5_told_139, m1, m2, m3, m4, m5, n1, n2, n3, n4, n5, q0, q1, q2, bd_s, ↓reduceIte, h6, mWh h3, mCn h3]
      rw [eu, em]
      by_cases y0 : n = 0
      · exact ⟨_, by rw [if_pos y0], by rw [if_pos y0], K, hR⟩
      · rw [if_neg y0]
        by_cases y1 : n = 1
        · exact ⟨_, by rw [if_pos y1], by rw [if_pos y1], K, hR⟩
        · rw [if_neg y1]
          by_cases y2 : n = 2
          · exact ⟨_, by rw [if_pos y2], by rw [if_pos y2], K, hR⟩
          · exact ⟨_, by rw [if_neg y2], by rw [if_neg y2], K, hR⟩
    · have n5 : ¬ (100 ≤ n ∧ n ≤ 145) := by omega
      have hc1 : ¬ n < 10 := by omega
      have hc2 : n < 100 := hc.2
      have z0 : ¬ n = 0 := by omega
      have z1 : ¬ n = 1 := by omega
      have z2 : ¬ n = 2 := by omega
      have hp : n % 10 < 10 := by omega
      have ip : f_X4_isPiece (nI (n % 10)) = some (if n % 10 ≤ 5 then 1 else 0) := x4_isPieceN (by omega)
      have t1 : (nI (n / 10) = (1 : Int32)) = (n / 10 = 1) := propext (nI_eq (b := 1) (by omega) (by decide))
      have t2 : (nI (n / 10) = (2 : Int32)) = (n / 10 = 2) := propext (nI_eq (b := 2) (by omega) (by decide))
      have t3 : (nI (n / 10) = (3 : Int32)) = (n / 10 = 3) := propext (nI_eq (b := 3) (by omega) (by decide))
      have t4 : (nI (n / 10) = (4 : Int32)) = (n / 10 = 4) := propext (nI_eq (b := 4) (by omega) (by decide))
      have eu0 : f_X4_told (nI n) Su = bd (f_X4_toldPiece (nI (n / 10)) (nI (n % 10)) Su) fun r1 => some r1 := by
        simp only [f_X4_told, l100, l10, hc1, hc2, ↓reduceIte, d10, ← r10]
      by_cases h5p : n % 10 ≤ 5
      · have hix : ix (nI (n % 10)) 6 := ix_n (by omega) (by decide)
        have hcl : (nI (n % 10)).toNatClampNeg = n % 10 := nI_clamp (by omega)
        have j0 : ix (4 * nI (n % 10)) 24 := by rw [show (4 : Int32) = nI 4 from rfl, pk_mul]; exact ix_n (by omega) (by decide)
        have c0 : (4 * nI (n % 10)).toNatClampNeg = 4 * (n % 10) := by rw [show (4 : Int32) = nI 4 from rfl, pk_mul]; exact nI_clamp (by omega)
        have j1 : ix (4 * nI (n % 10) + 1) 24 := by rw [show 4 * nI (n % 10) + 1 = nI (4 * (n % 10) + 1) from i4 _ 1]; exact ix_n (by omega) (by decide)
        have c1 : (4 * nI (n % 10) + 1).toNatClampNeg = 4 * (n % 10) + 1 := by rw [show 4 * nI (n % 10) + 1 = nI (4 * (n % 10) + 1) from i4 _ 1]; exact nI_clamp (by omega)
        have j2 : ix (4 * nI (n % 10) + 2) 24 := by rw [show 4 * nI (n % 10) + 2 = nI (4 * (n % 10) + 2) from i4 _ 2]; exact ix_n (by omega) (by decide)
        have c2 : (4 * nI (n % 10) + 2).toNatClampNeg = 4 * (n % 10) + 2 := by rw [show 4 * nI (n % 10) + 2 = nI (4 * (n % 10) + 2) from i4 _ 2]; exact nI_clamp (by omega)
        have j3 : ix (4 * nI (n % 10) + 3) 24 := by rw [show 4 * nI (n % 10) + 3 = nI (4 * (n % 10) + 3) from i4 _ 3]; exact ix_n (by omega) (by decide)
        have c3 : (4 * nI (n % 10) + 3).toNatClampNeg = 4 * (n % 10) + 3 := by rw [show 4 * nI (n % 10) + 3 = nI (4 * (n % 10) + 3) from i4 _ 3]; exact nI_clamp (by omega)
        have hp6 : n % 10 < 6 := by omega
        have eu : f_X4_told (nI n) Su = if n / 10 = 1 then some (nI (K 5 (n % 10))) else if n / 10 = 2 then some (nI (K 7 (n % 10))) else if n / 10 = 3 then some (nI (K 8 (n % 10))) else if n / 10 = 4 then some (nI (K 6 (n % 10))) else some (-2) := by
          rw [eu0]
          simp only [f_X4_toldPiece, ip, h5p, bd_s, z01, t1, t2, t3, t4, ↓reduceIte, gd_t hix, hcl, uO h2 hp6, uW h2 hp6, uN' h2 hp6, uOL h2 hp6]
          split
          · rfl
          · split
            · rfl
            · split
              · rfl
              · split <;> rfl
        have w1 : (10 ≤ n ∧ n ≤ 15) = (n / 10 = 1) := propext (by omega)
        have w2 : (20 ≤ n ∧ n ≤ 25) = (n / 10 = 2) := propext (by omega)
        have w3 : (30 ≤ n ∧ n ≤ 35) = (n / 10 = 3) := propext (by omega)
        have w4 : (40 ≤ n ∧ n ≤ 45) = (n / 10 = 4) := propext (by omega)
        have em : f_X5_told (nI n) Sm = if n / 10 = 1 then some (nI (K 5 (n % 10))) else if n / 10 = 2 then some (nI (K 7 (n % 10))) else if n / 10 = 3 then some (nI (K 8 (n % 10))) else if n / 10 = 4 then some (nI (K 6 (n % 10))) else some (-2) := by
          simp only [f_X5_told, B_X5_told_139, m1, m2, m3, m4, m5, n5, w1, w2, w3, w4, q0, q1, q2, z0, z1, z2, bd_s, r10, ↓reduceIte, gd_t j0, gd_t j1, gd_t j2, gd_t j3, c0, c1, c2, c3, mO h3 hp6, mOL h3 hp6, mW h3 hp6, mN h3 hp6]
          by_cases y1 : n / 10 = 1
          · simp [y1, z01]
          · by_cases y2 : n / 10 = 2
            · simp [y2, z01]
            · by_cases y3 : n / 10 = 3
              · simp [y3, z01]
              · by_cases y4 : n / 10 = 4
                · simp [y4, z01]
                · simp [y1, y2, y3, y4]
        rw [eu, em]
        by_cases y1 : n / 10 = 1
        · exact ⟨_, by rw [if_pos y1], by rw [if_pos y1], K, hR⟩
        · rw [if_neg y1]
          by_cases y2 : n / 10 = 2
          · exact ⟨_, by rw [if_pos y2], by rw [if_pos y2], K, hR⟩
          · rw [if_neg y2]
            by_cases y3 : n / 10 = 3
            · exact ⟨_, by rw [if_pos y3], by rw [if_pos y3], K, hR⟩
            · rw [if_neg y3]
              by_cases y4 : n / 10 = 4
              · exact ⟨_, by rw [if_pos y4], by rw [if_pos y4], K, hR⟩
              · exact ⟨_, by rw [if_neg y4], by rw [if_neg y4], K, hR⟩
      · have n1 : ¬ (10 ≤ n ∧ n ≤ 15) := by omega
        have n2 : ¬ (20 ≤ n ∧ n ≤ 25) := by omega
        have n3 : ¬ (30 ≤ n ∧ n ≤ 35) := by omega
        have n4 : ¬ (40 ≤ n ∧ n ≤ 45) := by omega
        exact ⟨-2, by rw [eu0]; simp only [f_X4_toldPiece, ip, h5p, bd_s, ↓reduceIte], by simp only [f_X5_told, B_X5_told_139, m1, m2, m3, m4, m5, n1, n2, n3, n4, n5, q0, q1, q2, z0, z1, z2, bd_s, ↓reduceIte], K, hR⟩
    · have n1 : ¬ (10 ≤ n ∧ n ≤ 15) := by omega
      have n2 : ¬ (20 ≤ n ∧ n ≤ 25) := by omega
      have n3 : ¬ (30 ≤ n ∧ n ≤ 35) := by omega
      have n4 : ¬ (40 ≤ n ∧ n ≤ 45) := by omega
      have hc1 : ¬ n < 100 := by omega
      have z0 : ¬ n = 0 := by omega
      have z1 : ¬ n = 1 := by omega
      have z2 : ¬ n = 2 := by omega
      have s100 : nI n - 100 = nI (n - 100) := pk_sub (b := 100) hc
      have r8 : nI (n - 100) - nI (n - 100) / 8 * 8 = nI ((n - 100) % 8) := pk_rem (d := 8) (by omega) (by decide) (by decide)
      have d8 : nI (n - 100) / 8 = nI ((n - 100) / 8) := pk_div (d := 8) (by omega) (by decide) (by decide)
      have r8' : nI (n - 100) - nI ((n - 100) / 8) * 8 = nI ((n - 100) % 8) := by rw [← d8]; exact r8
      have ip1 : f_X4_isPiece (nI ((n - 100) / 8)) = some (if (n - 100) / 8 ≤ 5 then 1 else 0) := x4_isPieceN (by omega)
      have ip2 : f_X4_isPiece (nI ((n - 100) % 8)) = some (if (n - 100) % 8 ≤ 5 then 1 else 0) := x4_isPieceN (by omega)
      have g6 : ((6 : Int32) ≤ nI ((n - 100) % 8)) = (6 ≤ (n - 100) % 8) := propext (nI_leI (a := 6) (by decide) (by omega))
      have eu0 : f_X4_told (nI n) Su = bd (f_X4_isPiece (nI ((n - 100) / 8))) fun r3 => if r3 = 0 then some (-2) else bd (f_X4_isPiece (nI ((n - 100) % 8))) fun r4 => if r4 = 0 then some (-2) else gd (ix (nI (6 * ((n - 100) / 8) + (n - 100) % 8)) 36) (some (Su 17 (nI (6 * ((n - 100) / 8) + (n - 100) % 8)).toNatClampNeg)) := by
        simp only [f_X4_told, f_X4_toldKind, l100, hc1, ↓reduceIte, s100, bd_s, r8', d8, f_X4_use, i6']
        rw [ip1, ip2]
        simp only [bd_s]
        by_cases a1 : (n - 100) / 8 ≤ 5
        · by_cases a2 : (n - 100) % 8 ≤ 5
          · have hu : 6 * ((n - 100) / 8) + (n - 100) % 8 < 36 := by omega
            simp only [a1, a2, z01, ↓reduceIte, gd_t (ix_n hu (by decide)), bd_s]
          · simp only [a1, a2, z01, ↓reduceIte, bd_s]
        · simp only [a1, ↓reduceIte, bd_s]
      by_cases ha : n ≤ 145 ∧ (n - 100) % 8 ≤ 5
      · have a1 : (n - 100) / 8 ≤ 5 := by omega
        have hu : 6 * ((n - 100) / 8) + (n - 100) % 8 < 36 := by omega
        have n5 : 100 ≤ n ∧ n ≤ 145 := by omega
        have h6n : ¬ 6 ≤ (n - 100) % 8 := by omega
        exact ⟨ev 9 (K 9 (6 * ((n - 100) / 8) + (n - 100) % 8)), by rw [eu0, ip1, ip2]; simp only [a1, ha.2, z01, ↓reduceIte, gd_t (ix_n hu (by decide)), bd_s, nI_clamp (show 6 * ((n - 100) / 8) + (n - 100) % 8 < 2 ^ 31 by omega), uK h2 hu], by simp only [f_X5_told, B_X5_told_139, m1, m2, m3, m4, m5, n1, n2, n3, n4, n5, z01, and_self, s100, r8', d8, g6, h6n, i6, bd_s, ↓reduceIte, gd_t (ix_n hu (by decide)), nI_clamp (show 6 * ((n - 100) / 8) + (n - 100) % 8 < 2 ^ 31 by omega), mK h3 hu], K, hR⟩
      · refine ⟨-2, ?_, ?_, K, hR⟩
        · rw [eu0, ip1, ip2]
          by_cases a1 : (n - 100) / 8 ≤ 5
          · have a2 : ¬ (n - 100) % 8 ≤ 5 := by omega
            simp only [a1, a2, z01, ↓reduceIte, bd_s]
          · simp only [a1, ↓reduceIte, bd_s]
        · by_cases a5 : 100 ≤ n ∧ n ≤ 145
          · have h6n : 6 ≤ (n - 100) % 8 := by omega
            simp only [f_X5_told, B_X5_told_139, m1, m2, m3, m4, m5, n1, n2, n3, n4, a5, z01, and_self, s100, r8', d8, g6, h6n, bd_s, q0, q1, q2, z0, z1, z2, ↓reduceIte]
          · simp only [f_X5_told, B_X5_told_139, m1, m2, m3, m4, m5, n1, n2, n3, n4, a5, bd_s, q0, q1, q2, z0, z1, z2, ↓reduceIte]
