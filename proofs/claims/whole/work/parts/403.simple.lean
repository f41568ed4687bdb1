/-! say, wipe, about, whole, coin -/
theorem pu_0 : lp_0 Rel := by
  intro x Su Sm ⟨K, hR⟩
  unfold f_X4_say f_X5_say
  rw [x4_within, x5_in, bd_s, bd_s]
  by_cases hr : x < 33 ∨ 126 < x
  · rw [if_pos hr, if_pos rfl, if_pos rfl]
    exact ⟨_, _, rfl, _, rfl, K, hR⟩
  · rw [if_neg hr, if_neg z01, if_neg z01]
    obtain ⟨h1, h2, h3, ⟨c, h4, h5, h6, h7⟩, h8⟩ := hR
    rw [h5, h6]
    by_cases hc : c = 20
    · subst hc
      rw [if_neg (by decide), if_pos (show nI 20 = (20 : Int32) from rfl)]
      exact ⟨_, _, rfl, _, rfl, K, h1, h2, h3, ⟨20, h4, h5, h6, h7⟩, h8⟩
    · have hc20 : c < 20 := by omega
      have hlt : nI c < (20 : Int32) := nI_lt (b := 20) hc20 (by decide)
      have hne : ¬ nI c = (20 : Int32) := fun q => hc (nI_inj (by omega) (by decide) q)
      have hge : ¬ (20 : Int32) ≤ nI c := nI_ge (a := c) (b := 20) hc20 (by decide)
      have hcl : (nI c).toNatClampNeg = c := nI_clamp (by omega)
      unfold f_X2_put
      rw [if_pos hlt, if_neg hne, h5, if_neg hge, gd_t (ix_n hc20 (by omega)), gd_t (ix_n hc20 (by omega)), bd_s, bd_s, bd_s, bd_s, hcl]
      have e1 : sto Su 8 c x 1 1 = nI c := by rw [sto_n (by decide)]; exact h5
      have e2 : sto Sm 1 c x 0 0 = nI c := by rw [sto_n (by decide)]; exact h6
      rw [e1, e2, bd_s]
      have e3 : sto (sto Su 8 c x) 1 1 (nI c + 1) 1 1 = nI (c + 1) := by rw [sto_s, if_pos rfl]; exact nI_1 c
      have e4 : sto (sto Sm 1 c x) 0 0 (nI c + 1) 0 0 = nI (c + 1) := by rw [sto_s, if_pos rfl]; exact nI_1 c
      refine ⟨nI (c + 1), _, by rw [e3], sto (sto Sm 1 c x) 0 0 (nI c + 1), by rw [e4], K, h1, rep_same h2 (fun r j hj => ?_), rep_same h3 (fun r j hj => ?_), ⟨c + 1, by omega, e3, e4, ?_⟩, imgR_same h8 ?_ ?_ (fun n r j _ _ => ?_) (fun n r j _ _ => ?_)⟩
      · rw [vU_out (by decide) (by decide) hj, vU_out (by decide) (by decide) hj]
      · rw [vM_out (by omega) hj, vM_out (by omega) hj]
      · rw [sto_n (show 8 ≠ 1 by decide), sto_n (show 1 ≠ 0 by decide)]; unfold sto; rw [str_s, str_s, h7]
      · rw [sto_n (by decide), sto_n (by decide)]
      · rw [sto_n (by decide), sto_n (by decide)]
      · rw [vI_out (by decide), vI_out (by decide)]
      · rw [vN_out (by decide), vN_out (by decide)]
theorem pu_1 : lp_1 Rel := by
  intro Su Sm ⟨K, h1, h2, h3, ⟨c, h4, h5, h6, h7⟩, h8⟩
  unfold f_X4_wipe f_X5_wipe
  rw [bd_s, bd_s, bd_s, bd_s, h5, h6]
  refine ⟨_, _, rfl, _, rfl, K, h1, rep_same h2 (fun r j hj => vU_out (by decide) (by decide) hj), rep_same h3 (fun r j hj => vM_out (by decide) hj), ⟨0, by decide, ?_, ?_, ?_⟩, imgR_same h8 (sto_n (by decide)) (sto_n (by decide)) (fun n r j _ _ => vI_out (by decide)) (fun n r j _ _ => vN_out (by decide))⟩
  · rw [sto_s, if_pos rfl]; rfl
  · rw [sto_s, if_pos rfl]; rfl
  · rw [sto_n (by decide), sto_n (by decide)]; exact h7
theorem c_terms (x : Int32) : (f_X4_isTerms x = some 0 ∧ f_X5_isTerms x = some 0) ∨ ∃ t, t < 5 ∧ x = nI t ∧ f_X4_isTerms x = some 1 ∧ f_X5_isTerms x = some 1 := by
  rw [x4_isTerms, x5_isTerms]
  rcases rng (x := x) (b := 4) (by decide) with hr | ⟨t, ht, e⟩
  · have hr : x < 0 ∨ 4 < x := hr
    rw [if_pos hr]; exact Or.inl ⟨rfl, rfl⟩
  · have hr : ¬ (x < 0 ∨ 4 < x) := rng_t (b := 4) (by decide) ht e
    rw [if_neg hr]; exact Or.inr ⟨t, by omega, e, rfl, rfl⟩
theorem c_piece (x : Int32) : (f_X4_isPiece x = some 0 ∧ f_X5_isPiece x = some 0) ∨ ∃ t, t < 6 ∧ x = nI t ∧ f_X4_isPiece x = some 1 ∧ f_X5_isPiece x = some 1 := by
  rw [x4_isPiece, x5_isPiece]
  rcases rng (x := x) (b := 5) (by decide) with hr | ⟨t, ht, e⟩
  · have hr : x < 0 ∨ 5 < x := hr
    rw [if_pos hr]; exact Or.inl ⟨rfl, rfl⟩
  · have hr : ¬ (x < 0 ∨ 5 < x) := rng_t (b := 5) (by decide) ht e
    rw [if_neg hr]; exact Or.inr ⟨t, by omega, e, rfl, rfl⟩
theorem c_in (x : Int32) (b : Nat) (hb : b < 2 ^ 31) : (f_X4_within x 0 (nI b) = some 0 ∧ f_X5_in x 0 (nI b) = some 0) ∨ ∃ t, t ≤ b ∧ x = nI t ∧ f_X4_within x 0 (nI b) = some 1 ∧ f_X5_in x 0 (nI b) = some 1 := by
  rw [x4_within, x5_in]
  rcases rng (x := x) (b := b) hb with hr | ⟨t, ht, e⟩
  · rw [if_pos hr]; exact Or.inl ⟨rfl, rfl⟩
  · rw [if_neg (rng_t hb ht e)]; exact Or.inr ⟨t, ht, e, rfl, rfl⟩
theorem pu_4 : lp_4 Rel := by
  intro x y Su Sm ⟨K, hR⟩
  rcases c_terms x with ⟨hu, hm⟩ | ⟨t, ht, rfl, hu, hm⟩
  · exact ⟨-1, by simp only [f_X4_about, hu, bd_s, ↓reduceIte], by simp only [f_X5_about, hm, bd_s, ↓reduceIte], K, hR⟩
  · have hix : ix (nI t) 5 := ix_n (by omega) (by decide)
    have hcl : (nI t).toNatClampNeg = t := nI_clamp (by omega)
    obtain ⟨h1, h2, h3, hrest⟩ := id hR
    have eu : f_X4_about (nI t) y Su = if y = 0 then some (nI (K 1 t)) else if y = 1 then some (nI (K 2 t)) else if y = 2 then some (nI (K 3 t)) else if y = 3 then some (ev 4 (K 4 t)) else some (-2) := by
      simp only [f_X4_about, hu, bd_s, z01, ↓reduceIte, gd_t hix, hcl, uA h2 ht, uR h2 ht, uG h2 ht, uL h2 ht]
    have em : f_X5_about (nI t) y Sm = if y = 0 then some (nI (K 1 t)) else if y = 1 then some (nI (K 2 t)) else if y = 2 then some (nI (K 3 t)) else if y = 3 then some (ev 4 (K 4 t)) else some (-2) := by
      simp only [f_X5_about, hm, bd_s, z01, ↓reduceIte, gd_t hix, hcl, mA h3 ht, mR h3 ht, mG h3 ht, mL h3 ht]
    rw [eu, em]
    by_cases y0 : y = 0
    · exact ⟨_, by rw [if_pos y0], by rw [if_pos y0], K, hR⟩
    · rw [if_neg y0]
      by_cases y1 : y = 1
      · exact ⟨_, by rw [if_pos y1], by rw [if_pos y1], K, hR⟩
      · rw [if_neg y1]
        by_cases y2 : y = 2
        · exact ⟨_, by rw [if_pos y2], by rw [if_pos y2], K, hR⟩
        · rw [if_neg y2]
          by_cases y3 : y = 3
          · exact ⟨_, by rw [if_pos y3], by rw [if_pos y3], K, hR⟩
          · exact ⟨_, by rw [if_neg y3], by rw [if_neg y3], K, hR⟩
theorem okv0 {n : Nat} (h : n < 6) : okv 0 9 n := by unfold okv; omega
theorem okv0c {n : Nat} (h : n < 100) : okv 0 10 n := by unfold okv; omega
theorem pu_9 : lp_9 Rel := by
  intro x Su Sm ⟨K, hR⟩
  rcases c_piece x with ⟨hu, hm⟩ | ⟨t, ht, rfl, hu, hm⟩
  · exact ⟨-1, Su, by simp only [f_X4_whole, hu, bd_s, ↓reduceIte], Sm, by simp only [f_X5_whole, hm, bd_s, ↓reduceIte], K, hR⟩
  · exact ⟨nI (K 0 9), sto Su 2 9 (nI t), by simp only [f_X4_whole, hu, bd_s, z01, ↓reduceIte, uWh hR.2.1], sto Sm 0 8 (nI t), by simp only [f_X5_whole, hm, bd_s, z01, ↓reduceIte, mWh hR.2.2.1], Rel_put (r0 := 0) (i := 9) (n := t) hR rfl (okv0 ht) (fun r j hj => vU_in0 hj) (fun r j hj => vM_in0 (i := 9) (Or.inl rfl) hj) (Or.inl rfl) (Or.inl ⟨rfl, by decide⟩)⟩
theorem pu_10 : lp_10 Rel := by
  intro x Su Sm ⟨K, hR⟩
  rcases c_in x 99 (by decide) with ⟨hu, hm⟩ | ⟨t, ht, rfl, hu, hm⟩
  · have hu : f_X4_within x 0 99 = some 0 := hu
    have hm : f_X5_in x 0 99 = some 0 := hm
    exact ⟨-2, Su, by simp only [f_X4_coin, hu, bd_s, ↓reduceIte], Sm, by simp only [f_X5_coin, hm, bd_s, ↓reduceIte], K, hR⟩
  · have hu : f_X4_within (nI t) 0 99 = some 1 := hu
    have hm : f_X5_in (nI t) 0 99 = some 1 := hm
    exact ⟨nI (K 0 10), sto Su 2 10 (nI t), by simp only [f_X4_coin, hu, bd_s, z01, ↓reduceIte, uCn hR.2.1], sto Sm 0 9 (nI t), by simp only [f_X5_coin, hm, bd_s, z01, ↓reduceIte, mCn hR.2.2.1], Rel_put (r0 := 0) (i := 10) (n := t) hR rfl (okv0c (by omega)) (fun r j hj => vU_in0 hj) (fun r j hj => vM_in0 (i := 10) (Or.inr rfl) hj) (Or.inl rfl) (Or.inl ⟨rfl, by decide⟩)⟩
