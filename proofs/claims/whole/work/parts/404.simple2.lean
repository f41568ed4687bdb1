/-! later, piece, uses, told -/
theorem rngm (x : Int32) {b : Nat} (hb : b < 2 ^ 31) : (x < -1 ∨ nI b < x) ∨ (¬ (x < -1 ∨ nI b < x) ∧ (x = -1 ∨ ∃ j, j ≤ b ∧ x = nI j)) := by
  by_cases h : x < -1 ∨ nI b < x
  · exact Or.inl h
  · refine Or.inr ⟨h, ?_⟩
    have e1 : ¬ x.toInt < (-1 : Int32).toInt := fun q => h (Or.inl (Int32.lt_iff_toInt_lt.mpr q))
    have e2 : ¬ (nI b).toInt < x.toInt := fun q => h (Or.inr (Int32.lt_iff_toInt_lt.mpr q))
    have e3 : (-1 : Int32).toInt = -1 := rfl
    rw [nI_toInt hb] at e2
    by_cases hx : x.toInt = -1
    · exact Or.inl (Int32.toInt_inj.mp (by rw [hx, e3]))
    · obtain ⟨j, hj, hx2⟩ := nI_of (x := x) (fun z => by have := Int32.lt_iff_toInt_lt.mp z; have e0 : (0 : Int32).toInt = 0 := rfl; omega)
      have e : x.toInt = (j : Int) := by rw [hx2]; exact nI_toInt hj
      exact Or.inr ⟨j, by omega, hx2⟩
theorem c_inm (x : Int32) (b : Nat) (hb : b < 2 ^ 31) : (f_X4_within x (-1) (nI b) = some 0 ∧ f_X5_in x (-1) (nI b) = some 0) ∨ ((x = -1 ∨ ∃ j, j ≤ b ∧ x = nI j) ∧ f_X4_within x (-1) (nI b) = some 1 ∧ f_X5_in x (-1) (nI b) = some 1) := by
  rw [x4_within, x5_in]
  rcases rngm x hb with h | ⟨h, h2⟩
  · rw [if_pos h]; exact Or.inl ⟨rfl, rfl⟩
  · rw [if_neg h]; exact Or.inr ⟨h2, rfl, rfl⟩
theorem c_inL (x : Int32) (a b : Nat) (ha : a < 2 ^ 31) (hb : b < 2 ^ 31) : (f_X4_within x (nI a) (nI b) = some 0 ∧ f_X5_in x (nI a) (nI b) = some 0) ∨ ∃ t, a ≤ t ∧ t ≤ b ∧ x = nI t ∧ f_X4_within x (nI a) (nI b) = some 1 ∧ f_X5_in x (nI a) (nI b) = some 1 := by
  rw [x4_within, x5_in]
  by_cases h : x < nI a ∨ nI b < x
  · rw [if_pos h]; exact Or.inl ⟨rfl, rfl⟩
  · rw [if_neg h]
    obtain ⟨t, h1, h2, h3⟩ := in_nat ha hb (fun q => h (Or.inl q)) (fun q => h (Or.inr q))
    exact Or.inr ⟨t, h1, h2, h3, rfl, rfl⟩
theorem ev_n {r n : Nat} (h : n < 9) : ev r n = nI n := by unfold ev; rw [if_neg (by omega)]
theorem ev_n' {r n : Nat} (h : ¬ (r = 4 ∨ r = 9)) : nI n = ev r n := by unfold ev; rw [if_neg (fun q => h q.1)]
theorem nI_nm1 {n : Nat} (h : n < 2 ^ 31) : ¬ nI n = -1 := fun q => by
  have e : (nI n).toInt = (-1 : Int32).toInt := by rw [q]
  rw [nI_toInt h] at e
  have e2 : (-1 : Int32).toInt = -1 := rfl
  omega
theorem okv4 {j n : Nat} (h : n < 5 ∨ n = 9) : okv 4 j n := by unfold okv; omega
theorem okv9 {j n : Nat} (h : n < 4 ∨ n = 9) : okv 9 j n := by unfold okv; omega
theorem pu_5 : lp_5 Rel := by
  intro x y Su Sm ⟨K, hR⟩
  rcases c_terms x with ⟨hu, hm⟩ | ⟨t, ht, rfl, hu, hm⟩
  · exact ⟨-1, Su, by simp only [f_X4_later, hu, bd_s, ↓reduceIte], Sm, by simp only [f_X5_later, hm, bd_s, ↓reduceIte], K, hR⟩
  · have hix : ix (nI t) 5 := ix_n (by omega) (by decide)
    have hcl : (nI t).toNatClampNeg = t := nI_clamp (by omega)
    rcases c_inm y 4 (by decide) with ⟨gu, gm⟩ | ⟨hy, gu, gm⟩
    · have gu : f_X4_within y (-1) 4 = some 0 := gu
      have gm : f_X5_in y (-1) 4 = some 0 := gm
      exact ⟨-2, Su, by simp only [f_X4_later, hu, gu, bd_s, z01, ↓reduceIte], Sm, by simp only [f_X5_later, hm, gm, bd_s, z01, ↓reduceIte], K, hR⟩
    · have gu : f_X4_within y (-1) 4 = some 1 := gu
      have gm : f_X5_in y (-1) 4 = some 1 := gm
      by_cases hxy : y = nI t
      · subst hxy
        exact ⟨-2, Su, by simp only [f_X4_later, hu, gu, bd_s, z01, ↓reduceIte], Sm, by simp only [f_X5_later, hm, gm, bd_s, z01, ↓reduceIte], K, hR⟩
      · rcases hy with rfl | ⟨v, hv, rfl⟩
        · have hneg : ¬ (0 : Int32) ≤ -1 := by decide
          exact ⟨ev 4 (K 4 t), sto Su 12 t (-6), by simp only [f_X4_later, hu, gu, bd_s, z01, hxy, ↓reduceIte, gd_t hix, hcl, uL hR.2.1 ht], sto Sm 5 t (-6), by simp only [f_X5_later, hm, gm, bd_s, z01, hxy, hneg, ↓reduceIte, gd_t hix, hcl, mL hR.2.2.1 ht], Rel_put (r0 := 4) (i := t) (n := 9) hR rfl (okv4 (Or.inr rfl)) (fun r j hj => vU_in (r0 := 4) (by decide) hj) (fun r j hj => vM_inT (r0 := 4) (by decide) (by decide) hj) (by decide) (Or.inr ⟨by decide, by decide⟩)⟩
        · have hne : ¬ nI v = -1 := nI_nm1 (by omega)
          have hpos : (0 : Int32) ≤ nI v := nI_pos' (by omega)
          exact ⟨ev 4 (K 4 t), sto Su 12 t (nI v), by simp only [f_X4_later, hu, gu, bd_s, z01, hxy, hne, ↓reduceIte, gd_t hix, hcl, uL hR.2.1 ht], sto Sm 5 t (nI v), by simp only [f_X5_later, hm, gm, bd_s, z01, hxy, hpos, ↓reduceIte, gd_t hix, hcl, mL hR.2.2.1 ht], Rel_put (r0 := 4) (i := t) (n := v) hR (ev_n (by omega)).symm (okv4 (by omega)) (fun r j hj => vU_in (r0 := 4) (by decide) hj) (fun r j hj => vM_inT (r0 := 4) (by decide) (by decide) hj) (by decide) (Or.inr ⟨by decide, by decide⟩)⟩
section Sw
variable {p : Nat} {v : Int32} {S : St}
theorem sw13 (hp : p < 6) : f_X4_swap_13 (nI p) v S = some (S 13 p, sto S 13 p v) := by
  simp only [f_X4_swap_13, gd_t (ix_n hp (by decide)), bd_s, nI_clamp (show p < 2 ^ 31 by omega)]
theorem sw14 (hp : p < 6) : f_X4_swap_14 (nI p) v S = some (S 14 p, sto S 14 p v) := by
  simp only [f_X4_swap_14, gd_t (ix_n hp (by decide)), bd_s, nI_clamp (show p < 2 ^ 31 by omega)]
theorem sw15 (hp : p < 6) : f_X4_swap_15 (nI p) v S = some (S 15 p, sto S 15 p v) := by
  simp only [f_X4_swap_15, gd_t (ix_n hp (by decide)), bd_s, nI_clamp (show p < 2 ^ 31 by omega)]
theorem sw16 (hp : p < 6) : f_X4_swap_16 (nI p) v S = some (S 16 p, sto S 16 p v) := by
  simp only [f_X4_swap_16, gd_t (ix_n hp (by decide)), bd_s, nI_clamp (show p < 2 ^ 31 by omega)]
theorem sw17 (hp : p < 36) : f_X4_swap_17 (nI p) v S = some (S 17 p, sto S 17 p v) := by
  simp only [f_X4_swap_17, gd_t (ix_n hp (by decide)), bd_s, nI_clamp (show p < 2 ^ 31 by omega)]
end Sw
theorem i4 (p w : Nat) : (4 : Int32) * nI p + nI w = nI (4 * p + w) := by rw [show (4 : Int32) = nI 4 from rfl, pk_mul, nI_add]
theorem i6 (p w : Nat) : (6 : Int32) * nI p + nI w = nI (6 * p + w) := by rw [show (6 : Int32) = nI 6 from rfl, pk_mul, nI_add]
theorem i6' (p w : Nat) : nI p * (6 : Int32) + nI w = nI (6 * p + w) := by rw [show (6 : Int32) = nI 6 from rfl, pk_mul, nI_add, Nat.mul_comm]
theorem okv5 {j n : Nat} (h : 1 ≤ n ∧ n < 32) : okv 5 j n := by unfold okv; omega
theorem okv6 {j n : Nat} (h : n < 2) : okv 6 j n := by unfold okv; omega
theorem okv7 {j n : Nat} (h : n < 64) : okv 7 j n := by unfold okv; omega
theorem okv8 {j n : Nat} (h : n < 1000) : okv 8 j n := by unfold okv; omega
theorem bp28 {p w : Nat} {lo hi x : Int32} {S : St} (hp : p < 6) (hw : w < 4) (hmo : f_X5_mostOf (nI w) = some hi) (hin : f_X5_in x lo hi = some 1) : B_X5_piece_28 (nI p) (nI w) x lo x S = some (S 6 (4 * p + w), sto S 6 (4 * p + w) x) := by
  simp only [B_X5_piece_28, hmo, hin, bd_s, z01, ↓reduceIte, i4, gd_t (ix_n (show 4 * p + w < 24 by omega) (by decide)), nI_clamp (show 4 * p + w < 2 ^ 31 by omega)]
theorem bp28n {p w : Nat} {lo hi x : Int32} {S : St} (hmo : f_X5_mostOf (nI w) = some hi) (hin : f_X5_in x lo hi = some 0) : B_X5_piece_28 (nI p) (nI w) x lo x S = some (-2, S) := by
  simp only [B_X5_piece_28, hmo, hin, bd_s, ↓reduceIte]
theorem pu_6 : lp_6 Rel := by
  intro x y z Su Sm ⟨K, hR⟩
  rcases c_piece x with ⟨hu, hm⟩ | ⟨p, hp, rfl, hu, hm⟩
  · exact ⟨-1, Su, by simp only [f_X4_piece, hu, bd_s, ↓reduceIte], Sm, by simp only [f_X5_piece, hm, bd_s, ↓reduceIte], K, hR⟩
  · rcases c_in y 3 (by decide) with ⟨gu, gm⟩ | ⟨w, hw, rfl, gu, gm⟩
    · have gm : f_X5_in y 0 3 = some 0 := gm
      have hn : ¬ (¬ (y < 0 ∨ 3 < y)) := by
        intro q
        rw [x5_in, if_neg q] at gm
        exact absurd gm (by decide)
      have y0 : ¬ y = 0 := fun q => hn (by rw [q]; decide)
      have y1 : ¬ y = 1 := fun q => hn (by rw [q]; decide)
      have y2 : ¬ y = 2 := fun q => hn (by rw [q]; decide)
      have y3 : ¬ y = 3 := fun q => hn (by rw [q]; decide)
      exact ⟨-2, Su, by simp only [f_X4_piece, hu, bd_s, z01, y0, y1, y2, y3, ↓reduceIte], Sm, by simp only [f_X5_piece, hm, gm, bd_s, z01, ↓reduceIte], K, hR⟩
    · have gm : f_X5_in (nI w) 0 3 = some 1 := gm
      rcases (show w = 0 ∨ w = 1 ∨ w = 2 ∨ w = 3 by omega) with rfl | rfl | rfl | rfl
      · have e0 : nI 0 = (0 : Int32) := rfl
        have gm : f_X5_in 0 0 3 = some 1 := gm
        rcases c_inL z 1 31 (by decide) (by decide) with ⟨ku, km⟩ | ⟨v, v1, v2, rfl, ku, km⟩
        · have ku : f_X4_within z 1 31 = some 0 := ku
          exact ⟨-2, Su, by simp only [f_X4_piece, hu, ku, bd_s, z01, e0, ↓reduceIte], Sm, by simp only [f_X5_piece, hm, gm, bd_s, z01, e0, ↓reduceIte]; exact bp28n (w := 0) rfl km, K, hR⟩
        · have ku : f_X4_within (nI v) 1 31 = some 1 := ku
          exact ⟨nI (K 5 p), sto Su 13 p (nI v), by simp only [f_X4_piece, hu, ku, bd_s, z01, e0, ↓reduceIte, sw13 hp, bd2_s, uO hR.2.1 hp], sto Sm 6 (4 * p + 0) (nI v), by simp only [f_X5_piece, hm, gm, bd_s, z01, e0, ↓reduceIte]; rw [show B_X5_piece_28 (nI p) 0 (nI v) 1 (nI v) Sm = _ from bp28 (w := 0) hp (by decide) rfl km]; rw [show Sm 6 (4 * p + 0) = nI (K 5 p) from mO hR.2.2.1 hp], Rel_put (r0 := 5) (i := p) (n := v) hR (ev_n' (by decide)) (okv5 ⟨v1, by omega⟩) (fun r j hj => vU_in (r0 := 5) (by decide) hj) (fun r j hj => vM_inP (w := 0) (by decide) hj) (by decide) (Or.inr ⟨by decide, by decide⟩)⟩
      · have e0 : nI 1 = (1 : Int32) := rfl
        have gm : f_X5_in 1 0 3 = some 1 := gm
        have d1 : ¬ (1 : Int32) = 0 := by decide
        rcases c_inL z 0 1 (by decide) (by decide) with ⟨ku, km⟩ | ⟨v, v1, v2, rfl, ku, km⟩
        · have ku : f_X4_within z 0 1 = some 0 := ku
          exact ⟨-2, Su, by simp only [f_X4_piece, hu, ku, bd_s, z01, e0, ↓reduceIte], Sm, by simp only [f_X5_piece, hm, gm, bd_s, z01, e0, ↓reduceIte]; exact bp28n (w := 1) rfl km, K, hR⟩
        · have ku : f_X4_within (nI v) 0 1 = some 1 := ku
          exact ⟨nI (K 6 p), sto Su 14 p (nI v), by simp only [f_X4_piece, hu, ku, bd_s, z01, e0, ↓reduceIte, sw14 hp, bd2_s, uOL hR.2.1 hp], sto Sm 6 (4 * p + 1) (nI v), by simp only [f_X5_piece, hm, gm, bd_s, z01, e0, ↓reduceIte]; rw [show B_X5_piece_28 (nI p) 1 (nI v) 0 (nI v) Sm = _ from bp28 (w := 1) hp (by decide) rfl km, mOL hR.2.2.1 hp], Rel_put (r0 := 6) (i := p) (n := v) hR (ev_n' (by decide)) (okv6 (by omega)) (fun r j hj => vU_in (r0 := 6) (by decide) hj) (fun r j hj => vM_inP (w := 1) (by decide) hj) (by decide) (Or.inr ⟨by decide, by decide⟩)⟩
      · have e0 : nI 2 = (2 : Int32) := rfl
        have gm : f_X5_in 2 0 3 = some 1 := gm
        have d1 : ¬ (2 : Int32) = 0 := by decide
        have d2 : ¬ (2 : Int32) = 1 := by decide
        rcases c_inL z 0 63 (by decide) (by decide) with ⟨ku, km⟩ | ⟨v, v1, v2, rfl, ku, km⟩
        · have ku : f_X4_within z 0 63 = some 0 := ku
          exact ⟨-2, Su, by simp only [f_X4_piece, hu, ku, bd_s, z01, e0, d1, d2, ↓reduceIte], Sm, by simp only [f_X5_piece, hm, gm, bd_s, z01, e0, d1, ↓reduceIte]; exact bp28n (w := 2) rfl km, K, hR⟩
        · have ku : f_X4_within (nI v) 0 63 = some 1 := ku
          exact ⟨nI (K 7 p), sto Su 15 p (nI v), by simp only [f_X4_piece, hu, ku, bd_s, z01, e0, d1, d2, ↓reduceIte, sw15 hp, bd2_s, uW hR.2.1 hp], sto Sm 6 (4 * p + 2) (nI v), by simp only [f_X5_piece, hm, gm, bd_s, z01, e0, d1, ↓reduceIte]; rw [show B_X5_piece_28 (nI p) 2 (nI v) 0 (nI v) Sm = _ from bp28 (w := 2) hp (by decide) rfl km, mW hR.2.2.1 hp], Rel_put (r0 := 7) (i := p) (n := v) hR (ev_n' (by decide)) (okv7 (by omega)) (fun r j hj => vU_in (r0 := 7) (by decide) hj) (fun r j hj => vM_inP (w := 2) (by decide) hj) (by decide) (Or.inr ⟨by decide, by decide⟩)⟩
      · have e0 : nI 3 = (3 : Int32) := rfl
        have gm : f_X5_in 3 0 3 = some 1 := gm
        have d1 : ¬ (3 : Int32) = 0 := by decide
        have d2 : ¬ (3 : Int32) = 1 := by decide
        have d3 : ¬ (3 : Int32) = 2 := by decide
        rcases c_inL z 0 999 (by decide) (by decide) with ⟨ku, km⟩ | ⟨v, v1, v2, rfl, ku, km⟩
        · have ku : f_X4_within z 0 999 = some 0 := ku
          exact ⟨-2, Su, by simp only [f_X4_piece, hu, ku, bd_s, z01, e0, d1, d2, d3, ↓reduceIte], Sm, by simp only [f_X5_piece, hm, gm, bd_s, z01, e0, d1, ↓reduceIte]; exact bp28n (w := 3) rfl km, K, hR⟩
        · have ku : f_X4_within (nI v) 0 999 = some 1 := ku
          exact ⟨nI (K 8 p), sto Su 16 p (nI v), by simp only [f_X4_piece, hu, ku, bd_s, z01, e0, d1, d2, d3, ↓reduceIte, sw16 hp, bd2_s, uN' hR.2.1 hp], sto Sm 6 (4 * p + 3) (nI v), by simp only [f_X5_piece, hm, gm, bd_s, z01, e0, d1, ↓reduceIte]; rw [show B_X5_piece_28 (nI p) 3 (nI v) 0 (nI v) Sm = _ from bp28 (w := 3) hp (by decide) rfl km, mN hR.2.2.1 hp], Rel_put (r0 := 8) (i := p) (n := v) hR (ev_n' (by decide)) (okv8 (by omega)) (fun r j hj => vU_in (r0 := 8) (by decide) hj) (fun r j hj => vM_inP (w := 3) (by decide) hj) (by decide) (Or.inr ⟨by decide, by decide⟩)⟩
theorem kd_sub {p q : Nat} (hq : q < p) (hp : p < 6) : ¬ (nI q < 0 ∨ nI p - 1 < nI q) := by
  have e : nI p - 1 = nI (p - 1) := pk_sub (a := p) (b := 1) (by omega)
  rw [e]
  exact rng_t (b := p - 1) (by omega) (by omega) rfl
theorem pu_7 : lp_7 Rel := by
  intro x y z Su Sm ⟨K, hR⟩
  rcases c_piece x with ⟨hu, hm⟩ | ⟨p, hp, rfl, hu, hm⟩
  · exact ⟨-1, Su, by simp only [f_X4_uses, hu, bd_s, ↓reduceIte], Sm, by simp only [f_X5_uses, hm, bd_s, ↓reduceIte], K, hR⟩
  · by_cases hq : ∃ q, q < p ∧ y = nI q
    · obtain ⟨q, hq, rfl⟩ := hq
      have gu : f_X4_within (nI q) 0 (nI p - 1) = some 1 := by rw [x4_within, if_neg (kd_sub hq hp)]
      have gm : f_X5_isPiece (nI q) = some 1 := by rw [x5_isPiece, if_neg (show ¬ (nI q < 0 ∨ 5 < nI q) from rng_t (b := 5) (by decide) (show q ≤ 5 by omega) rfl)]
      have hlt : nI q < nI p := nI_lt hq (by omega)
      rcases c_inm z 3 (by decide) with ⟨ku, km⟩ | ⟨hz, ku, km⟩
      · have ku : f_X4_within z (-1) 3 = some 0 := ku
        have km : f_X5_in z (-1) 3 = some 0 := km
        exact ⟨-2, Su, by simp only [f_X4_uses, hu, gu, ku, bd_s, z01, ↓reduceIte], Sm, by simp only [f_X5_uses, hm, gm, km, hlt, bd_s, z01, ↓reduceIte], K, hR⟩
      · have ku : f_X4_within z (-1) 3 = some 1 := ku
        have km : f_X5_in z (-1) 3 = some 1 := km
        have hix : ix (nI (6 * p + q)) 36 := ix_n (by omega) (by decide)
        have hcl : (nI (6 * p + q)).toNatClampNeg = 6 * p + q := nI_clamp (by omega)
        have hus : 6 * p + q < 36 := by omega
        rcases hz with rfl | ⟨v, hv, rfl⟩
        · have hneg : ¬ (0 : Int32) ≤ -1 := by decide
          exact ⟨ev 9 (K 9 (6 * p + q)), sto Su 17 (6 * p + q) (-6), by simp only [f_X4_uses, hu, gu, ku, f_X4_use, B_X4_uses_55, i6', sw17 hus, bd_s, bd2_s, z01, ↓reduceIte, uK hR.2.1 hus], sto Sm 7 (6 * p + q) (-6), by simp only [f_X5_uses, hm, gm, km, hlt, i6, hneg, bd_s, z01, ↓reduceIte, gd_t hix, hcl, mK hR.2.2.1 hus], Rel_put (r0 := 9) (i := 6 * p + q) (n := 9) hR rfl (okv9 (Or.inr rfl)) (fun r j hj => vU_in (r0 := 9) (by decide) hj) (fun r j hj => vM_inK hj) (by decide) (Or.inr ⟨by decide, by decide⟩)⟩
        · have hne : ¬ nI v = -1 := nI_nm1 (by omega)
          have hpos : (0 : Int32) ≤ nI v := nI_pos' (by omega)
          exact ⟨ev 9 (K 9 (6 * p + q)), sto Su 17 (6 * p + q) (nI v), by simp only [f_X4_uses, hu, gu, ku, f_X4_use, B_X4_uses_55, i6', sw17 hus, bd_s, bd2_s, z01, hne, ↓reduceIte, uK hR.2.1 hus], sto Sm 7 (6 * p + q) (nI v), by simp only [f_X5_uses, hm, gm, km, hlt, i6, hpos, bd_s, z01, ↓reduceIte, gd_t hix, hcl, mK hR.2.2.1 hus], Rel_put (r0 := 9) (i := 6 * p + q) (n := v) hR (ev_n (by omega)).symm (okv9 (by omega)) (fun r j hj => vU_in (r0 := 9) (by decide) hj) (fun r j hj => vM_inK hj) (by decide) (Or.inr ⟨by decide, by decide⟩)⟩
    · have gu : f_X4_within y 0 (nI p - 1) = some 0 := by
        rw [x4_within]
        by_cases h : y < 0 ∨ nI p - 1 < y
        · rw [if_pos h]
        · exfalso
          by_cases p0 : p = 0
          · subst p0
            have e1 : ¬ y.toInt < (0 : Int32).toInt := fun q => h (Or.inl (Int32.lt_iff_toInt_lt.mpr q))
            have e2 : ¬ (nI 0 - 1).toInt < y.toInt := fun q => h (Or.inr (Int32.lt_iff_toInt_lt.mpr q))
            have e3 : (0 : Int32).toInt = 0 := rfl
            have e4 : (nI 0 - 1).toInt = -1 := rfl
            omega
          · have e : nI p - 1 = nI (p - 1) := pk_sub (a := p) (b := 1) (by omega)
            rw [e] at h
            obtain ⟨j, _, h2, h3⟩ := in_nat (a := 0) (by decide) (by omega) (fun q => h (Or.inl q)) (fun q => h (Or.inr q))
            exact hq ⟨j, by omega, h3⟩
      refine ⟨-1, Su, by simp only [f_X4_uses, hu, gu, bd_s, z01, ↓reduceIte], Sm, ?_, K, hR⟩
      rcases c_piece y with ⟨_, km⟩ | ⟨q, hq2, rfl, _, km⟩
      · simp only [f_X5_uses, hm, km, bd_s, z01, ↓reduceIte]
      · have hlt : ¬ nI q < nI p := fun h => hq ⟨q, (nI_ltI (by omega) (by omega)).mp h, rfl⟩
        simp only [f_X5_uses, hm, km, hlt, bd_s, z01, ↓reduceIte]
