theorem mOK_lay {K : Nat → Nat → Nat} {S : St} (h : rep K (vM S)) : mOK K 0 (layF K S) := by
  have hr : rep K (vM (layF K S)) := rep_same h (fun r j hj => vM_co (layF_co K S) hj)
  exact ⟨mWh hr, fun r hr' => lay_wi hr', fun p hp => lay_may hp, by unfold layF; rw [if_neg (by decide), if_neg (by decide), if_pos ⟨rfl, rfl⟩]; rfl, fun t ht => mA hr ht, fun t ht => mR hr ht, fun t ht => mG hr ht⟩
theorem pbits {K : Nat → Nat → Nat} : (∀ p, p < 6 → (prt K).testBit p = true → (prt K).testBit p = true ∧ (0 : Nat).testBit p = false) ∧ (∀ p, p < 6 → (prt K).testBit p = false → (prt K).testBit p = false ∨ (0 : Nat).testBit p = true) :=
  ⟨fun p _ e => ⟨e, Nat.zero_testBit p⟩, fun p _ e => Or.inl e⟩
theorem pu_15 : lp_15 4096 Rel := by
  intro Su Sm ⟨K, hR⟩
  obtain ⟨e1, c1, w1⟩ := x3_spin hR.1 hR.2.1
  have hK := hR.1
  have hl := x5_lay hK hR.2.2.1
  have ho := mOK_lay hR.2.2.1
  have es := x3_someGoodWith hK w1 (prt_lt hK)
  obtain ⟨d, em⟩ := x5_sgd (set := prt K) hK (by decide) ho pbits.1 pbits.2
  by_cases q : rmN K (prt K) 31 = 0
  · have q0 : sgd K (prt K) = 0 := by rw [sg01]; exact q
    obtain ⟨⟨ru, Su'⟩, ⟨h1, h2⟩, h3⟩ := x4_fewest (S := r25 (spF K Su) (ltS K (prt K) 31) 6) hK (web_r25 w1)
    obtain ⟨⟨rm', Sm'⟩, ⟨g1, g2⟩, g3⟩ := x5_barl (S := q10 (layF K Sm) d) hK ⟨0, mOK_q ho⟩ q
    refine ⟨nI (cb K 64), Su', ?_, Sm', ?_, K, RelK_co hR (coU_trans c1 (coU_trans r25_co h2)) (coM_trans (layF_co K Sm) (coM_trans q10_co g2))⟩
    · unfold f_X4_bar
      rw [e1, bd_s, w1.2.2.1, es, bd2_s, if_pos q0, h3, bd2_s]
      exact congrArg (fun z => some (z, Su')) h1
    · unfold f_X5_bar
      rw [hl, bd_s, em, bd2_s, if_pos q0, g3]
      exact congrArg (fun z => some (z, Sm')) g1
  · have q0 : ¬ sgd K (prt K) = 0 := by rw [sg01]; exact q
    refine ⟨-3, r25 (spF K Su) (ltS K (prt K) 31) 6, ?_, q10 (layF K Sm) d, ?_, K, RelK_co hR (coU_trans c1 r25_co) (coM_trans (layF_co K Sm) q10_co)⟩
    · unfold f_X4_bar
      rw [e1, bd_s, w1.2.2.1, es, bd2_s, if_neg q0]
    · unfold f_X5_bar
      rw [hl, bd_s, em, bd2_s, if_neg q0]
