/-! bar: both -/
theorem rmN0 {K : Nat → Nat → Nat} (hK : okK K) : rmN K 0 31 ≠ 0 := by
  have hw := cho_lt hK (kWh hK)
  have hp := cho_pos hK (kWh hK)
  unfold rmN
  rw [ne0_bit _ (rl_lt hw 6)]
  obtain ⟨b, hb, h⟩ := (ne0_bit _ hw).mp (by omega)
  refine ⟨b, hb, (rl_bit 6).mpr ⟨h, fun p hp => ?_⟩⟩
  unfold ltS
  rw [Nat.zero_testBit, if_neg (by simp)]
  exact b31 b hb
theorem cb_1 {K : Nat → Nat → Nat} (hK : okK K) : cb K 1 = prt K := by
  rw [cb_s, if_neg (fun q => rmN0 hK q.2.2)]; rfl
theorem ndf_self : ∀ a, a < 64 → ndf a a = 0 := by decide +kernel
theorem nI_lt0 : ∀ a, a < 64 → ¬ nI a < 0 := by decide +kernel
theorem x5_barl {K : Nat → Nat → Nat} {S : St} (hK : okK K) (h : ∃ m, mOK K m S) (hbar : rmN K (prt K) 31 = 0) : ∃ r, (r.1 = nI (cb K 64) ∧ coM S r.2) ∧ lpI (F_X5_bar_19 4096) 4096 (-6, 1, S) = some r := by
  have hpl := prt_lt hK
  have hp0 : prt K ≠ 0 := fun e => rmN0 hK (by rw [e] at hbar; exact hbar)
  refine lp_rel (F := F_X5_bar_19 4096) (fun i x => ∃ v S' m, x = (v, nI (i + 1), S') ∧ ((v = -6 ∧ cb K (i + 1) = prt K ∧ i + 1 ≤ prt K) ∨ v = nI (cb K (i + 1))) ∧ mOK K m S' ∧ coM S S') 63 4096 (by decide) (fun i hi x hx => ?_) (fun x hx => ?_) ?_
  · obtain ⟨v, S', m, e, hv, ho, hc⟩ := hx
    subst e
    have hi1 : i + 1 < 64 := by omega
    have hcb := cb_lt hK (i + 1) (by omega)
    have h64 : ¬ (64 : Int32) ≤ nI (i + 1) := nI_ge (a := i + 1) (b := 64) (by omega) (by decide)
    have hnd : ndf (i + 1) (prt K) < 64 := Nat.lt_of_le_of_lt (ndf_le _ _) hi1
    by_cases e2 : ndf (i + 1) (prt K) = 0
    · obtain ⟨S2, ho2, hc2, hk⟩ := x5_b51 (v := v) hK ho hi1 e2
      have e0 : nI (ndf (i + 1) (prt K)) = 0 := by rw [e2]; rfl
      rcases hv with ⟨a, b, c⟩ | a
      · have hb : ∀ k, FB_X5_bar_19 4096 k v (nI (i + 1)) S' = B_X5_bar_51 4096 k v (nI (i + 1)) S' := fun k => by
          unfold FB_X5_bar_19
          rw [if_neg h64, x5_inside hK ho, bd_s, pa_ndf _ hi1 _ hpl, if_pos e0, if_pos (by rw [a]; decide)]
        by_cases e3 : rmN K (i + 1) 31 = 0
        · refine ⟨_, ⟨nI (i + 1), S2, _, rfl, Or.inr ?_, ho2, coM_trans hc hc2⟩, fun k => ?_⟩
          · by_cases q : i + 1 = prt K
            · rw [cb_s, if_neg (by rw [b, q]; omega), b, q]
            · rw [cb_s, if_pos ⟨by rw [b]; exact pop_sub _ hi1 _ hpl e2 q, e2, e3⟩]
          · show FB_X5_bar_19 4096 k v (nI (i + 1)) S' = _
            rw [hb, hk, if_pos e3]
        · have q : i + 1 ≠ prt K := fun z => e3 (by rw [z]; exact hbar)
          refine ⟨_, ⟨v, S2, _, rfl, Or.inl ⟨a, ?_, by omega⟩, ho2, coM_trans hc hc2⟩, fun k => ?_⟩
          · rw [cb_s, if_neg (fun z => e3 z.2.2), b]
          · show FB_X5_bar_19 4096 k v (nI (i + 1)) S' = _
            rw [hb, hk, if_neg e3]
      · have ql := nI_le7 (pop_lt _ hcb) (pop_lt _ hi1)
        have hb : ∀ k, FB_X5_bar_19 4096 k v (nI (i + 1)) S' = if pop (cb K (i + 1)) ≤ pop (i + 1) then k (v, nI (i + 1 + 1), S') else B_X5_bar_51 4096 k v (nI (i + 1)) S' := fun k => by
          unfold FB_X5_bar_19
          rw [if_neg h64, x5_inside hK ho, bd_s, pa_ndf _ hi1 _ hpl, if_pos e0, if_neg (by rw [a]; exact nI_lt0 _ hcb), x5_bits _ hi1, bd_s, a, x5_bits _ hcb, bd_s, nI_1]
          by_cases e : pop (cb K (i + 1)) ≤ pop (i + 1)
          · rw [if_pos (by rw [ql]; exact e), if_pos e]
          · rw [if_neg (by rw [ql]; exact e), if_neg e]
        by_cases e : pop (cb K (i + 1)) ≤ pop (i + 1)
        · refine ⟨_, ⟨v, S', m, rfl, Or.inr ?_, ho, hc⟩, fun k => ?_⟩
          · rw [cb_s, if_neg (by omega)]; exact a
          · show FB_X5_bar_19 4096 k v (nI (i + 1)) S' = _
            rw [hb, if_pos e]
        · by_cases e3 : rmN K (i + 1) 31 = 0
          · refine ⟨_, ⟨nI (i + 1), S2, _, rfl, Or.inr ?_, ho2, coM_trans hc hc2⟩, fun k => ?_⟩
            · rw [cb_s, if_pos ⟨by omega, e2, e3⟩]
            · show FB_X5_bar_19 4096 k v (nI (i + 1)) S' = _
              rw [hb, if_neg e, hk, if_pos e3]
          · refine ⟨_, ⟨v, S2, _, rfl, Or.inr ?_, ho2, coM_trans hc hc2⟩, fun k => ?_⟩
            · rw [cb_s, if_neg (fun z => e3 z.2.2)]; exact a
            · show FB_X5_bar_19 4096 k v (nI (i + 1)) S' = _
              rw [hb, if_neg e, hk, if_neg e3]
    · refine ⟨_, ⟨v, S', m, rfl, ?_, ho, hc⟩, fun k => ?_⟩
      · rw [cb_s, if_neg (fun q => e2 q.2.1)]
        rcases hv with ⟨a, b, c⟩ | a
        · have hne : i + 1 ≠ prt K := fun q => e2 (by rw [q]; exact ndf_self _ hpl)
          exact Or.inl ⟨a, b, by omega⟩
        · exact Or.inr a
      · show FB_X5_bar_19 4096 k v (nI (i + 1)) S' = _
        have en : ¬ nI (ndf (i + 1) (prt K)) = 0 := fun q => e2 (nI_inj (b := 0) (by omega) (by decide) q)
        unfold FB_X5_bar_19
        rw [if_neg h64, x5_inside hK ho, bd_s, pa_ndf _ hi1 _ hpl, if_neg en, nI_1]
  · obtain ⟨v, S', m, e, hv, ho, hc⟩ := hx
    subst e
    refine ⟨(v, S'), ⟨?_, hc⟩, fun k => ?_⟩
    · rcases hv with ⟨_, _, c⟩ | a
      · omega
      · exact a
    · show FB_X5_bar_19 4096 k v (nI 64) S' = _
      unfold FB_X5_bar_19
      rw [if_pos (by decide)]
  · obtain ⟨m, ho⟩ := h
    exact ⟨-6, S, m, rfl, Or.inl ⟨rfl, cb_1 hK, by omega⟩, ho, coM_refl S⟩
