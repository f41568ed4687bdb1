/-! each piece chooses for itself -/
theorem rl_bit {w : Nat} {f : Nat → Nat} {b : Nat} : ∀ n, (rl w f n).testBit b = true ↔ w.testBit b = true ∧ ∀ p, p < n → (f p).testBit b = true
  | 0 => ⟨fun h => ⟨h, fun p hp => absurd hp (by omega)⟩, fun h => h.1⟩
  | n + 1 => by
    unfold rl
    rw [Nat.testBit_and, Bool.and_eq_true, rl_bit n]
    constructor
    · rintro ⟨⟨h1, h2⟩, h3⟩
      refine ⟨h1, fun p hp => ?_⟩
      by_cases e : p = n
      · subst e; exact h3
      · exact h2 p (by omega)
    · rintro ⟨h1, h2⟩
      exact ⟨⟨h1, fun p hp => h2 p (by omega)⟩, h2 n (by omega)⟩
theorem mg_rl {K : Nat → Nat → Nat} {m : Nat} {c : Nat → Nat} : ∀ i, mg K m c i = rl (cho K (K 0 9)) (fun p => gm K m p (c p)) i
  | 0 => rfl
  | i + 1 => by unfold mg rl; rw [mg_rl i]
theorem lo_bit {K : Nat → Nat → Nat} {p bo b : Nat} : ∀ n, (lo K p bo n).testBit b = true ↔ ∃ t, t < n ∧ mcs K p t bo = true ∧ (gq K p t).testBit b = true
  | 0 => ⟨fun h => absurd h (by show ¬ (0 : Nat).testBit b = true; rw [Nat.zero_testBit]; simp), fun ⟨t, ht, _⟩ => absurd ht (by omega)⟩
  | n + 1 => by
    unfold lo
    by_cases e : mcs K p n bo = true
    · rw [if_pos e, Nat.testBit_or, Bool.or_eq_true, lo_bit n]
      constructor
      · rintro (⟨t, h1, h2⟩ | h)
        · exact ⟨t, by omega, h2⟩
        · exact ⟨n, by omega, e, h⟩
      · rintro ⟨t, h1, h2⟩
        by_cases q : t = n
        · subst q; exact Or.inr h2.2
        · exact Or.inl ⟨t, by omega, h2⟩
    · rw [if_neg e, lo_bit n]
      constructor
      · rintro ⟨t, h1, h2⟩; exact ⟨t, by omega, h2⟩
      · rintro ⟨t, h1, h2⟩
        by_cases q : t = n
        · subst q; exact absurd h2.1 e
        · exact ⟨t, by omega, h2⟩
theorem ne0_bit : ∀ a, a < 32 → (a ≠ 0 ↔ ∃ b, b < 5 ∧ a.testBit b = true) := by decide +kernel
theorem b31 : ∀ b, b < 5 → (31 : Nat).testBit b = true := by decide +kernel
theorem ndf31 : ∀ a, a < 32 → ndf a 31 = 0 := by decide +kernel
theorem gm_gq {K : Nat → Nat → Nat} {m p t : Nat} (h : m.testBit p = false) : gm K m p t = gq K p t := by
  unfold gm gq rm; rw [h]; simp
theorem gm_31 {K : Nat → Nat → Nat} {m p t : Nat} (h : (prt K).testBit p = false ∨ m.testBit p = true) : gm K m p t = 31 := by
  unfold gm rm rea
  rw [Nat.testBit_and]
  rcases h with h | h <;> rw [h] <;> simp
/-- good by some chosen, bit by bit -/
theorem pick {K : Nat → Nat → Nat} {m b : Nat} (hx : ∀ p, p < 6 → ∃ t, t < 5 ∧ (alw K p).testBit t = true ∧ (gm K m p t).testBit b = true) : ∃ c, okC K c ∧ (∀ j, 6 ≤ j → c j = 0) ∧ ∀ p, p < 6 → (gm K m p (c p)).testBit b = true := by
  refine ⟨fun p => if h : p < 6 then Classical.choose (hx p h) else 0, fun p hp => ?_, fun j hj => ?_, fun p hp => ?_⟩
  · have h := Classical.choose_spec (hx p hp)
    simp only [hp, ↓reduceDIte]
    exact ⟨h.1, h.2.1⟩
  · simp only [show ¬ j < 6 by omega, ↓reduceDIte]
  · have h := Classical.choose_spec (hx p hp)
    simp only [hp, ↓reduceDIte]
    exact h.2.2
theorem sep {K : Nat → Nat → Nat} {m set : Nat} (hK : okK K) (h1 : ∀ p, p < 6 → set.testBit p = true → (prt K).testBit p = true ∧ m.testBit p = false) (h2 : ∀ p, p < 6 → set.testBit p = false → (prt K).testBit p = false ∨ m.testBit p = true) : (∃ c, okC K c ∧ (∀ j, 6 ≤ j → c j = 0) ∧ mg K m c 6 ≠ 0) ↔ rmN K set 31 ≠ 0 := by
  have hw := cho_lt hK (kWh hK)
  unfold rmN
  rw [ne0_bit _ (rl_lt hw 6)]
  constructor
  · rintro ⟨c, hc, _, hg⟩
    rw [mg_rl, ne0_bit _ (rl_lt hw 6)] at hg
    obtain ⟨b, hb, hg⟩ := hg
    rw [rl_bit] at hg
    refine ⟨b, hb, (rl_bit 6).mpr ⟨hg.1, fun p hp => ?_⟩⟩
    unfold ltS
    by_cases e : set.testBit p = true
    · rw [if_pos e, lo_bit]
      have hcp := hc p hp
      have hp2 := h1 p hp e
      have ea : alw K p = cho K p := by unfold alw; rw [if_pos hp2.1]
      have hgp := hg.2 p hp
      rw [gm_gq hp2.2] at hgp
      refine ⟨c p, hcp.1, ?_, hgp⟩
      unfold mcs
      rw [← ea, hcp.2, ndf31 _ (aq_lt hK hcp.1)]; rfl
    · rw [if_neg e]; exact b31 b hb
  · rintro ⟨b, hb, hg⟩
    rw [rl_bit] at hg
    obtain ⟨c, q1, q2, q3⟩ := pick (K := K) (m := m) (b := b) (fun p hp => by
      have hgp := hg.2 p hp
      unfold ltS at hgp
      by_cases e : set.testBit p = true
      · rw [if_pos e, lo_bit] at hgp
        obtain ⟨t, ht, hm, hq⟩ := hgp
        have hp2 := h1 p hp e
        unfold mcs at hm
        rw [Bool.and_eq_true] at hm
        refine ⟨t, ht, ?_, by rw [gm_gq hp2.2]; exact hq⟩
        unfold alw; rw [if_pos hp2.1]; exact hm.1
      · have ha := alw_ok hK p hp
        obtain ⟨t, ht, hq⟩ := (ne0_bit _ ha.1).mp (by omega)
        exact ⟨t, ht, hq, by rw [gm_31 (h2 p hp (by simpa using e))]; exact b31 b hb⟩)
    refine ⟨c, q1, q2, ?_⟩
    rw [mg_rl, ne0_bit _ (rl_lt hw 6)]
    exact ⟨b, hb, (rl_bit 6).mpr ⟨hg.1, q3⟩⟩
