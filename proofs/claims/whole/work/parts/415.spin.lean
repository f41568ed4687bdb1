/-! spin; pieces, agree -/
def spn (K : Nat → Nat → Nat) (S : St) (i : Nat) : St := fun k j => if k = 21 ∧ j < 36 then S 17 j else if k = 18 ∧ j < i then nI (cho K j) else S k j
theorem spn_k {K : Nat → Nat → Nat} {S : St} {i k j : Nat} (h : k ≠ 21) (h18 : k ≠ 18) : spn K S i k j = S k j := by unfold spn; rw [if_neg (fun q => h q.1), if_neg (fun q => h18 q.1)]
theorem spn_co (K : Nat → Nat → Nat) (S : St) (i : Nat) : coU S (spn K S i) := by
  refine ⟨?_, ?_, fun k h1 h2 => ?_, fun k h1 h2 => ?_, spn_k (by decide) (by decide)⟩ <;> (funext j; exact spn_k (by omega) (by omega))
theorem spn_0 {K : Nat → Nat → Nat} {S : St} : str S 21 (va_cpy (S 17) (S 21) 0 0 36) = spn K S 0 := by
  funext k j
  rw [str_at, cpy0]
  unfold spn
  by_cases e : k = 21
  · subst e
    rw [if_pos rfl]
    by_cases c : j < 36
    · rw [if_pos c, if_pos ⟨rfl, c⟩]
    · rw [if_neg c, if_neg (fun q => c q.2), if_neg (by omega)]
  · rw [if_neg e, if_neg (fun q => e q.1), if_neg (by omega)]
theorem spn_s {K : Nat → Nat → Nat} {S : St} {i : Nat} : sto (spn K S i) 18 i (nI (cho K i)) = spn K S (i + 1) := by
  funext k j
  rw [sto_at]
  unfold spn
  by_cases e : k = 18 ∧ j = i
  · rw [if_pos e, if_neg (by omega), if_pos (by omega), e.2]
  · rw [if_neg e]
    by_cases c : k = 21 ∧ j < 36
    · rw [if_pos c, if_pos c]
    · rw [if_neg c, if_neg c]
      by_cases c2 : k = 18 ∧ j < i
      · rw [if_pos c2, if_pos (by omega)]
      · rw [if_neg c2, if_neg (show ¬ (k = 18 ∧ j < i + 1) by omega)]
theorem rep_co {K : Nat → Nat → Nat} {S S' : St} (h : rep K (vU S)) (hc : coU S S') : rep K (vU S') := rep_same h (fun r j hj => vU_co hc hj)
def spF (K : Nat → Nat → Nat) (S : St) : St := sp2 K (spn K S 6) 30
theorem x3_spin {K : Nat → Nat → Nat} {S : St} (hK : okK K) (h2 : rep K (vU S)) : f_X3_spin 4096 S = some (spF K S) ∧ coU S (spF K S) ∧ webOK K (spF K S) := by
  have hR6 := rep_co h2 (spn_co K S 6)
  have hkd : ∀ u, u < 36 → spn K S 6 21 u = ev 9 (K 9 u) := fun u hu => by
    unfold spn; rw [if_pos ⟨rfl, hu⟩]; exact uK h2 hu
  have h18 : ∀ p, p < 6 → spn K S 6 18 p = nI (cho K p) := fun p hp => by
    unfold spn; rw [if_neg (by omega), if_pos ⟨rfl, hp⟩]
  have sp := x3_spread (S := spn K S 6) hK (uWh hR6) hkd (fun t ht => uA hR6 ht) (fun t ht => uR hR6 ht) (fun t ht => uG hR6 ht)
  refine ⟨?_, coU_trans (spn_co K S 6) (sp2_co K _ 30), sp2_web (uWh hR6) hkd (fun t ht => uA hR6 ht) (fun t ht => uR hR6 ht) h18⟩
  have c36' : Int32.toNatClampNeg 36 = 36 := rfl
  simp only [f_X3_spin, bd_s, c36']
  rw [spn_0 (K := K)]
  refine lp_run (F := F_X3_spin_20 4096) (fun i => (nI i, spn K S i)) 6 4096 (by decide) (fun i hi k => ?_) (fun k => ?_)
  · show FB_X3_spin_20 4096 k (nI i) (spn K S i) = k (nI (i + 1), spn K S (i + 1))
    have h6 : ¬ (6 : Int32) ≤ nI i := nI_ge (a := i) (b := 6) hi (by decide)
    simp only [FB_X3_spin_20, h6, x0_choicesOf hK (rep_co h2 (spn_co K S i)) hi, gd_t (ix_n hi (show 6 ≤ 65536 by decide)), nI_clamp (show i < 2 ^ 31 by omega), bd_s, nI_1, spn_s, ↓reduceIte]
  · show FB_X3_spin_20 4096 k (nI 6) (spn K S 6) = _
    have h6 : (6 : Int32) ≤ nI 6 := by decide
    simp only [FB_X3_spin_20, h6, sp, bd_s, ↓reduceIte]
    rfl
theorem pu_11 : lp_11 4096 Rel := by
  intro Su Sm ⟨K, hR⟩
  obtain ⟨e1, c1, w1⟩ := x3_spin hR.1 hR.2.1
  have c3 : Int32.toNatClampNeg 3 = 3 := rfl
  have e8 : layF K Sm 8 3 = nI (rch K 3) := by unfold layF; rw [if_pos (by decide)]
  exact ⟨nI (rch K 3), spF K Su, by simp only [f_X4_pieces, e1, bd_s, w1.2.1], layF K Sm, by simp only [f_X5_pieces, x5_lay hR.1 hR.2.2.1, bd_s, gd_t (show ix 3 4 by decide), c3, e8], K, RelK_co hR c1 (layF_co K Sm)⟩
/-- who must agree -/
def agS (K : Nat → Nat → Nat) (t an : Nat) : Nat → Nat
  | 0 => 0
  | p + 1 => if (rch K 3).testBit p = true ∧ an.testBit p = false ∧ (cho K p).testBit t = false then agS K t an p ||| K 7 p else agS K t an p
theorem agS_lt {K : Nat → Nat → Nat} {t an : Nat} (hK : okK K) : ∀ p, p ≤ 6 → agS K t an p < 64
  | 0, _ => by show 0 < 64; decide
  | p + 1, h => by
    have ih := agS_lt (t := t) (an := an) hK p (by omega)
    unfold agS
    split
    · exact or_lt64 ih (kW hK (by omega))
    · exact ih
theorem lay_may {K : Nat → Nat → Nat} {S : St} {p : Nat} (hp : p < 6) : layF K S 9 p = nI (cho K p) := by unfold layF; rw [if_neg (by omega), if_pos ⟨rfl, hp⟩]
theorem lay_wi {K : Nat → Nat → Nat} {S : St} {r : Nat} (hr : r < 4) : layF K S 8 r = nI (rch K r) := by unfold layF; rw [if_pos ⟨rfl, hr⟩]
theorem agS_s {K : Nat → Nat → Nat} {t an p : Nat} : agS K t an (p + 1) = if (rch K 3).testBit p = true ∧ an.testBit p = false ∧ (cho K p).testBit t = false then agS K t an p ||| K 7 p else agS K t an p := rfl
theorem x4_agl {K : Nat → Nat → Nat} {S : St} {t an : Nat} (hK : okK K) (hR : rep K (vU S)) (hw : webOK K S) (ht : t < 5) (han : an < 64) : lpI (F_X4_agree_47 4096) 4096 (nI t, nI (ndf (rch K 3) an), 0, 0, S) = some (nI (agS K t an 6), S) := by
  have hr3 := rch_lt 3 hK
  have hnd : ndf (rch K 3) an < 64 := Nat.lt_of_le_of_lt (ndf_le _ _) hr3
  refine lp_run (F := F_X4_agree_47 4096) (fun p => (nI t, nI (ndf (rch K 3) an), nI (agS K t an p), nI p, S)) 6 4096 (by decide) (fun p hp k => ?_) (fun k => ?_)
  · show FB_X4_agree_47 4096 k (nI t) (nI (ndf (rch K 3) an)) (nI (agS K t an p)) (nI p) S = k (nI t, nI (ndf (rch K 3) an), nI (agS K t an (p + 1)), nI (p + 1), S)
    have h6 : ¬ (6 : Int32) ≤ nI p := nI_ge (a := p) (b := 6) hp (by decide)
    have hc := cho_lt hK hp
    rw [agS_s]
    simp only [FB_X4_agree_47, h6, x4_has hnd (show p < 10 by omega), ndf_bit hp, gd_t (ix_n hp (show 6 ≤ 65536 by decide)), nI_clamp (show p < 2 ^ 31 by omega), hw.2.2.2.1 p hp, x4_has (show cho K p < 64 by omega) (show t < 10 by omega), uW hR hp, pa_or, bd_s, nI_1, ↓reduceIte]
    generalize (rch K 3).testBit p = b1
    generalize an.testBit p = b2
    generalize (cho K p).testBit t = b3
    cases b1 <;> cases b2 <;> cases b3 <;> simp [z01]
  · show FB_X4_agree_47 4096 k (nI t) (nI (ndf (rch K 3) an)) (nI (agS K t an 6)) (nI 6) S = _
    have h6 : (6 : Int32) ≤ nI 6 := by decide
    simp only [FB_X4_agree_47, h6, ↓reduceIte]
theorem x5_agl {K : Nat → Nat → Nat} {S : St} {t an : Nat} (hK : okK K) (hR : rep K (vM (layF K S))) (ht : t < 5) (han : an < 64) : lpI (F_X5_agree_31 4096) 4096 (nI t, nI an, 0, 0, layF K S) = some (nI (agS K t an 6), layF K S) := by
  have hr3 := rch_lt 3 hK
  have c3 : Int32.toNatClampNeg 3 = 3 := rfl
  refine lp_run (F := F_X5_agree_31 4096) (fun p => (nI t, nI an, nI (agS K t an p), nI p, layF K S)) 6 4096 (by decide) (fun p hp k => ?_) (fun k => ?_)
  · show FB_X5_agree_31 4096 k (nI t) (nI an) (nI (agS K t an p)) (nI p) (layF K S) = k (nI t, nI an, nI (agS K t an (p + 1)), nI (p + 1), layF K S)
    have h6 : ¬ (6 : Int32) ≤ nI p := nI_ge (a := p) (b := 6) hp (by decide)
    have hc := cho_lt hK hp
    have e42 : (4 : Int32) * nI p + 2 = nI (4 * p + 2) := i4 p 2
    have hi2 : 4 * p + 2 < 24 := by omega
    rw [agS_s]
    simp only [FB_X5_agree_31, B_X5_agree_80, h6, gd_t (show ix 3 4 by decide), c3, lay_wi (K := K) (S := S) (show 3 < 4 by decide), x5_has hr3 (show p < 10 by omega), x5_has (show an < 64 by omega) (show p < 10 by omega), gd_t (ix_n hp (show 6 ≤ 65536 by decide)), nI_clamp (show p < 2 ^ 31 by omega), lay_may (K := K) (S := S) hp, x5_has (show cho K p < 64 by omega) (show t < 10 by omega), e42, gd_t (ix_n hi2 (show 24 ≤ 65536 by decide)), nI_clamp (show 4 * p + 2 < 2 ^ 31 by omega), mW hR hp, pa_or, or0, bd_s, nI_1, ↓reduceIte]
    generalize (rch K 3).testBit p = b1
    generalize an.testBit p = b2
    generalize (cho K p).testBit t = b3
    cases b1 <;> cases b2 <;> cases b3 <;> simp [z01]
  · show FB_X5_agree_31 4096 k (nI t) (nI an) (nI (agS K t an 6)) (nI 6) (layF K S) = _
    have h6 : (6 : Int32) ≤ nI 6 := by decide
    simp only [FB_X5_agree_31, h6, ↓reduceIte]
theorem x4_agm {K : Nat → Nat → Nat} {S : St} {t an : Nat} (hK : okK K) (h2 : rep K (vU S)) (ht : t < 5) (han : an < 64) (hu : f_X4_isTerms (nI t) = some 1) (gu : f_X4_within (nI an) 0 63 = some 1) : f_X4_agree 4096 (nI t) (nI an) S = some (nI (agS K t an 6), spF K S) := by
  obtain ⟨e1, c1, w1⟩ := x3_spin hK h2
  have hr3 := rch_lt 3 hK
  unfold f_X4_agree
  rw [hu, bd_s, if_neg z01, gu, bd_s, if_neg z01, e1, bd_s, bd_s, w1.2.1, pa_ndf _ hr3 _ han]
  exact x4_agl hK (rep_co h2 c1) w1 ht han
theorem x5_agm {K : Nat → Nat → Nat} {S : St} {t an : Nat} (hK : okK K) (h2 : rep K (vM S)) (h3 : rep K (vM (layF K S))) (ht : t < 5) (han : an < 64) (hu : f_X5_isTerms (nI t) = some 1) (gu : f_X5_in (nI an) 0 63 = some 1) : f_X5_agree 4096 (nI t) (nI an) S = some (nI (agS K t an 6), layF K S) := by
  unfold f_X5_agree
  rw [hu, bd_s, if_neg z01, gu, bd_s, if_neg z01, x5_lay hK h2, bd_s]
  exact x5_agl hK h3 ht han
theorem pu_18 : lp_18 4096 Rel := by
  intro x y Su Sm ⟨K, hR⟩
  rcases c_terms x with ⟨hu, hm⟩ | ⟨t, ht, rfl, hu, hm⟩
  · exact ⟨-1, Su, by simp only [f_X4_agree, hu, bd_s, ↓reduceIte], Sm, by simp only [f_X5_agree, hm, bd_s, ↓reduceIte], K, hR⟩
  · rcases c_in y 63 (by decide) with ⟨gu, gm⟩ | ⟨an, han, rfl, gu, gm⟩
    · have gu : f_X4_within y 0 63 = some 0 := gu
      have gm : f_X5_in y 0 63 = some 0 := gm
      exact ⟨-2, Su, by simp only [f_X4_agree, hu, gu, bd_s, z01, ↓reduceIte], Sm, by simp only [f_X5_agree, hm, gm, bd_s, z01, ↓reduceIte], K, hR⟩
    · obtain ⟨e1, c1, w1⟩ := x3_spin hR.1 hR.2.1
      have hR' := RelK_co hR c1 (layF_co K Sm)
      exact ⟨nI (agS K t an 6), spF K Su, x4_agm hR.1 hR.2.1 ht (by omega) hu gu, layF K Sm, x5_agm hR.1 hR.2.2.1 hR'.2.2.1 ht (by omega) hm gm, K, hR'⟩
