/-! anew: both -/
theorem nI_lt' {a b : Nat} (ha : a < 2 ^ 31) (hb : b < 2 ^ 31) : (nI a < nI b) = (a < b) := propext (nI_ltI ha hb)
theorem nI_eq' {a b : Nat} (ha : a < 2 ^ 31) (hb : b < 2 ^ 31) : (nI a = nI b) = (a = b) := propext (nI_eq ha hb)
theorem it_eq {α : Type} {a b : Nat} {x y : α} (ha : a < 2 ^ 31) (hb : b < 2 ^ 31) : (if nI a = nI b then x else y) = if a = b then x else y := by
  by_cases e : a = b
  · rw [if_pos e, if_pos (by rw [e])]
  · rw [if_neg e, if_neg (fun q => e (nI_inj ha hb q))]
theorem it_0 {α : Type} {a : Nat} {x y : α} (ha : a < 2 ^ 31) : (if nI a = 0 then x else y) = if a = 0 then x else y := it_eq (b := 0) ha (by decide)
theorem it_lt {α : Type} {a b : Nat} {x y : α} (ha : a < 2 ^ 31) (hb : b < 2 ^ 31) : (if nI a < nI b then x else y) = if a < b then x else y := by
  by_cases e : a < b
  · rw [if_pos e, if_pos (nI_lt e hb)]
  · rw [if_neg e, if_neg (nI_nlt (by omega) ha)]
theorem it_le {α : Type} {a b : Nat} {x y : α} (ha : a < 2 ^ 31) (hb : b < 2 ^ 31) : (if nI a ≤ nI b then x else y) = if a ≤ b then x else y := by
  by_cases e : a ≤ b
  · rw [if_pos e, if_pos (nI_le e hb)]
  · rw [if_neg e, if_neg (nI_ge (by omega) ha)]
theorem it_b {α : Type} {P : Prop} [Decidable P] {x y : α} : (if (if P then (1 : Int32) else 0) = 0 then x else y) = if P then y else x := by
  by_cases e : P
  · rw [if_pos e, if_pos e, if_neg z01]
  · rw [if_neg e, if_neg e, if_pos rfl]
theorem x4_isCheaper {K : Nat → Nat → Nat} {S : St} {a b : Nat} (hK : okK K) (hR : rep K (vU S)) (ha : a < 64) (hb : b < 64) : f_X4_isCheaper 4096 (nI a) (nI b) S = some (if chp K a b then 1 else 0) := by
  have la := cst_lt (s := a) hK 6 (by decide)
  have lb := cst_lt (s := b) hK 6 (by decide)
  have pa := pop_lt a ha
  have pb := pop_lt b hb
  unfold f_X4_isCheaper
  rw [x4_costOf hR ha, bd_s, x4_costOf hR hb, bd_s, x4_pop a ha, bd_s, x4_pop b hb, bd_s, it_eq (by omega) (by omega), it_le (by omega) (by omega), it_le (by omega) (by omega)]
  unfold chp
  by_cases e : cst K a 6 = cst K b 6
  · rw [if_pos e]
    by_cases d : pop b ≤ pop a
    · rw [if_pos d, if_neg (by omega)]
    · rw [if_neg d, if_pos (by omega)]
  · rw [if_neg e]
    by_cases d : cst K b 6 ≤ cst K a 6
    · rw [if_pos d, if_neg (by omega)]
    · rw [if_neg d, if_pos (by omega)]
def ca (K : Nat → Nat → Nat) : Nat → Nat
  | 0 => prt K
  | i + 1 => if ndf i (prt K) = 0 ∧ chp K i (ca K i) ∧ rmN K (ndf (prt K) i) 31 ≠ 0 then i else ca K i
theorem ca_s {K : Nat → Nat → Nat} {i : Nat} : ca K (i + 1) = if ndf i (prt K) = 0 ∧ chp K i (ca K i) ∧ rmN K (ndf (prt K) i) 31 ≠ 0 then i else ca K i := rfl
theorem ca_lt {K : Nat → Nat → Nat} (hK : okK K) : ∀ i, i ≤ 64 → ca K i < 64
  | 0, _ => prt_lt hK
  | i + 1, h => by
    rw [ca_s]
    split
    · omega
    · exact ca_lt hK i (by omega)
theorem x4_cheapestAnew {K : Nat → Nat → Nat} {S : St} (hK : okK K) (hR : rep K (vU S)) (h : webOK K S) : ∃ r, (r.1 = nI (ca K 64) ∧ coU S r.2) ∧ f_X4_cheapestAnew 4096 S = some r := by
  unfold f_X4_cheapestAnew
  rw [bd_s, h.2.2.1]
  refine lp_rel (F := F_X4_cheapestAnew_10 4096) (fun i x => ∃ S', x = (nI (ca K i), nI i, S') ∧ webOK K S' ∧ coU S S') 64 4096 (by decide) (fun i hi x hx => ?_) (fun x hx => ?_) ⟨S, rfl, h, coU_refl S⟩
  · obtain ⟨S', e, hw, hc⟩ := hx
    subst e
    have hcb := ca_lt hK i (by omega)
    have hnd : ndf (prt K) i < 64 := Nat.lt_of_le_of_lt (ndf_le _ _) (prt_lt hK)
    have h63 : ¬ (63 : Int32) < nI i := by
      have q : ∀ i, i < 64 → ¬ (63 : Int32) < nI i := by decide +kernel
      exact q i hi
    by_cases e1 : ndf i (prt K) = 0
    · have ic := x4_isCheaper (S := S') hK (rep_co hR hc) hi hcb
      by_cases e2 : chp K i (ca K i)
      · refine ⟨_, ⟨r25 S' (ltS K (ndf (prt K) i) 31) 6, rfl, web_r25 hw, coU_trans hc r25_co⟩, fun k => ?_⟩
        show FB_X4_cheapestAnew_10 4096 k (nI (ca K i)) (nI i) S' = _
        unfold FB_X4_cheapestAnew_10
        rw [ca_s, if_neg h63, hw.2.2.1, x4_isPartOf hi (prt_lt hK), bd_s, if_pos e1, if_neg z01, ic, bd_s, if_pos e2, if_neg z01, pa_ndf _ (prt_lt hK) _ hi, x3_someGoodWith hK hw hnd, bd2_s, nI_1]
        by_cases e3 : rmN K (ndf (prt K) i) 31 = 0
        · rw [if_pos (by rw [sg01]; exact e3), if_neg (fun q => q.2.2 e3)]
        · rw [if_neg (by rw [sg01]; exact e3), if_pos ⟨e1, e2, e3⟩]
      · refine ⟨_, ⟨S', rfl, hw, hc⟩, fun k => ?_⟩
        show FB_X4_cheapestAnew_10 4096 k (nI (ca K i)) (nI i) S' = _
        unfold FB_X4_cheapestAnew_10
        rw [ca_s, if_neg h63, hw.2.2.1, x4_isPartOf hi (prt_lt hK), bd_s, if_pos e1, if_neg z01, ic, bd_s, if_neg e2, if_pos rfl, if_neg (fun q => e2 q.2.1), nI_1]
    · refine ⟨_, ⟨S', rfl, hw, hc⟩, fun k => ?_⟩
      show FB_X4_cheapestAnew_10 4096 k (nI (ca K i)) (nI i) S' = _
      unfold FB_X4_cheapestAnew_10
      rw [ca_s, if_neg h63, hw.2.2.1, x4_isPartOf hi (prt_lt hK), bd_s, if_neg e1, if_pos rfl, if_neg (fun q => e1 q.1), nI_1]
  · obtain ⟨S', e, hw, hc⟩ := hx
    subst e
    refine ⟨(nI (ca K 64), S'), ⟨rfl, hc⟩, fun k => ?_⟩
    show FB_X4_cheapestAnew_10 4096 k (nI (ca K 64)) (nI 64) S' = _
    unfold FB_X4_cheapestAnew_10
    rw [if_pos (by decide)]
theorem abits {K : Nat → Nat → Nat} {s : Nat} : (∀ p, p < 6 → (ndf (prt K) s).testBit p = true → (prt K).testBit p = true ∧ s.testBit p = false) ∧ (∀ p, p < 6 → (ndf (prt K) s).testBit p = false → (prt K).testBit p = false ∨ s.testBit p = true) := by
  refine ⟨fun p hp e => ?_, fun p hp e => ?_⟩
  · rw [ndf_bit hp] at e
    generalize (prt K).testBit p = b1 at e ⊢
    generalize s.testBit p = b2 at e ⊢
    cases b1 <;> cases b2 <;> simp at e ⊢
  · rw [ndf_bit hp] at e
    generalize (prt K).testBit p = b1 at e ⊢
    generalize s.testBit p = b2 at e ⊢
    cases b1 <;> cases b2 <;> simp at e ⊢
theorem x5_b84 {K : Nat → Nat → Nat} {m s : Nat} {S : St} {x1 v : Int32} (hK : okK K) (h : mOK K m S) (hs : s < 64) : ∃ S', mOK K s S' ∧ coM S S' ∧ ∀ k, B_X5_anew_84 4096 k x1 v (nI s) 1 S = if rmN K (ndf (prt K) s) 31 = 0 then k (x1, v, nI (s + 1), S') else k (x1, nI s, nI (s + 1), S') := by
  have ho := mOK_mute (m' := s) h
  obtain ⟨d, hd⟩ := x5_sgd hK hs ho abits.1 abits.2
  refine ⟨q10 (sto S 0 15 (nI s)) d, mOK_q ho, coM_trans mute_co q10_co, fun k => ?_⟩
  unfold B_X5_anew_84
  rw [bd_s, if_neg z01, hd, bd2_s, nI_1]
  by_cases e : rmN K (ndf (prt K) s) 31 = 0
  · rw [if_pos (by rw [sg01]; exact e), if_pos e]
  · rw [if_neg (by rw [sg01]; exact e), if_neg e]
theorem x5_b84z {K : Nat → Nat → Nat} {m s : Nat} {S : St} {x1 v : Int32} (h : mOK K m S) : ∃ S', mOK K s S' ∧ coM S S' ∧ ∀ k, B_X5_anew_84 4096 k x1 v (nI s) 0 S = k (x1, v, nI (s + 1), S') := by
  refine ⟨sto S 0 15 (nI s), mOK_mute h, mute_co, fun k => ?_⟩
  unfold B_X5_anew_84
  rw [bd_s, if_pos rfl, nI_1]
theorem repM_co {K : Nat → Nat → Nat} {S S' : St} (h : rep K (vM S)) (hc : coM S S') : rep K (vM S') := rep_same h (fun r j hj => vM_co hc hj)
theorem x5_an1 {K : Nat → Nat → Nat} {m i b : Nat} {S : St} {x1 : Int32} (hK : okK K) (hR : rep K (vM S)) (ho : mOK K m S) (hi : i < 64) (hb : b < 64) (e1 : ndf i (prt K) = 0) (k : Int32 × Int32 × Int32 × St → Option (Int32 × St)) : FB_X5_anew_21 4096 k x1 (nI b) (nI i) S = if chp K i b then B_X5_anew_84 4096 k x1 (nI b) (nI i) 1 S else B_X5_anew_84 4096 k x1 (nI b) (nI i) 0 S := by
  have la := cst_lt (s := i) hK 6 (by decide)
  have lb := cst_lt (s := b) hK 6 (by decide)
  have pa := pop_lt i hi
  have pb := pop_lt b hb
  have h64 : ¬ (64 : Int32) ≤ nI i := nI_ge (a := i) (b := 64) (by omega) (by decide)
  have e0 : nI (ndf i (prt K)) = 0 := by rw [e1]; rfl
  unfold FB_X5_anew_21
  rw [if_neg h64, x5_inside hK ho, bd_s, pa_ndf _ hi _ (prt_lt hK), if_pos e0, if_neg (nI_lt0 _ hb), x5_coinOf hR hi, bd_s, x5_coinOf hR hb, bd_s, bd_s, bd_s, x5_bits _ hi, bd_s, x5_bits _ hb, bd_s, it_lt (by omega) (by omega), it_eq (by omega) (by omega), it_le (by omega) (by omega)]
  unfold chp
  by_cases e : cst K i 6 < cst K b 6
  · rw [if_pos e, if_pos (Or.inl e)]
  · rw [if_neg e]
    by_cases d : cst K i 6 = cst K b 6
    · rw [if_pos d]
      by_cases f : pop b ≤ pop i
      · rw [if_pos f, if_neg (by omega)]
      · rw [if_neg f, if_pos (by omega)]
    · rw [if_neg d, if_neg (by omega)]
theorem x5_an0 {K : Nat → Nat → Nat} {m i : Nat} {S : St} {x1 : Int32} (hK : okK K) (ho : mOK K m S) (hi : i < 64) (e1 : ndf i (prt K) = 0) (k : Int32 × Int32 × Int32 × St → Option (Int32 × St)) : FB_X5_anew_21 4096 k x1 (-6) (nI i) S = B_X5_anew_84 4096 k x1 (-6) (nI i) 1 S := by
  have h64 : ¬ (64 : Int32) ≤ nI i := nI_ge (a := i) (b := 64) (by omega) (by decide)
  have e0 : nI (ndf i (prt K)) = 0 := by rw [e1]; rfl
  unfold FB_X5_anew_21
  rw [if_neg h64, x5_inside hK ho, bd_s, pa_ndf _ hi _ (prt_lt hK), if_pos e0, if_pos (by decide)]
theorem x5_an2 {K : Nat → Nat → Nat} {m i : Nat} {S : St} {x1 v : Int32} (hK : okK K) (ho : mOK K m S) (hi : i < 64) (e1 : ¬ ndf i (prt K) = 0) (k : Int32 × Int32 × Int32 × St → Option (Int32 × St)) : FB_X5_anew_21 4096 k x1 v (nI i) S = k (x1, v, nI (i + 1), S) := by
  have h64 : ¬ (64 : Int32) ≤ nI i := nI_ge (a := i) (b := 64) (by omega) (by decide)
  have hnd : ndf i (prt K) < 64 := Nat.lt_of_le_of_lt (ndf_le _ _) hi
  have en : ¬ nI (ndf i (prt K)) = 0 := fun q => e1 (nI_inj (b := 0) (by omega) (by decide) q)
  unfold FB_X5_anew_21
  rw [if_neg h64, x5_inside hK ho, bd_s, pa_ndf _ hi _ (prt_lt hK), if_neg en, nI_1]
theorem ca_up {K : Nat → Nat → Nat} {i : Nat} (hK : okK K) (hi : i < 64) (e : ndf i (prt K) = 0) (hca : ca K i = prt K) (hg : rmN K (ndf (prt K) i) 31 ≠ 0) : ca K (i + 1) = i := by
  rw [ca_s]
  by_cases q : i = prt K
  · by_cases z : ndf i (prt K) = 0 ∧ chp K i (ca K i) ∧ rmN K (ndf (prt K) i) 31 ≠ 0
    · rw [if_pos z]
    · rw [if_neg z, hca, q]
  · have hp := pop_sub _ hi _ (prt_lt hK) e q
    have hc := cst_mono (K := K) (a := i) (b := prt K) (fun p hp' => ndf_sub i hi _ (prt_lt hK) e p hp') 6 (by decide)
    refine if_pos ⟨e, ?_, hg⟩
    rw [hca]
    unfold chp
    omega
theorem x5_anl {K : Nat → Nat → Nat} {S : St} {x1 : Int32} (hK : okK K) (hR : rep K (vM S)) (h : mOK K 0 S) : ∃ r, (r.1 = nI (if x1 = 0 then ca K 64 else cst K (ca K 64) 6) ∧ coM S r.2) ∧ lpI (F_X5_anew_21 4096) 4096 (x1, -6, 0, S) = some r := by
  have hpl := prt_lt hK
  refine lp_rel (F := F_X5_anew_21 4096) (fun i x => ∃ v S' m, x = (x1, v, nI i, S') ∧ ((v = -6 ∧ ca K i = prt K ∧ i ≤ prt K) ∨ v = nI (ca K i)) ∧ mOK K m S' ∧ coM S S') 64 4096 (by decide) (fun i hi x hx => ?_) (fun x hx => ?_) ⟨-6, S, 0, rfl, Or.inl ⟨rfl, rfl, Nat.zero_le _⟩, h, coM_refl S⟩
  · obtain ⟨v, S', m, e, hv, ho, hc⟩ := hx
    subst e
    have hcb := ca_lt hK i (by omega)
    have hR' := repM_co hR hc
    by_cases e2 : ndf i (prt K) = 0
    · rcases hv with ⟨a, b, c⟩ | a
      · subst a
        obtain ⟨S2, ho2, hc2, hk⟩ := x5_b84 (x1 := x1) (v := -6) hK ho hi
        by_cases e3 : rmN K (ndf (prt K) i) 31 = 0
        · have q : i ≠ prt K := fun z => rmN0 hK (by rw [z, ndf_self _ hpl] at e3; exact e3)
          refine ⟨_, ⟨-6, S2, _, rfl, Or.inl ⟨rfl, ?_, by omega⟩, ho2, coM_trans hc hc2⟩, fun k => ?_⟩
          · rw [ca_s, if_neg (fun z => z.2.2 e3), b]
          · show FB_X5_anew_21 4096 k x1 (-6) (nI i) S' = _
            rw [x5_an0 hK ho hi e2, hk, if_pos e3]
        · refine ⟨_, ⟨nI i, S2, _, rfl, Or.inr ?_, ho2, coM_trans hc hc2⟩, fun k => ?_⟩
          · rw [ca_up hK hi e2 b e3]
          · show FB_X5_anew_21 4096 k x1 (-6) (nI i) S' = _
            rw [x5_an0 hK ho hi e2, hk, if_neg e3]
      · subst a
        by_cases e4 : chp K i (ca K i)
        · obtain ⟨S2, ho2, hc2, hk⟩ := x5_b84 (x1 := x1) (v := nI (ca K i)) hK ho hi
          by_cases e3 : rmN K (ndf (prt K) i) 31 = 0
          · refine ⟨_, ⟨nI (ca K i), S2, _, rfl, Or.inr ?_, ho2, coM_trans hc hc2⟩, fun k => ?_⟩
            · rw [ca_s, if_neg (fun z => z.2.2 e3)]
            · show FB_X5_anew_21 4096 k x1 (nI (ca K i)) (nI i) S' = _
              rw [x5_an1 hK hR' ho hi hcb e2, if_pos e4, hk, if_pos e3]
          · refine ⟨_, ⟨nI i, S2, _, rfl, Or.inr ?_, ho2, coM_trans hc hc2⟩, fun k => ?_⟩
            · rw [ca_s, if_pos ⟨e2, e4, e3⟩]
            · show FB_X5_anew_21 4096 k x1 (nI (ca K i)) (nI i) S' = _
              rw [x5_an1 hK hR' ho hi hcb e2, if_pos e4, hk, if_neg e3]
        · obtain ⟨S2, ho2, hc2, hk⟩ := x5_b84z (x1 := x1) (v := nI (ca K i)) (s := i) ho
          refine ⟨_, ⟨nI (ca K i), S2, _, rfl, Or.inr ?_, ho2, coM_trans hc hc2⟩, fun k => ?_⟩
          · rw [ca_s, if_neg (fun z => e4 z.2.1)]
          · show FB_X5_anew_21 4096 k x1 (nI (ca K i)) (nI i) S' = _
            rw [x5_an1 hK hR' ho hi hcb e2, if_neg e4, hk]
    · refine ⟨_, ⟨v, S', m, rfl, ?_, ho, hc⟩, fun k => ?_⟩
      · rw [ca_s, if_neg (fun q => e2 q.1)]
        rcases hv with ⟨a, b, c⟩ | a
        · have hne : i ≠ prt K := fun q => e2 (by rw [q]; exact ndf_self _ hpl)
          exact Or.inl ⟨a, b, by omega⟩
        · exact Or.inr a
      · show FB_X5_anew_21 4096 k x1 v (nI i) S' = _
        rw [x5_an2 hK ho hi e2]
  · obtain ⟨v, S', m, e, hv, ho, hc⟩ := hx
    subst e
    have hcb := ca_lt hK 64 (by decide)
    have ev' : v = nI (ca K 64) := by
      rcases hv with ⟨_, _, c⟩ | a
      · omega
      · exact a
    subst ev'
    refine ⟨(nI (if x1 = 0 then ca K 64 else cst K (ca K 64) 6), S'), ⟨rfl, hc⟩, fun k => ?_⟩
    show FB_X5_anew_21 4096 k x1 (nI (ca K 64)) (nI 64) S' = _
    unfold FB_X5_anew_21
    rw [if_pos (by decide), x5_coinOf (repM_co hR hc) hcb, bd_s]
    by_cases q : x1 = 0
    · rw [if_pos q, if_pos q]
    · rw [if_neg q, if_neg q]
theorem pu_16 : lp_16 4096 Rel := by
  intro x Su Sm ⟨K, hR⟩
  rcases c_in x 1 (by decide) with ⟨gu, gm⟩ | ⟨w, hw, rfl, gu, gm⟩
  · have gu : f_X4_within x 0 1 = some 0 := gu
    have gm : f_X5_in x 0 1 = some 0 := gm
    refine ⟨-2, Su, ?_, Sm, ?_, K, hR⟩
    · unfold f_X4_anew
      rw [gu, bd_s, if_pos rfl]
    · unfold f_X5_anew
      rw [gm, bd_s, if_pos rfl]
  · have gu : f_X4_within (nI w) 0 1 = some 1 := gu
    have gm : f_X5_in (nI w) 0 1 = some 1 := gm
    obtain ⟨e1, c1, w1⟩ := x3_spin hR.1 hR.2.1
    have hK := hR.1
    have hl := x5_lay hK hR.2.2.1
    have ho := mOK_lay hR.2.2.1
    obtain ⟨⟨ru, Su'⟩, ⟨h1, h2⟩, h3⟩ := x4_cheapestAnew hK (rep_co hR.2.1 c1) w1
    obtain ⟨⟨rm', Sm'⟩, ⟨g1, g2⟩, g3⟩ := x5_anl (x1 := nI w) hK (repM_co hR.2.2.1 (layF_co K Sm)) ho
    have h1 : ru = nI (ca K 64) := h1
    subst h1
    refine ⟨nI (if nI w = 0 then ca K 64 else cst K (ca K 64) 6), Su', ?_, Sm', ?_, K, RelK_co hR (coU_trans c1 h2) (coM_trans (layF_co K Sm) g2)⟩
    · unfold f_X4_anew
      rw [gu, bd_s, if_neg z01, e1, bd_s, h3, bd2_s, x4_costOf (rep_co hR.2.1 (coU_trans c1 h2)) (ca_lt hK 64 (by decide)), bd_s]
      by_cases q : nI w = 0
      · rw [if_pos q, if_pos q]
      · rw [if_neg q, if_neg q]
    · unfold f_X5_anew
      rw [gm, bd_s, if_neg z01, hl, bd_s, g3]
      exact congrArg (fun z => some (z, Sm')) g1
