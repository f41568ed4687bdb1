/-! the class's best -/
theorem ndf_or (a b c : Nat) : ndf (a ||| b) c = ndf a c ||| ndf b c := by
  unfold ndf
  apply Nat.eq_of_testBit_eq
  intro i
  simp only [Nat.testBit_and, Nat.testBit_or]
  cases a.testBit i <;> cases b.testBit i <;> cases (63 ^^^ c).testBit i <;> rfl
theorem or_z {a b : Nat} : a ||| b = 0 ↔ a = 0 ∧ b = 0 := by
  constructor
  · intro h
    have h1 : a ≤ a ||| b := Nat.left_le_or
    have h2 : b ≤ a ||| b := Nat.right_le_or
    omega
  · rintro ⟨rfl, rfl⟩; rfl
theorem ms_sub {K : Nat → Nat → Nat} {c : Nat → Nat} {bo : Nat} : ∀ n, ndf (ms K 0 c n) bo = 0 ↔ ∀ p, p < n → ndf (aq K p (c p)) bo = 0
  | 0 => by
    show ndf 0 bo = 0 ↔ _
    unfold ndf
    rw [Nat.zero_and]
    exact ⟨fun _ p hp => absurd hp (by omega), fun _ => rfl⟩
  | n + 1 => by
    show ndf (ms K 0 c n ||| am K 0 n (c n)) bo = 0 ↔ _
    rw [ndf_or, or_z, ms_sub n, am0]
    constructor
    · rintro ⟨h1, h2⟩ p hp
      by_cases e : p = n
      · subst e; exact h2
      · exact h1 p (by omega)
    · intro h
      exact ⟨fun p hp => h p (by omega), h n (by omega)⟩
theorem rea_no {K : Nat → Nat → Nat} {p t : Nat} (h : ¬ (prt K).testBit p = true) : rea K p t = false := by
  unfold rea
  rw [Nat.testBit_and]
  cases e : (prt K).testBit p
  · rfl
  · exact absurd e h
theorem gq_no {K : Nat → Nat → Nat} {p t : Nat} (h : ¬ (prt K).testBit p = true) : gq K p t = 31 := by unfold gq; rw [rea_no h, if_neg (by decide)]
theorem aq_no {K : Nat → Nat → Nat} {p t : Nat} (h : ¬ (prt K).testBit p = true) : aq K p t = 0 := by unfold aq; rw [rea_no h, if_neg (by decide)]
/-- a chosen that is good and asks no more than is borne -/
def fit (K : Nat → Nat → Nat) (bo : Nat) (c : Nat → Nat) : Prop := c ∈ allC K ∧ mg K 0 c 6 ≠ 0 ∧ ndf (ms K 0 c 6) bo = 0
/-- lets, when the first ones are settled -/
def fl (K : Nat → Nat → Nat) (bo : Nat) (c : Nat → Nat) (i p : Nat) : Nat := if p < i then gq K p (c p) else ltS K (prt K) bo p
theorem alw_mcs {K : Nat → Nat → Nat} {p t bo : Nat} (e : (prt K).testBit p = true) : mcs K p t bo = true ↔ (alw K p).testBit t = true ∧ ndf (aq K p t) bo = 0 := by
  unfold mcs alw
  rw [if_pos e, Bool.and_eq_true, beq_iff_eq]
theorem ext_if {K : Nat → Nat → Nat} {bo i : Nat} {c d : Nat → Nat} (hK : okK K) (hd : fit K bo d) (hp : ∀ p, p < i → d p = c p) : rl (cho K (K 0 9)) (fl K bo c i) 6 ≠ 0 := by
  have hw := cho_lt hK (kWh hK)
  obtain ⟨h1, h2, h3⟩ := hd
  have hok := (allC_mem.mp h1).1
  rw [mg_rl, ne0_bit _ (rl_lt hw 6)] at h2
  obtain ⟨b, hb, hg⟩ := h2
  rw [rl_bit] at hg
  rw [ne0_bit _ (rl_lt hw 6)]
  refine ⟨b, hb, (rl_bit 6).mpr ⟨hg.1, fun p hp6 => ?_⟩⟩
  have hgp : (gm K 0 p (d p)).testBit b = true := hg.2 p hp6
  rw [gm0] at hgp
  unfold fl
  by_cases e : p < i
  · rw [if_pos e, ← hp p e]; exact hgp
  · rw [if_neg e]
    unfold ltS
    by_cases f : (prt K).testBit p = true
    · rw [if_pos f, lo_bit]
      exact ⟨d p, (hok p hp6).1, (alw_mcs f).mpr ⟨(hok p hp6).2, (ms_sub 6).mp h3 p hp6⟩, hgp⟩
    · rw [if_neg f]; exact b31 b hb
theorem ext_of {K : Nat → Nat → Nat} {bo i : Nat} {c : Nat → Nat} (hK : okK K) (hi : i ≤ 6) (hc : ∀ p, p < i → c p < 5 ∧ (alw K p).testBit (c p) = true ∧ ndf (aq K p (c p)) bo = 0) (h : rl (cho K (K 0 9)) (fl K bo c i) 6 ≠ 0) : ∃ d, fit K bo d ∧ ∀ p, p < i → d p = c p := by
  have hw := cho_lt hK (kWh hK)
  rw [ne0_bit _ (rl_lt hw 6)] at h
  obtain ⟨b, hb, hg⟩ := h
  rw [rl_bit] at hg
  have hx : ∀ p, p < 6 → ∃ t, t < 5 ∧ (alw K p).testBit t = true ∧ (gq K p t).testBit b = true ∧ ndf (aq K p t) bo = 0 ∧ (p < i → t = c p) := fun p hp => by
    have hgp := hg.2 p hp
    unfold fl at hgp
    by_cases e : p < i
    · rw [if_pos e] at hgp
      have hcp := hc p e
      exact ⟨c p, hcp.1, hcp.2.1, hgp, hcp.2.2, fun _ => rfl⟩
    · rw [if_neg e] at hgp
      unfold ltS at hgp
      by_cases f : (prt K).testBit p = true
      · rw [if_pos f, lo_bit] at hgp
        obtain ⟨t, ht, hm, hq⟩ := hgp
        rw [alw_mcs f] at hm
        exact ⟨t, ht, hm.1, hq, hm.2, fun z => absurd z e⟩
      · have ha := alw_ok hK p hp
        obtain ⟨t, ht, hq⟩ := (ne0_bit _ ha.1).mp (by omega)
        exact ⟨t, ht, hq, by rw [gq_no f]; exact b31 b hb, by rw [aq_no f]; unfold ndf; exact Nat.zero_and _, fun z => absurd z e⟩
  obtain ⟨d, hd, hz⟩ : ∃ d : Nat → Nat, (∀ p, p < 6 → d p < 5 ∧ (alw K p).testBit (d p) = true ∧ (gq K p (d p)).testBit b = true ∧ ndf (aq K p (d p)) bo = 0 ∧ (p < i → d p = c p)) ∧ ∀ j, 6 ≤ j → d j = 0 := by
    refine ⟨fun p => if h : p < 6 then Classical.choose (hx p h) else 0, fun p hp => ?_, fun j hj => ?_⟩
    · have h := Classical.choose_spec (hx p hp)
      simp only [hp, ↓reduceDIte]
      exact h
    · simp only [show ¬ j < 6 by omega, ↓reduceDIte]
  refine ⟨d, ⟨allC_mem.mpr ⟨fun p hp => ⟨(hd p hp).1, (hd p hp).2.1⟩, hz⟩, ?_, (ms_sub 6).mpr (fun p hp => (hd p hp).2.2.2.1)⟩, fun p hp => (hd p (by omega)).2.2.2.2 hp⟩
  rw [mg_rl, ne0_bit _ (rl_lt hw 6)]
  refine ⟨b, hb, (rl_bit 6).mpr ⟨hg.1, fun p hp => ?_⟩⟩
  rw [gm0]
  exact (hd p hp).2.2.1
theorem fl_0 {K : Nat → Nat → Nat} {bo : Nat} {c : Nat → Nat} : fl K bo c 0 = ltS K (prt K) bo := by
  funext p; unfold fl; rw [if_neg (by omega)]
theorem rm_fit {K : Nat → Nat → Nat} {bo : Nat} (hK : okK K) : rmN K (prt K) bo ≠ 0 ↔ ∃ d, fit K bo d := by
  unfold rmN
  rw [← fl_0 (c := c0)]
  constructor
  · intro h
    obtain ⟨d, hd, _⟩ := ext_of hK (by decide) (fun p hp => absurd hp (by omega)) h
    exact ⟨d, hd⟩
  · rintro ⟨d, hd⟩
    exact ext_if hK hd (fun p hp => absurd hp (by omega))
/-- the least musts -/
def fre (w : Nat) : Nat := ndf 31 (ask w)
theorem sub_w : ∀ w, w < 3 → ∀ a, a < 32 → ∀ m, m < 32 → (ndf (wy w a) m = 0 ↔ ndf a (m ||| fre w) = 0) := by decide +kernel
theorem fre_lt (w : Nat) : fre w < 32 := Nat.lt_of_le_of_lt (ndf_le _ _) (by decide)
def lm (K : Nat → Nat → Nat) (w : Nat) : Nat → Option Nat
  | 0 => none
  | i + 1 => if rmN K (prt K) (i ||| fre w) = 0 then lm K w i else match lm K w i with | none => some i | some m => if pop i < pop m then some i else some m
theorem lm_s {K : Nat → Nat → Nat} {w i : Nat} : lm K w (i + 1) = if rmN K (prt K) (i ||| fre w) = 0 then lm K w i else match lm K w i with | none => some i | some m => if pop i < pop m then some i else some m := rfl
def lmp (K : Nat → Nat → Nat) (w i : Nat) : Option Nat → Prop
  | none => ∀ m, m < i → rmN K (prt K) (m ||| fre w) = 0
  | some m => m < i ∧ rmN K (prt K) (m ||| fre w) ≠ 0 ∧ ∀ m', m' < i → rmN K (prt K) (m' ||| fre w) ≠ 0 → ¬ klt m' m
theorem lm_sp {K : Nat → Nat → Nat} {w : Nat} : ∀ i, lmp K w i (lm K w i)
  | 0 => fun m hm => absurd hm (by omega)
  | i + 1 => by
    have ih := lm_sp (K := K) (w := w) i
    rw [lm_s]
    by_cases e : rmN K (prt K) (i ||| fre w) = 0
    · rw [if_pos e]
      match lm K w i, ih with
      | none, ih =>
        intro m hm
        by_cases q : m = i
        · subst q; exact e
        · exact ih m (by omega)
      | some m, ih =>
        refine ⟨by have := ih.1; omega, ih.2.1, fun m' hm' hr => ?_⟩
        by_cases q : m' = i
        · subst q; exact absurd e hr
        · exact ih.2.2 m' (by omega) hr
    · rw [if_neg e]
      match lm K w i, ih with
      | none, ih =>
        refine ⟨by omega, e, fun m' hm' hr => ?_⟩
        by_cases q : m' = i
        · subst q; unfold klt; omega
        · exact absurd (ih m' (by omega)) hr
      | some m, ih =>
        show lmp K w (i + 1) (if pop i < pop m then some i else some m)
        have ih1 := ih.1
        by_cases f : pop i < pop m
        · rw [if_pos f]
          refine ⟨by omega, e, fun m' hm' hr => ?_⟩
          by_cases q : m' = i
          · subst q; unfold klt; omega
          · have g := ih.2.2 m' (by omega) hr
            unfold klt at g ⊢; omega
        · rw [if_neg f]
          refine ⟨by omega, ih.2.1, fun m' hm' hr => ?_⟩
          by_cases q : m' = i
          · subst q; unfold klt; omega
          · exact ih.2.2 m' (by omega) hr
def oI : Option Nat → Int32
  | none => -6
  | some m => nI m
theorem x3_lm {K : Nat → Nat → Nat} {w : Nat} {S : St} (hK : okK K) (h : webOK K S) : ∃ r, (r.1 = oI (lm K w 32) ∧ webOK K r.2 ∧ coU S r.2) ∧ f_X3_leastMusts 4096 (nI (fre w)) S = some r := by
  unfold f_X3_leastMusts
  refine lp_rel (F := F_X3_leastMusts_5 4096) (fun i x => ∃ S', x = (nI (fre w), oI (lm K w i), nI i, S') ∧ webOK K S' ∧ coU S S') 32 4096 (by decide) (fun i hi x hx => ?_) (fun x hx => ?_) ⟨S, rfl, h, coU_refl S⟩
  · obtain ⟨S', e, hw, hc⟩ := hx
    subst e
    have h31 : ¬ (31 : Int32) < nI i := by
      have q : ∀ i, i < 32 → ¬ (31 : Int32) < nI i := by decide +kernel
      exact q i hi
    have hbo : i ||| fre w < 32 := Nat.or_lt_two_pow (n := 5) hi (fre_lt w)
    have hrl : rmN K (prt K) (i ||| fre w) < 32 := rl_lt (cho_lt hK (kWh hK)) 6
    have hb1 : ∀ k v, B_X3_leastMusts_33 4096 k (nI (fre w)) v (nI i) 1 S' = if rmN K (prt K) (i ||| fre w) = 0 then k (nI (fre w), v, nI (i + 1), r25 S' (ltS K (prt K) (i ||| fre w)) 6) else k (nI (fre w), nI i, nI (i + 1), r25 S' (ltS K (prt K) (i ||| fre w)) 6) := fun k v => by
      unfold B_X3_leastMusts_33
      rw [if_neg z01, hw.2.2.1, pa_or, x3_room hK hw (prt_lt hK) (by omega), bd2_s, it_0 (by omega), nI_1]
    have hb0 : ∀ k v, B_X3_leastMusts_33 4096 k (nI (fre w)) v (nI i) 0 S' = k (nI (fre w), v, nI (i + 1), S') := fun k v => by
      unfold B_X3_leastMusts_33
      rw [if_pos rfl, nI_1]
    rw [lm_s]
    have hlm := lm_sp (K := K) (w := w) i
    match lm K w i, hlm with
    | none, _ =>
      have hf : ∀ k, FB_X3_leastMusts_5 4096 k (nI (fre w)) (oI none) (nI i) S' = B_X3_leastMusts_33 4096 k (nI (fre w)) (oI none) (nI i) 1 S' := fun k => by
        unfold FB_X3_leastMusts_5
        rw [if_neg h31, if_pos (show oI none = -6 from rfl)]
      refine ⟨_, ⟨r25 S' (ltS K (prt K) (i ||| fre w)) 6, rfl, web_r25 hw, coU_trans hc r25_co⟩, fun k => ?_⟩
      show FB_X3_leastMusts_5 4096 k (nI (fre w)) (oI none) (nI i) S' = _
      rw [hf, hb1]
      by_cases e : rmN K (prt K) (i ||| fre w) = 0
      · rw [if_pos e, if_pos e]
      · rw [if_neg e, if_neg e]; rfl
    | some m, hlm =>
      have hm : m < 64 := by have := hlm.1; omega
      have p1 := pop_lt i (by omega)
      have p2 := pop_lt m hm
      have hf : ∀ k, FB_X3_leastMusts_5 4096 k (nI (fre w)) (oI (some m)) (nI i) S' = if pop m ≤ pop i then B_X3_leastMusts_33 4096 k (nI (fre w)) (oI (some m)) (nI i) 0 S' else B_X3_leastMusts_33 4096 k (nI (fre w)) (oI (some m)) (nI i) 1 S' := fun k => by
        unfold FB_X3_leastMusts_5
        rw [if_neg h31, if_neg (show ¬ oI (some m) = -6 from nI_ne6 (by omega)), x4_pop i (by omega), bd_s, show oI (some m) = nI m from rfl, x4_pop m hm, bd_s, it_le (by omega) (by omega)]
      by_cases f : pop m ≤ pop i
      · refine ⟨_, ⟨S', rfl, hw, hc⟩, fun k => ?_⟩
        show FB_X3_leastMusts_5 4096 k (nI (fre w)) (oI (some m)) (nI i) S' = _
        rw [hf, if_pos f, hb0]
        show _ = k (nI (fre w), oI (if rmN K (prt K) (i ||| fre w) = 0 then some m else if pop i < pop m then some i else some m), nI (i + 1), S')
        rw [if_neg (show ¬ pop i < pop m by omega), ite_self]
      · refine ⟨_, ⟨r25 S' (ltS K (prt K) (i ||| fre w)) 6, rfl, web_r25 hw, coU_trans hc r25_co⟩, fun k => ?_⟩
        show FB_X3_leastMusts_5 4096 k (nI (fre w)) (oI (some m)) (nI i) S' = _
        rw [hf, if_neg f, hb1]
        show _ = k (nI (fre w), oI (if rmN K (prt K) (i ||| fre w) = 0 then some m else if pop i < pop m then some i else some m), nI (i + 1), r25 S' (ltS K (prt K) (i ||| fre w)) 6)
        rw [if_pos (show pop i < pop m by omega)]
        by_cases e : rmN K (prt K) (i ||| fre w) = 0
        · rw [if_pos e, if_pos e]
        · rw [if_neg e, if_neg e]; rfl
  · obtain ⟨S', e, hw, hc⟩ := hx
    subst e
    refine ⟨(oI (lm K w 32), S'), ⟨rfl, hw, hc⟩, fun k => ?_⟩
    show FB_X3_leastMusts_5 4096 k (nI (fre w)) (oI (lm K w 32)) (nI 32) S' = _
    unfold FB_X3_leastMusts_5
    rw [if_pos (by decide)]
/-- both mean the same musts -/
theorem fit_own {K : Nat → Nat → Nat} {w m : Nat} {d : Nat → Nat} (hK : okK K) (hw : w < 3) (hm : m < 32) (hd : d ∈ allC K) (hg : mg K 0 d 6 ≠ 0) : fit K (m ||| fre w) d ↔ ndf (own K w d) m = 0 := by
  have hl := ms_lt (m := 0) hK (okC5 (allC_mem.mp hd).1) 6 (by decide)
  have e := sub_w w hw _ hl m hm
  unfold fit own
  rw [e]
  exact ⟨fun q => q.2.2, fun q => ⟨hd, hg, q⟩⟩
theorem lm_none {K : Nat → Nat → Nat} {w : Nat} (hK : okK K) (hb : bst K w = none) : lm K w 32 = none := by
  have hs := bst_sp K w
  rw [hb] at hs
  have hl := lm_sp (K := K) (w := w) 32
  match e : lm K w 32, hl with
  | none, _ => rfl
  | some m, hl =>
    obtain ⟨d, h1, h2, _⟩ := (rm_fit hK).mp hl.2.1
    exact absurd (hs d h1) h2
theorem lm_some {K : Nat → Nat → Nat} {w : Nat} {c : Nat → Nat} (hK : okK K) (hw : w < 3) (hb : bst K w = some c) : lm K w 32 = some (own K w c) ∧ fit K (own K w c ||| fre w) c ∧ ∀ d, fit K (own K w c ||| fre w) d → ¬ lex d c := by
  have hs := bst_sp K w
  rw [hb] at hs
  obtain ⟨hs1, hs2, hs3⟩ := hs
  have hol : ∀ d, d ∈ allC K → own K w d < 32 := fun d hd => own_lt hK (allC_mem.mp hd).1
  have cand : ∀ d, d ∈ allC K → mg K 0 d 6 ≠ 0 → rmN K (prt K) (own K w d ||| fre w) ≠ 0 := fun d hd hg =>
    (rm_fit hK).mpr ⟨d, (fit_own hK hw (hol d hd) hd hg).mpr (ndf_self _ (by have := hol d hd; omega))⟩
  have key : ∀ m, m < 32 → ¬ klt (own K w c) m → ∀ d, fit K (m ||| fre w) d → own K w d = m ∧ own K w c = m := fun m hm hk d hd => by
    have hdl := hol d hd.1
    have hcl := hol c hs1
    have hsub := (fit_own hK hw hm hd.1 hd.2.1).mp hd
    have h3 := (hs3 d hd.1 hd.2.1).1
    have e : own K w d = m := by
      rcases Nat.lt_or_ge (own K w d) m with q | q
      · have := pop_sub _ (show own K w d < 64 by omega) _ (show m < 64 by omega) hsub (by omega)
        unfold klt at hk h3; omega
      · rcases Nat.lt_or_ge m (own K w d) with q2 | q2
        · have := pop_sub _ (show own K w d < 64 by omega) _ (show m < 64 by omega) hsub (by omega)
          unfold klt at hk h3; omega
        · omega
    refine ⟨e, ?_⟩
    rw [e] at h3
    unfold klt at hk h3; omega
  have hl := lm_sp (K := K) (w := w) 32
  match e : lm K w 32, hl with
  | none, hl => exact absurd (hl _ (hol c hs1)) (cand c hs1 hs2)
  | some m, hl =>
    have hm : m < 32 := hl.1
    have hk : ¬ klt (own K w c) m := hl.2.2 _ (hol c hs1) (cand c hs1 hs2)
    obtain ⟨d, hd⟩ := (rm_fit hK).mp hl.2.1
    have ec : own K w c = m := (key m hm hk d hd).2
    subst ec
    refine ⟨rfl, (fit_own hK hw hm hs1 hs2).mpr (ndf_self _ (by omega)), fun d hd => ?_⟩
    exact (hs3 d hd.1 hd.2.1).2 (key _ hm hk d hd).1
