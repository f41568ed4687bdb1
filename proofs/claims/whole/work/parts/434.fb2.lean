/-! the class's best: settle, findBest -/
theorem coU_sto {T : St} {k i : Nat} {v : Int32} (h : k ≠ 2 ∧ k ≠ 6 ∧ (k < 8 ∨ 17 < k) ∧ k < 29 ∧ k ≠ 1) : coU T (sto T k i v) := ⟨sto_n (by omega), sto_n (by omega), fun j _ _ => sto_n (by omega), fun j _ _ => sto_n (by omega), by rw [sto_n (by omega)]⟩
theorem cup_self (c : Nat → Nat) (p : Nat) : cup c p (c p) = c := by
  funext j; unfold cup
  by_cases e : j = p
  · rw [if_pos e, e]
  · rw [if_neg e]
theorem cup_at (c : Nat → Nat) (p t : Nat) : cup c p t p = t := by unfold cup; rw [if_pos rfl]
theorem cup_ne {c : Nat → Nat} {p t j : Nat} (h : j ≠ p) : cup c p t j = c j := by unfold cup; rw [if_neg h]
theorem fl_up {K : Nat → Nat → Nat} {bo p t q : Nat} {c : Nat → Nat} (h : q ≠ p) : fl K bo (cup c p t) (p + 1) q = fl K bo c p q := by
  unfold fl
  rw [cup_ne h]
  by_cases e : q < p
  · rw [if_pos e, if_pos (by omega)]
  · rw [if_neg e, if_neg (by omega)]
theorem fl_p {K : Nat → Nat → Nat} {bo p t : Nat} {c : Nat → Nat} : fl K bo (cup c p t) (p + 1) p = gq K p t := by
  unfold fl; rw [if_pos (by omega), cup_at]
theorem x3_settle {K : Nat → Nat → Nat} {S : St} {bo p : Nat} {c : Nat → Nat} (hK : okK K) (h : webOK K S) (hbo : bo < 64) (hf : fit K bo c) (hl : ∀ d, fit K bo d → ¬ lex d c) (hp : p < 6) (hb : (prt K).testBit p = true) (h25 : ∀ q, q < 6 → S 25 q = nI (fl K bo c p q)) : ∃ r, (r.1 = nI (c p) ∧ (∀ k, k ≠ 25 → r.2 k = S k) ∧ (∀ q, q < 6 → r.2 25 q = nI (fl K bo c (p + 1) q))) ∧ f_X3_settle 4096 (nI p) (nI bo) S = some r := by
  have hok := (allC_mem.mp hf.1).1
  have hsub := (ms_sub 6).mp hf.2.2
  have hc5 := (hok p hp).1
  have step : ∀ t, t < 5 → ∀ S', (∀ k, k ≠ 25 → S' k = S k) → (∀ q, q < 6 → q ≠ p → S' 25 q = S 25 q) → ∀ k, FB_X3_settle_2 4096 k (nI p) (nI bo) (nI t) S' = if mcs K p t bo = true then (if rl (cho K (K 0 9)) (fl K bo (cup c p t) (p + 1)) 6 = 0 then k (nI p, nI bo, nI (t + 1), sto S' 25 p (nI (gq K p t))) else some (nI t, sto S' 25 p (nI (gq K p t)))) else k (nI p, nI bo, nI (t + 1), S') := fun t ht S' hn hq k => by
    have h5 : ¬ (5 : Int32) ≤ nI t := nI_ge (a := t) (b := 5) ht (by decide)
    have hw : webOK K S' := web_out h (fun k hk => hn k (by omega))
    have hw1 : webOK K (sto S' 25 p (nI (gq K p t))) := web_out hw (fun k hk => sto_n (by omega))
    have hi : 5 * p + t < 30 := by omega
    have rr := x3_roomLeft (f := fl K bo (cup c p t) (p + 1)) hK hw1 (fun q hq6 => by
      by_cases e : q = p
      · subst e; rw [sto_s, if_pos rfl, fl_p]
      · rw [sto_s, if_neg e, hq q hq6 e, h25 q hq6, fl_up e])
    have hrl : rl (cho K (K 0 9)) (fl K bo (cup c p t) (p + 1)) 6 < 32 := rl_lt (cho_lt hK (kWh hK)) 6
    unfold FB_X3_settle_2 f_X3_offer
    rw [if_neg h5, x3_mayChoose hK hw hp ht hbo, bd_s, it_b, i5', bd_s, gd_t (ix_n hi (by decide)), gd_t (ix_n hp (by decide)), nI_clamp (show 5 * p + t < 2 ^ 31 by omega), nI_clamp (show p < 2 ^ 31 by omega), hw.2.2.2.2.2.1 p t hp ht, bd_s, rr, bd_s, it_0 (by omega), nI_1]
  unfold f_X3_settle
  refine lp_rel (F := F_X3_settle_2 4096) (fun t x => ∃ S', x = (nI p, nI bo, nI t, S') ∧ (∀ k, k ≠ 25 → S' k = S k) ∧ (∀ q, q < 6 → q ≠ p → S' 25 q = S 25 q)) (c p) 4096 (by omega) (fun t ht x hx => ?_) (fun x hx => ?_) ⟨S, rfl, fun _ _ => rfl, fun _ _ _ => rfl⟩
  · obtain ⟨S', e, hn, hq⟩ := hx
    subst e
    by_cases e1 : mcs K p t bo = true
    · refine ⟨_, ⟨sto S' 25 p (nI (gq K p t)), rfl, fun k hk => by rw [sto_n hk]; exact hn k hk, fun q hq6 e => by rw [sto_s, if_neg e]; exact hq q hq6 e⟩, fun k => ?_⟩
      show FB_X3_settle_2 4096 k (nI p) (nI bo) (nI t) S' = _
      rw [step t (by omega) S' hn hq, if_pos e1]
      by_cases e2 : rl (cho K (K 0 9)) (fl K bo (cup c p t) (p + 1)) 6 = 0
      · rw [if_pos e2]
      · obtain ⟨d, hd, hpre⟩ := ext_of hK (by omega) (fun q hq => by
          by_cases e : q = p
          · subst e; rw [cup_at]
            have := (alw_mcs hb).mp e1
            exact ⟨by omega, this.1, this.2⟩
          · rw [cup_ne e]; exact ⟨(hok q (by omega)).1, (hok q (by omega)).2, hsub q (by omega)⟩) e2
        refine absurd ⟨p, hp, ?_, fun q hq => ?_⟩ (hl d hd)
        · rw [hpre p (by omega), cup_at]; exact ht
        · rw [hpre q (by omega), cup_ne (by omega)]
    · refine ⟨_, ⟨S', rfl, hn, hq⟩, fun k => ?_⟩
      show FB_X3_settle_2 4096 k (nI p) (nI bo) (nI t) S' = _
      rw [step t (by omega) S' hn hq, if_neg e1]
  · obtain ⟨S', e, hn, hq⟩ := hx
    subst e
    have e1 : mcs K p (c p) bo = true := (alw_mcs hb).mpr ⟨(hok p hp).2, hsub p hp⟩
    have e2 : rl (cho K (K 0 9)) (fl K bo (cup c p (c p)) (p + 1)) 6 ≠ 0 := by
      rw [cup_self]; exact ext_if hK hf (fun _ _ => rfl)
    refine ⟨(nI (c p), sto S' 25 p (nI (gq K p (c p)))), ⟨rfl, fun k hk => by rw [show (nI (c p), sto S' 25 p (nI (gq K p (c p)))).2 = sto S' 25 p (nI (gq K p (c p))) from rfl, sto_n hk]; exact hn k hk, fun q hq6 => ?_⟩, fun k => ?_⟩
    · show sto S' 25 p (nI (gq K p (c p))) 25 q = _
      by_cases e : q = p
      · subst e
        rw [sto_s, if_pos rfl]
        have := fl_p (K := K) (bo := bo) (p := q) (t := c q) (c := c)
        rw [cup_self] at this
        rw [this]
      · have := fl_up (K := K) (bo := bo) (p := p) (t := c p) (c := c) e
        rw [cup_self] at this
        rw [sto_s, if_neg e, hq q hq6 e, h25 q hq6, this]
    · show FB_X3_settle_2 4096 k (nI p) (nI bo) (nI (c p)) S' = _
      rw [step _ hc5 S' hn hq, if_pos e1, if_neg e2]
theorem rl_congr {w : Nat} {f g : Nat → Nat} : ∀ n, (∀ p, p < n → f p = g p) → rl w f n = rl w g n
  | 0, _ => rfl
  | n + 1, h => by unfold rl; rw [rl_congr n (fun p hp => h p (by omega)), h n (by omega)]
theorem x3_fbl {K : Nat → Nat → Nat} {S : St} {w : Nat} {c : Nat → Nat} (hK : okK K) (h : webOK K S) (hf : fit K (own K w c ||| fre w) c) (hl : ∀ d, fit K (own K w c ||| fre w) d → ¬ lex d c) (hM : own K w c < 32) (h41 : S 4 1 = nI (own K w c)) (h25 : ∀ q, q < 6 → S 25 q = nI (fl K (own K w c ||| fre w) c 0 q)) : ∃ r, (r.1 = 1 ∧ webOK K r.2 ∧ coU S r.2 ∧ r.2 4 1 = nI (own K w c) ∧ r.2 4 2 = nI (mg K 0 c 6) ∧ ∀ p, p < 6 → r.2 28 p = nI (c p)) ∧ lpI (F_X3_findBest_50 4096) 4096 (nI (fre w), nI (own K w c), 0, S) = some r := by
  have hok := (allC_mem.mp hf.1).1
  have hbo : own K w c ||| fre w < 32 := Nat.or_lt_two_pow (n := 5) hM (fre_lt w)
  refine lp_rel (F := F_X3_findBest_50 4096) (fun i x => ∃ S', x = (nI (fre w), nI (own K w c), nI i, S') ∧ webOK K S' ∧ coU S S' ∧ S' 4 1 = nI (own K w c) ∧ (∀ q, q < 6 → S' 25 q = nI (fl K (own K w c ||| fre w) c i q)) ∧ (∀ q, q < i → S' 28 q = nI (c q))) 6 4096 (by decide) (fun p hp x hx => ?_) (fun x hx => ?_) ⟨S, rfl, h, coU_refl S, h41, h25, fun q hq => absurd hq (by omega)⟩
  · obtain ⟨S', e, hw, hc, h4, hq25, hq28⟩ := hx
    subst e
    have h6 : ¬ (6 : Int32) ≤ nI p := nI_ge (a := p) (b := 6) hp (by decide)
    have hst : ∀ (T : St) (v : Int32), coU T (sto T 28 p v) := fun T v => ⟨sto_n (by decide), sto_n (by decide), fun k _ _ => sto_n (by omega), fun k _ _ => sto_n (by omega), by rw [sto_n (by decide)]⟩
    by_cases e1 : (prt K).testBit p = true
    · obtain ⟨⟨r3, S3⟩, ⟨g1, g2, g3⟩, g4⟩ := x3_settle hK hw (by omega) hf hl hp e1 hq25
      have f1 : r3 = nI (c p) := g1
      have f2 : ∀ k, k ≠ 25 → S3 k = S' k := g2
      have f3 : ∀ q, q < 6 → S3 25 q = nI (fl K (own K w c ||| fre w) c (p + 1) q) := g3
      subst f1
      have hw3 : webOK K S3 := web_out hw (fun k hk => f2 k (by omega))
      have hc3 : coU S' S3 := ⟨f2 _ (by decide), f2 _ (by decide), fun k _ _ => f2 _ (by omega), fun k _ _ => f2 _ (by omega), by rw [f2 _ (by decide)]⟩
      refine ⟨_, ⟨sto S3 28 p (nI (c p)), rfl, web_out hw3 (fun k hk => sto_n (by omega)), coU_trans hc (coU_trans hc3 (hst _ _)), by rw [sto_n (by decide), f2 _ (by decide)]; exact h4, fun q hq => by rw [sto_n (by decide)]; exact f3 q hq, fun q hq => ?_⟩, fun k => ?_⟩
      · rw [sto_s]
        by_cases e : q = p
        · rw [if_pos e, e]
        · rw [if_neg e, f2 _ (by decide)]; exact hq28 q (by omega)
      · show FB_X3_findBest_50 4096 k (nI (fre w)) (nI (own K w c)) (nI p) S' = _
        unfold FB_X3_findBest_50
        rw [if_neg h6, hw.2.2.1, x4_has (prt_lt hK) (show p < 10 by omega), bd_s, it_b, if_pos e1, pa_or, g4, bd2_s, gd_t (ix_n hp (by decide)), nI_clamp (show p < 2 ^ 31 by omega), bd_s, nI_1]
    · have ea : alw K p = 1 := by unfold alw; rw [if_neg e1]
      have ec : c p = 0 := bit1_0 _ (hok p hp).1 (by rw [← ea]; exact (hok p hp).2)
      refine ⟨_, ⟨sto S' 28 p 0, rfl, web_out hw (fun k hk => sto_n (by omega)), coU_trans hc (hst _ _), by rw [sto_n (by decide)]; exact h4, fun q hq => ?_, fun q hq => ?_⟩, fun k => ?_⟩
      · rw [sto_n (by decide), hq25 q hq]
        by_cases e : q = p
        · subst e
          unfold fl ltS
          rw [if_neg (show ¬ q < q by omega), if_pos (show q < q + 1 by omega), if_neg e1, gq_no e1]
        · have := fl_up (K := K) (bo := own K w c ||| fre w) (p := p) (t := c p) (c := c) e
          rw [cup_self] at this
          rw [this]
      · rw [sto_s]
        by_cases e : q = p
        · rw [if_pos e, e, ec]; rfl
        · rw [if_neg e]; exact hq28 q (by omega)
      · show FB_X3_findBest_50 4096 k (nI (fre w)) (nI (own K w c)) (nI p) S' = _
        unfold FB_X3_findBest_50
        rw [if_neg h6, hw.2.2.1, x4_has (prt_lt hK) (show p < 10 by omega), bd_s, it_b, if_neg e1, gd_t (ix_n hp (by decide)), nI_clamp (show p < 2 ^ 31 by omega), bd_s, nI_1]
  · obtain ⟨S', e, hw, hc, h4, hq25, hq28⟩ := hx
    subst e
    have er : rl (cho K (K 0 9)) (fl K (own K w c ||| fre w) c 6) 6 = mg K 0 c 6 := by
      rw [mg_rl]
      exact rl_congr 6 (fun p hp => by unfold fl; rw [if_pos hp, gm0])
    refine ⟨(1, sto S' 4 2 (nI (mg K 0 c 6))), ⟨rfl, web_out hw (fun k hk => sto_n (by omega)), coU_trans hc (coU_sto (by omega)), ?_, ?_, fun p hp => ?_⟩, fun k => ?_⟩
    · show sto S' 4 2 (nI (mg K 0 c 6)) 4 1 = _
      rw [sto_s, if_neg (by decide)]; exact h4
    · show sto S' 4 2 (nI (mg K 0 c 6)) 4 2 = _
      rw [sto_s, if_pos rfl]
    · show sto S' 4 2 (nI (mg K 0 c 6)) 28 p = _
      rw [sto_n (by decide)]; exact hq28 p hp
    · show FB_X3_findBest_50 4096 k (nI (fre w)) (nI (own K w c)) (nI 6) S' = _
      unfold FB_X3_findBest_50
      rw [if_pos (by decide), x3_roomLeft hK hw hq25, bd_s, bd_s, er]
theorem x3_findBest {K : Nat → Nat → Nat} {S : St} {w : Nat} (hK : okK K) (h : webOK K S) (hw : w < 3) : ∃ S', (webOK K S' ∧ coU S S' ∧ ∀ c, bst K w = some c → S' 4 1 = nI (own K w c) ∧ S' 4 2 = nI (mg K 0 c 6) ∧ ∀ p, p < 6 → S' 28 p = nI (c p)) ∧ f_X3_findBest 4096 (nI w) S = some (anyI (bst K w), S') := by
  obtain ⟨⟨r, S1⟩, ⟨h1, h2, h3⟩, h4⟩ := x3_lm (w := w) hK h
  have j1 : r = oI (lm K w 32) := h1
  have j2 : webOK K S1 := h2
  have j3 : coU S S1 := h3
  subst j1
  have e31 : (31 : Int32) &&& (nI (ask w) ^^^ (-1)) = nI (fre w) := pa_ndf 31 (by decide) _ (by have := ask_lt w; omega)
  unfold f_X3_findBest
  rw [x3_askedBy w hw, bd_s, bd_s, e31, h4, bd2_s]
  match e : bst K w with
  | none =>
    rw [lm_none hK e]
    refine ⟨S1, ⟨j2, j3, fun c q => by cases q⟩, ?_⟩
    rw [if_pos (show oI none = -6 from rfl)]
    rfl
  | some c =>
    obtain ⟨g1, g2, g3⟩ := lm_some hK hw e
    have hM : own K w c < 32 := own_lt hK (allC_mem.mp g2.1).1
    have hbo : own K w c ||| fre w < 32 := Nat.or_lt_two_pow (n := 5) hM (fre_lt w)
    have hrm : rmN K (prt K) (own K w c ||| fre w) ≠ 0 := (rm_fit hK).mpr ⟨c, g2⟩
    have hrl : rmN K (prt K) (own K w c ||| fre w) < 32 := rl_lt (cho_lt hK (kWh hK)) 6
    obtain ⟨⟨r2, S2⟩, ⟨k1, k2, k3, k4, k5, k6⟩, k7⟩ := x3_fbl (S := sto (r25 S1 (ltS K (prt K) (own K w c ||| fre w)) 6) 4 1 (nI (own K w c))) hK (web_out (web_r25 j2) (fun k hk => sto_n (by omega))) g2 g3 hM (by rw [sto_s, if_pos rfl]) (fun q hq => by rw [sto_n (by decide), fl_0]; unfold r25; rw [if_pos ⟨rfl, hq⟩])
    have k1 : r2 = 1 := k1
    subst k1
    refine ⟨S2, ⟨k2, coU_trans j3 (coU_trans r25_co (coU_trans (coU_sto (by omega)) k3)), fun c' q => ?_⟩, ?_⟩
    · have q := Option.some.inj q
      subst q
      exact ⟨k4, k5, k6⟩
    · rw [g1, show oI (some (own K w c)) = nI (own K w c) from rfl, if_neg (nI_ne6 (by omega)), j2.2.2.1, pa_or, x3_room hK j2 (prt_lt hK) (by omega), bd2_s, it_0 (by omega), if_neg hrm, bd_s, k7]
      rfl
