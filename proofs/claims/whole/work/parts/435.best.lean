/-! best, more -/
theorem c_in2 (x : Int32) : (f_X4_within x (-2) 5 = some 0 ∧ f_X5_in x (-2) 5 = some 0) ∨ ((x = -2 ∨ x = -1 ∨ ∃ j, j < 6 ∧ x = nI j) ∧ f_X4_within x (-2) 5 = some 1 ∧ f_X5_in x (-2) 5 = some 1) := by
  rw [x4_within, x5_in]
  by_cases h : x < -2 ∨ (5 : Int32) < x
  · rw [if_pos h]; exact Or.inl ⟨rfl, rfl⟩
  · rw [if_neg h]
    refine Or.inr ⟨?_, rfl, rfl⟩
    have e1 : ¬ x.toInt < (-2 : Int32).toInt := fun q => h (Or.inl (Int32.lt_iff_toInt_lt.mpr q))
    have e2 : ¬ (5 : Int32).toInt < x.toInt := fun q => h (Or.inr (Int32.lt_iff_toInt_lt.mpr q))
    have e3 : (-2 : Int32).toInt = -2 := rfl
    have e4 : (-1 : Int32).toInt = -1 := rfl
    have e5 : (5 : Int32).toInt = 5 := rfl
    by_cases hx : x.toInt = -2
    · exact Or.inl (Int32.toInt_inj.mp (by rw [hx, e3]))
    · by_cases hx1 : x.toInt = -1
      · exact Or.inr (Or.inl (Int32.toInt_inj.mp (by rw [hx1, e4])))
      · obtain ⟨j, hj, hx2⟩ := nI_of (x := x) (fun z => by have := Int32.lt_iff_toInt_lt.mp z; have e0 : (0 : Int32).toInt = 0 := rfl; omega)
        have e : x.toInt = (j : Int) := by rw [hx2]; exact nI_toInt hj
        exact Or.inr (Or.inr ⟨j, by omega, hx2⟩)
theorem nI_nm2 {n : Nat} (h : n < 2 ^ 31) : ¬ nI n = -2 := fun q => by
  have e : (nI n).toInt = (-2 : Int32).toInt := by rw [q]
  rw [nI_toInt h] at e
  have e2 : (-2 : Int32).toInt = -2 := rfl
  omega
theorem bS_18 {K : Nat → Nat → Nat} {w : Nat} {S : St} {c z : Nat → Nat} : q10 (bS K w S (some c)) z 0 18 = nI (own K w c) := by rw [q10_n (by decide)]; rfl
theorem bS_19 {K : Nat → Nat → Nat} {w : Nat} {S : St} {c z : Nat → Nat} : q10 (bS K w S (some c)) z 0 19 = nI (mg K 0 c 6) := by rw [q10_n (by decide)]; rfl
theorem bS_11 {K : Nat → Nat → Nat} {w : Nat} {S : St} {c z : Nat → Nat} {p : Nat} (hp : p < 6) : q10 (bS K w S (some c)) z 11 p = nI (c p) := by
  rw [q10_n (by decide)]
  show (if 11 = 0 ∧ p = 18 then nI (own K w c) else if 11 = 0 ∧ p = 19 then nI (mg K 0 c 6) else if 11 = 11 ∧ p < 6 then nI (c p) else S 11 p) = _
  rw [if_neg (by omega), if_neg (by omega), if_pos ⟨rfl, hp⟩]
theorem pu_13 : lp_13 4096 Rel := by
  intro x y Su Sm ⟨K, hR⟩
  have hK := hR.1
  rcases c_in2 y with ⟨hu, hm⟩ | ⟨hy, hu, hm⟩
  · refine ⟨-1, Su, ?_, Sm, ?_, K, hR⟩
    · unfold f_X4_best
      rw [hu, bd_s, if_pos rfl]
    · unfold f_X5_best
      rw [hm, bd_s, if_pos rfl]
  · rcases c_in x 2 (by decide) with ⟨gu, gm⟩ | ⟨w, hw, rfl, gu, gm⟩
    · have gu : f_X4_within x 0 2 = some 0 := gu
      have gm : f_X5_in x 0 2 = some 0 := gm
      refine ⟨-2, Su, ?_, Sm, ?_, K, hR⟩
      · unfold f_X4_best
        rw [hu, bd_s, if_neg z01, gu, bd_s, if_pos rfl]
      · unfold f_X5_best
        rw [hm, bd_s, if_neg z01, gm, bd_s, if_pos rfl]
    · have gu : f_X4_within (nI w) 0 2 = some 1 := gu
      have gm : f_X5_in (nI w) 0 2 = some 1 := gm
      obtain ⟨e1, c1, w1⟩ := x3_spin hK hR.2.1
      have hl := x5_lay hK hR.2.2.1
      have ho := mOK_lay hR.2.2.1
      obtain ⟨S', ⟨f1, f2, f3⟩, f4⟩ := x3_findBest hK w1 (show w < 3 by omega)
      obtain ⟨z, g1⟩ := x5_layBest hK ho (show w < 3 by omega)
      have hRel : Rel S' (q10 (bS K w (layF K Sm) (bst K w)) z) := ⟨K, RelK_co hR (coU_trans c1 f2) (coM_trans (layF_co K Sm) (coM_trans bS_co q10_co))⟩
      have eu : f_X4_best 4096 (nI w) y Su = if anyI (bst K w) = 0 then some (-6, S') else if y = -2 then some (S' 4 2, S') else if y = -1 then some (S' 4 1, S') else bd (f_X4_has (S' 3 5) y) fun r4 => if r4 = 0 then some (-6, S') else gd (ix y 6) (some (S' 28 (Int32.toNatClampNeg y), S')) := by
        unfold f_X4_best
        rw [hu, bd_s, if_neg z01, gu, bd_s, if_neg z01, e1, bd_s, f4, bd2_s]
      have em : f_X5_best 4096 (nI w) y Sm = if anyI (bst K w) = 0 then some (-6, q10 (bS K w (layF K Sm) (bst K w)) z) else if y = -1 then some (q10 (bS K w (layF K Sm) (bst K w)) z 0 18, q10 (bS K w (layF K Sm) (bst K w)) z) else if y = -2 then some (q10 (bS K w (layF K Sm) (bst K w)) z 0 19, q10 (bS K w (layF K Sm) (bst K w)) z) else bd (f_X5_isChosen y (q10 (bS K w (layF K Sm) (bst K w)) z)) fun r4 => if r4 = 0 then some (-6, q10 (bS K w (layF K Sm) (bst K w)) z) else gd (ix y 6) (some (q10 (bS K w (layF K Sm) (bst K w)) z 11 (Int32.toNatClampNeg y), q10 (bS K w (layF K Sm) (bst K w)) z)) := by
        unfold f_X5_best
        rw [hm, bd_s, if_neg z01, gm, bd_s, if_neg z01, hl, bd_s, g1, bd2_s]
      rw [eu, em]
      have hmo : mOK K 0 (q10 (bS K w (layF K Sm) (bst K w)) z) := mOK_q (mOK_bS ho)
      generalize hb : bst K w = b at hRel f3 hmo
      match b, hb with
      | none, hb =>
        exact ⟨-6, S', by rw [if_pos (show anyI none = 0 from rfl)], _, by rw [if_pos (show anyI none = 0 from rfl)], hRel⟩
      | some c, hb =>
        obtain ⟨k1, k2, k3⟩ := f3 c rfl
        rw [if_neg (show ¬ anyI (some c) = 0 from z01), if_neg (show ¬ anyI (some c) = 0 from z01)]
        rcases hy with rfl | rfl | ⟨p, hp, rfl⟩
        · exact ⟨nI (mg K 0 c 6), S', by rw [if_pos rfl, k2], _, by rw [if_neg (by decide), if_pos rfl, bS_19], hRel⟩
        · exact ⟨nI (own K w c), S', by rw [if_neg (by decide), if_pos rfl, k1], _, by rw [if_pos rfl, bS_18], hRel⟩
        · have n1 := nI_nm1 (n := p) (by omega)
          have n2 := nI_nm2 (n := p) (by omega)
          refine ⟨if (prt K).testBit p = true then nI (c p) else -6, S', ?_, _, ?_, hRel⟩
          · rw [if_neg n2, if_neg n1, f1.2.2.1, x4_has (prt_lt hK) (show p < 10 by omega), bd_s, it_b, gd_t (ix_n hp (by decide)), nI_clamp (show p < 2 ^ 31 by omega), k3 p hp]
            by_cases e : (prt K).testBit p = true
            · rw [if_pos e, if_pos e]
            · rw [if_neg e, if_neg e]
          · rw [if_neg n1, if_neg n2, x5_isChosen hK hmo hp, bd_s, it_b, gd_t (ix_n hp (by decide)), nI_clamp (show p < 2 ^ 31 by omega), bS_11 hp]
            by_cases e : (prt K).testBit p = true
            · rw [if_pos e, if_pos e]
            · rw [if_neg e, if_neg e]
/-- other kinds: the choices stay -/
theorem cho_ext {K K' : Nat → Nat → Nat} (h4 : ∀ t, K' 4 t = K 4 t) (h5 : ∀ t, K' 5 t = K 5 t) (h6 : ∀ t, K' 6 t = K 6 t) (p : Nat) : cho K' p = cho K p := by
  have eS : ∀ b t, chS K' b t = chS K b t := fun b t => by unfold chS; rw [h4]
  have eI : ∀ i b, chI K' b i = chI K b i := fun i => by
    induction i with
    | zero => intro b; rfl
    | succ i ih => intro b; show chS K' (chI K' b i) i = chS K (chI K b i) i; rw [ih, eS]
  have eO : ∀ i b, chO K' b i = chO K b i := fun i => by
    induction i with
    | zero => intro b; rfl
    | succ i ih => intro b; show chI K' (chO K' b i) 5 = chI K (chO K b i) 5; rw [ih, eI]
  unfold cho
  rw [h5, h6, eO]
/-- spread anew, by other kinds -/
theorem x3_spread' {K K' : Nat → Nat → Nat} {S T : St} (hK' : okK K') (hR : rep K (vU S)) (hw : webOK K S) (hrow : ∀ r j, r ≠ 9 → K' r j = K r j) (hn : ∀ k, k ≠ 21 → T k = S k) (h21 : ∀ u, u < 36 → T 21 u = ev 9 (K' 9 u)) : ∃ S', (webOK K' S' ∧ coU S S') ∧ f_X3_spread 4096 T = some S' := by
  have a1 : T 2 9 = nI (K' 0 9) := by rw [hn _ (by decide), hrow _ _ (by decide)]; exact hw.1
  have a2 : ∀ t, t < 5 → T 9 t = nI (K' 1 t) := fun t ht => by rw [hn _ (by decide), hrow _ _ (by decide)]; exact uA hR ht
  have a3 : ∀ t, t < 5 → T 10 t = nI (K' 2 t) := fun t ht => by rw [hn _ (by decide), hrow _ _ (by decide)]; exact uR hR ht
  have a4 : ∀ t, t < 5 → T 11 t = nI (K' 3 t) := fun t ht => by rw [hn _ (by decide), hrow _ _ (by decide)]; exact uG hR ht
  have a5 : ∀ p, p < 6 → T 18 p = nI (cho K' p) := fun p hp => by
    rw [hn _ (by decide), cho_ext (fun t => hrow 4 t (by decide)) (fun t => hrow 5 t (by decide)) (fun t => hrow 6 t (by decide))]; exact hw.2.2.2.1 p hp
  have ct : coU S T := ⟨hn _ (by decide), hn _ (by decide), fun k _ _ => hn k (by omega), fun k _ _ => hn k (by omega), by rw [hn _ (by decide)]⟩
  exact ⟨sp2 K' T 30, ⟨sp2_web a1 h21 a2 a3 a5, coU_trans ct (sp2_co K' T 30)⟩, x3_spread hK' a1 h21 a2 a3 a4⟩
theorem wi_more : ∀ p, p < 6 → ∀ w, w < 6 → f_X4_within (nI p) 0 (nI w - 1) = some (if p < w then 1 else 0) := by decide +kernel
theorem wi_most : ∀ w, w < 6 → nI w - 1 ≤ 5 := by decide +kernel
theorem wi_out {x : Int32} {w : Nat} (hw : w < 6) (h : f_X4_isPiece x = some 0) : f_X4_within x 0 (nI w - 1) = some 0 := by
  rw [x4_isPiece] at h
  rw [x4_within]
  by_cases q : x < 0 ∨ 5 < x
  · rw [if_pos]
    rcases q with q | q
    · exact Or.inl q
    · exact Or.inr (Int32.lt_of_le_of_lt (wi_most w hw) q)
  · rw [if_neg q] at h
    exact absurd (Option.some.inj h) z01
theorem wy_lt' (w m : Nat) : wy w m < 32 := Nat.lt_of_le_of_lt Nat.and_le_right (ask_lt w)
theorem own_lt' {K : Nat → Nat → Nat} {w : Nat} {c : Nat → Nat} : own K w c < 32 := wy_lt' _ _
theorem pa_ndf' {a b : Nat} (ha : a < 32) (hb : b < 32) : nI a &&& (nI b ^^^ (-1)) = nI (ndf a b) := pa_ndf a (by omega) b (by omega)
def moA (K K' : Nat → Nat → Nat) (w : Nat) : Option (Nat → Nat) → Option (Nat → Nat) → Int32
  | none, _ => -6
  | some _, none => -6
  | some c, some d => nI (ndf (own K' w d) (own K w c))
theorem x4_more {K : Nat → Nat → Nat} {S : St} {p kd w : Nat} (hK : okK K) (h2 : rep K (vU S)) (hp : p < K 0 9) (hkd : kd < 4) (hw : w < 3) (h9 : K 9 (6 * K 0 9 + p) = 9) : ∃ S', coU S S' ∧ f_X4_more 4096 (nI p) (nI kd) (nI w) S = some (moA K (kup K 9 (6 * K 0 9 + p) kd) w (bst K w) (bst (kup K 9 (6 * K 0 9 + p) kd) w), S') := by
  have hwh := kWh hK
  have hu : 6 * K 0 9 + p < 36 := by omega
  have gk : f_X4_within (nI kd) 0 3 = some 1 := by rw [x4_within, if_neg (show ¬ (nI kd < 0 ∨ (3 : Int32) < nI kd) from rng_t (b := 3) (by decide) (show kd ≤ 3 by omega) rfl)]
  have gw : f_X4_within (nI w) 0 2 = some 1 := by rw [x4_within, if_neg (show ¬ (nI w < 0 ∨ (2 : Int32) < nI w) from rng_t (b := 2) (by decide) (show w ≤ 2 by omega) rfl)]
  obtain ⟨e1, c1, w1⟩ := x3_spin hK h2
  obtain ⟨S2, ⟨f1, f2, f3⟩, f4⟩ := x3_findBest hK w1 hw
  have hK' : okK (kup K 9 (6 * K 0 9 + p) kd) := okK_up hK (okv9 (by omega))
  have hR2 : rep K (vU S2) := rep_co h2 (coU_trans c1 f2)
  have i6u : nI (K 0 9) * 6 + nI p = nI (6 * K 0 9 + p) := i6' _ _
  obtain ⟨S3, ⟨k1, k2⟩, k3⟩ := x3_spread' (K := K) (K' := kup K 9 (6 * K 0 9 + p) kd) (S := S2) (T := sto S2 21 (6 * K 0 9 + p) (nI kd)) hK' hR2 f1 (fun r j hr => by unfold kup; rw [if_neg (fun q => hr q.1)]) (fun k hk => sto_n hk) (fun u hu' => by
    rw [sto_s]; unfold kup
    by_cases e : u = 6 * K 0 9 + p
    · rw [if_pos e, if_pos ⟨rfl, e⟩, ev_n (by omega)]
    · rw [if_neg e, if_neg (fun q => e q.2)]; exact f1.2.2.2.2.2.2.2.2.2 u hu')
  have et : f_X3_tie 4096 (nI p) (nI kd) S2 = some S3 := by
    unfold f_X3_tie f_X4_use
    rw [f1.1, i6u, bd_s, gd_t (ix_n hu (by decide)), nI_clamp (show 6 * K 0 9 + p < 2 ^ 31 by omega), bd_s, k3, bd_s]
  obtain ⟨S4, ⟨m1, m2, m3⟩, m4⟩ := x3_findBest hK' k1 hw
  have ef : f_X4_more 4096 (nI p) (nI kd) (nI w) S = if anyI (bst K w) = 0 then some (-6, S2) else if anyI (bst (kup K 9 (6 * K 0 9 + p) kd) w) = 0 then some (-6, S4) else some ((S4 4 1) &&& (S2 4 1 ^^^ (-1)), S4) := by
    unfold f_X4_more f_X4_use
    rw [uWh h2, wi_more p (by omega) _ hwh, if_pos hp, bd_s, if_neg z01, gk, bd_s, if_neg z01, gw, bd_s, if_neg z01, i6u, bd_s, gd_t (ix_n hu (by decide)), nI_clamp (show 6 * K 0 9 + p < 2 ^ 31 by omega), uK h2 hu, it_e6 (kK hK hu), if_pos h9, e1, bd_s, f4, bd2_s, bd_s, et, bd_s, m4, bd2_s]
  rw [ef]
  generalize bst K w = b1 at f3
  generalize hb2 : bst (kup K 9 (6 * K 0 9 + p) kd) w = b2 at m3
  match b1, b2, hb2 with
  | none, _, _ => exact ⟨S2, coU_trans c1 f2, by rw [if_pos (show anyI none = 0 from rfl)]; rfl⟩
  | some c, none, _ => exact ⟨S4, coU_trans c1 (coU_trans f2 (coU_trans k2 m2)), by rw [if_neg (show ¬ anyI (some c) = 0 from z01), if_pos (show anyI none = 0 from rfl)]; rfl⟩
  | some c, some d, _ =>
    refine ⟨S4, coU_trans c1 (coU_trans f2 (coU_trans k2 m2)), ?_⟩
    rw [if_neg (show ¬ anyI (some c) = 0 from z01), if_neg (show ¬ anyI (some d) = 0 from z01), (f3 c rfl).1, (m3 d rfl).1, pa_ndf' own_lt' own_lt']
    rfl
theorem coM_tie {S S2 S5 : St} {u : Nat} {v v' : Int32} (h1 : coM S S2) (h2 : coM (sto S2 7 u v) S5) (hv : S 7 u = v') : coM S (sto S5 7 u v') := by
  obtain ⟨a1, a2, a3, a4, a5, a6, a7⟩ := h1
  obtain ⟨b1, b2, b3, b4, b5, b6, b7⟩ := h2
  refine ⟨?_, ?_, ?_, fun k g1 g2 => ?_, fun j hj => ?_, ?_, ?_⟩
  · rw [sto_n (by decide), b1, sto_n (by decide), a1]
  · rw [sto_n (by decide), b2, sto_n (by decide), a2]
  · rw [sto_n (by decide), b3, sto_n (by decide), a3]
  · rw [sto_n (by omega), b4 k g1 g2, sto_n (by omega), a4 k g1 g2]
  · rw [sto_s]
    by_cases e : j = u
    · rw [if_pos e, e, hv]
    · rw [if_neg e, b5 j hj, sto_s, if_neg e, a5 j hj]
  · rw [sto_n (by decide), b6, sto_n (by decide), a6]
  · rw [sto_n (by decide), b7, sto_n (by decide), a7]
theorem x5_more {K K' : Nat → Nat → Nat} {S : St} {p kd w : Nat} (hK : okK K) (hK' : okK K') (hKe : kup K 9 (6 * K 0 9 + p) kd = K') (h3 : rep K (vM S)) (hp : p < K 0 9) (hkd : kd < 4) (hw : w < 3) (h9 : K 9 (6 * K 0 9 + p) = 9) (hm : f_X5_isPiece (nI p) = some 1) : ∃ S', coM S S' ∧ f_X5_more 4096 (nI p) (nI kd) (nI w) S = some (moA K K' w (bst K w) (bst K' w), S') := by
  have hwh := kWh hK
  obtain ⟨u, eu⟩ : ∃ u, 6 * K 0 9 + p = u := ⟨_, rfl⟩
  have hu : u < 36 := by omega
  rw [eu] at hKe h9
  have gk : f_X5_in (nI kd) 0 3 = some 1 := by rw [x5_in, if_neg (show ¬ (nI kd < 0 ∨ (3 : Int32) < nI kd) from rng_t (b := 3) (by decide) (show kd ≤ 3 by omega) rfl)]
  have gw : f_X5_in (nI w) 0 2 = some 1 := by rw [x5_in, if_neg (show ¬ (nI w < 0 ∨ (2 : Int32) < nI w) from rng_t (b := 2) (by decide) (show w ≤ 2 by omega) rfl)]
  have i6u : (6 : Int32) * nI (K 0 9) + nI p = nI u := by rw [← eu]; exact i6 _ _
  have hl := x5_lay hK h3
  obtain ⟨z, g1⟩ := x5_layBest hK (mOK_lay h3) hw
  have cA : coM S (q10 (bS K w (layF K S) (bst K w)) z) := coM_trans (layF_co K S) (coM_trans bS_co q10_co)
  have b18 : ∀ c, bst K w = some c → q10 (bS K w (layF K S) (bst K w)) z 0 18 = nI (own K w c) := fun c hc => by rw [hc]; exact bS_18
  obtain ⟨A, eA0⟩ : ∃ A, q10 (bS K w (layF K S) (bst K w)) z = A := ⟨_, rfl⟩
  rw [eA0] at g1 cA b18
  have hRA := repM_co h3 cA
  have hRB : rep K' (vM (sto A 7 u (nI kd))) := by
    rw [← hKe]
    exact rep_up hRA (by rw [ev_n (by omega)]) (fun r j hj => vM_inK hj)
  have hl2 := x5_lay hK' hRB
  obtain ⟨z2, g2⟩ := x5_layBest hK' (mOK_lay hRB) hw
  have cB : coM (sto A 7 u (nI kd)) (q10 (bS K' w (layF K' (sto A 7 u (nI kd))) (bst K' w)) z2) := coM_trans (layF_co _ _) (coM_trans bS_co q10_co)
  have d18 : ∀ c, bst K' w = some c → q10 (bS K' w (layF K' (sto A 7 u (nI kd))) (bst K' w)) z2 0 18 = nI (own K' w c) := fun c hc => by rw [hc]; exact bS_18
  obtain ⟨B, eB0⟩ : ∃ B, q10 (bS K' w (layF K' (sto A 7 u (nI kd))) (bst K' w)) z2 = B := ⟨_, rfl⟩
  rw [eB0] at g2 cB d18
  have eA : A 0 8 = nI (K 0 9) := mWh hRA
  have eB : B 0 8 = nI (K 0 9) := by rw [cB.2.1, sto_n (by decide)]; exact eA
  have hs : S 7 u = -6 := by rw [mK h3 hu, h9]; rfl
  have hlt : nI p < nI (K 0 9) := nI_lt hp (by omega)
  refine ⟨sto B 7 u (-6), coM_tie cA cB hs, ?_⟩
  have b18' : sto B 7 u (-6) 0 18 = B 0 18 := by rw [sto_n (by decide)]
  have ef : f_X5_more 4096 (nI p) (nI kd) (nI w) S = if anyI (bst K w) = 0 then some (-6, sto B 7 u (-6)) else if anyI (bst K' w) = 0 then some (-6, sto B 7 u (-6)) else some ((B 0 18) &&& (A 0 18 ^^^ (-1)), sto B 7 u (-6)) := by
    unfold f_X5_more
    rw [hm, bd_s, if_neg z01, mWh h3, if_pos hlt, gk, bd_s, if_neg z01, gw, bd_s, if_neg z01, i6u, gd_t (ix_n hu (by decide)), nI_clamp (show u < 2 ^ 31 by omega), mK h3 hu, it_e0 (kK hK hu), if_pos h9, hl, bd_s, g1, bd2_s, bd_s, eA, i6u, gd_t (ix_n hu (by decide)), nI_clamp (show u < 2 ^ 31 by omega), bd_s, hl2, bd_s, g2, bd2_s, eB, i6u, gd_t (ix_n hu (by decide)), nI_clamp (show u < 2 ^ 31 by omega), bd_s, b18']
  rw [ef]
  cases h1 : bst K w with
  | none => rw [if_pos (show anyI none = 0 from rfl)]; rfl
  | some c =>
    cases h2 : bst K' w with
    | none => rw [if_neg (show ¬ anyI (some c) = 0 from z01), if_pos (show anyI none = 0 from rfl)]; rfl
    | some d =>
      rw [if_neg (show ¬ anyI (some c) = 0 from z01), if_neg (show ¬ anyI (some d) = 0 from z01), b18 c h1, d18 d h2, pa_ndf' own_lt' own_lt']
      rfl
theorem pu_19 : lp_19 4096 Rel := by
  intro x y t Su Sm ⟨K, hR⟩
  have hK := hR.1
  have hwh := kWh hK
  have eu0 := uWh hR.2.1
  have em0 := mWh hR.2.2.1
  rcases c_piece x with ⟨hu, hm⟩ | ⟨p, hp, rfl, hu, hm⟩
  · refine ⟨-1, Su, ?_, Sm, ?_, K, hR⟩
    · unfold f_X4_more
      rw [eu0, wi_out hwh hu, bd_s, if_pos rfl]
    · unfold f_X5_more
      rw [hm, bd_s, if_pos rfl]
  · by_cases hpw : p < K 0 9
    · have hlt : nI p < nI (K 0 9) := nI_lt hpw (by omega)
      rcases c_in y 3 (by decide) with ⟨gu, gm⟩ | ⟨kd, hkd, rfl, gu, gm⟩
      · have gu : f_X4_within y 0 3 = some 0 := gu
        have gm : f_X5_in y 0 3 = some 0 := gm
        refine ⟨-2, Su, ?_, Sm, ?_, K, hR⟩
        · unfold f_X4_more
          rw [eu0, wi_more p hp _ hwh, if_pos hpw, bd_s, if_neg z01, gu, bd_s, if_pos rfl]
        · unfold f_X5_more
          rw [hm, bd_s, if_neg z01, em0, if_pos hlt, gm, bd_s, if_pos rfl]
      · have gu : f_X4_within (nI kd) 0 3 = some 1 := gu
        have gm : f_X5_in (nI kd) 0 3 = some 1 := gm
        rcases c_in t 2 (by decide) with ⟨gu2, gm2⟩ | ⟨w, hw, rfl, gu2, gm2⟩
        · have gu2 : f_X4_within t 0 2 = some 0 := gu2
          have gm2 : f_X5_in t 0 2 = some 0 := gm2
          refine ⟨-2, Su, ?_, Sm, ?_, K, hR⟩
          · unfold f_X4_more
            rw [eu0, wi_more p hp _ hwh, if_pos hpw, bd_s, if_neg z01, gu, bd_s, if_neg z01, gu2, bd_s, if_pos rfl]
          · unfold f_X5_more
            rw [hm, bd_s, if_neg z01, em0, if_pos hlt, gm, bd_s, if_neg z01, gm2, bd_s, if_pos rfl]
        · have gu2 : f_X4_within (nI w) 0 2 = some 1 := gu2
          have gm2 : f_X5_in (nI w) 0 2 = some 1 := gm2
          have hix : 6 * K 0 9 + p < 36 := by omega
          by_cases h9 : K 9 (6 * K 0 9 + p) = 9
          · obtain ⟨S1, c1, e1⟩ := x4_more hK hR.2.1 hpw (show kd < 4 by omega) (show w < 3 by omega) h9
            obtain ⟨S2, c2, e2⟩ := x5_more hK (okK_up hK (okv9 (show kd < 4 ∨ kd = 9 by omega))) rfl hR.2.2.1 hpw (show kd < 4 by omega) (show w < 3 by omega) h9 hm
            exact ⟨_, S1, e1, S2, e2, K, RelK_co hR c1 c2⟩
          · have i6u : nI (K 0 9) * 6 + nI p = nI (6 * K 0 9 + p) := i6' _ _
            have i6m : (6 : Int32) * nI (K 0 9) + nI p = nI (6 * K 0 9 + p) := i6 _ _
            refine ⟨-3, Su, ?_, Sm, ?_, K, hR⟩
            · unfold f_X4_more f_X4_use
              rw [eu0, wi_more p hp _ hwh, if_pos hpw, bd_s, if_neg z01, gu, bd_s, if_neg z01, gu2, bd_s, if_neg z01, i6u, bd_s, gd_t (ix_n hix (by decide)), nI_clamp (show 6 * K 0 9 + p < 2 ^ 31 by omega), uK hR.2.1 hix, it_e6 (kK hK hix), if_neg h9]
            · unfold f_X5_more
              rw [hm, bd_s, if_neg z01, em0, if_pos hlt, gm, bd_s, if_neg z01, gm2, bd_s, if_neg z01, i6m, gd_t (ix_n hix (by decide)), nI_clamp (show 6 * K 0 9 + p < 2 ^ 31 by omega), mK hR.2.2.1 hix, it_e0 (kK hK hix), if_neg h9]
    · have hlt : ¬ nI p < nI (K 0 9) := nI_nlt (by omega) (by omega)
      refine ⟨-1, Su, ?_, Sm, ?_, K, hR⟩
      · unfold f_X4_more
        rw [eu0, wi_more p hp _ hwh, if_neg hpw, bd_s, if_pos rfl]
      · unfold f_X5_more
        rw [hm, bd_s, if_neg z01, em0, if_neg hlt]
