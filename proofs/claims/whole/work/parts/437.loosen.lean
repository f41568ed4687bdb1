/-! looser: uses of one kind become another -/
def lcn (K : Nat → Nat → Nat) (f u : Nat) : Bool := (rch K 3).testBit (u / 6) && (decide (u % 6 < u / 6) && decide (K 9 u = f))
def cL (K : Nat → Nat → Nat) (f : Nat) : Nat → Nat
  | 0 => 0
  | m + 1 => if lcn K f m = true then cL K f m + 1 else cL K f m
theorem cL_s {K : Nat → Nat → Nat} {f m : Nat} : cL K f (m + 1) = if lcn K f m = true then cL K f m + 1 else cL K f m := rfl
def klo (K : Nat → Nat → Nat) (f t u : Nat) : Nat := if lcn K f u = true then t else K 9 u
def lK (K : Nat → Nat → Nat) (f t : Nat) : Nat → Nat → Nat := fun r j => if r = 9 then klo K f t j else K r j
theorem cL_le {K : Nat → Nat → Nat} {f : Nat} : ∀ m, cL K f m ≤ m
  | 0 => Nat.le_refl 0
  | m + 1 => by
    have := cL_le (K := K) (f := f) m
    rw [cL_s]
    split <;> omega
theorem cL_flat {K : Nat → Nat → Nat} {f a : Nat} : ∀ d, (∀ u, a ≤ u → u < a + d → lcn K f u = false) → cL K f (a + d) = cL K f a
  | 0, _ => rfl
  | d + 1, h => by
    show cL K f (a + d + 1) = _
    rw [cL_s, h (a + d) (by omega) (by omega), if_neg (by decide), cL_flat d (fun u h1 h2 => h u h1 (by omega))]
theorem lcn_tail {K : Nat → Nat → Nat} {f p u : Nat} (h1 : 6 * p + p ≤ u) (h2 : u < 6 * p + 6) : lcn K f u = false := by
  unfold lcn
  have : ¬ u % 6 < u / 6 := by omega
  rw [decide_eq_false this, Bool.false_and, Bool.and_false]
theorem lcn_nb {K : Nat → Nat → Nat} {f p u : Nat} (hb : ¬ (rch K 3).testBit p = true) (h1 : 6 * p ≤ u) (h2 : u < 6 * p + 6) : lcn K f u = false := by
  unfold lcn
  rw [show u / 6 = p by omega]
  cases e : (rch K 3).testBit p
  · rfl
  · exact absurd e hb
theorem lcn_at {K : Nat → Nat → Nat} {f p q : Nat} (hq : q < p) (hp : p < 6) (hb : (rch K 3).testBit p = true) : lcn K f (6 * p + q) = true ↔ K 9 (6 * p + q) = f := by
  unfold lcn
  rw [show (6 * p + q) / 6 = p by omega, show (6 * p + q) % 6 = q by omega, hb, decide_eq_true hq, Bool.true_and, Bool.true_and, decide_eq_true_iff]
theorem okK_lK {K : Nat → Nat → Nat} {f t : Nat} (hK : okK K) (ht : t < 4) : okK (lK K f t) := by
  intro r j hj
  unfold lK
  by_cases e : r = 9
  · subst e
    rw [if_pos rfl]
    have h := kK hK (show j < 36 by rcases hj with ⟨h, _⟩ | ⟨_, _, h⟩; (· omega); exact h)
    refine okv9 ?_
    unfold klo
    split
    · exact Or.inl ht
    · exact h
  · rw [if_neg e]; exact hK r j hj
theorem it_ef {α : Type} {n f : Nat} {x y : α} (h : n < 4 ∨ n = 9) (hf : f < 4) : (if ev 9 n = nI f then x else y) = if n = f then x else y := by
  by_cases e : n = 9
  · subst e
    rw [if_neg (show ¬ 9 = f by omega), if_neg]
    intro q
    exact nI_ne6 (n := f) (by omega) q.symm
  · rw [ev_n (by omega), it_eq (by omega) (by omega)]
/-- the row as far as it is done -/
def kdn (K : Nat → Nat → Nat) (f t m u : Nat) : Nat := if u < m then klo K f t u else K 9 u
theorem kdn_flat {K : Nat → Nat → Nat} {f t a b u : Nat} (hab : a ≤ b) (h : ∀ u, a ≤ u → u < b → lcn K f u = false) : kdn K f t b u = kdn K f t a u := by
  unfold kdn
  by_cases e : u < a
  · rw [if_pos e, if_pos (by omega)]
  · rw [if_neg e]
    by_cases g : u < b
    · rw [if_pos g]; unfold klo; rw [h u (by omega) g, if_neg (by decide)]
    · rw [if_neg g]
theorem kdn_s {K : Nat → Nat → Nat} {f t m u : Nat} : kdn K f t (m + 1) u = if u = m then klo K f t m else kdn K f t m u := by
  unfold kdn
  by_cases e : u = m
  · rw [if_pos e, if_pos (by omega), e]
  · rw [if_neg e]
    by_cases g : u < m
    · rw [if_pos g, if_pos (by omega)]
    · rw [if_neg g, if_neg (by omega)]
theorem kdn_0 {K : Nat → Nat → Nat} {f t u : Nat} : kdn K f t 0 u = K 9 u := by unfold kdn; rw [if_neg (by omega)]
theorem kdn_m {K : Nat → Nat → Nat} {f t m : Nat} : kdn K f t m m = K 9 m := by unfold kdn; rw [if_neg (by omega)]
/-- the class's -/
theorem x3_loosen {K : Nat → Nat → Nat} {S : St} {f t : Nat} (hK : okK K) (hR : rep K (vU S)) (h : webOK K S) (hf : f < 4) (ht : t < 4) : ∃ r, (r.1 = nI (cL K f 36) ∧ webOK (lK K f t) r.2 ∧ coU S r.2) ∧ f_X3_loosen 4096 (nI f) (nI t) S = some r := by
  unfold f_X3_loosen
  refine lp_rel (F := F_X3_loosen_5 4096) (fun p x => ∃ S' : St, x = (nI f, nI t, nI (cL K f (6 * p)), nI p, S') ∧ (∀ k, k ≠ 21 → S' k = S k) ∧ ∀ u, u < 36 → S' 21 u = ev 9 (kdn K f t (6 * p) u)) 6 4096 (by decide) (fun p hp x hx => ?_) (fun x hx => ?_) ⟨S, rfl, fun _ _ => rfl, fun u hu => by rw [kdn_0]; exact h.2.2.2.2.2.2.2.2.2 u hu⟩
  · obtain ⟨S1, ex, hn1, h21⟩ := hx
    subst ex
    have h6 : ¬ (6 : Int32) ≤ nI p := nI_ge (a := p) (b := 6) hp (by decide)
    have key : ∃ y, (∃ S' : St, y = (nI f, nI t, nI (cL K f (6 * (p + 1))), nI (p + 1), S') ∧ (∀ k, k ≠ 21 → S' k = S k) ∧ ∀ u, u < 36 → S' 21 u = ev 9 (kdn K f t (6 * (p + 1)) u)) ∧ ∀ k5, lpI (F_X3_loosen_15 4096 k5) 4096 (nI f, nI t, nI (cL K f (6 * p)), nI p, 0, S1) = k5 y := by
      refine lp_rel2 (F := F_X3_loosen_15 4096) (fun q x => ∃ S' : St, x = (nI f, nI t, nI (cL K f (6 * p + q)), nI p, nI q, S') ∧ (∀ k, k ≠ 21 → S' k = S k) ∧ ∀ u, u < 36 → S' 21 u = ev 9 (kdn K f t (6 * p + q) u)) p 4096 (by omega) (fun q hq x hx => ?_) (fun x hx => ?_) ⟨S1, rfl, hn1, h21⟩
      · obtain ⟨S2, ex, hn2, h22⟩ := hx
        subst ex
        have hu : 6 * p + q < 36 := by omega
        have e34 : S2 3 4 = nI (rch K 3) := by rw [hn2 _ (by decide)]; exact h.2.1
        have hpq : ¬ nI p ≤ nI q := nI_ge hq (by omega)
        have eat : S2 21 (6 * p + q) = ev 9 (K 9 (6 * p + q)) := by rw [h22 _ hu, kdn_m]
        by_cases hb : (rch K 3).testBit p = true
        · by_cases e : K 9 (6 * p + q) = f
          · have el : lcn K f (6 * p + q) = true := (lcn_at hq hp hb).mpr e
            refine ⟨_, ⟨sto S2 21 (6 * p + q) (nI t), rfl, fun k hk => by rw [sto_n hk]; exact hn2 k hk, fun u hu' => ?_⟩, fun k5 k => ?_⟩
            · show sto S2 21 (6 * p + q) (nI t) 21 u = ev 9 (kdn K f t (6 * p + q + 1) u)
              rw [sto_s, kdn_s]
              by_cases g : u = 6 * p + q
              · rw [if_pos g, if_pos g]; unfold klo; rw [if_pos el, ev_n (by omega)]
              · rw [if_neg g, if_neg g]; exact h22 u hu'
            · show FB_X3_loosen_15 4096 k5 k (nI f) (nI t) (nI (cL K f (6 * p + q))) (nI p) (nI q) S2 = k (nI f, nI t, nI (cL K f (6 * p + q + 1)), nI p, nI (q + 1), _)
              unfold FB_X3_loosen_15 f_X4_use
              rw [if_neg hpq, e34, x4_has (rch_lt 3 hK) (show p < 10 by omega), bd_s, it_b, if_pos hb, i6', bd_s, gd_t (ix_n hu (by decide)), nI_clamp (show 6 * p + q < 2 ^ 31 by omega), eat, it_ef (kK hK hu) hf, if_pos e, bd_s, gd_t (ix_n hu (by decide)), nI_clamp (show 6 * p + q < 2 ^ 31 by omega), bd_s, nI_1, nI_1, cL_s, if_pos el]
          · have el : ¬ lcn K f (6 * p + q) = true := fun z => e ((lcn_at hq hp hb).mp z)
            refine ⟨_, ⟨S2, rfl, hn2, fun u hu' => ?_⟩, fun k5 k => ?_⟩
            · show S2 21 u = ev 9 (kdn K f t (6 * p + q + 1) u)
              rw [kdn_s]
              by_cases g : u = 6 * p + q
              · rw [if_pos g, g, eat]; unfold klo; rw [if_neg el]
              · rw [if_neg g]; exact h22 u hu'
            · show FB_X3_loosen_15 4096 k5 k (nI f) (nI t) (nI (cL K f (6 * p + q))) (nI p) (nI q) S2 = k (nI f, nI t, nI (cL K f (6 * p + q + 1)), nI p, nI (q + 1), _)
              unfold FB_X3_loosen_15 f_X4_use
              rw [if_neg hpq, e34, x4_has (rch_lt 3 hK) (show p < 10 by omega), bd_s, it_b, if_pos hb, i6', bd_s, gd_t (ix_n hu (by decide)), nI_clamp (show 6 * p + q < 2 ^ 31 by omega), eat, it_ef (kK hK hu) hf, if_neg e, nI_1, cL_s, if_neg el]
        · have el : ¬ lcn K f (6 * p + q) = true := by rw [lcn_nb hb (by omega) (by omega)]; decide
          refine ⟨_, ⟨S2, rfl, hn2, fun u hu' => ?_⟩, fun k5 k => ?_⟩
          · show S2 21 u = ev 9 (kdn K f t (6 * p + q + 1) u)
            rw [kdn_s]
            by_cases g : u = 6 * p + q
            · rw [if_pos g, g, eat]; unfold klo; rw [if_neg el]
            · rw [if_neg g]; exact h22 u hu'
          · show FB_X3_loosen_15 4096 k5 k (nI f) (nI t) (nI (cL K f (6 * p + q))) (nI p) (nI q) S2 = k (nI f, nI t, nI (cL K f (6 * p + q + 1)), nI p, nI (q + 1), _)
            unfold FB_X3_loosen_15
            rw [if_neg hpq, e34, x4_has (rch_lt 3 hK) (show p < 10 by omega), bd_s, it_b, if_neg hb, nI_1, cL_s, if_neg el]
      · obtain ⟨S2, ex, hn2, h22⟩ := hx
        subst ex
        have ec : cL K f (6 * (p + 1)) = cL K f (6 * p + p) := by
          rw [show 6 * (p + 1) = 6 * p + p + (6 - p) by omega]
          exact cL_flat (6 - p) (fun u h1 h2 => lcn_tail h1 (by omega))
        refine ⟨(nI f, nI t, nI (cL K f (6 * p + p)), nI (p + 1), S2), ⟨S2, by rw [ec], hn2, fun u hu' => ?_⟩, fun k5 k => ?_⟩
        · rw [h22 u hu', kdn_flat (a := 6 * p + p) (b := 6 * (p + 1)) (by omega) (fun u h1 h2 => lcn_tail h1 (by omega))]
        · show FB_X3_loosen_15 4096 k5 k (nI f) (nI t) (nI (cL K f (6 * p + p))) (nI p) (nI p) S2 = _
          unfold FB_X3_loosen_15
          rw [if_pos (nI_le (Nat.le_refl p) (by omega)), nI_1]
    obtain ⟨y, ⟨S2, ey, hn2, h22⟩, hk⟩ := key
    subst ey
    refine ⟨_, ⟨S2, rfl, hn2, h22⟩, fun k => ?_⟩
    show FB_X3_loosen_5 4096 k (nI f) (nI t) (nI (cL K f (6 * p))) (nI p) S1 = _
    unfold FB_X3_loosen_5
    rw [if_neg h6, hk]
  · obtain ⟨S1, ex, hn1, h21⟩ := hx
    subst ex
    obtain ⟨S2, ⟨g1, g2⟩, g3⟩ := x3_spread' (K := K) (K' := lK K f t) (S := S) (T := S1) (okK_lK hK ht) hR h (fun r j hr => by unfold lK; rw [if_neg hr]) hn1 (fun u hu => by
      rw [h21 u hu]; unfold lK kdn; rw [if_pos rfl, if_pos (by omega)])
    refine ⟨(nI (cL K f 36), S2), ⟨rfl, g1, g2⟩, fun k => ?_⟩
    show FB_X3_loosen_5 4096 k (nI f) (nI t) (nI (cL K f (6 * 6))) (nI 6) S1 = _
    unfold FB_X3_loosen_5
    rw [if_pos (by decide), g3, bd_s]
/-- the model's -/
theorem x5_usesOf {K : Nat → Nat → Nat} {S : St} {f : Nat} (hK : okK K) (h8 : S 8 3 = nI (rch K 3)) (h7 : ∀ u, u < 36 → S 7 u = ev 9 (K 9 u)) (hf : f < 4) : f_X5_usesOf 4096 (nI f) S = some (nI (cL K f 36)) := by
  have c3 : Int32.toNatClampNeg 3 = 3 := rfl
  unfold f_X5_usesOf
  refine lp_run (F := F_X5_usesOf_4 4096 S) (fun p => (nI f, nI (cL K f (6 * p)), nI p)) 6 4096 (by decide) (fun p hp k => ?_) (fun k => ?_)
  · show FB_X5_usesOf_4 4096 S k (nI f) (nI (cL K f (6 * p))) (nI p) = k (nI f, nI (cL K f (6 * (p + 1))), nI (p + 1))
    have h6 : ¬ (6 : Int32) ≤ nI p := nI_ge (a := p) (b := 6) hp (by decide)
    unfold FB_X5_usesOf_4
    rw [if_neg h6]
    by_cases hb : (rch K 3).testBit p = true
    · have ec : cL K f (6 * (p + 1)) = cL K f (6 * p + p) := by
        rw [show 6 * (p + 1) = 6 * p + p + (6 - p) by omega]
        exact cL_flat (6 - p) (fun u h1 h2 => lcn_tail h1 (by omega))
      rw [ec]
      refine lp_run (F := F_X5_usesOf_13 4096 k S) (fun q => (nI f, nI (cL K f (6 * p + q)), nI p, nI q)) p 4096 (by omega) (fun q hq k13 => ?_) (fun k13 => ?_)
      · show FB_X5_usesOf_13 4096 k S k13 (nI f) (nI (cL K f (6 * p + q))) (nI p) (nI q) = k13 (nI f, nI (cL K f (6 * p + q + 1)), nI p, nI (q + 1))
        have hu : 6 * p + q < 36 := by omega
        unfold FB_X5_usesOf_13
        rw [if_neg (nI_ge hq (by omega)), gd_t (show ix 3 4 by decide), c3, h8, x5_has (rch_lt 3 hK) (show p < 10 by omega), bd_s, it_b, if_pos hb, i6, gd_t (ix_n hu (by decide)), nI_clamp (show 6 * p + q < 2 ^ 31 by omega), h7 _ hu, it_ef (kK hK hu) hf, bd_s, bd_s, add0, nI_1, nI_1, cL_s]
        by_cases e : K 9 (6 * p + q) = f
        · rw [if_pos e, if_pos ((lcn_at hq hp hb).mpr e)]
        · rw [if_neg e, if_neg (fun z => e ((lcn_at hq hp hb).mp z))]
      · show FB_X5_usesOf_13 4096 k S k13 (nI f) (nI (cL K f (6 * p + p))) (nI p) (nI p) = _
        unfold FB_X5_usesOf_13
        rw [if_pos (nI_le (Nat.le_refl p) (by omega)), nI_1]
    · have ec : cL K f (6 * (p + 1)) = cL K f (6 * p) := by
        rw [show 6 * (p + 1) = 6 * p + 6 by omega]
        exact cL_flat 6 (fun u h1 h2 => lcn_nb hb h1 (by omega))
      rw [ec]
      refine lp_run (F := F_X5_usesOf_13 4096 k S) (fun q => (nI f, nI (cL K f (6 * p)), nI p, nI q)) 0 4096 (by decide) (fun q hq k13 => absurd hq (by omega)) (fun k13 => ?_)
      show FB_X5_usesOf_13 4096 k S k13 (nI f) (nI (cL K f (6 * p))) (nI p) (nI 0) = _
      unfold FB_X5_usesOf_13
      rw [gd_t (show ix 3 4 by decide), c3, h8, x5_has (rch_lt 3 hK) (show p < 10 by omega), bd_s, it_b, if_neg hb, ite_self, nI_1]
  · show FB_X5_usesOf_4 4096 S k (nI f) (nI (cL K f (6 * 6))) (nI 6) = _
    unfold FB_X5_usesOf_4
    rw [if_pos (by decide)]
theorem x5_loosen {K : Nat → Nat → Nat} {S : St} {f t : Nat} (hK : okK K) (h8 : S 8 3 = nI (rch K 3)) (h7 : ∀ u, u < 36 → S 7 u = ev 9 (K 9 u)) (hf : f < 4) (ht : t < 4) : ∃ r : St, ((∀ k, k ≠ 7 → r k = S k) ∧ ∀ u, u < 36 → r 7 u = ev 9 (klo K f t u)) ∧ f_X5_loosen 4096 (nI f) (nI t) S = some r := by
  have c3 : Int32.toNatClampNeg 3 = 3 := rfl
  unfold f_X5_loosen
  rw [gd_t (show ix 3 4 by decide), c3, h8, bd_s]
  refine lp_rel (F := F_X5_loosen_10 4096) (fun p x => ∃ S' : St, x = (nI f, nI t, nI (rch K 3), nI p, S') ∧ (∀ k, k ≠ 7 → S' k = S k) ∧ ∀ u, u < 36 → S' 7 u = ev 9 (kdn K f t (6 * p) u)) 6 4096 (by decide) (fun p hp x hx => ?_) (fun x hx => ?_) ⟨S, rfl, fun _ _ => rfl, fun u hu => by rw [kdn_0]; exact h7 u hu⟩
  · obtain ⟨S1, ex, hn1, h21⟩ := hx
    subst ex
    have h6 : ¬ (6 : Int32) ≤ nI p := nI_ge (a := p) (b := 6) hp (by decide)
    have key : ∃ y, (∃ S' : St, y = (nI f, nI t, nI (rch K 3), nI (p + 1), S') ∧ (∀ k, k ≠ 7 → S' k = S k) ∧ ∀ u, u < 36 → S' 7 u = ev 9 (kdn K f t (6 * (p + 1)) u)) ∧ ∀ k5, lpI (F_X5_loosen_20 4096 k5) 4096 (nI f, nI t, nI (rch K 3), nI p, 0, S1) = k5 y := by
      by_cases hb : (rch K 3).testBit p = true
      · refine lp_rel2 (F := F_X5_loosen_20 4096) (fun q x => ∃ S' : St, x = (nI f, nI t, nI (rch K 3), nI p, nI q, S') ∧ (∀ k, k ≠ 7 → S' k = S k) ∧ ∀ u, u < 36 → S' 7 u = ev 9 (kdn K f t (6 * p + q) u)) p 4096 (by omega) (fun q hq x hx => ?_) (fun x hx => ?_) ⟨S1, rfl, hn1, h21⟩
        · obtain ⟨S2, ex, hn2, h22⟩ := hx
          subst ex
          have hu : 6 * p + q < 36 := by omega
          have hpq : ¬ nI p ≤ nI q := nI_ge hq (by omega)
          have eat : S2 7 (6 * p + q) = ev 9 (K 9 (6 * p + q)) := by rw [h22 _ hu, kdn_m]
          have ek : (if K 9 (6 * p + q) = f then nI t else ev 9 (K 9 (6 * p + q))) = ev 9 (klo K f t (6 * p + q)) := by
            unfold klo
            by_cases e : K 9 (6 * p + q) = f
            · rw [if_pos e, if_pos ((lcn_at hq hp hb).mpr e), ev_n (by omega)]
            · rw [if_neg e, if_neg (fun z => e ((lcn_at hq hp hb).mp z))]
          refine ⟨_, ⟨sto S2 7 (6 * p + q) (ev 9 (klo K f t (6 * p + q))), rfl, fun k hk => by rw [sto_n hk]; exact hn2 k hk, fun u hu' => ?_⟩, fun k5 k => ?_⟩
          · show sto S2 7 (6 * p + q) (ev 9 (klo K f t (6 * p + q))) 7 u = ev 9 (kdn K f t (6 * p + q + 1) u)
            rw [sto_s, kdn_s]
            by_cases g : u = 6 * p + q
            · rw [if_pos g, if_pos g]
            · rw [if_neg g, if_neg g]; exact h22 u hu'
          · show FB_X5_loosen_20 4096 k5 k (nI f) (nI t) (nI (rch K 3)) (nI p) (nI q) S2 = _
            rw [← ek]
            unfold FB_X5_loosen_20
            rw [if_neg hpq, x5_has (rch_lt 3 hK) (show p < 10 by omega), bd_s, it_b, if_pos hb]
            simp only [i6, gd_t (ix_n hu (show 36 ≤ 65536 by decide)), nI_clamp (show 6 * p + q < 2 ^ 31 by omega), eat, bd_s, nI_1]
            rw [it_ef (kK hK hu) hf]
            by_cases e : K 9 (6 * p + q) = f
            · rw [if_pos e, if_pos e]
            · rw [if_neg e, if_neg e]
        · obtain ⟨S2, ex, hn2, h22⟩ := hx
          subst ex
          refine ⟨(nI f, nI t, nI (rch K 3), nI (p + 1), S2), ⟨S2, rfl, hn2, fun u hu' => ?_⟩, fun k5 k => ?_⟩
          · rw [h22 u hu', kdn_flat (a := 6 * p + p) (b := 6 * (p + 1)) (by omega) (fun u h1 h2 => lcn_tail h1 (by omega))]
          · show FB_X5_loosen_20 4096 k5 k (nI f) (nI t) (nI (rch K 3)) (nI p) (nI p) S2 = _
            unfold FB_X5_loosen_20
            rw [if_pos (nI_le (Nat.le_refl p) (by omega)), nI_1]
      · refine ⟨(nI f, nI t, nI (rch K 3), nI (p + 1), S1), ⟨S1, rfl, hn1, fun u hu' => ?_⟩, fun k5 => ?_⟩
        · rw [h21 u hu', kdn_flat (a := 6 * p) (b := 6 * (p + 1)) (by omega) (fun u h1 h2 => lcn_nb hb h1 (by omega))]
        · refine lp_run (F := F_X5_loosen_20 4096 k5) (fun q => (nI f, nI t, nI (rch K 3), nI p, nI q, S1)) 0 4096 (by decide) (fun q hq k13 => absurd hq (by omega)) (fun k => ?_)
          show FB_X5_loosen_20 4096 k5 k (nI f) (nI t) (nI (rch K 3)) (nI p) (nI 0) S1 = _
          unfold FB_X5_loosen_20
          rw [x5_has (rch_lt 3 hK) (show p < 10 by omega), bd_s, it_b, if_neg hb, ite_self, nI_1]
    obtain ⟨y, ⟨S2, ey, hn2, h22⟩, hk⟩ := key
    subst ey
    refine ⟨_, ⟨S2, rfl, hn2, h22⟩, fun k => ?_⟩
    show FB_X5_loosen_10 4096 k (nI f) (nI t) (nI (rch K 3)) (nI p) S1 = _
    unfold FB_X5_loosen_10
    rw [if_neg h6, hk]
  · obtain ⟨S1, ex, hn1, h21⟩ := hx
    subst ex
    refine ⟨S1, ⟨hn1, fun u hu => by rw [h21 u hu]; unfold kdn; rw [if_pos (by omega)]⟩, fun k => ?_⟩
    show FB_X5_loosen_10 4096 k (nI f) (nI t) (nI (rch K 3)) (nI 6) S1 = _
    unfold FB_X5_loosen_10
    rw [if_pos (by decide)]
