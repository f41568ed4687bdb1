/-! the class's web: spread, spin -/
theorem x3_reachedBy {K : Nat → Nat → Nat} {S : St} {r : Nat} (hK : okK K) (hwh : S 2 9 = nI (K 0 9)) (hkd : ∀ u, u < 36 → S 21 u = ev 9 (K 9 u)) (hr : r < 4) : f_X3_reachedBy 4096 (nI r) S = some (nI (rch K r)) := by
  have hw := kWh hK
  simp only [f_X3_reachedBy, hwh, pa_shl (K 0 9) (by omega), bd_s]
  refine lp_run (F := F_X3_reachedBy_18 4096 S) (fun i => (nI r, nI (rpS K r (K 0 9) i), nI (K 0 9 - i))) (K 0 9) 4096 (by omega) (fun i hi k18 => ?_) (fun k18 => ?_)
  · show FB_X3_reachedBy_18 4096 S k18 (nI r) (nI (rpS K r (K 0 9) i)) (nI (K 0 9 - i)) = k18 (nI r, nI (rqS K r (K 0 9 - i) (rpS K r (K 0 9) i) (K 0 9 - i)), nI (K 0 9 - (i + 1)))
    have hb := rpS_lt (K := K) (r := r) hw i (by omega)
    generalize rpS K r (K 0 9) i = b at hb ⊢
    obtain ⟨p, hp⟩ : ∃ p, p = K 0 9 - i := ⟨_, rfl⟩
    have hp1 : 0 < p := by omega
    have hp6 : p < 6 := by omega
    rw [show K 0 9 - (i + 1) = p - 1 by omega, ← hp]
    have h0 : ¬ nI p ≤ 0 := nI_nle hp1 (by omega)
    simp only [FB_X3_reachedBy_18, h0, ↓reduceIte]
    refine lp_run (F := F_X3_reachedBy_25 4096 k18 S) (fun q => (nI r, nI (rqS K r p b q), nI p, nI q)) p 4096 (by omega) (fun q hq k25 => ?_) (fun k25 => ?_)
    · show FB_X3_reachedBy_25 4096 k18 S k25 (nI r) (nI (rqS K r p b q)) (nI p) (nI q) = k25 (nI r, nI (rqS K r p b (q + 1)), nI p, nI (q + 1))
      have hpq : ¬ nI p ≤ nI q := nI_ge hq (by omega)
      have hcl := rqS_lt (K := K) (r := r) (p := p) hb q (by omega)
      have hu : 6 * p + q < 36 := by omega
      rw [show rqS K r p b (q + 1) = if (rqS K r p b q).testBit p = true ∧ K 9 (6 * p + q) ≤ r then rqS K r p b q ||| 2 ^ q else rqS K r p b q from rfl]
      simp only [FB_X3_reachedBy_25, hpq, x4_has (show rqS K r p b q < 64 from hcl) (show p < 10 by omega), bd_s, f_X4_use, i6', gd_t (ix_n hu (by decide)), nI_clamp (show 6 * p + q < 2 ^ 31 by omega), hkd _ hu, x4_in9 (kK hK hu) hr, pa_shl q (by omega), pa_or, nI_1, ↓reduceIte]
      by_cases tb : (rqS K r p b q).testBit p = true
      · rw [if_pos tb, if_neg z01]
        by_cases c : K 9 (6 * p + q) ≤ r
        · rw [if_pos c, if_neg z01, if_pos ⟨tb, c⟩]
        · rw [if_neg c, if_pos rfl, if_neg (fun z => c z.2)]
      · rw [if_neg tb, if_pos rfl, if_neg (fun z => tb z.1)]
    · show FB_X3_reachedBy_25 4096 k18 S k25 (nI r) (nI (rqS K r p b p)) (nI p) (nI p) = k18 (nI r, nI (rqS K r p b p), nI (p - 1))
      have hpp : nI p ≤ nI p := nI_le (Nat.le_refl p) (by omega)
      simp only [FB_X3_reachedBy_25, hpp, m1 hp1, ↓reduceIte]
  · show FB_X3_reachedBy_18 4096 S k18 (nI r) (nI (rpS K r (K 0 9) (K 0 9))) (nI (K 0 9 - K 0 9)) = _
    have h0 : nI (K 0 9 - K 0 9) ≤ 0 := by rw [Nat.sub_self]; decide
    simp only [FB_X3_reachedBy_18, h0, ↓reduceIte]
    rfl
/-- the pieces of the whole but itself; what reaches; where it lets go, what it asks -/
def prt (K : Nat → Nat → Nat) : Nat := ndf (rch K 3) (2 ^ K 0 9)
def rea (K : Nat → Nat → Nat) (p t : Nat) : Bool := (prt K &&& rch K (K 2 t)).testBit p
def gq (K : Nat → Nat → Nat) (p t : Nat) : Nat := if rea K p t = true then K 3 t else 31
def aq (K : Nat → Nat → Nat) (p t : Nat) : Nat := if rea K p t = true then K 1 t else 0
theorem prt_lt {K : Nat → Nat → Nat} (hK : okK K) : prt K < 64 := Nat.lt_of_le_of_lt (ndf_le _ _) (rch_lt 3 hK)
theorem gq_lt {K : Nat → Nat → Nat} {p t : Nat} (hK : okK K) (ht : t < 5) : gq K p t < 32 := by
  unfold gq; split
  · exact kG hK ht
  · decide
theorem aq_lt {K : Nat → Nat → Nat} {p t : Nat} (hK : okK K) (ht : t < 5) : aq K p t < 32 := by
  unfold aq; split
  · exact kA hK ht
  · decide
def webOK (K : Nat → Nat → Nat) (S : St) : Prop := S 2 9 = nI (K 0 9) ∧ S 3 4 = nI (rch K 3) ∧ S 3 5 = nI (prt K) ∧ (∀ p, p < 6 → S 18 p = nI (cho K p)) ∧ (∀ r, r < 4 → S 24 r = nI (rch K r)) ∧ (∀ p t, p < 6 → t < 5 → S 22 (5 * p + t) = nI (gq K p t)) ∧ (∀ p t, p < 6 → t < 5 → S 23 (5 * p + t) = nI (aq K p t)) ∧ (∀ t, t < 5 → S 9 t = nI (K 1 t)) ∧ (∀ t, t < 5 → S 10 t = nI (K 2 t)) ∧ (∀ u, u < 36 → S 21 u = ev 9 (K 9 u))
def sp1 (K : Nat → Nat → Nat) (S : St) (i : Nat) : St := fun k j => if k = 24 ∧ j < i then nI (rch K j) else S k j
def sp2 (K : Nat → Nat → Nat) (S : St) (m : Nat) : St := fun k j => if k = 24 ∧ j < 4 then nI (rch K j) else if k = 3 ∧ j = 4 then nI (rch K 3) else if k = 3 ∧ j = 5 then nI (prt K) else if k = 22 ∧ j < m then nI (gq K (j / 5) (j % 5)) else if k = 23 ∧ j < m then nI (aq K (j / 5) (j % 5)) else S k j
theorem sp1_k {K : Nat → Nat → Nat} {S : St} {i k j : Nat} (h : k ≠ 24) : sp1 K S i k j = S k j := by unfold sp1; rw [if_neg (fun q => h q.1)]
theorem sp2_k {K : Nat → Nat → Nat} {S : St} {i k j : Nat} (h : k ≠ 24) (h3 : ¬ (k = 3 ∧ (j = 4 ∨ j = 5))) (h2 : k ≠ 22) (h23 : k ≠ 23) : sp2 K S i k j = S k j := by
  unfold sp2; rw [if_neg (fun q => h q.1), if_neg (by omega), if_neg (by omega), if_neg (fun q => h2 q.1), if_neg (fun q => h23 q.1)]
theorem sp1_0 (K : Nat → Nat → Nat) (S : St) : sp1 K S 0 = S := by funext k j; unfold sp1; rw [if_neg (by omega)]
theorem sp1_s {K : Nat → Nat → Nat} {S : St} {i : Nat} : sto (sp1 K S i) 24 i (nI (rch K i)) = sp1 K S (i + 1) := by
  funext k j
  rw [sto_at]
  unfold sp1
  by_cases e : k = 24 ∧ j = i
  · rw [if_pos e, if_pos (by omega), e.2]
  · rw [if_neg e]
    by_cases c : k = 24 ∧ j < i
    · rw [if_pos c, if_pos (by omega)]
    · rw [if_neg c, if_neg (by omega)]
theorem sp12 {K : Nat → Nat → Nat} {S : St} : sto (sto (sp1 K S 4) 3 4 (nI (rch K 3))) 3 5 (nI (prt K)) = sp2 K S 0 := by
  funext k j
  simp only [sto_at]
  unfold sp1 sp2
  by_cases e5 : k = 3 ∧ j = 5
  · rw [if_pos e5, if_neg (by omega), if_neg (by omega), if_pos e5]
  · rw [if_neg e5]
    by_cases e4 : k = 3 ∧ j = 4
    · rw [if_pos e4, if_neg (by omega), if_pos e4]
    · rw [if_neg e4]
      by_cases c : k = 24 ∧ j < 4
      · rw [if_pos c, if_pos c]
      · rw [if_neg c, if_neg c, if_neg e4, if_neg e5, if_neg (by omega), if_neg (by omega)]
theorem sp2_s {K : Nat → Nat → Nat} {S : St} {p t : Nat} (ht : t < 5) : sto (sto (sp2 K S (5 * p + t)) 22 (5 * p + t) (nI (gq K p t))) 23 (5 * p + t) (nI (aq K p t)) = sp2 K S (5 * p + t + 1) := by
  have d : (5 * p + t) / 5 = p := by omega
  have m : (5 * p + t) % 5 = t := by omega
  funext k j
  simp only [sto_at]
  unfold sp2
  by_cases e23 : k = 23 ∧ j = 5 * p + t
  · rw [if_pos e23, if_neg (by omega), if_neg (by omega), if_neg (by omega), if_neg (by omega), if_pos (by omega), e23.2, d, m]
  · rw [if_neg e23]
    by_cases e22 : k = 22 ∧ j = 5 * p + t
    · rw [if_pos e22, if_neg (by omega), if_neg (by omega), if_neg (by omega), if_pos (by omega), e22.2, d, m]
    · rw [if_neg e22]
      by_cases c : k = 24 ∧ j < 4
      · rw [if_pos c, if_pos c]
      · rw [if_neg c, if_neg c]
        by_cases c4 : k = 3 ∧ j = 4
        · rw [if_pos c4, if_pos c4]
        · rw [if_neg c4, if_neg c4]
          by_cases c5 : k = 3 ∧ j = 5
          · rw [if_pos c5, if_pos c5]
          · rw [if_neg c5, if_neg c5]
            by_cases g : k = 22 ∧ j < 5 * p + t
            · rw [if_pos g, if_pos (by omega)]
            · rw [if_neg g, if_neg (show ¬ (k = 22 ∧ j < 5 * p + t + 1) by omega)]
              by_cases g3 : k = 23 ∧ j < 5 * p + t
              · rw [if_pos g3, if_pos (by omega)]
              · rw [if_neg g3, if_neg (show ¬ (k = 23 ∧ j < 5 * p + t + 1) by omega)]
theorem i5' (p w : Nat) : nI p * (5 : Int32) + nI w = nI (5 * p + w) := by rw [show (5 : Int32) = nI 5 from rfl, pk_mul, nI_add, Nat.mul_comm]
theorem x3_reaches {K : Nat → Nat → Nat} {S : St} {p t : Nat} (hK : okK K) (h5 : S 3 5 = nI (prt K)) (h24 : ∀ r, r < 4 → S 24 r = nI (rch K r)) (h10 : ∀ t, t < 5 → S 10 t = nI (K 2 t)) (hp : p < 6) (ht : t < 5) : f_X3_reaches (nI p) (nI t) S = some (if rea K p t = true then 1 else 0) := by
  have hr := kR hK ht
  have hlt : prt K &&& rch K (K 2 t) < 64 := Nat.lt_of_le_of_lt Nat.and_le_left (prt_lt hK)
  simp only [f_X3_reaches, gd_t (ix_n ht (show 5 ≤ 65536 by decide)), nI_clamp (show t < 2 ^ 31 by omega), h10 t ht, gd_t (ix_n hr (show 4 ≤ 65536 by decide)), nI_clamp (show K 2 t < 2 ^ 31 by omega), h5, h24 _ hr, pa_and, x4_has hlt (show p < 10 by omega), bd_s]
  unfold rea
  cases (prt K &&& rch K (K 2 t)).testBit p <;> rfl
theorem x3_spread {K : Nat → Nat → Nat} {S : St} (hK : okK K) (hwh : S 2 9 = nI (K 0 9)) (hkd : ∀ u, u < 36 → S 21 u = ev 9 (K 9 u)) (h9 : ∀ t, t < 5 → S 9 t = nI (K 1 t)) (h10 : ∀ t, t < 5 → S 10 t = nI (K 2 t)) (h11 : ∀ t, t < 5 → S 11 t = nI (K 3 t)) : f_X3_spread 4096 S = some (sp2 K S 30) := by
  have hw := kWh hK
  unfold f_X3_spread
  have st := lp_run (F := F_X3_spread_2 4096) (res := some (sp2 K S 30)) (fun r => (nI r, sp1 K S r)) 4 4096 (by decide) (fun r hr k => ?_) (fun k => ?_)
  · rw [sp1_0] at st; exact st
  · show FB_X3_spread_2 4096 k (nI r) (sp1 K S r) = k (nI (r + 1), sp1 K S (r + 1))
    have h3 : ¬ (3 : Int32) < nI r := nI_nlt (a := 3) (b := r) (by omega) (by decide)
    have rb := x3_reachedBy (S := sp1 K S r) hK (by rw [sp1_k (by decide)]; exact hwh) (fun u hu => by rw [sp1_k (by decide)]; exact hkd u hu) hr
    simp only [FB_X3_spread_2, h3, rb, gd_t (ix_n hr (show 4 ≤ 65536 by decide)), nI_clamp (show r < 2 ^ 31 by omega), bd_s, nI_1, sp1_s, ↓reduceIte]
  · show FB_X3_spread_2 4096 k (nI 4) (sp1 K S 4) = _
    have h3 : (3 : Int32) < nI 4 := by decide
    have c3 : Int32.toNatClampNeg 3 = 3 := rfl
    have e24 : sp1 K S 4 24 3 = nI (rch K 3) := by unfold sp1; rw [if_pos (by decide)]
    have e34 : sto (sp1 K S 4) 3 4 (nI (rch K 3)) 3 4 = nI (rch K 3) := by rw [sto_s, if_pos rfl]
    have e29 : sto (sp1 K S 4) 3 4 (nI (rch K 3)) 2 9 = nI (K 0 9) := by rw [sto_n (by decide), sp1_k (by decide)]; exact hwh
    simp only [FB_X3_spread_2, h3, gd_t (show ix 3 4 by decide), c3, e24, bd_s, e34, e29, pa_shl (K 0 9) (by omega), pa_ndf _ (rch_lt 3 hK) _ (pw_lt64 hw), ↓reduceIte]
    rw [show ndf (rch K 3) (2 ^ K 0 9) = prt K from rfl, sp12]
    refine lp_run (F := F_X3_spread_56 4096) (fun p => (nI p, sp2 K S (5 * p))) 6 4096 (by decide) (fun p hp k56 => ?_) (fun k56 => ?_)
    · show FB_X3_spread_56 4096 k56 (nI p) (sp2 K S (5 * p)) = k56 (nI (p + 1), sp2 K S (5 * (p + 1)))
      have h6 : ¬ (6 : Int32) ≤ nI p := nI_ge (a := p) (b := 6) hp (by decide)
      simp only [FB_X3_spread_56, h6, ↓reduceIte]
      refine lp_run (F := F_X3_spread_64 4096 k56) (fun t => (nI p, nI t, sp2 K S (5 * p + t))) 5 4096 (by decide) (fun t ht k64 => ?_) (fun k64 => ?_)
      · show FB_X3_spread_64 4096 k56 k64 (nI p) (nI t) (sp2 K S (5 * p + t)) = k64 (nI p, nI (t + 1), sp2 K S (5 * p + (t + 1)))
        have h5 : ¬ (5 : Int32) ≤ nI t := nI_ge (a := t) (b := 5) ht (by decide)
        have hm : 5 * p + t < 30 := by omega
        have rc := x3_reaches (S := sp2 K S (5 * p + t)) hK (by unfold sp2; rw [if_neg (by decide), if_neg (by decide), if_pos (by decide)]) (fun r hr => by unfold sp2; rw [if_pos ⟨rfl, hr⟩]) (fun t ht => by rw [sp2_k (by decide) (by omega) (by decide) (by decide)]; exact h10 t ht) hp ht
        have e11 : sp2 K S (5 * p + t) 11 t = nI (K 3 t) := by rw [sp2_k (by decide) (by omega) (by decide) (by decide)]; exact h11 t ht
        have e9 : ∀ v, sto (sp2 K S (5 * p + t)) 22 (5 * p + t) v 9 t = nI (K 1 t) := fun v => by rw [sto_n (by decide), sp2_k (by decide) (by omega) (by decide) (by decide)]; exact h9 t ht
        have ss := sp2_s (K := K) (S := S) (p := p) ht
        unfold gq aq at ss
        simp only [FB_X3_spread_64, B_X3_spread_103, h5, rc, bd_s, f_X3_offer, i5', gd_t (ix_n ht (show 5 ≤ 65536 by decide)), gd_t (ix_n hm (show 30 ≤ 65536 by decide)), nI_clamp (show t < 2 ^ 31 by omega), nI_clamp (show 5 * p + t < 2 ^ 31 by omega), e11, e9, nI_1, ↓reduceIte]
        by_cases c : rea K p t = true
        · rw [if_pos c] at ss
          rw [if_pos c] at ss
          rw [if_pos c, if_neg z01, if_neg z01, ss]; rfl
        · rw [if_neg c] at ss
          rw [if_neg c] at ss
          rw [if_neg c, if_pos rfl, if_pos rfl]
          rw [show sto (sto (sp2 K S (5 * p + t)) 22 (5 * p + t) 31) 23 (5 * p + t) 0 = sp2 K S (5 * p + t + 1) from ss]; rfl
      · show FB_X3_spread_64 4096 k56 k64 (nI p) (nI 5) (sp2 K S (5 * p + 5)) = k56 (nI (p + 1), sp2 K S (5 * (p + 1)))
        have h5 : (5 : Int32) ≤ nI 5 := by decide
        simp only [FB_X3_spread_64, h5, nI_1, ↓reduceIte]
        rfl
    · show FB_X3_spread_56 4096 k56 (nI 6) (sp2 K S (5 * 6)) = _
      have h6 : (6 : Int32) ≤ nI 6 := by decide
      simp only [FB_X3_spread_56, h6, ↓reduceIte]
theorem sp2_web {K : Nat → Nat → Nat} {S : St} (hwh : S 2 9 = nI (K 0 9)) (hkd : ∀ u, u < 36 → S 21 u = ev 9 (K 9 u)) (h9 : ∀ t, t < 5 → S 9 t = nI (K 1 t)) (h10 : ∀ t, t < 5 → S 10 t = nI (K 2 t)) (h18 : ∀ p, p < 6 → S 18 p = nI (cho K p)) : webOK K (sp2 K S 30) := by
  refine ⟨by rw [sp2_k (by decide) (by omega) (by decide) (by decide)]; exact hwh, ?_, ?_, fun p hp => ?_, fun r hr => ?_, fun p t hp ht => ?_, fun p t hp ht => ?_, fun t ht => ?_, fun t ht => ?_, fun u hu => ?_⟩
  · unfold sp2; rw [if_neg (by decide), if_pos (by decide)]
  · unfold sp2; rw [if_neg (by decide), if_neg (by decide), if_pos (by decide)]
  · rw [sp2_k (by decide) (by omega) (by decide) (by decide)]; exact h18 p hp
  · unfold sp2; rw [if_pos ⟨rfl, hr⟩]
  · unfold sp2; rw [if_neg (by omega), if_neg (by omega), if_neg (by omega), if_pos ⟨rfl, by omega⟩, show (5 * p + t) / 5 = p by omega, show (5 * p + t) % 5 = t by omega]
  · unfold sp2; rw [if_neg (by omega), if_neg (by omega), if_neg (by omega), if_neg (by omega), if_pos ⟨rfl, by omega⟩, show (5 * p + t) / 5 = p by omega, show (5 * p + t) % 5 = t by omega]
  · rw [sp2_k (by decide) (by omega) (by decide) (by decide)]; exact h9 t ht
  · rw [sp2_k (by decide) (by omega) (by decide) (by decide)]; exact h10 t ht
  · rw [sp2_k (by decide) (by omega) (by decide) (by decide)]; exact hkd u hu
theorem sp2_co (K : Nat → Nat → Nat) (S : St) (m : Nat) : coU S (sp2 K S m) := by
  refine ⟨?_, ?_, fun k h1 h2 => ?_, fun k h1 h2 => ?_, sp2_k (by decide) (by omega) (by decide) (by decide)⟩ <;> (funext j; exact sp2_k (by omega) (by omega) (by omega) (by omega))
