/-! what is used within a reach; the model's lay -/
def rqS (K : Nat → Nat → Nat) (r p b : Nat) : Nat → Nat
  | 0 => b
  | q + 1 => if (rqS K r p b q).testBit p = true ∧ K 9 (6 * p + q) ≤ r then rqS K r p b q ||| 2 ^ q else rqS K r p b q
def rpS (K : Nat → Nat → Nat) (r w : Nat) : Nat → Nat
  | 0 => 2 ^ w
  | i + 1 => rqS K r (w - i) (rpS K r w i) (w - i)
def rch (K : Nat → Nat → Nat) (r : Nat) : Nat := rpS K r (K 0 9) (K 0 9)
theorem or_lt64 {a b : Nat} (ha : a < 64) (hb : b < 64) : a ||| b < 64 := Nat.or_lt_two_pow (n := 6) ha hb
theorem pw_lt64 {t : Nat} (h : t < 6) : 2 ^ t < 64 := by
  rcases (show t = 0 ∨ t = 1 ∨ t = 2 ∨ t = 3 ∨ t = 4 ∨ t = 5 by omega) with rfl | rfl | rfl | rfl | rfl | rfl <;> decide
theorem rqS_lt {K : Nat → Nat → Nat} {r p b : Nat} (hb : b < 64) : ∀ q, q ≤ 6 → rqS K r p b q < 64
  | 0, _ => hb
  | q + 1, h => by
    have ih := rqS_lt (K := K) (r := r) (p := p) hb q (by omega)
    unfold rqS
    by_cases c : (rqS K r p b q).testBit p = true ∧ K 9 (6 * p + q) ≤ r
    · rw [if_pos c]; exact or_lt64 ih (pw_lt64 (by omega))
    · rw [if_neg c]; exact ih
theorem rpS_lt {K : Nat → Nat → Nat} {r w : Nat} (hw : w < 6) : ∀ i, i ≤ w → rpS K r w i < 64
  | 0, _ => pw_lt64 hw
  | i + 1, h => rqS_lt (rpS_lt hw i (by omega)) _ (by omega)
theorem rch_lt {K : Nat → Nat → Nat} (r : Nat) (hK : okK K) : rch K r < 64 := rpS_lt (kWh hK) _ (Nat.le_refl _)
theorem bit_or_pow {a q p : Nat} (h : q ≠ p) : (a ||| 2 ^ q).testBit p = a.testBit p := by
  rw [Nat.testBit_or, Nat.testBit_two_pow_of_ne h, Bool.or_false]
theorem rqS_bit {K : Nat → Nat → Nat} {r p b : Nat} : ∀ q, q ≤ p → (rqS K r p b q).testBit p = b.testBit p
  | 0, _ => rfl
  | q + 1, h => by
    have ih := rqS_bit (K := K) (r := r) (p := p) (b := b) q (by omega)
    unfold rqS
    by_cases c : (rqS K r p b q).testBit p = true ∧ K 9 (6 * p + q) ≤ r
    · rw [if_pos c, bit_or_pow (by omega)]; exact ih
    · rw [if_neg c]; exact ih
theorem rqS_no {K : Nat → Nat → Nat} {r p b : Nat} (h : b.testBit p = false) : ∀ q, q ≤ p → rqS K r p b q = b
  | 0, _ => rfl
  | q + 1, hq => by
    have ih := rqS_no (K := K) (r := r) h q (by omega)
    unfold rqS
    rw [ih, if_neg (fun c => by rw [h] at c; exact absurd c.1 (by decide))]
/-- a kind within a reach -/
theorem ev9_in {n r : Nat} (hn : n < 4 ∨ n = 9) (hr : r < 4) : (¬ (ev 9 n < 0 ∨ nI r < ev 9 n)) = (n ≤ r) := by
  rcases hn with h | h
  · rw [ev_n (by omega)]
    refine propext ⟨fun q => ?_, fun q => rng_t (by omega) q rfl⟩
    rcases Nat.lt_or_ge r n with z | z
    · exact absurd (Or.inr (nI_lt z (by omega))) q
    · exact z
  · subst h
    exact propext ⟨fun q => absurd (Or.inl (by decide)) q, fun q => absurd q (by omega)⟩
theorem x5_in9 {n r : Nat} (hn : n < 4 ∨ n = 9) (hr : r < 4) : f_X5_in (ev 9 n) 0 (nI r) = some (if n ≤ r then 1 else 0) := by
  rw [x5_in]
  have e := ev9_in hn hr
  by_cases c : n ≤ r
  · rw [if_pos c, if_neg (e.mpr c)]
  · rw [if_neg c, if_pos (Classical.not_not.mp (fun q => c (e.mp q)))]
theorem x4_in9 {n r : Nat} (hn : n < 4 ∨ n = 9) (hr : r < 4) : f_X4_within (ev 9 n) 0 (nI r) = some (if n ≤ r then 1 else 0) := x5_in9 hn hr
/-- what lay lays: rows within and may, and mute -/
def lay1 (K : Nat → Nat → Nat) (S : St) (i : Nat) : St := fun k j => if k = 8 ∧ j < i then nI (rch K j) else S k j
def lay2 (K : Nat → Nat → Nat) (S : St) (i : Nat) : St := fun k j => if k = 8 ∧ j < 4 then nI (rch K j) else if k = 9 ∧ j < i then nI (cho K j) else S k j
def layF (K : Nat → Nat → Nat) (S : St) : St := fun k j => if k = 8 ∧ j < 4 then nI (rch K j) else if k = 9 ∧ j < 6 then nI (cho K j) else if k = 0 ∧ j = 15 then 0 else S k j
theorem lay1_k {K : Nat → Nat → Nat} {S : St} {i k j : Nat} (h : k ≠ 8) : lay1 K S i k j = S k j := by unfold lay1; rw [if_neg (fun q => h q.1)]
theorem lay2_k {K : Nat → Nat → Nat} {S : St} {i k j : Nat} (h : k ≠ 8) (h9 : k ≠ 9) : lay2 K S i k j = S k j := by unfold lay2; rw [if_neg (fun q => h q.1), if_neg (fun q => h9 q.1)]
theorem lay1_0 (K : Nat → Nat → Nat) (S : St) : lay1 K S 0 = S := by funext k j; unfold lay1; rw [if_neg (by omega)]
theorem lay12 (K : Nat → Nat → Nat) (S : St) : lay1 K S 4 = lay2 K S 0 := by
  funext k j
  unfold lay1 lay2
  by_cases c : k = 8 ∧ j < 4
  · rw [if_pos c, if_pos c]
  · rw [if_neg c, if_neg c, if_neg (by omega)]
theorem lay1_s {K : Nat → Nat → Nat} {S : St} {i : Nat} : sto (lay1 K S i) 8 i (nI (rch K i)) = lay1 K S (i + 1) := by
  funext k j
  rw [sto_at]
  unfold lay1
  by_cases e : k = 8 ∧ j = i
  · rw [if_pos e, if_pos (by omega), e.2]
  · rw [if_neg e]
    by_cases c : k = 8 ∧ j < i
    · rw [if_pos c, if_pos (by omega)]
    · rw [if_neg c, if_neg (by omega)]
theorem lay2_s {K : Nat → Nat → Nat} {S : St} {i : Nat} : sto (lay2 K S i) 9 i (nI (cho K i)) = lay2 K S (i + 1) := by
  funext k j
  rw [sto_at]
  unfold lay2
  by_cases e : k = 9 ∧ j = i
  · rw [if_pos e, if_neg (by omega), if_pos (by omega), e.2]
  · rw [if_neg e]
    by_cases c8 : k = 8 ∧ j < 4
    · rw [if_pos c8, if_pos c8]
    · rw [if_neg c8, if_neg c8]
      by_cases c : k = 9 ∧ j < i
      · rw [if_pos c, if_pos (by omega)]
      · rw [if_neg c, if_neg (show ¬ (k = 9 ∧ j < i + 1) by omega)]
theorem lay2_e {K : Nat → Nat → Nat} {S : St} : sto (lay2 K S 6) 0 15 0 = layF K S := by
  funext k j
  rw [sto_at]
  unfold lay2 layF
  by_cases e : k = 0 ∧ j = 15
  · rw [if_pos e, if_neg (by omega), if_neg (by omega), if_pos e]
  · rw [if_neg e]
    by_cases c8 : k = 8 ∧ j < 4
    · rw [if_pos c8, if_pos c8]
    · rw [if_neg c8, if_neg c8]
      by_cases c : k = 9 ∧ j < 6
      · rw [if_pos c, if_pos c]
      · rw [if_neg c, if_neg c, if_neg e]
theorem layF_k {K : Nat → Nat → Nat} {S : St} {k j : Nat} (h : k ≠ 8) (h9 : k ≠ 9) (h0 : ¬ (k = 0 ∧ j = 15)) : layF K S k j = S k j := by unfold layF; rw [if_neg (fun q => h q.1), if_neg (fun q => h9 q.1), if_neg h0]
theorem layF_co (K : Nat → Nat → Nat) (S : St) : coM S (layF K S) := by
  refine ⟨layF_k (by decide) (by decide) (by decide), layF_k (by decide) (by decide) (by decide), layF_k (by decide) (by decide) (by decide), fun k h1 h2 => ?_, fun j hj => layF_k (by decide) (by decide) (by omega), ?_, ?_⟩
  · funext j; exact layF_k (by omega) (by omega) (by omega)
  · funext j; exact layF_k (by omega) (by omega) (by omega)
  · funext j; exact layF_k (by omega) (by omega) (by omega)
theorem m1 {p : Nat} (h : 0 < p) : nI p + (-1) = nI (p - 1) := sb_m1 h
theorem x5_lay {K : Nat → Nat → Nat} {S : St} (hK : okK K) (h3 : rep K (vM S)) : f_X5_lay 4096 S = some (layF K S) := by
  have hw := kWh hK
  unfold f_X5_lay
  have st := lp_run (F := F_X5_lay_2 4096) (res := some (layF K S)) (fun r => (nI r, lay1 K S r)) 4 4096 (by decide) (fun r hr k2 => ?_) (fun k2 => ?_)
  · rw [lay1_0] at st; exact st
  · show FB_X5_lay_2 4096 k2 (nI r) (lay1 K S r) = k2 (nI (r + 1), lay1 K S (r + 1))
    have h4 : ¬ (4 : Int32) ≤ nI r := nI_ge (a := r) (b := 4) hr (by decide)
    have e8 : lay1 K S r 0 8 = nI (K 0 9) := by rw [lay1_k (by decide)]; exact mWh h3
    simp only [FB_X5_lay_2, h4, e8, pa_shl (K 0 9) (by omega), bd_s, ↓reduceIte]
    refine lp_run (F := F_X5_lay_19 4096 k2) (fun i => (nI r, nI (rpS K r (K 0 9) i), nI (K 0 9 - i), lay1 K S r)) (K 0 9) 4096 (by omega) (fun i hi k19 => ?_) (fun k19 => ?_)
    · show FB_X5_lay_19 4096 k2 k19 (nI r) (nI (rpS K r (K 0 9) i)) (nI (K 0 9 - i)) (lay1 K S r) = k19 (nI r, nI (rqS K r (K 0 9 - i) (rpS K r (K 0 9) i) (K 0 9 - i)), nI (K 0 9 - (i + 1)), lay1 K S r)
      have hb := rpS_lt (K := K) (r := r) hw i (by omega)
      generalize rpS K r (K 0 9) i = b at hb ⊢
      obtain ⟨p, hp⟩ : ∃ p, p = K 0 9 - i := ⟨_, rfl⟩
      have hp1 : 0 < p := by omega
      have hp6 : p < 6 := by omega
      rw [show K 0 9 - (i + 1) = p - 1 by omega, ← hp]
      have h0 : ¬ nI p ≤ 0 := nI_nle hp1 (by omega)
      simp only [FB_X5_lay_19, h0, ↓reduceIte]
      by_cases tb : b.testBit p = true
      · refine lp_run (F := F_X5_lay_26 4096 k2 k19) (fun q => (nI r, nI (rqS K r p b q), nI p, nI q, lay1 K S r)) p 4096 (by omega) (fun q hq k26 => ?_) (fun k26 => ?_)
        · show FB_X5_lay_26 4096 k2 k19 k26 (nI r) (nI (rqS K r p b q)) (nI p) (nI q) (lay1 K S r) = k26 (nI r, nI (rqS K r p b (q + 1)), nI p, nI (q + 1), lay1 K S r)
          have hpq : ¬ nI p ≤ nI q := nI_ge hq (by omega)
          have hcl := rqS_lt (K := K) (r := r) (p := p) hb q (by omega)
          have hcb : (rqS K r p b q).testBit p = true := by rw [rqS_bit q (by omega)]; exact tb
          have hu : 6 * p + q < 36 := by omega
          have eu : lay1 K S r 7 (6 * p + q) = ev 9 (K 9 (6 * p + q)) := by rw [lay1_k (by decide)]; exact mK h3 hu
          rw [show rqS K r p b (q + 1) = if (rqS K r p b q).testBit p = true ∧ K 9 (6 * p + q) ≤ r then rqS K r p b q ||| 2 ^ q else rqS K r p b q from rfl]
          simp only [FB_X5_lay_26, hpq, x5_has (show rqS K r p b q < 64 from hcl) (show p < 10 by omega), hcb, bd_s, z01, i6, gd_t (ix_n hu (by decide)), nI_clamp (show 6 * p + q < 2 ^ 31 by omega), eu, x5_in9 (kK hK hu) hr, or0, pa_shl q (by omega), pa_or, nI_1, true_and, ↓reduceIte]
          by_cases c : K 9 (6 * p + q) ≤ r
          · rw [if_pos c, if_neg z01, if_pos c]
          · rw [if_neg c, if_pos rfl, if_neg c]
        · show FB_X5_lay_26 4096 k2 k19 k26 (nI r) (nI (rqS K r p b p)) (nI p) (nI p) (lay1 K S r) = k19 (nI r, nI (rqS K r p b p), nI (p - 1), lay1 K S r)
          have hpp : nI p ≤ nI p := nI_le (Nat.le_refl p) (by omega)
          simp only [FB_X5_lay_26, hpp, m1 hp1, ↓reduceIte]
      · have tf : b.testBit p = false := by cases h : b.testBit p; (· rfl); exact absurd h tb
        rw [rqS_no tf p (Nat.le_refl p)]
        show FB_X5_lay_26 4096 k2 k19 _ (nI r) (nI b) (nI p) 0 (lay1 K S r) = _
        have hpq : ¬ nI p ≤ 0 := h0
        simp only [FB_X5_lay_26, hpq, x5_has (show b < 64 from hb) (show p < 10 by omega), tf, bd_s, m1 hp1, ↓reduceIte, Bool.false_eq_true]
    · show FB_X5_lay_19 4096 k2 k19 (nI r) (nI (rpS K r (K 0 9) (K 0 9))) (nI (K 0 9 - K 0 9)) (lay1 K S r) = k2 (nI (r + 1), lay1 K S (r + 1))
      have h0 : nI (K 0 9 - K 0 9) ≤ 0 := by rw [Nat.sub_self]; decide
      simp only [FB_X5_lay_19, h0, gd_t (ix_n (show r < 4 from hr) (by decide)), nI_clamp (show r < 2 ^ 31 by omega), bd_s, nI_1, ↓reduceIte]
      rw [show rpS K r (K 0 9) (K 0 9) = rch K r from rfl, lay1_s]
  · show FB_X5_lay_2 4096 k2 (nI 4) (lay1 K S 4) = _
    have h4 : (4 : Int32) ≤ nI 4 := by decide
    simp only [FB_X5_lay_2, h4, ↓reduceIte]
    rw [lay12]
    refine lp_run (F := F_X5_lay_98 4096) (fun i => (nI i, lay2 K S i)) 6 4096 (by decide) (fun i hi k => ?_) (fun k => ?_)
    · show FB_X5_lay_98 4096 k (nI i) (lay2 K S i) = k (nI (i + 1), lay2 K S (i + 1))
      have h6 : ¬ (6 : Int32) ≤ nI i := nI_ge (a := i) (b := 6) hi (by decide)
      have h3' : rep K (vM (lay2 K S i)) := rep_same h3 (fun r j hj => by
        unfold vM
        simp only [lay2_k (show (0 : Nat) ≠ 8 by decide) (show (0 : Nat) ≠ 9 by decide), lay2_k (show (6 : Nat) ≠ 8 by decide) (show (6 : Nat) ≠ 9 by decide), lay2_k (show (7 : Nat) ≠ 8 by decide) (show (7 : Nat) ≠ 9 by decide)]
        by_cases e0 : r = 0
        · rw [if_pos e0, if_pos e0]
        · rw [if_neg e0, if_neg e0]
          by_cases e4 : r ≤ 4
          · rw [if_pos e4, if_pos e4, lay2_k (by omega) (by omega)]
          · rw [if_neg e4, if_neg e4])
      simp only [FB_X5_lay_98, h6, x5_choicesOf hK h3' hi, gd_t (ix_n hi (show 6 ≤ 65536 by decide)), nI_clamp (show i < 2 ^ 31 by omega), bd_s, nI_1, lay2_s, ↓reduceIte]
    · show FB_X5_lay_98 4096 k (nI 6) (lay2 K S 6) = _
      have h6 : (6 : Int32) ≤ nI 6 := by decide
      simp only [FB_X5_lay_98, h6, bd_s, lay2_e, ↓reduceIte]
