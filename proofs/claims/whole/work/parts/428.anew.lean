/-! anew -/
def cst (K : Nat → Nat → Nat) (s : Nat) : Nat → Nat
  | 0 => 0
  | p + 1 => if s.testBit p = true then cst K s p + K 8 p else cst K s p
theorem cst_lt {K : Nat → Nat → Nat} {s : Nat} (hK : okK K) : ∀ p, p ≤ 6 → cst K s p ≤ 1000 * p
  | 0, _ => by show 0 ≤ _; omega
  | p + 1, h => by
    have ih := cst_lt (s := s) hK p (by omega)
    have := kN hK (show p < 6 by omega)
    unfold cst
    split <;> omega
theorem cst_mono {K : Nat → Nat → Nat} {a b : Nat} (h : ∀ p, p < 6 → a.testBit p = true → b.testBit p = true) : ∀ p, p ≤ 6 → cst K a p ≤ cst K b p
  | 0, _ => Nat.le_refl _
  | p + 1, hp => by
    have ih := cst_mono (K := K) h p (by omega)
    unfold cst
    by_cases e : a.testBit p = true
    · rw [if_pos e, if_pos (h p (by omega) e)]; omega
    · rw [if_neg e]; split <;> omega
theorem cst_s {K : Nat → Nat → Nat} {s p : Nat} : cst K s (p + 1) = if s.testBit p = true then cst K s p + K 8 p else cst K s p := rfl
theorem x4_costOf {K : Nat → Nat → Nat} {S : St} {s : Nat} (hR : rep K (vU S)) (hs : s < 64) : f_X4_costOf 4096 (nI s) S = some (nI (cst K s 6)) := by
  unfold f_X4_costOf
  refine lp_run (F := F_X4_costOf_4 4096 S) (fun p => (nI s, nI (cst K s p), nI p)) 6 4096 (by decide) (fun p hp k => ?_) (fun k => ?_)
  · show FB_X4_costOf_4 4096 S k (nI s) (nI (cst K s p)) (nI p) = k (nI s, nI (cst K s (p + 1)), nI (p + 1))
    have h6 : ¬ (6 : Int32) ≤ nI p := nI_ge (a := p) (b := 6) hp (by decide)
    rw [cst_s]
    simp only [FB_X4_costOf_4, h6, x4_has hs (show p < 10 by omega), bd_s, gd_t (ix_n hp (show 6 ≤ 65536 by decide)), nI_clamp (show p < 2 ^ 31 by omega), uN' hR hp, nI_add, nI_1, ↓reduceIte]
    by_cases e : s.testBit p = true
    · rw [if_pos e, if_neg z01, if_pos e]
    · rw [if_neg e, if_pos rfl, if_neg e]
  · show FB_X4_costOf_4 4096 S k (nI s) (nI (cst K s 6)) (nI 6) = _
    unfold FB_X4_costOf_4
    rw [if_pos (by decide)]
theorem add0 (n : Nat) : nI n + 0 = nI n := by rw [show (0 : Int32) = nI 0 from rfl, nI_add]; rfl
theorem x5_coinOf {K : Nat → Nat → Nat} {S : St} {s : Nat} (hR : rep K (vM S)) (hs : s < 64) : f_X5_coinOf 4096 (nI s) S = some (nI (cst K s 6)) := by
  unfold f_X5_coinOf
  refine lp_run (F := F_X5_coinOf_4 4096 S) (fun p => (nI s, nI (cst K s p), nI p)) 6 4096 (by decide) (fun p hp k => ?_) (fun k => ?_)
  · show FB_X5_coinOf_4 4096 S k (nI s) (nI (cst K s p)) (nI p) = k (nI s, nI (cst K s (p + 1)), nI (p + 1))
    have h6 : ¬ (6 : Int32) ≤ nI p := nI_ge (a := p) (b := 6) hp (by decide)
    have e43 : (4 : Int32) * nI p + 3 = nI (4 * p + 3) := i4 p 3
    have hi3 : 4 * p + 3 < 24 := by omega
    rw [cst_s]
    simp only [FB_X5_coinOf_4, h6, x5_has hs (show p < 10 by omega), bd_s, e43, gd_t (ix_n hi3 (show 24 ≤ 65536 by decide)), nI_clamp (show 4 * p + 3 < 2 ^ 31 by omega), mN hR hp, add0, nI_add, nI_1, ↓reduceIte]
    by_cases e : s.testBit p = true
    · rw [if_pos e, if_neg z01, if_pos e]
    · rw [if_neg e, if_pos rfl, if_neg e]
  · show FB_X5_coinOf_4 4096 S k (nI s) (nI (cst K s 6)) (nI 6) = _
    unfold FB_X5_coinOf_4
    rw [if_pos (by decide)]
abbrev chp (K : Nat → Nat → Nat) (a b : Nat) : Prop := cst K a 6 < cst K b 6 ∨ (cst K a 6 = cst K b 6 ∧ pop a < pop b)
theorem nI_le' {a b : Nat} (ha : a < 2 ^ 31) (hb : b < 2 ^ 31) : (nI a ≤ nI b) = (a ≤ b) := by
  by_cases e : a ≤ b
  · exact propext ⟨fun _ => e, fun _ => nI_le e hb⟩
  · exact propext ⟨fun q => absurd q (nI_ge (by omega) ha), fun q => absurd q e⟩
