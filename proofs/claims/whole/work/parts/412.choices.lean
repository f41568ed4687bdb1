/-! choices -/
def chS (K : Nat → Nat → Nat) (b t : Nat) : Nat := if b.testBit t = true ∧ K 4 t ≠ 9 then b ||| 2 ^ K 4 t else b
def chI (K : Nat → Nat → Nat) (b : Nat) : Nat → Nat
  | 0 => b
  | i + 1 => chS K (chI K b i) i
def chO (K : Nat → Nat → Nat) (b : Nat) : Nat → Nat
  | 0 => b
  | r + 1 => chI K (chO K b r) 5
def cho (K : Nat → Nat → Nat) (p : Nat) : Nat := if K 6 p = 0 then K 5 p else chO K (K 5 p) 5
theorem chS_lt {K : Nat → Nat → Nat} {b t : Nat} (hK : okK K) (hb : b < 32) (ht : t < 5) : chS K b t < 32 := by
  unfold chS
  by_cases c : b.testBit t = true ∧ K 4 t ≠ 9
  · rw [if_pos c]
    refine or_lt32 hb (pw_lt32 ?_)
    rcases kL hK ht with h | h
    · omega
    · exact absurd h c.2
  · rw [if_neg c]; exact hb
theorem chI_lt {K : Nat → Nat → Nat} {b : Nat} (hK : okK K) (hb : b < 32) : ∀ i, i ≤ 5 → chI K b i < 32
  | 0, _ => hb
  | i + 1, h => chS_lt hK (chI_lt hK hb i (by omega)) (by omega)
theorem chO_lt {K : Nat → Nat → Nat} {b : Nat} (hK : okK K) (hb : b < 32) : ∀ i, chO K b i < 32
  | 0 => hb
  | i + 1 => chI_lt hK (chO_lt hK hb i) 5 (Nat.le_refl 5)
theorem cho_lt {K : Nat → Nat → Nat} {p : Nat} (hK : okK K) (hp : p < 6) : cho K p < 32 := by
  unfold cho
  by_cases c : K 6 p = 0
  · rw [if_pos c]; exact (kO hK hp).2
  · rw [if_neg c]; exact chO_lt hK (kO hK hp).2 5
theorem chS_ge (K : Nat → Nat → Nat) (b t : Nat) : b ≤ chS K b t := by
  unfold chS
  split
  · exact Nat.left_le_or
  · exact Nat.le_refl b
theorem chI_ge (K : Nat → Nat → Nat) (b : Nat) : ∀ i, b ≤ chI K b i
  | 0 => Nat.le_refl b
  | i + 1 => Nat.le_trans (chI_ge K b i) (chS_ge K _ i)
theorem chO_ge (K : Nat → Nat → Nat) (b : Nat) : ∀ i, b ≤ chO K b i
  | 0 => Nat.le_refl b
  | i + 1 => Nat.le_trans (chO_ge K b i) (chI_ge K _ 5)
theorem cho_pos {K : Nat → Nat → Nat} {p : Nat} (hK : okK K) (hp : p < 6) : 1 ≤ cho K p := by
  unfold cho
  by_cases c : K 6 p = 0
  · rw [if_pos c]; exact (kO hK hp).1
  · rw [if_neg c]; exact Nat.le_trans (kO hK hp).1 (chO_ge K _ 5)
theorem ev4_none {n : Nat} (h : n = 9) : ev 4 n = -6 := by subst h; rfl
theorem x0_choicesOf {K : Nat → Nat → Nat} {S : St} {p : Nat} (hK : okK K) (h2 : rep K (vU S)) (hp : p < 6) : f_X0_choicesOf 4096 (nI p) S = some (nI (cho K p)) := by
  have hix : ix (nI p) 6 := ix_n hp (by decide)
  have hcl : (nI p).toNatClampNeg = p := nI_clamp (by omega)
  have hb := (kO hK hp).2
  have h6 := kOL hK hp
  have q6 : (nI (K 6 p) = 0) = (K 6 p = 0) := nI_0n (by omega)
  simp only [f_X0_choicesOf, gd_t hix, hcl, bd_s, uO h2 hp, uOL h2 hp]
  unfold cho
  by_cases c : K 6 p = 0
  · rw [if_pos (q6.mpr c), if_pos c]
  · rw [if_neg (fun q => c (q6.mp q)), if_neg c]
    refine lp_run (F := F_X0_choicesOf_20 4096 S) (fun r => (nI (chO K (K 5 p) r), nI r)) 5 4096 (by decide) (fun r hr k => ?_) (fun k => ?_)
    · show FB_X0_choicesOf_20 4096 S k (nI (chO K (K 5 p) r)) (nI r) = k (nI (chO K (K 5 p) (r + 1)), nI (r + 1))
      have h5 : ¬ (5 : Int32) ≤ nI r := nI_ge (a := r) (b := 5) hr (by decide)
      simp only [FB_X0_choicesOf_20, h5, ↓reduceIte]
      have hbb := chO_lt hK hb r
      rw [show chO K (K 5 p) (r + 1) = chI K (chO K (K 5 p) r) 5 from rfl]
      generalize chO K (K 5 p) r = b at hbb ⊢
      refine lp_run (F := F_X0_choicesOf_28 4096 k S) (fun i => (nI (chI K b i), nI r, nI i)) 5 4096 (by decide) (fun i hi k2 => ?_) (fun k2 => ?_)
      · show FB_X0_choicesOf_28 4096 k S k2 (nI (chI K b i)) (nI r) (nI i) = k2 (nI (chI K b (i + 1)), nI r, nI (i + 1))
        have g5 : ¬ (5 : Int32) ≤ nI i := nI_ge (a := i) (b := 5) hi (by decide)
        have hbi := chI_lt hK hbb i (by omega)
        rw [show chI K b (i + 1) = chS K (chI K b i) i from rfl]
        generalize chI K b i = w at hbi ⊢
        have hix5 : ix (nI i) 5 := ix_n hi (by decide)
        have hcl5 : (nI i).toNatClampNeg = i := nI_clamp (by omega)
        simp only [FB_X0_choicesOf_28, g5, x4_has (show w < 64 by omega) (show i < 10 by omega), bd_s, gd_t hix5, hcl5, uL h2 hi, nI_1, ↓reduceIte]
        unfold chS
        by_cases tb : w.testBit i = true
        · rw [if_pos tb, if_neg z01]
          rcases kL hK hi with hv | hv
          · rw [ev_n (show K 4 i < 9 by omega), if_neg (nI_ne6 (by omega)), pa_shl _ (by omega), pa_or, if_pos ⟨tb, by omega⟩]
          · rw [ev4_none hv, if_pos rfl, if_neg (fun q => q.2 hv)]
        · rw [if_neg tb, if_pos rfl, if_neg (fun q => tb q.1)]
      · show FB_X0_choicesOf_28 4096 k S k2 (nI (chI K b 5)) (nI r) (nI 5) = k (nI (chI K b 5), nI (r + 1))
        have g5 : (5 : Int32) ≤ nI 5 := by decide
        simp only [FB_X0_choicesOf_28, g5, nI_1, ↓reduceIte]
    · show FB_X0_choicesOf_20 4096 S k (nI (chO K (K 5 p) 5)) (nI 5) = _
      have h5 : (5 : Int32) ≤ nI 5 := by decide
      simp only [FB_X0_choicesOf_20, h5, ↓reduceIte]
theorem or0 (b : Nat) : nI b ||| 0 = nI b := by
  have := pa_or b 0
  rw [Nat.or_zero] at this
  exact this
theorem x5_choicesOf {K : Nat → Nat → Nat} {S : St} {p : Nat} (hK : okK K) (h3 : rep K (vM S)) (hp : p < 6) : f_X5_choicesOf 4096 (nI p) S = some (nI (cho K p)) := by
  have e4 : (4 : Int32) * nI p = nI (4 * p) := by rw [show (4 : Int32) = nI 4 from rfl, pk_mul]
  have e41 : nI (4 * p) + 1 = nI (4 * p + 1) := nI_1 _
  have hix : ix (nI (4 * p)) 24 := ix_n (by omega) (by decide)
  have hcl : (nI (4 * p)).toNatClampNeg = 4 * p := nI_clamp (by omega)
  have hix1 : ix (nI (4 * p + 1)) 24 := ix_n (by omega) (by decide)
  have hcl1 : (nI (4 * p + 1)).toNatClampNeg = 4 * p + 1 := nI_clamp (by omega)
  have hb := (kO hK hp).2
  have h6 := kOL hK hp
  have q6 : (nI (K 6 p) = 1) = (K 6 p = 1) := propext (nI_eq (b := 1) (by omega) (by decide))
  simp only [f_X5_choicesOf, e4, gd_t hix, hcl, bd_s, mO h3 hp]
  unfold cho
  by_cases c : K 6 p = 0
  · rw [if_pos c]
    have n1 : ¬ K 6 p = 1 := by omega
    have h5 : ¬ (5 : Int32) ≤ 0 := by decide
    show F_X5_choicesOf_11 4096 S (lpI (F_X5_choicesOf_11 4096 S) 4095) (nI p, nI (K 5 p), 0) = _
    show FB_X5_choicesOf_11 4096 S _ (nI p) (nI (K 5 p)) 0 = _
    simp only [FB_X5_choicesOf_11, h5, e4, e41, gd_t hix1, hcl1, mOL h3 hp, q6, n1, ↓reduceIte]
  · rw [if_neg c]
    have n1 : K 6 p = 1 := by omega
    refine lp_run (F := F_X5_choicesOf_11 4096 S) (fun r => (nI p, nI (chO K (K 5 p) r), nI r)) 5 4096 (by decide) (fun r hr k => ?_) (fun k => ?_)
    · show FB_X5_choicesOf_11 4096 S k (nI p) (nI (chO K (K 5 p) r)) (nI r) = k (nI p, nI (chO K (K 5 p) (r + 1)), nI (r + 1))
      have h5 : ¬ (5 : Int32) ≤ nI r := nI_ge (a := r) (b := 5) hr (by decide)
      simp only [FB_X5_choicesOf_11, h5, e4, e41, gd_t hix1, hcl1, mOL h3 hp, q6, n1, ↓reduceIte]
      have hbb := chO_lt hK hb r
      rw [show chO K (K 5 p) (r + 1) = chI K (chO K (K 5 p) r) 5 from rfl]
      generalize chO K (K 5 p) r = b at hbb ⊢
      refine lp_run (F := F_X5_choicesOf_33 4096 k S) (fun i => (nI p, nI (chI K b i), nI r, nI i)) 5 4096 (by decide) (fun i hi k2 => ?_) (fun k2 => ?_)
      · show FB_X5_choicesOf_33 4096 k S k2 (nI p) (nI (chI K b i)) (nI r) (nI i) = k2 (nI p, nI (chI K b (i + 1)), nI r, nI (i + 1))
        have g5 : ¬ (5 : Int32) ≤ nI i := nI_ge (a := i) (b := 5) hi (by decide)
        have hbi := chI_lt hK hbb i (by omega)
        rw [show chI K b (i + 1) = chS K (chI K b i) i from rfl]
        generalize chI K b i = w at hbi ⊢
        have hix5 : ix (nI i) 5 := ix_n hi (by decide)
        have hcl5 : (nI i).toNatClampNeg = i := nI_clamp (by omega)
        simp only [FB_X5_choicesOf_33, g5, x5_has (show w < 64 by omega) (show i < 10 by omega), bd_s, gd_t hix5, hcl5, mL h3 hi, nI_1, or0, ↓reduceIte]
        unfold chS
        by_cases tb : w.testBit i = true
        · rw [if_pos tb, if_neg z01]
          rcases kL hK hi with hv | hv
          · rw [ev_n (show K 4 i < 9 by omega), if_neg (nI_pos (by omega)), pa_shl _ (by omega), pa_or, if_pos ⟨tb, by omega⟩]
          · rw [ev4_none hv, if_pos (by decide), if_neg (fun q => q.2 hv)]
        · rw [if_neg tb, if_pos rfl, if_neg (fun q => tb q.1)]
      · show FB_X5_choicesOf_33 4096 k S k2 (nI p) (nI (chI K b 5)) (nI r) (nI 5) = k (nI p, nI (chI K b 5), nI (r + 1))
        have g5 : (5 : Int32) ≤ nI 5 := by decide
        simp only [FB_X5_choicesOf_33, g5, nI_1, ↓reduceIte]
    · show FB_X5_choicesOf_11 4096 S k (nI p) (nI (chO K (K 5 p) 5)) (nI 5) = _
      have h5 : (5 : Int32) ≤ nI 5 := by decide
      simp only [FB_X5_choicesOf_11, h5, ↓reduceIte]
theorem pu_8 : lp_8 4096 Rel := by
  intro x Su Sm ⟨K, hR⟩
  rcases c_piece x with ⟨hu, hm⟩ | ⟨p, hp, rfl, hu, hm⟩
  · exact ⟨-1, by simp only [f_X4_choices, hu, bd_s, ↓reduceIte], by simp only [f_X5_choices, hm, bd_s, ↓reduceIte], K, hR⟩
  · exact ⟨nI (cho K p), by simp only [f_X4_choices, hu, bd_s, z01, x0_choicesOf hR.1 hR.2.1 hp, ↓reduceIte], by simp only [f_X5_choices, hm, bd_s, z01, x5_choicesOf hR.1 hR.2.2.1 hp, ↓reduceIte], K, hR⟩
