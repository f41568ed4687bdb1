/-! what a chosen says, in the model -/
def rm (K : Nat → Nat → Nat) (m p t : Nat) : Bool := rea K p t && !m.testBit p
def gm (K : Nat → Nat → Nat) (m p t : Nat) : Nat := if rm K m p t = true then K 3 t else 31
def am (K : Nat → Nat → Nat) (m p t : Nat) : Nat := if rm K m p t = true then K 1 t else 0
def mg (K : Nat → Nat → Nat) (m : Nat) (c : Nat → Nat) : Nat → Nat
  | 0 => cho K (K 0 9)
  | i + 1 => mg K m c i &&& gm K m i (c i)
def ms (K : Nat → Nat → Nat) (m : Nat) (c : Nat → Nat) : Nat → Nat
  | 0 => 0
  | i + 1 => ms K m c i ||| am K m i (c i)
theorem gm_lt {K : Nat → Nat → Nat} {m p t : Nat} (hK : okK K) (ht : t < 5) : gm K m p t < 32 := by
  unfold gm; split
  · exact kG hK ht
  · decide
theorem am_lt {K : Nat → Nat → Nat} {m p t : Nat} (hK : okK K) (ht : t < 5) : am K m p t < 32 := by
  unfold am; split
  · exact kA hK ht
  · decide
theorem mg_lt {K : Nat → Nat → Nat} {m : Nat} {c : Nat → Nat} (hK : okK K) : ∀ i, mg K m c i < 32
  | 0 => cho_lt hK (kWh hK)
  | i + 1 => Nat.lt_of_le_of_lt Nat.and_le_left (mg_lt hK i)
theorem ms_lt {K : Nat → Nat → Nat} {m : Nat} {c : Nat → Nat} (hK : okK K) (hc : ∀ p, p < 6 → c p < 5) : ∀ i, i ≤ 6 → ms K m c i < 32
  | 0, _ => by show 0 < 32; decide
  | i + 1, h => Nat.or_lt_two_pow (n := 5) (ms_lt hK hc i (by omega)) (am_lt hK (hc i (by omega)))
theorem x5_reaches {K : Nat → Nat → Nat} {m : Nat} {S : St} {c : Nat → Nat} {p : Nat} (hK : okK K) (hm : m < 64) (h : mOK K m S) (hp : p < 6) (hc : c p < 5) : f_X5_reaches (nI p) (q10 S c) = some (if rm K m p (c p) = true then 1 else 0) := by
  have ho := mOK_q (c := c) h
  have h2 := kR hK hc
  simp only [f_X5_reaches, x5_isChosen hK ho hp, ho.2.2.2.1, x5_has hm (show p < 10 by omega), bd_s, nI_clamp (show p < 2 ^ 31 by omega), gd_t (ix_n hp (show 6 ≤ 65536 by decide)), q10_s hp, gd_t (ix_n hc (show 5 ≤ 65536 by decide)), nI_clamp (show c p < 2 ^ 31 by omega), ho.2.2.2.2.2.1 _ hc, gd_t (ix_n h2 (show 4 ≤ 65536 by decide)), nI_clamp (show K 2 (c p) < 2 ^ 31 by omega), ho.2.1 _ h2, x5_has (rch_lt (K 2 (c p)) hK) (show p < 10 by omega)]
  unfold rm rea
  rw [Nat.testBit_and]
  generalize (prt K).testBit p = b1
  generalize m.testBit p = b2
  generalize (rch K (K 2 (c p))).testBit p = b3
  cases b1 <;> cases b2 <;> cases b3 <;> simp [z01]
theorem and31 : ∀ a, a < 32 → nI a &&& 31 = nI a := by decide +kernel
theorem and31' : ∀ a, a < 32 → a &&& 31 = a := by decide +kernel
theorem x5_mayGo {K : Nat → Nat → Nat} {m : Nat} {S : St} {c : Nat → Nat} (hK : okK K) (hm : m < 64) (h : mOK K m S) (hc : ∀ p, p < 6 → c p < 5) : f_X5_mayGo 4096 (q10 S c) = some (nI (mg K m c 6)) := by
  have ho := mOK_q (c := c) h
  have hw := kWh hK
  simp only [f_X5_mayGo, ho.1, gd_t (ix_n hw (show 6 ≤ 65536 by decide)), nI_clamp (show K 0 9 < 2 ^ 31 by omega), ho.2.2.1 _ hw, bd_s]
  refine lp_run (F := F_X5_mayGo_12 4096 (q10 S c)) (fun i => (nI (mg K m c i), nI i)) 6 4096 (by decide) (fun p hp k => ?_) (fun k => ?_)
  · show FB_X5_mayGo_12 4096 (q10 S c) k (nI (mg K m c p)) (nI p) = k (nI (mg K m c p &&& gm K m p (c p)), nI (p + 1))
    have h6 : ¬ (6 : Int32) ≤ nI p := nI_ge (a := p) (b := 6) hp (by decide)
    have hcp := hc p hp
    have hl := mg_lt (m := m) (c := c) hK p
    simp only [FB_X5_mayGo_12, h6, x5_reaches hK hm h hp hcp, bd_s, and31 _ hl, nI_clamp (show p < 2 ^ 31 by omega), gd_t (ix_n hp (show 6 ≤ 65536 by decide)), q10_s hp, gd_t (ix_n hcp (show 5 ≤ 65536 by decide)), nI_clamp (show c p < 2 ^ 31 by omega), ho.2.2.2.2.2.2 _ hcp, pa_and, nI_1, ↓reduceIte]
    unfold gm
    by_cases e : rm K m p (c p) = true
    · rw [if_pos e, if_neg z01, if_pos e]
    · rw [if_neg e, if_pos rfl, if_neg e, and31' _ hl]
  · show FB_X5_mayGo_12 4096 (q10 S c) k (nI (mg K m c 6)) (nI 6) = _
    unfold FB_X5_mayGo_12
    rw [if_pos (by decide)]
theorem x5_musts {K : Nat → Nat → Nat} {m : Nat} {S : St} {c : Nat → Nat} (hK : okK K) (hm : m < 64) (h : mOK K m S) (hc : ∀ p, p < 6 → c p < 5) : f_X5_musts 4096 (q10 S c) = some (nI (ms K m c 6)) := by
  have ho := mOK_q (c := c) h
  unfold f_X5_musts
  refine lp_run (F := F_X5_musts_4 4096 (q10 S c)) (fun i => (nI (ms K m c i), nI i)) 6 4096 (by decide) (fun p hp k => ?_) (fun k => ?_)
  · show FB_X5_musts_4 4096 (q10 S c) k (nI (ms K m c p)) (nI p) = k (nI (ms K m c p ||| am K m p (c p)), nI (p + 1))
    have h6 : ¬ (6 : Int32) ≤ nI p := nI_ge (a := p) (b := 6) hp (by decide)
    have hcp := hc p hp
    simp only [FB_X5_musts_4, h6, x5_reaches hK hm h hp hcp, bd_s, or0, nI_clamp (show p < 2 ^ 31 by omega), gd_t (ix_n hp (show 6 ≤ 65536 by decide)), q10_s hp, gd_t (ix_n hcp (show 5 ≤ 65536 by decide)), nI_clamp (show c p < 2 ^ 31 by omega), ho.2.2.2.2.1 _ hcp, pa_or, nI_1, ↓reduceIte]
    unfold am
    by_cases e : rm K m p (c p) = true
    · rw [if_pos e, if_neg z01, if_pos e]
    · rw [if_neg e, if_pos rfl, if_neg e, Nat.or_zero]
  · show FB_X5_musts_4 4096 (q10 S c) k (nI (ms K m c 6)) (nI 6) = _
    unfold FB_X5_musts_4
    rw [if_pos (by decide)]
