/-! fault, terms: both sides read the pad alike -/
theorem firstBad (P : Nat → Prop) : ∀ m, ∃ n, n ≤ m ∧ (∀ i, i < n → P i) ∧ (n = m ∨ ¬ P n)
  | 0 => ⟨0, Nat.le_refl _, fun i h => absurd h (Nat.not_lt_zero i), Or.inl rfl⟩
  | m + 1 => by
    obtain ⟨n, h1, h2, h3⟩ := firstBad P m
    rcases h3 with rfl | h3
    · by_cases hp : P n
      · refine ⟨n + 1, Nat.le_refl _, fun i hi => ?_, Or.inl rfl⟩
        rcases Nat.lt_or_ge i n with h | h
        · exact h2 i h
        · have e : i = n := by omega
          rw [e]; exact hp
      · exact ⟨n, by omega, h2, Or.inr hp⟩
    · exact ⟨n, by omega, h2, Or.inr h3⟩
theorem sto_sto (S : St) (k i : Nat) (a b : Int32) : sto (sto S k i a) k i b = sto S k i b := by
  funext k' j
  by_cases e : k' = k
  · subst e
    rw [sto_s, sto_s, sto_s]
    by_cases e2 : j = i
    · rw [if_pos e2, if_pos e2]
    · rw [if_neg e2, if_neg e2, if_neg e2]
  · rw [sto_n e, sto_n e, sto_n e]
theorem sto_comm (S : St) (k : Nat) {i j : Nat} (h : i ≠ j) (a b : Int32) : sto (sto S k i a) k j b = sto (sto S k j b) k i a := by
  funext k' q
  by_cases e : k' = k
  · subst e
    rw [sto_s, sto_s, sto_s, sto_s]
    by_cases e1 : q = j
    · rw [if_pos e1, if_neg (by omega), if_pos e1]
    · rw [if_neg e1, if_neg e1]
  · rw [sto_n e, sto_n e, sto_n e, sto_n e]
/-- the model's three numbers of a reading -/
def st3 (S : St) (a r g : Int32) : St := sto (sto (sto S 0 10 a) 0 11 r) 0 12 g
theorem st3_a (S : St) (a r g b : Int32) : sto (st3 S a r g) 0 10 b = st3 S b r g := by
  unfold st3
  rw [sto_comm _ 0 (show 12 ≠ 10 by decide), sto_comm _ 0 (show 11 ≠ 10 by decide), sto_sto]
theorem st3_r (S : St) (a r g b : Int32) : sto (st3 S a r g) 0 11 b = st3 S a b g := by
  unfold st3
  rw [sto_comm _ 0 (show 12 ≠ 11 by decide), sto_sto]
theorem st3_g (S : St) (a r g b : Int32) : sto (st3 S a r g) 0 12 b = st3 S a r b := by
  unfold st3
  rw [sto_sto]
theorem st3_10 (S : St) (a r g : Int32) : st3 S a r g 0 10 = a := by unfold st3; rw [sto_s, if_neg (by decide), sto_s, if_neg (by decide), sto_s, if_pos rfl]
theorem st3_11 (S : St) (a r g : Int32) : st3 S a r g 0 11 = r := by unfold st3; rw [sto_s, if_neg (by decide), sto_s, if_pos rfl]
theorem st3_12 (S : St) (a r g : Int32) : st3 S a r g 0 12 = g := by unfold st3; rw [sto_s, if_pos rfl]
theorem st3_0 (S : St) (a r g : Int32) {j : Nat} (h : j < 10) : st3 S a r g 0 j = S 0 j := by unfold st3; rw [sto_s, if_neg (by omega), sto_s, if_neg (by omega), sto_s, if_neg (by omega)]
theorem st3_k (S : St) (a r g : Int32) {k : Nat} (h : k ≠ 0) : st3 S a r g k = S k := by unfold st3; rw [sto_n h, sto_n h, sto_n h]
theorem st3_co (S : St) (a r g : Int32) : coM S (st3 S a r g) := ⟨st3_0 _ _ _ _ (by decide), st3_0 _ _ _ _ (by decide), st3_0 _ _ _ _ (by decide), fun k h _ => st3_k _ _ _ _ (by omega), fun j _ => by rw [st3_k _ _ _ _ (by decide)], st3_k _ _ _ _ (by decide), st3_k _ _ _ _ (by decide)⟩
/-- the class's -/
def su3 (S : St) (a r g : Int32) : St := sto (sto (sto S 1 2 a) 1 3 r) 1 4 g
theorem su3_co (S : St) (a r g : Int32) : coU S (su3 S a r g) := by
  unfold su3
  refine ⟨?_, ?_, fun k h1 h2 => ?_, fun k h1 h2 => ?_, ?_⟩
  · rw [sto_n (by decide), sto_n (by decide), sto_n (by decide)]
  · rw [sto_n (by decide), sto_n (by decide), sto_n (by decide)]
  · rw [sto_n (by omega), sto_n (by omega), sto_n (by omega)]
  · rw [sto_n (by omega), sto_n (by omega), sto_n (by omega)]
  · rw [sto_s, if_neg (by decide), sto_s, if_neg (by decide), sto_s, if_neg (by decide)]
theorem su1_co {S : St} {i : Nat} {v : Int32} (hi : i ≠ 1) : coU S (sto S 1 i v) := ⟨sto_n (by decide), sto_n (by decide), fun k h1 h2 => sto_n (by omega), fun k h1 h2 => sto_n (by omega), by rw [sto_s, if_neg (Ne.symm hi)]⟩
/-- what a letter asks -/
def askN (s : Int32) : Nat := if s = 97 then 8 else if s = 99 then 16 else if s = 110 then 1 else if s = 112 then 4 else if s = 115 then 2 else 0
theorem x5_ask (s : Int32) : f_X5_askOf s = some (nI (askN s)) := by
  unfold f_X5_askOf askN
  by_cases h1 : s = 97
  · simp only [h1, ↓reduceIte]; rfl
  · by_cases h2 : s = 99
    · simp only [h1, h2, ↓reduceIte]; rfl
    · by_cases h3 : s = 110
      · simp only [h1, h2, h3, ↓reduceIte]; rfl
      · by_cases h4 : s = 112
        · simp only [h1, h2, h3, h4, ↓reduceIte]; rfl
        · by_cases h5 : s = 115
          · simp only [h1, h2, h3, h4, h5, ↓reduceIte]; rfl
          · simp only [h1, h2, h3, h4, h5, ↓reduceIte]; rfl
theorem x2_ask (s : Int32) : f_X2_askOf s = some (nI (askN s)) := x5_ask s
theorem askN_lt (s : Int32) : askN s < 32 := by unfold askN; repeat' split
                                                all_goals decide
theorem or_lt32 {a b : Nat} (ha : a < 32) (hb : b < 32) : a ||| b < 32 := Nat.or_lt_two_pow (n := 5) ha hb
def aS (sg : Nat → Int32) : Nat → Nat
  | 0 => 0
  | i + 1 => aS sg i ||| askN (sg i)
theorem aS_lt (sg : Nat → Int32) : ∀ i, aS sg i < 32
  | 0 => by show 0 < 32; decide
  | i + 1 => or_lt32 (aS_lt sg i) (askN_lt _)
def goodA (sg : Nat → Int32) (i : Nat) : Prop := ¬ askN (sg i) = 0 ∧ aS sg i &&& askN (sg i) = 0
theorem and_n0 {a b : Nat} (ha : a < 32) : (nI a &&& nI b = 0) = (a &&& b = 0) := by
  rw [pa_and]
  have h : a &&& b < 32 := Nat.lt_of_le_of_lt Nat.and_le_left ha
  exact propext (nI_eq (b := 0) (by omega) (by decide))
theorem nI_0n {a : Nat} (h : a < 2 ^ 31) : (nI a = 0) = (a = 0) := propext (nI_eq (b := 0) h (by decide))
/-- the class's letters -/
theorem x2_readAsks {S : St} {c n : Nat} (hc : S 1 1 = nI c) (hc20 : c ≤ 20) (hn : n ≤ c) (hg : ∀ i, i < n → goodA (S 8) i) (he : n = c ∨ ¬ goodA (S 8) n) : f_X2_readAsks 4096 S = some (nI n, sto S 1 2 (nI (aS (S 8) n))) := by
  unfold f_X2_readAsks
  rw [bd_s]
  have hcc : ∀ v : Int32, sto S 1 2 v 1 1 = nI c := fun v => by rw [sto_s, if_neg (by decide)]; exact hc
  have h8 : ∀ v : Int32, sto S 1 2 v 8 = S 8 := fun v => sto_n (by decide)
  have hv : ∀ v : Int32, sto S 1 2 v 1 2 = v := fun v => by rw [sto_s, if_pos rfl]
  refine lp_run (F := F_X2_readAsks_7 4096) (fun i => (nI i, sto S 1 2 (nI (aS (S 8) i)))) n 4096 (by omega) (fun i hi k => ?_) (fun k => ?_)
  · show FB_X2_readAsks_7 4096 k (nI i) (sto S 1 2 (nI (aS (S 8) i))) = _
    obtain ⟨g1, g2⟩ := hg i hi
    have hlt : ¬ nI c ≤ nI i := nI_ge (by omega) (by omega)
    have e1 : ¬ nI (askN (S 8 i)) = 0 := by rw [nI_0n (by have := askN_lt (S 8 i); omega)]; exact g1
    have e2 : (nI (aS (S 8) i) &&& nI (askN (S 8 i)) = 0) = True := by rw [and_n0 (aS_lt _ _)]; exact eq_true g2
    simp only [FB_X2_readAsks_7, hcc, h8, hv, hlt, gd_t (ix_n (show i < 20 by omega) (by decide)), nI_clamp (show i < 2 ^ 31 by omega), x2_ask, bd_s, e1, e2, ↓reduceIte, sto_sto, pa_or, nI_1]
    rfl
  · show FB_X2_readAsks_7 4096 k (nI n) (sto S 1 2 (nI (aS (S 8) n))) = _
    rcases Nat.lt_or_ge n c with hlt | hge
    · have hl : ¬ nI c ≤ nI n := nI_ge hlt (by omega)
      have hb : ¬ goodA (S 8) n := by rcases he with he | he; (· omega); exact he
      simp only [FB_X2_readAsks_7, hcc, h8, hv, hl, gd_t (ix_n (show n < 20 by omega) (by decide)), nI_clamp (show n < 2 ^ 31 by omega), x2_ask, bd_s, ↓reduceIte]
      have w1 := nI_0n (show askN (S 8 n) < 2 ^ 31 by have := askN_lt (S 8 n); omega)
      have w2 := and_n0 (b := askN (S 8 n)) (aS_lt (S 8) n)
      by_cases a0 : askN (S 8 n) = 0
      · rw [if_pos (w1.mpr a0)]
      · rw [if_neg (fun q => a0 (w1.mp q)), if_neg (fun q => hb ⟨a0, w2.mp q⟩)]
    · have hl : nI c ≤ nI n := nI_le hge (by omega)
      have e : n = c := by omega
      subst e
      simp only [FB_X2_readAsks_7, hcc, hl, ↓reduceIte]
/-- the model's steps over the letters -/
theorem x5_stepA {S : St} {c i : Nat} {k : Int32 × Int32 × Int32 × St → Option (Int32 × St)} (hc : S 0 0 = nI c) (hi : i < c) (hc20 : c ≤ 20) (hg : goodA (S 1) i) : F_X5_faultOf_23 4096 k (0, -6, nI i, st3 S (nI (aS (S 1) i)) (-6) 0) = k (0, -6, nI (i + 1), st3 S (nI (aS (S 1) (i + 1))) (-6) 0) := by
  show FB_X5_faultOf_23 4096 k 0 (-6) (nI i) (st3 S (nI (aS (S 1) i)) (-6) 0) = _
  have hlt : ¬ nI c ≤ nI i := nI_ge (by omega) (by omega)
  have e0 : ¬ (0 : Int32) ≤ -6 := by decide
  have hn := askN_lt (S 1 i)
  have e1 : ¬ nI (askN (S 1 i)) ≤ 0 := by
    have := hg.1
    exact nI_nle (by omega) (by omega)
  have e2 : (nI (aS (S 1) i) &&& nI (askN (S 1 i)) = 0) = True := by rw [and_n0 (aS_lt _ _)]; exact eq_true hg.2
  simp only [FB_X5_faultOf_23, st3_0 S _ _ _ (show 0 < 10 by decide), st3_k S _ _ _ (show 1 ≠ 0 by decide), st3_10, st3_11, hc, hlt, gd_t (ix_n (show i < 20 by omega) (by decide)), nI_clamp (show i < 2 ^ 31 by omega), x5_ask, bd_s, e0, e1, e2, ↓reduceIte, st3_a, pa_or, nI_1]
  rfl
/-! the digits behind the colon -/
def dgN (sg : Nat → Int32) (f i : Nat) : Nat := (sg (f + i) - 48).toNatClampNeg
def gS (sg : Nat → Int32) (f : Nat) : Nat → Nat
  | 0 => 0
  | i + 1 => gS sg f i ||| 2 ^ dgN sg f i
def isD (sg : Nat → Int32) (f i : Nat) : Prop := ∃ t, t ≤ 4 ∧ sg (f + i) = nI (48 + t)
def goodG (sg : Nat → Int32) (f i : Nat) : Prop := isD sg f i ∧ gS sg f i < 2 ^ dgN sg f i
theorem sub48 (t : Nat) : nI (48 + t) - 48 = nI t := by
  have e : nI (48 + t) = nI t + 48 := by rw [show (48 : Int32) = nI 48 from rfl, nI_add, Nat.add_comm]
  rw [e, Int32.add_sub_cancel]
theorem dgN_of {sg : Nat → Int32} {f i t : Nat} (ht : t ≤ 4) (e : sg (f + i) = nI (48 + t)) : dgN sg f i = t := by
  unfold dgN
  rw [e, sub48]
  exact nI_clamp (by omega)
theorem pw_lt32 {t : Nat} (h : t ≤ 4) : 2 ^ t < 32 := by
  rcases (show t = 0 ∨ t = 1 ∨ t = 2 ∨ t = 3 ∨ t = 4 by omega) with rfl | rfl | rfl | rfl | rfl <;> decide
theorem gS_lt {sg : Nat → Int32} {f : Nat} : ∀ {i : Nat}, (∀ j, j < i → goodG sg f j) → gS sg f i < 32
  | 0, _ => by show 0 < 32; decide
  | i + 1, h => by
    obtain ⟨⟨t, ht, e⟩, _⟩ := h i (Nat.lt_succ_self i)
    have hd := dgN_of ht e
    exact or_lt32 (gS_lt (fun j hj => h j (Nat.lt_succ_of_lt hj))) (by rw [hd]; exact pw_lt32 ht)
/-- behind a good digit: the row's highest bit is that digit -/
theorem gS_top {sg : Nat → Int32} {f i : Nat} (h : ∀ j, j < i + 1 → goodG sg f j) : 2 ^ dgN sg f i ≤ gS sg f (i + 1) ∧ gS sg f (i + 1) < 2 ^ (dgN sg f i + 1) := by
  obtain ⟨_, h2⟩ := h i (Nat.lt_succ_self i)
  constructor
  · exact Nat.right_le_or
  · show gS sg f i ||| 2 ^ dgN sg f i < _
    refine Nat.or_lt_two_pow ?_ ?_
    · exact Nat.lt_of_lt_of_le h2 (Nat.pow_le_pow_right (by decide) (by omega))
    · exact Nat.pow_lt_pow_right (by decide) (by omega)
theorem sh0 : ∀ g, g < 32 → ∀ t, t < 5 → ((nI g >>> (nI t &&& 31)) = 0) = (g < 2 ^ t) := by
  intro g hg t ht
  have key : ∀ g, g < 32 → ∀ t, t < 5 → ((nI g >>> (nI t &&& 31)) = 0 ↔ g < 2 ^ t) := by decide +kernel
  exact propext (key g hg t ht)
theorem x4_isT (x : Int32) : f_X4_isTerms (x - 48) = some (if x < 48 ∨ 52 < x then 0 else 1) := by
  rw [x4_isTerms]
  by_cases h : x < 48 ∨ 52 < x
  · rw [if_pos h, if_pos]
    by_cases q : x - 48 < 0 ∨ 4 < x - 48
    · exact q
    · exfalso
      obtain ⟨j, _, hj, e⟩ := in_nat (a := 0) (b := 4) (by decide) (by decide) (fun z => q (Or.inl z)) (fun z => q (Or.inr z))
      have e2 : x = nI (48 + j) := by
        have e3 : x - 48 + 48 = nI j + 48 := by rw [e]
        rw [Int32.sub_add_cancel, show (48 : Int32) = nI 48 from rfl, nI_add, Nat.add_comm] at e3
        exact e3
      rcases h with h | h
      · rw [e2] at h; exact nI_nlt (a := 48 + j) (b := 48) (by omega) (by omega) h
      · rw [e2] at h; exact nI_nlt (a := 52) (b := 48 + j) (by omega) (by decide) h
  · rw [if_neg h]
    obtain ⟨j, h1, hj, e⟩ := in_nat (a := 48) (b := 52) (by decide) (by decide) (fun z => h (Or.inl z)) (fun z => h (Or.inr z))
    obtain ⟨t, rfl⟩ : ∃ t, j = 48 + t := ⟨j - 48, by omega⟩
    rw [e, sub48, if_neg (show ¬ (nI t < 0 ∨ 4 < nI t) from rng_t (b := 4) (by decide) (by omega) rfl)]
theorem isD_iff {sg : Nat → Int32} {f i : Nat} : isD sg f i ↔ ¬ (sg (f + i) < 48 ∨ 52 < sg (f + i)) := by
  constructor
  · rintro ⟨t, ht, e⟩ (h | h)
    · rw [e] at h; exact nI_nlt (a := 48 + t) (b := 48) (by omega) (by omega) h
    · rw [e] at h; exact nI_nlt (a := 52) (b := 48 + t) (by omega) (by decide) h
  · intro h
    obtain ⟨j, h1, hj, e⟩ := in_nat (a := 48) (b := 52) (by decide) (by decide) (fun z => h (Or.inl z)) (fun z => h (Or.inr z))
    exact ⟨j - 48, by omega, by rw [e]; congr 1; omega⟩
theorem x2_readGo {S : St} {c f n : Nat} (hc : S 1 1 = nI c) (hc20 : c ≤ 20) (hn : f + n ≤ c) (hg : ∀ i, i < n → goodG (S 8) f i) (he : f + n = c ∨ ¬ goodG (S 8) f n) : f_X2_readGo 4096 (nI f) S = some (if f + n = c then (if gS (S 8) f n = 0 then nI c else -6) else nI (f + n), sto S 1 4 (nI (gS (S 8) f n))) := by
  unfold f_X2_readGo
  rw [bd_s]
  have hcc : ∀ v : Int32, sto S 1 4 v 1 1 = nI c := fun v => by rw [sto_s, if_neg (by decide)]; exact hc
  have h8 : ∀ v : Int32, sto S 1 4 v 8 = S 8 := fun v => sto_n (by decide)
  have hv : ∀ v : Int32, sto S 1 4 v 1 4 = v := fun v => by rw [sto_s, if_pos rfl]
  refine lp_run (F := F_X2_readGo_7 4096) (fun i => (nI (f + i), sto S 1 4 (nI (gS (S 8) f i)))) n 4096 (by omega) (fun i hi k => ?_) (fun k => ?_)
  · show FB_X2_readGo_7 4096 k (nI (f + i)) (sto S 1 4 (nI (gS (S 8) f i))) = _
    obtain ⟨g1, g2⟩ := hg i hi
    have hlt : ¬ nI c ≤ nI (f + i) := nI_ge (by omega) (by omega)
    have hd := isD_iff.mp g1
    obtain ⟨t, ht, e⟩ := g1
    have hdg := dgN_of ht e
    have hgl := gS_lt (i := i) (fun j hj => hg j (by omega))
    have e2 : ((nI (gS (S 8) f i) >>> (nI t &&& 31)) = 0) = True := by rw [sh0 _ hgl t (by omega)]; exact eq_true (by rw [← hdg]; exact g2)
    simp only [FB_X2_readGo_7, hcc, h8, hv, hlt, gd_t (ix_n (show f + i < 20 by omega) (by decide)), nI_clamp (show f + i < 2 ^ 31 by omega), x4_isT, hd, bd_s, z01, ↓reduceIte]
    simp only [e, sub48, e2, ↓reduceIte, sto_sto, pa_shl t (by omega), pa_or, nI_1]
    rw [show gS (S 8) f (i + 1) = gS (S 8) f i ||| 2 ^ t from by rw [← hdg]; rfl, Nat.add_assoc]
  · show FB_X2_readGo_7 4096 k (nI (f + n)) (sto S 1 4 (nI (gS (S 8) f n))) = _
    have hgl := gS_lt (i := n) hg
    rcases Nat.lt_or_ge (f + n) c with hlt | hge
    · have hl : ¬ nI c ≤ nI (f + n) := nI_ge hlt (by omega)
      have hb : ¬ goodG (S 8) f n := by rcases he with he | he; (· omega); exact he
      rw [if_neg (show ¬ f + n = c by omega)]
      by_cases hD : isD (S 8) f n
      · have hd := isD_iff.mp hD
        obtain ⟨t, ht, e⟩ := hD
        have hdg := dgN_of ht e
        have e2 : ((nI (gS (S 8) f n) >>> (nI t &&& 31)) = 0) = False := by
          rw [sh0 _ hgl t (by omega)]
          exact eq_false (fun q => hb ⟨⟨t, ht, e⟩, by rw [hdg]; exact q⟩)
        simp only [FB_X2_readGo_7, hcc, h8, hv, hl, gd_t (ix_n (show f + n < 20 by omega) (by decide)), nI_clamp (show f + n < 2 ^ 31 by omega), x4_isT, hd, bd_s, z01, ↓reduceIte]
        simp only [e, sub48, e2, ↓reduceIte]
      · have hd : S 8 (f + n) < 48 ∨ 52 < S 8 (f + n) := Classical.not_not.mp (fun q => hD (isD_iff.mpr q))
        simp only [FB_X2_readGo_7, hcc, h8, hv, hl, gd_t (ix_n (show f + n < 20 by omega) (by decide)), nI_clamp (show f + n < 2 ^ 31 by omega), x4_isT, hd, bd_s, ↓reduceIte]
    · have hl : nI c ≤ nI (f + n) := nI_le hge (by omega)
      have e : f + n = c := by omega
      have w := nI_0n (show gS (S 8) f n < 2 ^ 31 by omega)
      have hl2 : nI c ≤ nI c := nI_le (Nat.le_refl c) (by omega)
      rw [e]
      by_cases g0 : gS (S 8) f n = 0
      · simp only [FB_X2_readGo_7, hcc, hv, hl2, w, g0, ↓reduceIte]
        rfl
      · simp only [FB_X2_readGo_7, hcc, hv, hl2, w, g0, ↓reduceIte]
/-- the model's steps over the digits -/
def lastC (sg : Nat → Int32) (f : Nat) : Nat → Int32
  | 0 => -6
  | i + 1 => nI (dgN sg f i)
theorem last_lt {sg : Nat → Int32} {f i t : Nat} (h : ∀ j, j < i → goodG sg f j) (ht : t ≤ 4) : (nI t ≤ lastC sg f i) = ¬ (gS sg f i < 2 ^ t) := by
  cases i with
  | zero =>
    have a : ¬ nI t ≤ (-6 : Int32) := by
      intro q
      have := Int32.le_iff_toInt_le.mp q
      rw [nI_toInt (by omega)] at this
      have e2 : (-6 : Int32).toInt = -6 := rfl
      omega
    have b : gS sg f 0 < 2 ^ t := Nat.two_pow_pos t
    exact propext ⟨fun q => absurd q a, fun q => absurd b q⟩
  | succ i =>
    obtain ⟨h1, h2⟩ := gS_top h
    obtain ⟨⟨t2, ht2, e2⟩, _⟩ := h i (Nat.lt_succ_self i)
    have hd := dgN_of ht2 e2
    rw [show lastC sg f (i + 1) = nI (dgN sg f i) from rfl]
    rw [nI_leI (by omega) (by omega)]
    refine propext ⟨fun q r => ?_, fun q => ?_⟩
    · have := Nat.pow_le_pow_right (n := 2) (by decide) q
      omega
    · rcases Nat.lt_or_ge (dgN sg f i) t with z | z
      · exact absurd (Nat.lt_of_lt_of_le h2 (Nat.pow_le_pow_right (n := 2) (by decide) z)) q
      · exact z
theorem x5_inD (x : Int32) : f_X5_in x 48 52 = some (if x < 48 ∨ 52 < x then 0 else 1) := x5_in x 48 52
theorem x5_stepG {S : St} {c f i : Nat} {a r : Int32} {k : Int32 × Int32 × Int32 × St → Option (Int32 × St)} (hr : (0 : Int32) ≤ r) (hc : S 0 0 = nI c) (hi : f + i < c) (hc20 : c ≤ 20) (hg : ∀ j, j < i + 1 → goodG (S 1) f j) : F_X5_faultOf_23 4096 k (1, lastC (S 1) f i, nI (f + i), st3 S a r (nI (gS (S 1) f i))) = k (1, lastC (S 1) f (i + 1), nI (f + (i + 1)), st3 S a r (nI (gS (S 1) f (i + 1)))) := by
  show FB_X5_faultOf_23 4096 k 1 (lastC (S 1) f i) (nI (f + i)) (st3 S a r (nI (gS (S 1) f i))) = _
  have hlt : ¬ nI c ≤ nI (f + i) := nI_ge (by omega) (by omega)
  have hrn : ¬ r < 0 := Int32.not_lt.mpr hr
  obtain ⟨g1, g2⟩ := hg i (Nat.lt_succ_self i)
  have hd := isD_iff.mp g1
  obtain ⟨t, ht, e⟩ := g1
  have hdg := dgN_of ht e
  have hl : (nI t ≤ lastC (S 1) f i) = False := by
    rw [last_lt (fun j hj => hg j (by omega)) ht]
    exact eq_false (fun q => q (by rw [← hdg]; exact g2))
  simp only [FB_X5_faultOf_23, B_X5_faultOf_84, B_X5_faultOf_115, B_X5_faultOf_138, st3_0 S _ _ _ (show 0 < 10 by decide), st3_k S _ _ _ (show 1 ≠ 0 by decide), st3_10, st3_11, st3_12, hc, hlt, hr, hrn, gd_t (ix_n (show f + i < 20 by omega) (by decide)), nI_clamp (show f + i < 2 ^ 31 by omega), bd_s, z01, x5_inD, hd, ↓reduceIte]
  simp only [e, sub48, hl, ↓reduceIte, st3_g, pa_shl t (by omega), pa_or, nI_1]
  rw [show gS (S 1) f (i + 1) = gS (S 1) f i ||| 2 ^ t from by rw [← hdg]; rfl, show lastC (S 1) f (i + 1) = nI t from by rw [← hdg]; rfl, Nat.add_assoc]
/-- ... and where they stop -/
theorem x5_exitG {S : St} {c f n : Nat} {a r : Int32} {k : Int32 × Int32 × Int32 × St → Option (Int32 × St)} (hr : (0 : Int32) ≤ r) (hc : S 0 0 = nI c) (hn : f + n ≤ c) (hc20 : c ≤ 20) (hg : ∀ j, j < n → goodG (S 1) f j) (he : f + n = c ∨ ¬ goodG (S 1) f n) : F_X5_faultOf_23 4096 k (1, lastC (S 1) f n, nI (f + n), st3 S a r (nI (gS (S 1) f n))) = some (if f + n = c then (if gS (S 1) f n = 0 then nI c else -6) else nI (f + n), st3 S a r (nI (gS (S 1) f n))) := by
  show FB_X5_faultOf_23 4096 k 1 (lastC (S 1) f n) (nI (f + n)) (st3 S a r (nI (gS (S 1) f n))) = _
  have hrn : ¬ r < 0 := Int32.not_lt.mpr hr
  have hgl := gS_lt (i := n) hg
  rcases Nat.lt_or_ge (f + n) c with hlt | hge
  · have hl : ¬ nI c ≤ nI (f + n) := nI_ge hlt (by omega)
    have hb : ¬ goodG (S 1) f n := by rcases he with he | he; (· omega); exact he
    rw [if_neg (show ¬ f + n = c by omega)]
    by_cases hD : isD (S 1) f n
    · have hd := isD_iff.mp hD
      obtain ⟨t, ht, e⟩ := hD
      have hdg := dgN_of ht e
      have hll : (nI t ≤ lastC (S 1) f n) = True := by
        rw [last_lt hg ht]
        exact eq_true (fun q => hb ⟨⟨t, ht, e⟩, by rw [hdg]; exact q⟩)
      simp only [FB_X5_faultOf_23, B_X5_faultOf_84, B_X5_faultOf_115, B_X5_faultOf_138, st3_0 S _ _ _ (show 0 < 10 by decide), st3_k S _ _ _ (show 1 ≠ 0 by decide), st3_10, st3_11, st3_12, hc, hl, hr, hrn, gd_t (ix_n (show f + n < 20 by omega) (by decide)), nI_clamp (show f + n < 2 ^ 31 by omega), bd_s, z01, x5_inD, hd, ↓reduceIte]
      simp only [e, sub48, hll, ↓reduceIte]
    · have hd : S 1 (f + n) < 48 ∨ 52 < S 1 (f + n) := Classical.not_not.mp (fun q => hD (isD_iff.mpr q))
      simp only [FB_X5_faultOf_23, B_X5_faultOf_84, B_X5_faultOf_115, B_X5_faultOf_138, st3_0 S _ _ _ (show 0 < 10 by decide), st3_k S _ _ _ (show 1 ≠ 0 by decide), st3_10, st3_11, st3_12, hc, hl, hr, hrn, gd_t (ix_n (show f + n < 20 by omega) (by decide)), nI_clamp (show f + n < 2 ^ 31 by omega), bd_s, z01, x5_inD, hd, ↓reduceIte]
  · have e : f + n = c := by omega
    have w := nI_0n (show gS (S 1) f n < 2 ^ 31 by omega)
    have hl2 : nI c ≤ nI c := nI_le (Nat.le_refl c) (by omega)
    rw [e]
    by_cases g0 : gS (S 1) f n = 0
    · simp only [FB_X5_faultOf_23, st3_0 S _ _ _ (show 0 < 10 by decide), st3_11, st3_12, hc, hl2, hrn, z01, w, g0, ↓reduceIte]
      rw [if_pos (show nI 0 = 0 from rfl)]
    · simp only [FB_X5_faultOf_23, B_X5_faultOf_215, st3_0 S _ _ _ (show 0 < 10 by decide), st3_11, st3_12, hc, hl2, hrn, z01, w, g0, bd_s, st3_g, ↓reduceIte]
