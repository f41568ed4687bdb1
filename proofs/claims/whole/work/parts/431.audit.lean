/-! audit -/
def mx (a b : Nat) : Nat := if a < b then b else a
def auS (K : Nat → Nat → Nat) (p q : Nat) (X : (Nat → Nat) × (Nat → Nat)) : (Nat → Nat) × (Nat → Nat) := if 0 < X.1 p ∧ K 9 (6 * p + q) ≠ 9 then (cup X.1 q (X.1 q + X.1 p), cup X.2 q (mx (X.2 q) (X.2 p + 1))) else X
def auI (K : Nat → Nat → Nat) (p : Nat) (X : (Nat → Nat) × (Nat → Nat)) : Nat → (Nat → Nat) × (Nat → Nat)
  | 0 => X
  | q + 1 => auS K p q (auI K p X q)
def auO (K : Nat → Nat → Nat) (w : Nat) : Nat → (Nat → Nat) × (Nat → Nat)
  | 0 => (fun j => if j = w then 1 else 0, fun _ => 0)
  | i + 1 => auI K (w - i) (auO K w i) (w - i)
def auG (i b : Nat) (X : (Nat → Nat) × (Nat → Nat)) : Prop := ∀ j, (b.testBit j = true ↔ 0 < X.1 j) ∧ (X.1 j = 0 → X.2 j = 0) ∧ X.1 j ≤ 2 ^ i ∧ X.2 j ≤ i
def auH (i q b : Nat) (X : (Nat → Nat) × (Nat → Nat)) : Prop := ∀ j, (b.testBit j = true ↔ 0 < X.1 j) ∧ (X.1 j = 0 → X.2 j = 0) ∧ X.1 j ≤ 2 ^ (i + 1) ∧ X.2 j ≤ i + 1 ∧ (q ≤ j → X.1 j ≤ 2 ^ i ∧ X.2 j ≤ i)
theorem mx_le {a b c : Nat} (h1 : a ≤ c) (h2 : b ≤ c) : mx a b ≤ c := by unfold mx; split <;> assumption
theorem auH_0 {i b : Nat} {X : (Nat → Nat) × (Nat → Nat)} (h : auG i b X) : auH i 0 b X := fun j => by
  obtain ⟨h1, h2, h3, h4⟩ := h j
  have e : 2 ^ (i + 1) = 2 ^ i * 2 := Nat.pow_succ ..
  exact ⟨h1, h2, by omega, by omega, fun _ => ⟨h3, h4⟩⟩
theorem auH_s {K : Nat → Nat → Nat} {i p q b : Nat} {X : (Nat → Nat) × (Nat → Nat)} (hK : okK K) (hp : p < 6) (hq : q < p) (h : auH i q b X) : auH i (q + 1) (if b.testBit p = true ∧ K 9 (6 * p + q) ≤ 3 then b ||| 2 ^ q else b) (auS K p q X) := by
  have hk := kK hK (show 6 * p + q < 36 by omega)
  have e : 2 ^ (i + 1) = 2 ^ i * 2 := Nat.pow_succ ..
  have hpp := h p
  have hqq := h q
  intro j
  obtain ⟨h1, h2, h3, h4, h5⟩ := h j
  unfold auS
  by_cases c : 0 < X.1 p ∧ K 9 (6 * p + q) ≠ 9
  · rw [if_pos c, if_pos ⟨hpp.1.mpr c.1, by omega⟩]
    show ((b ||| 2 ^ q).testBit j = true ↔ 0 < cup X.1 q (X.1 q + X.1 p) j) ∧ (cup X.1 q (X.1 q + X.1 p) j = 0 → cup X.2 q (mx (X.2 q) (X.2 p + 1)) j = 0) ∧ cup X.1 q (X.1 q + X.1 p) j ≤ 2 ^ (i + 1) ∧ cup X.2 q (mx (X.2 q) (X.2 p + 1)) j ≤ i + 1 ∧ (q + 1 ≤ j → cup X.1 q (X.1 q + X.1 p) j ≤ 2 ^ i ∧ cup X.2 q (mx (X.2 q) (X.2 p + 1)) j ≤ i)
    unfold cup
    by_cases d : j = q
    · subst d
      have g1 := hpp.2.2.2.2 (by omega)
      have g2 := hqq.2.2.2.2 (by omega)
      rw [if_pos rfl, if_pos rfl]
      refine ⟨⟨fun _ => by omega, fun _ => ?_⟩, fun z => by omega, by omega, mx_le (by omega) (by omega), fun z => by omega⟩
      rw [Nat.testBit_or, Nat.testBit_two_pow_self, Bool.or_true]
    · rw [if_neg d, if_neg d, bit_or_pow (Ne.symm d)]
      exact ⟨h1, h2, h3, h4, fun z => h5 (by omega)⟩
  · rw [if_neg c, if_neg (fun z => c ⟨hpp.1.mp z.1, by omega⟩)]
    exact ⟨h1, h2, h3, h4, fun z => h5 (by omega)⟩
theorem auH_i {K : Nat → Nat → Nat} {i p b : Nat} {X : (Nat → Nat) × (Nat → Nat)} (hK : okK K) (hp : p < 6) (h : auG i b X) : ∀ q, q ≤ p → auH i q (rqS K 3 p b q) (auI K p X q)
  | 0, _ => auH_0 h
  | q + 1, hq => auH_s hK hp (by omega) (auH_i hK hp h q (by omega))
theorem auG_o {K : Nat → Nat → Nat} {w : Nat} (hK : okK K) (hw : w < 6) : ∀ i, i ≤ w → auG i (rpS K 3 w i) (auO K w i)
  | 0, _ => fun j => by
    show ((2 ^ w).testBit j = true ↔ 0 < (if j = w then 1 else 0)) ∧ ((if j = w then 1 else 0) = 0 → 0 = 0) ∧ (if j = w then 1 else 0) ≤ 2 ^ 0 ∧ 0 ≤ 0
    rw [Nat.testBit_two_pow]
    by_cases e : j = w
    · rw [if_pos e]; simp [e]
    · rw [if_neg e]; simp; omega
  | i + 1, h => fun j => by
    have hg := auH_i hK (show w - i < 6 by omega) (auG_o hK hw i (by omega)) (w - i) (Nat.le_refl _) j
    exact ⟨hg.1, hg.2.1, hg.2.2.1, hg.2.2.2.1⟩
theorem pw2_le {i : Nat} (h : i ≤ 6) : 2 ^ i ≤ 64 := Nat.pow_le_pow_right (n := 2) (by decide) h
theorem auH_b {i q b : Nat} {X : (Nat → Nat) × (Nat → Nat)} (hi : i ≤ 5) (h : auH i q b X) (j : Nat) : X.1 j ≤ 64 ∧ X.2 j ≤ 6 := by
  have := h j
  have e := pw2_le (show i + 1 ≤ 6 by omega)
  omega
theorem it_e6 {α : Type} {n : Nat} {x y : α} (h : n < 4 ∨ n = 9) : (if ev 9 n = -6 then x else y) = if n = 9 then x else y := by
  by_cases e : n = 9
  · subst e; rfl
  · rw [if_neg e, ev_n (by omega), if_neg (nI_ne6 (by omega))]
theorem it_e0 {α : Type} {n : Nat} {x y : α} (h : n < 4 ∨ n = 9) : (if ev 9 n < 0 then x else y) = if n = 9 then x else y := by
  by_cases e : n = 9
  · subst e; rfl
  · rw [if_neg e, ev_n (by omega), if_neg (nI_pos (by omega))]
/-- the class's rows -/
def auU (S : St) (X : (Nat → Nat) × (Nat → Nat)) (i : Nat) : St := fun k j => if k = 19 ∧ j < i then nI (X.2 j) else if k = 20 ∧ j < i then nI (X.1 j) else S k j
theorem auU_n {S : St} {X : (Nat → Nat) × (Nat → Nat)} {i k : Nat} (h : k ≠ 19) (h2 : k ≠ 20) : auU S X i k = S k := by funext j; unfold auU; rw [if_neg (fun q => h q.1), if_neg (fun q => h2 q.1)]
theorem auU_19 {S : St} {X : (Nat → Nat) × (Nat → Nat)} {j : Nat} (h : j < 6) : auU S X 6 19 j = nI (X.2 j) := by unfold auU; rw [if_pos ⟨rfl, h⟩]
theorem auU_20 {S : St} {X : (Nat → Nat) × (Nat → Nat)} {j : Nat} (h : j < 6) : auU S X 6 20 j = nI (X.1 j) := by unfold auU; rw [if_neg (by omega), if_pos ⟨rfl, h⟩]
theorem auU_s {S : St} {X : (Nat → Nat) × (Nat → Nat)} {i : Nat} : sto (sto (auU S X i) 19 i (nI (X.2 i))) 20 i (nI (X.1 i)) = auU S X (i + 1) := by
  funext k j
  rw [sto_at, sto_at]
  unfold auU
  by_cases e : k = 20 ∧ j = i
  · rw [if_pos e, if_neg (by omega), if_pos (by omega), e.2]
  · rw [if_neg e]
    by_cases e2 : k = 19 ∧ j = i
    · rw [if_pos e2, if_pos (by omega), e2.2]
    · rw [if_neg e2]
      by_cases d : k = 19 ∧ j < i
      · rw [if_pos d, if_pos (by omega)]
      · rw [if_neg d, if_neg (show ¬ (k = 19 ∧ j < i + 1) by omega)]
        by_cases d2 : k = 20 ∧ j < i
        · rw [if_pos d2, if_pos (by omega)]
        · rw [if_neg d2, if_neg (show ¬ (k = 20 ∧ j < i + 1) by omega)]
theorem auU_up {S : St} {X : (Nat → Nat) × (Nat → Nat)} {q a b : Nat} (hq : q < 6) : sto (sto (auU S X 6) 20 q (nI a)) 19 q (nI b) = auU S (cup X.1 q a, cup X.2 q b) 6 := by
  funext k j
  rw [sto_at, sto_at]
  unfold auU
  show _ = if k = 19 ∧ j < 6 then nI (cup X.2 q b j) else if k = 20 ∧ j < 6 then nI (cup X.1 q a j) else S k j
  unfold cup
  by_cases e : k = 19 ∧ j = q
  · rw [if_pos e, if_pos (by omega), if_pos e.2]
  · rw [if_neg e]
    by_cases e2 : k = 20 ∧ j = q
    · rw [if_pos e2, if_neg (by omega), if_pos (by omega), if_pos e2.2]
    · rw [if_neg e2]
      by_cases d : k = 19 ∧ j < 6
      · rw [if_pos d, if_pos d, if_neg (by omega)]
      · rw [if_neg d, if_neg d]
        by_cases d2 : k = 20 ∧ j < 6
        · rw [if_pos d2, if_pos d2, if_neg (by omega)]
        · rw [if_neg d2, if_neg d2]
theorem mx_it {a b : Nat} (ha : a < 2 ^ 31) (hb : b < 2 ^ 31) : (if nI a < nI b then nI b else nI a) = nI (mx a b) := by
  rw [it_lt ha hb]; unfold mx; split <;> rfl
theorem x3_w57 {K : Nat → Nat → Nat} {S : St} {X : (Nat → Nat) × (Nat → Nat)} {p q : Nat} (hK : okK K) (h : webOK K S) (hp : p < 6) (hq : q < p) (hb : ∀ j, X.1 j ≤ 64 ∧ X.2 j ≤ 6) (k51 : Int32 × St → Option St) (k : Int32 × Int32 × St → Option St) : FB_X3_walk_57 4096 k51 k (nI p) (nI q) (auU S X 6) = k (nI p, nI (q + 1), auU S (auS K p q X) 6) := by
  have hu : 6 * p + q < 36 := by omega
  have hbp := hb p
  have hbq := hb q
  have s21 : auU S X 6 21 (6 * p + q) = ev 9 (K 9 (6 * p + q)) := by rw [auU_n (by decide) (by decide)]; exact h.2.2.2.2.2.2.2.2.2 _ hu
  have n19 : ∀ v j, j < 6 → sto (auU S X 6) 20 q v 19 j = nI (X.2 j) := fun v j hj => by rw [sto_n (by decide), auU_19 hj]
  unfold FB_X3_walk_57 f_X4_use
  have hq6 : q < 6 := by omega
  simp only [if_neg (nI_ge hq (show p < 2 ^ 31 by omega)), gd_t (ix_n hp (show 6 ≤ 65536 by decide)), nI_clamp (show p < 2 ^ 31 by omega), i6', bd_s, gd_t (ix_n hu (show 36 ≤ 65536 by decide)), nI_clamp (show 6 * p + q < 2 ^ 31 by omega), gd_t (ix_n hq6 (show 6 ≤ 65536 by decide)), nI_clamp (show q < 2 ^ 31 by omega), auU_20 hp, auU_20 hq6, nI_1]
  rw [it_le0 (by omega), s21, it_e6 (kK hK hu), nI_add, n19 _ q hq6, n19 _ p hp, nI_1, mx_it (by omega) (by omega), auU_up hq6]
  unfold auS
  by_cases e : X.1 p = 0
  · rw [if_pos e, if_neg (by omega)]
  · rw [if_neg e]
    by_cases d : K 9 (6 * p + q) = 9
    · rw [if_pos d, if_neg (fun z => z.2 d)]
    · rw [if_neg d, if_pos ⟨by omega, d⟩]
theorem x3_walk {K : Nat → Nat → Nat} {S : St} (hK : okK K) (h : webOK K S) : f_X3_walk 4096 S = some (auU S (auO K (K 0 9) (K 0 9)) 6) := by
  have hw := kWh hK
  unfold f_X3_walk
  have st := lp_run (F := F_X3_walk_2 4096) (res := some (auU S (auO K (K 0 9) (K 0 9)) 6)) (fun i => (nI i, auU S (auO K (K 0 9) 0) i)) 6 4096 (by decide) (fun i hi k => ?_) (fun k => ?_)
  · have e0 : auU S (auO K (K 0 9) 0) 0 = S := by funext k j; unfold auU; rw [if_neg (by omega), if_neg (by omega)]
    rw [e0] at st
    exact st
  · show FB_X3_walk_2 4096 k (nI i) (auU S (auO K (K 0 9) 0) i) = k (nI (i + 1), auU S (auO K (K 0 9) 0) (i + 1))
    have h6 : ¬ (6 : Int32) ≤ nI i := nI_ge (a := i) (b := 6) hi (by decide)
    have s29 : sto (auU S (auO K (K 0 9) 0) i) 19 i 0 2 9 = nI (K 0 9) := by rw [sto_n (by decide), auU_n (by decide) (by decide)]; exact h.1
    rw [← auU_s]
    unfold FB_X3_walk_2
    simp only [if_neg h6, gd_t (ix_n hi (show 6 ≤ 65536 by decide)), nI_clamp (show i < 2 ^ 31 by omega), bd_s, nI_1]
    rw [s29, it_eq (by omega) (by omega)]
    show _ = k (nI (i + 1), sto (sto (auU S (auO K (K 0 9) 0) i) 19 i 0) 20 i (nI (if i = K 0 9 then 1 else 0)))
    by_cases e : i = K 0 9
    · rw [if_pos e, if_pos e]; rfl
    · rw [if_neg e, if_neg e]; rfl
  · show FB_X3_walk_2 4096 k (nI 6) (auU S (auO K (K 0 9) 0) 6) = _
    have s29 : ∀ X, auU S X 6 2 9 = nI (K 0 9) := fun X => by rw [auU_n (by decide) (by decide)]; exact h.1
    unfold FB_X3_walk_2
    rw [if_pos (by decide), s29, bd_s]
    refine lp_run (F := F_X3_walk_51 4096) (fun i => (nI (K 0 9 - i), auU S (auO K (K 0 9) i) 6)) (K 0 9) 4096 (by omega) (fun i hi k51 => ?_) (fun k51 => ?_)
    · show FB_X3_walk_51 4096 k51 (nI (K 0 9 - i)) (auU S (auO K (K 0 9) i) 6) = k51 (nI (K 0 9 - (i + 1)), auU S (auI K (K 0 9 - i) (auO K (K 0 9) i) (K 0 9 - i)) 6)
      have hg := auG_o hK hw i (by omega)
      generalize rpS K 3 (K 0 9) i = b at hg
      generalize auO K (K 0 9) i = X at hg ⊢
      obtain ⟨p, hp⟩ : ∃ p, p = K 0 9 - i := ⟨_, rfl⟩
      have hp1 : 0 < p := by omega
      have hp6 : p < 6 := by omega
      rw [show K 0 9 - (i + 1) = p - 1 by omega, ← hp]
      unfold FB_X3_walk_51
      rw [if_neg (nI_nle hp1 (by omega))]
      refine lp_run (F := F_X3_walk_57 4096 k51) (fun q => (nI p, nI q, auU S (auI K p X q) 6)) p 4096 (by omega) (fun q hq k57 => ?_) (fun k57 => ?_)
      · show FB_X3_walk_57 4096 k51 k57 (nI p) (nI q) (auU S (auI K p X q) 6) = k57 (nI p, nI (q + 1), auU S (auS K p q (auI K p X q)) 6)
        exact x3_w57 hK h hp6 hq (auH_b (by omega) (auH_i hK hp6 hg q (by omega))) k51 k57
      · show FB_X3_walk_57 4096 k51 k57 (nI p) (nI p) (auU S (auI K p X p) 6) = _
        unfold FB_X3_walk_57
        rw [if_pos (nI_le (Nat.le_refl p) (by omega)), m1 hp1]
    · show FB_X3_walk_51 4096 k51 (nI (K 0 9 - K 0 9)) (auU S (auO K (K 0 9) (K 0 9)) 6) = _
      unfold FB_X3_walk_51
      rw [if_pos (by rw [Nat.sub_self]; decide)]
/-- the model's rows -/
def lgM (X : (Nat → Nat) × (Nat → Nat)) (j : Nat) : Int32 := if X.1 j = 0 then -6 else nI (X.2 j)
def auM (S : St) (X : (Nat → Nat) × (Nat → Nat)) (i : Nat) : St := fun k j => if k = 14 ∧ j < i then lgM X j else if k = 15 ∧ j < i then nI (X.1 j) else S k j
theorem auM_n {S : St} {X : (Nat → Nat) × (Nat → Nat)} {i k : Nat} (h : k ≠ 14) (h2 : k ≠ 15) : auM S X i k = S k := by funext j; unfold auM; rw [if_neg (fun q => h q.1), if_neg (fun q => h2 q.1)]
theorem auM_14 {S : St} {X : (Nat → Nat) × (Nat → Nat)} {j : Nat} (h : j < 6) : auM S X 6 14 j = lgM X j := by unfold auM; rw [if_pos ⟨rfl, h⟩]
theorem auM_15 {S : St} {X : (Nat → Nat) × (Nat → Nat)} {j : Nat} (h : j < 6) : auM S X 6 15 j = nI (X.1 j) := by unfold auM; rw [if_neg (by omega), if_pos ⟨rfl, h⟩]
theorem auM_s {S : St} {X : (Nat → Nat) × (Nat → Nat)} {i : Nat} : sto (sto (auM S X i) 14 i (lgM X i)) 15 i (nI (X.1 i)) = auM S X (i + 1) := by
  funext k j
  rw [sto_at, sto_at]
  unfold auM
  by_cases e : k = 15 ∧ j = i
  · rw [if_pos e, if_neg (by omega), if_pos (by omega), e.2]
  · rw [if_neg e]
    by_cases e2 : k = 14 ∧ j = i
    · rw [if_pos e2, if_pos (by omega), e2.2]
    · rw [if_neg e2]
      by_cases d : k = 14 ∧ j < i
      · rw [if_pos d, if_pos (by omega)]
      · rw [if_neg d, if_neg (show ¬ (k = 14 ∧ j < i + 1) by omega)]
        by_cases d2 : k = 15 ∧ j < i
        · rw [if_pos d2, if_pos (by omega)]
        · rw [if_neg d2, if_neg (show ¬ (k = 15 ∧ j < i + 1) by omega)]
theorem auM_up {S : St} {X : (Nat → Nat) × (Nat → Nat)} {q a b : Nat} (hq : q < 6) (ha : 0 < a) : sto (sto (auM S X 6) 14 q (nI b)) 15 q (nI a) = auM S (cup X.1 q a, cup X.2 q b) 6 := by
  funext k j
  rw [sto_at, sto_at]
  unfold auM lgM
  show _ = if k = 14 ∧ j < 6 then (if cup X.1 q a j = 0 then -6 else nI (cup X.2 q b j)) else if k = 15 ∧ j < 6 then nI (cup X.1 q a j) else S k j
  unfold cup
  by_cases e : k = 15 ∧ j = q
  · rw [if_pos e, if_neg (by omega), if_pos (by omega), if_pos e.2]
  · rw [if_neg e]
    by_cases e2 : k = 14 ∧ j = q
    · rw [if_pos e2, if_pos (by omega), if_pos e2.2, if_neg (by omega), if_pos e2.2]
    · rw [if_neg e2]
      by_cases d : k = 14 ∧ j < 6
      · rw [if_pos d, if_pos d, if_neg (show ¬ j = q by omega), if_neg (show ¬ j = q by omega)]
      · rw [if_neg d, if_neg d]
        by_cases d2 : k = 15 ∧ j < 6
        · rw [if_pos d2, if_pos d2, if_neg (by omega)]
        · rw [if_neg d2, if_neg d2]
theorem it_lg0 {α : Type} {X : (Nat → Nat) × (Nat → Nat)} {j : Nat} {x y : α} (h : X.2 j < 2 ^ 31) : (if lgM X j < 0 then x else y) = if X.1 j = 0 then x else y := by
  unfold lgM
  by_cases e : X.1 j = 0
  · rw [if_pos e, if_pos e, if_pos (by decide)]
  · rw [if_neg e, if_neg e, if_neg (nI_pos h)]
theorem it_lg1 {α : Type} {X : (Nat → Nat) × (Nat → Nat)} {j : Nat} {x y : α} (h : X.2 j < 2 ^ 31) : (if 0 ≤ lgM X j then x else y) = if X.1 j = 0 then y else x := by
  unfold lgM
  by_cases e : X.1 j = 0
  · rw [if_pos e, if_pos e, if_neg (by decide)]
  · rw [if_neg e, if_neg e, if_pos (nI_pos' h)]
theorem ev_neg {a : Nat} (h : a < 2 ^ 31) : ¬ nI a ≤ -6 := fun q => by
  have e := Int32.le_iff_toInt_le.mp q
  rw [nI_toInt h] at e
  have e2 : (-6 : Int32).toInt = -6 := rfl
  omega
theorem x5_a86 {K : Nat → Nat → Nat} {S : St} {X : (Nat → Nat) × (Nat → Nat)} {p q : Nat} {x1 x2 : Int32} (hK : okK K) (h7 : ∀ u, u < 36 → S 7 u = ev 9 (K 9 u)) (hp : p < 6) (hq : q < p) (hb : ∀ j, X.1 j ≤ 64 ∧ X.2 j ≤ 6) (hz : ∀ j, X.1 j = 0 → X.2 j = 0) (k79 : Int32 × Int32 × Int32 × St → Option (Int32 × St)) (k : Int32 × Int32 × Int32 × Int32 × St → Option (Int32 × St)) : FB_X5_audit_86 4096 k79 k x1 x2 (nI p) (nI q) (auM S X 6) = k (x1, x2, nI p, nI (q + 1), auM S (auS K p q X) 6) := by
  have hu : 6 * p + q < 36 := by omega
  have hbp := hb p
  have hbq := hb q
  have s7 : auM S X 6 7 (6 * p + q) = ev 9 (K 9 (6 * p + q)) := by rw [auM_n (by decide) (by decide)]; exact h7 _ hu
  have n15 : ∀ v j, j < 6 → sto (auM S X 6) 14 q v 15 j = nI (X.1 j) := fun v j hj => by rw [sto_n (by decide), auM_15 hj]
  have hq6 : q < 6 := by omega
  unfold FB_X5_audit_86
  simp only [if_neg (nI_ge hq (show p < 2 ^ 31 by omega)), gd_t (ix_n hp (show 6 ≤ 65536 by decide)), nI_clamp (show p < 2 ^ 31 by omega), i6, gd_t (ix_n hu (show 36 ≤ 65536 by decide)), nI_clamp (show 6 * p + q < 2 ^ 31 by omega), gd_t (ix_n hq6 (show 6 ≤ 65536 by decide)), nI_clamp (show q < 2 ^ 31 by omega), auM_14 hp, auM_14 hq6]
  rw [it_lg0 (by omega), s7, it_e0 (kK hK hu)]
  unfold auS
  by_cases e : X.1 p = 0
  · rw [if_pos e, if_neg (by omega), nI_1]
  · rw [if_neg e]
    by_cases d : K 9 (6 * p + q) = 9
    · rw [if_pos d, if_neg (fun z => z.2 d), nI_1]
    · have lp : lgM X p = nI (X.2 p) := by unfold lgM; rw [if_neg e]
      have eb : ∀ z b, z = nI b → B_X5_audit_158 4096 k79 k x1 x2 (nI p) (nI q) z (nI q) (auM S X 6) = k (x1, x2, nI p, nI (q + 1), auM S (cup X.1 q (X.1 q + X.1 p), cup X.2 q b) 6) := fun z b hzb => by
        subst hzb
        unfold B_X5_audit_158
        simp only [gd_t (ix_n hq6 (show 6 ≤ 65536 by decide)), nI_clamp (show q < 2 ^ 31 by omega), bd_s, gd_t (ix_n hp (show 6 ≤ 65536 by decide)), nI_clamp (show p < 2 ^ 31 by omega)]
        rw [n15 _ q hq6, n15 _ p hp, nI_add, auM_up hq6 (by omega), nI_1]
      rw [if_neg d, if_pos (show 0 < X.1 p ∧ K 9 (6 * p + q) ≠ 9 from ⟨by omega, d⟩), lp, nI_1]
      by_cases w : X.1 q = 0
      · have lq : lgM X q = -6 := by unfold lgM; rw [if_pos w]
        have l0 := hz q w
        rw [lq, if_neg (ev_neg (by omega)), eb _ _ rfl]
        have em : mx (X.2 q) (X.2 p + 1) = X.2 p + 1 := by unfold mx; rw [if_pos (by omega)]
        rw [em]
      · have lq : lgM X q = nI (X.2 q) := by unfold lgM; rw [if_neg w]
        rw [lq, it_le (by omega) (by omega)]
        by_cases g : X.2 p + 1 ≤ X.2 q
        · have em : mx (X.2 q) (X.2 p + 1) = X.2 q := by unfold mx; rw [if_neg (by omega)]
          rw [if_pos g, eb _ _ rfl, em]
        · have em : mx (X.2 q) (X.2 p + 1) = X.2 p + 1 := by unfold mx; rw [if_pos (by omega)]
          rw [if_neg g, eb _ _ rfl, em]
def auA (K : Nat → Nat → Nat) (p w : Nat) : Int32 := if (rch K 3).testBit p = true then (if w = 0 then nI ((auO K (K 0 9) (K 0 9)).2 p) else nI ((auO K (K 0 9) (K 0 9)).1 p)) else -6
theorem au_fin {K : Nat → Nat → Nat} (hK : okK K) (j : Nat) : ((rch K 3).testBit j = true ↔ 0 < (auO K (K 0 9) (K 0 9)).1 j) ∧ (auO K (K 0 9) (K 0 9)).1 j ≤ 64 ∧ (auO K (K 0 9) (K 0 9)).2 j ≤ 6 := by
  have hw := kWh hK
  have h := auG_o hK hw (K 0 9) (Nat.le_refl _) j
  have e := pw2_le (show K 0 9 ≤ 6 by omega)
  exact ⟨h.1, by omega, by omega⟩
theorem x5_audl {K : Nat → Nat → Nat} {S : St} {p0 w0 : Nat} (hK : okK K) (hR : rep K (vM S)) (hp0 : p0 < 6) (hw0 : w0 ≤ 1) : lpI (F_X5_audit_23 4096) 4096 (nI p0, nI w0, 0, S) = some (auA K p0 w0, auM S (auO K (K 0 9) (K 0 9)) 6) := by
  have hw := kWh hK
  have st := lp_run (F := F_X5_audit_23 4096) (res := some (auA K p0 w0, auM S (auO K (K 0 9) (K 0 9)) 6)) (fun i => (nI p0, nI w0, nI i, auM S (auO K (K 0 9) 0) i)) 6 4096 (by decide) (fun i hi k => ?_) (fun k => ?_)
  · have e0 : auM S (auO K (K 0 9) 0) 0 = S := by funext k j; unfold auM; rw [if_neg (by omega), if_neg (by omega)]
    rw [e0] at st
    exact st
  · show FB_X5_audit_23 4096 k (nI p0) (nI w0) (nI i) (auM S (auO K (K 0 9) 0) i) = k (nI p0, nI w0, nI (i + 1), auM S (auO K (K 0 9) 0) (i + 1))
    have h6 : ¬ (6 : Int32) ≤ nI i := nI_ge (a := i) (b := 6) hi (by decide)
    have s08 : auM S (auO K (K 0 9) 0) i 0 8 = nI (K 0 9) := by rw [auM_n (by decide) (by decide)]; exact mWh hR
    have s08' : ∀ v, sto (auM S (auO K (K 0 9) 0) i) 14 i v 0 8 = nI (K 0 9) := fun v => by rw [sto_n (by decide)]; exact s08
    rw [← auM_s]
    unfold FB_X5_audit_23 B_X5_audit_48
    simp only [if_neg h6, s08, gd_t (ix_n hi (show 6 ≤ 65536 by decide)), nI_clamp (show i < 2 ^ 31 by omega), bd_s, s08', nI_1, it_eq (show i < 2 ^ 31 by omega) (show K 0 9 < 2 ^ 31 by omega)]
    by_cases e : i = K 0 9
    · have a1 : (auO K (K 0 9) 0).1 i = 1 := if_pos e
      have a2 : lgM (auO K (K 0 9) 0) i = 0 := by unfold lgM; rw [a1]; rfl
      rw [if_pos e, if_pos e, a1, a2]; rfl
    · have a1 : (auO K (K 0 9) 0).1 i = 0 := if_neg e
      have a2 : lgM (auO K (K 0 9) 0) i = -6 := by unfold lgM; rw [a1]; rfl
      rw [if_neg e, if_neg e, a1, a2]; rfl
  · show FB_X5_audit_23 4096 k (nI p0) (nI w0) (nI 6) (auM S (auO K (K 0 9) 0) 6) = _
    have s08 : ∀ X, auM S X 6 0 8 = nI (K 0 9) := fun X => by rw [auM_n (by decide) (by decide)]; exact mWh hR
    unfold FB_X5_audit_23
    rw [if_pos (by decide), s08, bd_s]
    refine lp_run (F := F_X5_audit_79 4096) (fun i => (nI p0, nI w0, nI (K 0 9 - i), auM S (auO K (K 0 9) i) 6)) (K 0 9) 4096 (by omega) (fun i hi k79 => ?_) (fun k79 => ?_)
    · show FB_X5_audit_79 4096 k79 (nI p0) (nI w0) (nI (K 0 9 - i)) (auM S (auO K (K 0 9) i) 6) = k79 (nI p0, nI w0, nI (K 0 9 - (i + 1)), auM S (auI K (K 0 9 - i) (auO K (K 0 9) i) (K 0 9 - i)) 6)
      have hg := auG_o hK hw i (by omega)
      generalize rpS K 3 (K 0 9) i = b at hg
      generalize auO K (K 0 9) i = X at hg ⊢
      obtain ⟨p, hp⟩ : ∃ p, p = K 0 9 - i := ⟨_, rfl⟩
      have hp1 : 0 < p := by omega
      have hp6 : p < 6 := by omega
      rw [show K 0 9 - (i + 1) = p - 1 by omega, ← hp]
      unfold FB_X5_audit_79
      rw [if_neg (nI_nle hp1 (by omega))]
      refine lp_run (F := F_X5_audit_86 4096 k79) (fun q => (nI p0, nI w0, nI p, nI q, auM S (auI K p X q) 6)) p 4096 (by omega) (fun q hq k86 => ?_) (fun k86 => ?_)
      · show FB_X5_audit_86 4096 k79 k86 (nI p0) (nI w0) (nI p) (nI q) (auM S (auI K p X q) 6) = k86 (nI p0, nI w0, nI p, nI (q + 1), auM S (auS K p q (auI K p X q)) 6)
        have hh := auH_i hK hp6 hg q (by omega)
        exact x5_a86 hK (fun u hu => mK hR hu) hp6 hq (auH_b (by omega) hh) (fun j => (hh j).2.1) k79 k86
      · show FB_X5_audit_86 4096 k79 k86 (nI p0) (nI w0) (nI p) (nI p) (auM S (auI K p X p) 6) = _
        unfold FB_X5_audit_86
        rw [if_pos (nI_le (Nat.le_refl p) (by omega)), m1 hp1]
    · show FB_X5_audit_79 4096 k79 (nI p0) (nI w0) (nI (K 0 9 - K 0 9)) (auM S (auO K (K 0 9) (K 0 9)) 6) = _
      have hf := au_fin hK p0
      unfold FB_X5_audit_79
      rw [if_pos (by rw [Nat.sub_self]; decide)]
      simp only [gd_t (ix_n hp0 (show 6 ≤ 65536 by decide)), nI_clamp (show p0 < 2 ^ 31 by omega), auM_14 hp0, auM_15 hp0]
      rw [it_lg1 (by omega), it_0 (by omega)]
      unfold auA
      by_cases e : (auO K (K 0 9) (K 0 9)).1 p0 = 0
      · rw [if_pos e, if_neg (fun z => by have := hf.1.mp z; omega)]
      · have el : lgM (auO K (K 0 9) (K 0 9)) p0 = nI ((auO K (K 0 9) (K 0 9)).2 p0) := by unfold lgM; rw [if_neg e]
        rw [if_neg e, if_pos (hf.1.mpr (by omega)), el]
        by_cases q : w0 = 0
        · rw [if_pos q, if_pos q]
        · rw [if_neg q, if_neg q]
theorem auU_co {S : St} {X : (Nat → Nat) × (Nat → Nat)} {i : Nat} : coU S (auU S X i) := ⟨auU_n (by decide) (by decide), auU_n (by decide) (by decide), fun k _ _ => auU_n (by omega) (by omega), fun k _ _ => auU_n (by omega) (by omega), by rw [auU_n (by decide) (by decide)]⟩
theorem auM_co {S : St} {X : (Nat → Nat) × (Nat → Nat)} {i : Nat} : coM S (auM S X i) := by
  refine ⟨?_, ?_, ?_, fun k h1 h2 => auM_n (by omega) (by omega), fun j hj => ?_, auM_n (by decide) (by decide), auM_n (by decide) (by decide)⟩ <;> rw [auM_n (by decide) (by decide)]
theorem pu_21 : lp_21 4096 Rel := by
  intro x y Su Sm ⟨K, hR⟩
  have hK := hR.1
  rcases c_piece x with ⟨hu, hm⟩ | ⟨p, hp, rfl, hu, hm⟩
  · refine ⟨-1, Su, ?_, Sm, ?_, K, hR⟩
    · unfold f_X4_audit
      rw [hu, bd_s, if_pos rfl]
    · unfold f_X5_audit
      rw [hm, bd_s, if_pos rfl]
  · rcases c_in y 1 (by decide) with ⟨gu, gm⟩ | ⟨w, hw, rfl, gu, gm⟩
    · have gu : f_X4_within y 0 1 = some 0 := gu
      have gm : f_X5_in y 0 1 = some 0 := gm
      refine ⟨-2, Su, ?_, Sm, ?_, K, hR⟩
      · unfold f_X4_audit
        rw [hu, bd_s, if_neg z01, gu, bd_s, if_pos rfl]
      · unfold f_X5_audit
        rw [hm, bd_s, if_neg z01, gm, bd_s, if_pos rfl]
    · have gu : f_X4_within (nI w) 0 1 = some 1 := gu
      have gm : f_X5_in (nI w) 0 1 = some 1 := gm
      obtain ⟨e1, c1, w1⟩ := x3_spin hK hR.2.1
      have em : f_X5_audit 4096 (nI p) (nI w) Sm = some (auA K p w, auM Sm (auO K (K 0 9) (K 0 9)) 6) := by
        unfold f_X5_audit
        rw [hm, bd_s, if_neg z01, gm, bd_s, if_neg z01, x5_audl hK hR.2.2.1 hp hw]
      by_cases e : (rch K 3).testBit p = true
      · refine ⟨auA K p w, auU (spF K Su) (auO K (K 0 9) (K 0 9)) 6, ?_, _, em, K, RelK_co hR (coU_trans c1 auU_co) auM_co⟩
        unfold f_X4_audit
        rw [hu, bd_s, if_neg z01, gu, bd_s, if_neg z01, e1, bd_s, w1.2.1, x4_has (rch_lt 3 hK) (show p < 10 by omega), bd_s, it_b, if_pos e, x3_walk hK w1, bd_s, gd_t (ix_n hp (by decide)), gd_t (ix_n hp (by decide)), nI_clamp (show p < 2 ^ 31 by omega), auU_19 hp, auU_20 hp, it_0 (by omega)]
        unfold auA
        rw [if_pos e]
        by_cases q : w = 0
        · rw [if_pos q, if_pos q]
        · rw [if_neg q, if_neg q]
      · refine ⟨auA K p w, spF K Su, ?_, _, em, K, RelK_co hR c1 auM_co⟩
        unfold f_X4_audit
        rw [hu, bd_s, if_neg z01, gu, bd_s, if_neg z01, e1, bd_s, w1.2.1, x4_has (rch_lt 3 hK) (show p < 10 by omega), bd_s, it_b, if_neg e]
        unfold auA
        rw [if_neg e]
