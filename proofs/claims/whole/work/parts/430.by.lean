/-! by -/
def rwx (S : St) (r : Nat) (f : Nat → Int32) (i : Nat) : St := fun k j => if k = r ∧ j < i then f j else S k j
theorem rwx_n {S : St} {r : Nat} {f : Nat → Int32} {i k : Nat} (h : k ≠ r) : rwx S r f i k = S k := by funext j; unfold rwx; rw [if_neg (fun q => h q.1)]
theorem rwx_0 {S : St} {r : Nat} {f : Nat → Int32} : rwx S r f 0 = S := by funext k j; unfold rwx; rw [if_neg (by omega)]
theorem rwx_at {S : St} {r : Nat} {f : Nat → Int32} {i j : Nat} (h : j < i) : rwx S r f i r j = f j := by unfold rwx; rw [if_pos ⟨rfl, h⟩]
theorem rwx_s {S : St} {r : Nat} {f : Nat → Int32} {i : Nat} : sto (rwx S r f i) r i (f i) = rwx S r f (i + 1) := by
  funext k j
  rw [sto_at]
  unfold rwx
  by_cases e : k = r ∧ j = i
  · rw [if_pos e, if_pos (by omega), e.2]
  · rw [if_neg e]
    by_cases d : k = r ∧ j < i
    · rw [if_pos d, if_pos (by omega)]
    · rw [if_neg d, if_neg (by omega)]
theorem rwx_coU {S : St} {r : Nat} {f : Nat → Int32} {i : Nat} (h : r = 7 ∨ (18 ≤ r ∧ r < 29)) : coU S (rwx S r f i) := ⟨rwx_n (by omega), rwx_n (by omega), fun k _ _ => rwx_n (by omega), fun k _ _ => rwx_n (by omega), by rw [rwx_n (by omega)]⟩
theorem rwx_coM {S : St} {r : Nat} {f : Nat → Int32} {i : Nat} (h : 8 ≤ r ∧ r < 16) : coM S (rwx S r f i) := by
  refine ⟨?_, ?_, ?_, fun k h1 h2 => rwx_n (by omega), fun j hj => ?_, rwx_n (by omega), rwx_n (by omega)⟩ <;> rw [rwx_n (by omega)]
theorem web_rwx {K : Nat → Nat → Nat} {S : St} {r : Nat} {f : Nat → Int32} {i : Nat} (h : webOK K S) (hr : r = 7 ∨ r = 19 ∨ r = 20 ∨ (25 ≤ r ∧ r < 29)) : webOK K (rwx S r f i) := web_out h (fun k hk => rwx_n (by omega))
theorem mOK_rwx {K : Nat → Nat → Nat} {m : Nat} {S : St} {r : Nat} {f : Nat → Int32} {i : Nat} (h : mOK K m S) (hr : 10 ≤ r) : mOK K m (rwx S r f i) := by
  unfold mOK at *
  rw [rwx_n (by omega), rwx_n (by omega), rwx_n (by omega), rwx_n (by omega), rwx_n (by omega), rwx_n (by omega)]
  exact h
theorem q10_rwx {S : St} {c : Nat → Nat} : rwx S 10 (fun j => nI (c j)) 6 = q10 S c := rfl
def ask (w : Nat) : Nat := if w = 0 then 31 else if w = 1 then 22 else 4
def wy (w m : Nat) : Nat := m &&& ask w
theorem wy_lt {w m : Nat} (h : m < 32) : wy w m < 32 := Nat.lt_of_le_of_lt Nat.and_le_left h
theorem ask_lt (w : Nat) : ask w < 32 := by unfold ask; split; decide; split <;> decide
theorem x5_byWay : ∀ w, w < 3 → ∀ m, m < 32 → f_X5_byWay (nI m) (nI w) = some (nI (wy w m)) := by decide +kernel
theorem x3_askedBy : ∀ w, w < 3 → f_X3_askedBy (nI w) = some (nI (ask w)) := by decide +kernel
theorem rmz {K : Nat → Nat → Nat} {p t : Nat} : rm K 0 p t = rea K p t := by unfold rm; rw [Nat.zero_testBit]; cases rea K p t <;> rfl
theorem gm0 {K : Nat → Nat → Nat} {p t : Nat} : gm K 0 p t = gq K p t := gm_gq (Nat.zero_testBit p)
theorem am0 {K : Nat → Nat → Nat} {p t : Nat} : am K 0 p t = aq K p t := by unfold am aq; rw [rmz]
def rsN (K : Nat → Nat → Nat) (c : Nat → Nat) : Nat → Nat
  | 0 => 0
  | p + 1 => if rea K p (c p) = true then rsN K c p ||| 2 ^ p else rsN K c p
theorem rsN_s {K : Nat → Nat → Nat} {c : Nat → Nat} {p : Nat} : rsN K c (p + 1) = if rea K p (c p) = true then rsN K c p ||| 2 ^ p else rsN K c p := rfl
theorem x3_reachingBy {K : Nat → Nat → Nat} {S : St} {c : Nat → Nat} (hK : okK K) (h : webOK K S) (hc : ∀ p, p < 6 → c p < 5) (h28 : ∀ p, p < 6 → S 28 p = nI (c p)) : f_X3_reachingBy 4096 S = some (nI (rsN K c 6)) := by
  unfold f_X3_reachingBy
  refine lp_run (F := F_X3_reachingBy_4 4096 S) (fun i => (nI (rsN K c i), nI i)) 6 4096 (by decide) (fun p hp k => ?_) (fun k => ?_)
  · show FB_X3_reachingBy_4 4096 S k (nI (rsN K c p)) (nI p) = k (nI (rsN K c (p + 1)), nI (p + 1))
    have h6 : ¬ (6 : Int32) ≤ nI p := nI_ge (a := p) (b := 6) hp (by decide)
    unfold FB_X3_reachingBy_4
    rw [if_neg h6, gd_t (ix_n hp (by decide)), nI_clamp (show p < 2 ^ 31 by omega), h28 p hp, x3_reaches hK h.2.2.1 h.2.2.2.2.1 h.2.2.2.2.2.2.2.2.1 hp (hc p hp), bd_s, it_b, bd_s, pa_shl p (by omega), pa_or, nI_1, rsN_s]
    by_cases e : rea K p (c p) = true
    · rw [if_pos e, if_pos e]
    · rw [if_neg e, if_neg e]
  · show FB_X3_reachingBy_4 4096 S k (nI (rsN K c 6)) (nI 6) = _
    unfold FB_X3_reachingBy_4
    rw [if_pos (by decide)]
theorem x3_mayGoBy {K : Nat → Nat → Nat} {S : St} {c : Nat → Nat} (hK : okK K) (h : webOK K S) (hc : ∀ p, p < 6 → c p < 5) (h28 : ∀ p, p < 6 → S 28 p = nI (c p)) : f_X3_mayGoBy 4096 S = some (nI (mg K 0 c 6)) := by
  have hw := kWh hK
  unfold f_X3_mayGoBy
  rw [h.1, gd_t (ix_n hw (by decide)), nI_clamp (show K 0 9 < 2 ^ 31 by omega), h.2.2.2.1 _ hw, bd_s]
  refine lp_run (F := F_X3_mayGoBy_15 4096 S) (fun i => (nI (mg K 0 c i), nI i)) 6 4096 (by decide) (fun p hp k => ?_) (fun k => ?_)
  · show FB_X3_mayGoBy_15 4096 S k (nI (mg K 0 c p)) (nI p) = k (nI (mg K 0 c p &&& gm K 0 p (c p)), nI (p + 1))
    have h6 : ¬ (6 : Int32) ≤ nI p := nI_ge (a := p) (b := 6) hp (by decide)
    have hcp := hc p hp
    unfold FB_X3_mayGoBy_15 f_X3_offer
    rw [if_neg h6, gd_t (ix_n hp (by decide)), nI_clamp (show p < 2 ^ 31 by omega), h28 p hp, i5', bd_s, gd_t (ix_n (show 5 * p + c p < 30 by omega) (by decide)), nI_clamp (show 5 * p + c p < 2 ^ 31 by omega), h.2.2.2.2.2.1 p _ hp hcp, bd_s, pa_and, nI_1, gm0]
  · show FB_X3_mayGoBy_15 4096 S k (nI (mg K 0 c 6)) (nI 6) = _
    unfold FB_X3_mayGoBy_15
    rw [if_pos (by decide)]
theorem x3_mustsBy {K : Nat → Nat → Nat} {S : St} {c : Nat → Nat} {w : Nat} (hK : okK K) (h : webOK K S) (hw : w < 3) (hc : ∀ p, p < 6 → c p < 5) (h28 : ∀ p, p < 6 → S 28 p = nI (c p)) : f_X3_mustsBy 4096 (nI w) S = some (nI (wy w (ms K 0 c 6))) := by
  unfold f_X3_mustsBy
  refine lp_run (F := F_X3_mustsBy_5 4096 S) (fun i => (nI w, nI (ms K 0 c i), nI i)) 6 4096 (by decide) (fun p hp k => ?_) (fun k => ?_)
  · show FB_X3_mustsBy_5 4096 S k (nI w) (nI (ms K 0 c p)) (nI p) = k (nI w, nI (ms K 0 c p ||| am K 0 p (c p)), nI (p + 1))
    have h6 : ¬ (6 : Int32) ≤ nI p := nI_ge (a := p) (b := 6) hp (by decide)
    have hcp := hc p hp
    unfold FB_X3_mustsBy_5 f_X3_offer
    rw [if_neg h6, gd_t (ix_n hp (by decide)), nI_clamp (show p < 2 ^ 31 by omega), h28 p hp, i5', bd_s, gd_t (ix_n (show 5 * p + c p < 30 by omega) (by decide)), nI_clamp (show 5 * p + c p < 2 ^ 31 by omega), h.2.2.2.2.2.2.1 p _ hp hcp, bd_s, pa_or, nI_1, am0]
  · show FB_X3_mustsBy_5 4096 S k (nI w) (nI (ms K 0 c 6)) (nI 6) = _
    unfold FB_X3_mustsBy_5
    rw [if_pos (by decide), x3_askedBy w hw, bd_s, pa_and]
    rfl
/-- the digits -/
def dg (n p : Nat) : Nat := n / 10 ^ p % 10
def fts (K : Nat → Nat → Nat) (n : Nat) : Nat → Bool
  | 0 => true
  | p + 1 => fts K n p && (alw K p).testBit (dg n p)
theorem fts_s {K : Nat → Nat → Nat} {n p : Nat} : fts K n (p + 1) = (fts K n p && (alw K p).testBit (dg n p)) := rfl
theorem fts_all {K : Nat → Nat → Nat} {n : Nat} : ∀ m, fts K n m = true → ∀ p, p < m → (alw K p).testBit (dg n p) = true
  | 0, _, p, hp => absurd hp (by omega)
  | m + 1, h, p, hp => by
    rw [fts_s, Bool.and_eq_true] at h
    by_cases e : p = m
    · subst e; exact h.2
    · exact fts_all m h.1 p (by omega)
theorem fts_first {K : Nat → Nat → Nat} {n : Nat} : ∀ m, fts K n m = false → ∃ i, i < m ∧ fts K n i = true ∧ (alw K i).testBit (dg n i) = false
  | 0, h => absurd h (by simp [fts])
  | m + 1, h => by
    cases e : fts K n m with
    | false =>
      obtain ⟨i, h1, h2⟩ := fts_first m e
      exact ⟨i, by omega, h2⟩
    | true =>
      rw [fts_s, e, Bool.true_and] at h
      exact ⟨m, by omega, e, h⟩
theorem fts_le {K : Nat → Nat → Nat} {n : Nat} : ∀ m, fts K n m = true → ∀ p, p ≤ m → fts K n p = true
  | 0, h, p, hp => by rw [show p = 0 by omega]; exact h
  | m + 1, h, p, hp => by
    by_cases e : p = m + 1
    · subst e; exact h
    · rw [fts_s, Bool.and_eq_true] at h; exact fts_le m h.1 p (by omega)
theorem dg_lt (n p : Nat) : dg n p < 10 := Nat.mod_lt _ (by decide)
theorem dg_div (n p : Nat) : n / 10 ^ p / 10 = n / 10 ^ (p + 1) := by rw [Nat.div_div_eq_div_mul, ← Nat.pow_succ]
theorem dv_lt {n : Nat} (p : Nat) (h : n < 2 ^ 31) : n / 10 ^ p < 2 ^ 31 := Nat.lt_of_le_of_lt (Nat.div_le_self _ _) h
theorem bit_hi : ∀ a, a < 32 → ∀ t, t < 10 → 5 ≤ t → a.testBit t = false := by decide +kernel
theorem bit_1 : ∀ t, t < 10 → ((1 : Nat).testBit t = true ↔ t = 0) := by decide +kernel
theorem fts5 {K : Nat → Nat → Nat} {n : Nat} (hK : okK K) (h : fts K n 6 = true) : ∀ p, p < 6 → dg n p < 5 := fun p hp => by
  have h1 := fts_all 6 h p hp
  rcases Nat.lt_or_ge (dg n p) 5 with q | q
  · exact q
  · rw [bit_hi _ (alw_ok hK p hp).1 _ (dg_lt n p) q] at h1
    exact absurd h1 (by decide)
def tdS (S : St) (n i : Nat) : St := rwx S 28 (fun j => nI (dg n j)) i
theorem td_0 (n : Nat) (S : St) : ((nI n, 0, S) : Int32 × Int32 × St) = (fun p => (nI (n / 10 ^ p), nI p, tdS S n p)) 0 := by
  show _ = (nI (n / 10 ^ 0), nI 0, tdS S n 0)
  unfold tdS
  rw [rwx_0, Nat.pow_zero, Nat.div_one]
  rfl
theorem x4_td {K : Nat → Nat → Nat} {S : St} {n p : Nat} (hK : okK K) (h : webOK K S) (hn : n < 2 ^ 31) (hp : p < 6) (k : Int32 × Int32 × St → Option (Int32 × St)) : FB_X4_takeDigits_4 4096 k (nI (n / 10 ^ p)) (nI p) (tdS S n p) = if (alw K p).testBit (dg n p) = true then k (nI (n / 10 ^ (p + 1)), nI (p + 1), tdS S n (p + 1)) else some (0, tdS S n p) := by
  have h6 : ¬ (6 : Int32) ≤ nI p := nI_ge (a := p) (b := 6) hp (by decide)
  have hw : webOK K (tdS S n p) := web_rwx h (by omega)
  have ha := (alw_ok hK p hp).1
  have er : nI (n / 10 ^ p) - nI (n / 10 ^ p) / 10 * 10 = nI (dg n p) := pk_rem (d := 10) (dv_lt p hn) (by decide) (by decide)
  have ed : nI (n / 10 ^ p) / 10 = nI (n / 10 ^ (p + 1)) := by rw [← dg_div]; exact pk_div (d := 10) (dv_lt p hn) (by decide) (by decide)
  have eb : ∀ z, z = nI (alw K p) → B_X4_takeDigits_48 4096 k (nI (n / 10 ^ (p + 1))) (nI p) (nI (dg n p)) z (tdS S n p) = if (alw K p).testBit (dg n p) = true then k (nI (n / 10 ^ (p + 1)), nI (p + 1), tdS S n (p + 1)) else some (0, tdS S n p) := fun z hz => by
    subst hz
    unfold B_X4_takeDigits_48
    have ss : sto (tdS S n p) 28 p (nI (dg n p)) = tdS S n (p + 1) := rwx_s
    rw [x4_has (by omega) (dg_lt n p), bd_s, it_b, gd_t (ix_n hp (by decide)), nI_clamp (show p < 2 ^ 31 by omega), bd_s, nI_1, ss]
  unfold FB_X4_takeDigits_4
  rw [if_neg h6, er, bd_s, ed, bd_s, hw.2.2.1, x4_has (prt_lt hK) (show p < 10 by omega), bd_s, it_b, gd_t (ix_n hp (by decide)), nI_clamp (show p < 2 ^ 31 by omega), hw.2.2.2.1 p hp]
  by_cases e : (prt K).testBit p = true
  · rw [if_pos e, eb _ (by unfold alw; rw [if_pos e])]
  · rw [if_neg e, eb _ (by unfold alw; rw [if_neg e]; rfl)]
theorem x4_takeDigits {K : Nat → Nat → Nat} {S : St} {n : Nat} (hK : okK K) (h : webOK K S) (hn : n < 2 ^ 31) : (fts K n 6 = true ∧ f_X4_takeDigits 4096 (nI n) S = some (1, tdS S n 6)) ∨ (fts K n 6 = false ∧ ∃ i, f_X4_takeDigits 4096 (nI n) S = some (0, tdS S n i)) := by
  cases e : fts K n 6 with
  | true =>
    refine Or.inl ⟨rfl, ?_⟩
    unfold f_X4_takeDigits
    rw [td_0]
    refine lp_run (F := F_X4_takeDigits_4 4096) (fun p => (nI (n / 10 ^ p), nI p, tdS S n p)) 6 4096 (by decide) (fun p hp k => ?_) (fun k => ?_)
    · show FB_X4_takeDigits_4 4096 k (nI (n / 10 ^ p)) (nI p) (tdS S n p) = _
      rw [x4_td hK h hn hp, if_pos (fts_all 6 e p hp)]
    · show FB_X4_takeDigits_4 4096 k (nI (n / 10 ^ 6)) (nI 6) (tdS S n 6) = _
      unfold FB_X4_takeDigits_4
      rw [if_pos (by decide)]
  | false =>
    obtain ⟨i, h1, h2, h3⟩ := fts_first 6 e
    refine Or.inr ⟨rfl, i, ?_⟩
    unfold f_X4_takeDigits
    rw [td_0]
    refine lp_run (F := F_X4_takeDigits_4 4096) (fun p => (nI (n / 10 ^ p), nI p, tdS S n p)) i 4096 (by omega) (fun p hp k => ?_) (fun k => ?_)
    · show FB_X4_takeDigits_4 4096 k (nI (n / 10 ^ p)) (nI p) (tdS S n p) = _
      rw [x4_td hK h hn (by omega), if_pos (fts_all i h2 p hp)]
    · show FB_X4_takeDigits_4 4096 k (nI (n / 10 ^ i)) (nI i) (tdS S n i) = _
      rw [x4_td hK h hn (by omega), if_neg (by rw [h3]; decide)]
/-- what by answers -/
def byA (K : Nat → Nat → Nat) (c : Nat → Nat) (w : Nat) : Nat := if w = 0 then rsN K c 6 else if w = 4 then mg K 0 c 6 else wy (w - 1) (ms K 0 c 6)
theorem sub1 : ∀ w, w < 5 → 0 < w → nI w - 1 = nI (w - 1) := by decide +kernel
theorem it_4 {α : Type} {a : Nat} {x y : α} (ha : a < 2 ^ 31) : (if nI a = 4 then x else y) = if a = 4 then x else y := it_eq (b := 4) ha (by decide)
theorem it_n1 {α : Type} {a : Nat} {x y : α} (ha : a < 2 ^ 31) : (if nI a = 1 then x else y) = if a = 1 then x else y := it_eq (b := 1) ha (by decide)
theorem it_le5 {α : Type} {b : Nat} {x y : α} (hb : b < 2 ^ 31) : (if (5 : Int32) ≤ nI b then x else y) = if 5 ≤ b then x else y := it_le (a := 5) (by decide) hb
theorem it_le0 {α : Type} {b : Nat} {x y : α} (hb : b < 2 ^ 31) : (if nI b ≤ 0 then x else y) = if b = 0 then x else y := by
  have e : (if nI b ≤ 0 then x else y) = if b ≤ 0 then x else y := it_le (b := 0) hb (by decide)
  rw [e]
  by_cases q : b = 0
  · rw [if_pos q, if_pos (by omega)]
  · rw [if_neg q, if_neg (by omega)]
theorem x4_by {K : Nat → Nat → Nat} {S : St} {n w : Nat} (hK : okK K) (h2 : rep K (vU S)) (hw : w ≤ 4) (gu : f_X4_within (nI n) 0 999999 = some 1) (hn : n ≤ 999999) (gw : f_X4_within (nI w) 0 4 = some 1) : ∃ S', coU S S' ∧ f_X4_by 4096 (nI n) (nI w) S = some (if fts K n 6 = true then nI (byA K (dg n) w) else -2, S') := by
  obtain ⟨e1, c1, w1⟩ := x3_spin hK h2
  unfold f_X4_by
  rw [gu, bd_s, if_neg z01, gw, bd_s, if_neg z01, e1, bd_s]
  rcases x4_takeDigits hK w1 (show n < 2 ^ 31 by omega) with ⟨f1, e2⟩ | ⟨f1, i, e2⟩
  · refine ⟨tdS (spF K S) n 6, coU_trans c1 (rwx_coU (by omega)), ?_⟩
    have hc := fts5 hK f1
    have ww : webOK K (tdS (spF K S) n 6) := web_rwx w1 (by omega)
    have h28 : ∀ p, p < 6 → tdS (spF K S) n 6 28 p = nI (dg n p) := fun p hp => rwx_at hp
    rw [e2, bd2_s, if_neg z01, if_pos f1, it_0 (by omega), it_4 (by omega), x3_reachingBy hK ww hc h28, bd_s, x3_mayGoBy hK ww hc h28, bd_s]
    unfold byA
    by_cases q0 : w = 0
    · rw [if_pos q0, if_pos q0]
    · rw [if_neg q0, if_neg q0]
      by_cases q4 : w = 4
      · rw [if_pos q4, if_pos q4]
      · rw [if_neg q4, if_neg q4, sub1 w (by omega) (by omega), x3_mustsBy hK ww (by omega) hc h28, bd_s]
  · refine ⟨tdS (spF K S) n i, coU_trans c1 (rwx_coU (by omega)), ?_⟩
    rw [e2, bd2_s, if_pos rfl, if_neg (by rw [f1]; decide)]
/-- the model's -/
def tdM (S : St) (n i : Nat) : St := rwx S 10 (fun j => nI (dg n j)) i
def fI (b : Bool) : Int32 := if b = true then 1 else 0
theorem x5_by28 {K : Nat → Nat → Nat} {S : St} {n p : Nat} {x : Int32} (hK : okK K) (h : mOK K 0 S) (hn : n < 2 ^ 31) (hp : p < 6) (k : Int32 × Int32 × Int32 × Int32 × St → Option (Int32 × St)) : FB_X5_by_28 4096 k x (nI (n / 10 ^ p)) (fI (fts K n p)) (nI p) (tdM S n p) = k (x, nI (n / 10 ^ (p + 1)), fI (fts K n (p + 1)), nI (p + 1), tdM S n (p + 1)) := by
  have h6 : ¬ (6 : Int32) ≤ nI p := nI_ge (a := p) (b := 6) hp (by decide)
  have hw : mOK K 0 (tdM S n p) := mOK_rwx h (by omega)
  have hd := dg_lt n p
  have hcl := cho_lt hK hp
  have er : nI (n / 10 ^ p) - nI (n / 10 ^ p) / 10 * 10 = nI (dg n p) := pk_rem (d := 10) (dv_lt p hn) (by decide) (by decide)
  have ed : nI (n / 10 ^ p) / 10 = nI (n / 10 ^ (p + 1)) := by rw [← dg_div]; exact pk_div (d := 10) (dv_lt p hn) (by decide) (by decide)
  have ss : sto (tdM S n p) 10 p (nI (dg n p)) = tdM S n (p + 1) := rwx_s
  unfold FB_X5_by_28 B_X5_by_89
  rw [if_neg h6, er, bd_s, ed, bd_s]
  simp only [gd_t (ix_n hp (show 6 ≤ 65536 by decide)), nI_clamp (show p < 2 ^ 31 by omega), bd_s]
  rw [nI_1, ss, x5_isChosen hK hw hp, bd_s, it_b, it_0 (by omega), it_le5 (by omega), hw.2.2.1 p hp, x5_has (by omega) hd, bd_s, it_b, fts_s]
  cases f : fts K n p with
  | false => rw [Bool.false_and, if_pos (show fI false = 0 from rfl)]; rfl
  | true =>
    rw [Bool.true_and, if_neg (show ¬ fI true = 0 from z01)]
    by_cases e : (prt K).testBit p = true
    · have ea : alw K p = cho K p := by unfold alw; rw [if_pos e]
      rw [if_pos e, ea]
      by_cases q : 5 ≤ dg n p
      · rw [if_pos q, bit_hi _ hcl _ hd q]; rfl
      · rw [if_neg q]
        cases b : (cho K p).testBit (dg n p) with
        | true => rw [if_pos rfl]; rfl
        | false => rw [if_neg (by decide)]; rfl
    · have ea : alw K p = 1 := by unfold alw; rw [if_neg e]
      rw [if_neg e, ea]
      by_cases q : dg n p = 0
      · rw [if_pos q, q]; rfl
      · rw [if_neg q]
        cases b : (1 : Nat).testBit (dg n p) with
        | true => exact absurd ((bit_1 _ hd).mp b) q
        | false => rfl
theorem x5_by139 {K : Nat → Nat → Nat} {S : St} {c : Nat → Nat} {w : Nat} (hK : okK K) (h : mOK K 0 S) (hc : ∀ p, p < 6 → c p < 5) (hw : w ≤ 3) : lpI (F_X5_by_139 4096) 4096 (nI w, 0, 0, q10 S c) = some (if w = 0 then nI (rsN K c 6) else nI (wy (w - 1) (ms K 0 c 6)), q10 S c) := by
  refine lp_run (F := F_X5_by_139 4096) (fun i => (nI w, nI (rsN K c i), nI i, q10 S c)) 6 4096 (by decide) (fun p hp k => ?_) (fun k => ?_)
  · show FB_X5_by_139 4096 k (nI w) (nI (rsN K c p)) (nI p) (q10 S c) = k (nI w, nI (rsN K c (p + 1)), nI (p + 1), q10 S c)
    have h6 : ¬ (6 : Int32) ≤ nI p := nI_ge (a := p) (b := 6) hp (by decide)
    unfold FB_X5_by_139
    rw [if_neg h6, x5_reaches hK (by decide) h hp (hc p hp), bd_s, it_b, bd_s, bd_s, or0, pa_shl p (by omega), pa_or, nI_1, rsN_s, rmz]
    by_cases e : rea K p (c p) = true
    · rw [if_pos e, if_pos e]
    · rw [if_neg e, if_neg e]
  · show FB_X5_by_139 4096 k (nI w) (nI (rsN K c 6)) (nI 6) (q10 S c) = _
    unfold FB_X5_by_139
    rw [if_pos (by decide), it_0 (by omega), x5_musts hK (by decide) h hc, bd_s]
    by_cases q : w = 0
    · rw [if_pos q, if_pos q]
    · rw [if_neg q, if_neg q, sub1 w (by omega) (by omega), x5_byWay _ (by omega) _ (ms_lt hK hc 6 (by decide)), bd_s]
theorem tdM_6 {S : St} {n : Nat} : tdM S n 6 = q10 S (dg n) := rfl
theorem tm_0 (n : Nat) (x : Int32) (K : Nat → Nat → Nat) (S : St) : ((x, nI n, 1, 0, S) : Int32 × Int32 × Int32 × Int32 × St) = (fun p => (x, nI (n / 10 ^ p), fI (fts K n p), nI p, tdM S n p)) 0 := by
  show _ = (x, nI (n / 10 ^ 0), fI (fts K n 0), nI 0, tdM S n 0)
  unfold tdM
  rw [rwx_0, Nat.pow_zero, Nat.div_one]
  rfl
theorem x5_byl {K : Nat → Nat → Nat} {S : St} {n w : Nat} (hK : okK K) (h : mOK K 0 S) (hn : n < 2 ^ 31) (hw : w ≤ 4) : lpI (F_X5_by_28 4096) 4096 (nI w, nI n, 1, 0, S) = some (if fts K n 6 = true ∧ n / 10 ^ 6 = 0 then nI (byA K (dg n) w) else -2, tdM S n 6) := by
  rw [tm_0 n (nI w) K S]
  refine lp_run (F := F_X5_by_28 4096) (fun p => (nI w, nI (n / 10 ^ p), fI (fts K n p), nI p, tdM S n p)) 6 4096 (by decide) (fun p hp k => ?_) (fun k => ?_)
  · show FB_X5_by_28 4096 k (nI w) (nI (n / 10 ^ p)) (fI (fts K n p)) (nI p) (tdM S n p) = _
    rw [x5_by28 hK h hn hp]
  · show FB_X5_by_28 4096 k (nI w) (nI (n / 10 ^ 6)) (fI (fts K n 6)) (nI 6) (tdM S n 6) = _
    unfold FB_X5_by_28
    rw [if_pos (by decide)]
    cases f : fts K n 6 with
    | false => rw [if_pos (show fI false = 0 from rfl), if_neg (by simp)]
    | true =>
      have hc := fts5 hK f
      rw [if_neg (show ¬ fI true = 0 from z01), it_le0 (dv_lt 6 hn)]
      by_cases q : n / 10 ^ 6 = 0
      · rw [if_pos q, if_pos (show true = true ∧ n / 10 ^ 6 = 0 from ⟨rfl, q⟩), it_4 (by omega), tdM_6, x5_mayGo hK (by decide) h hc, bd_s]
        unfold byA
        by_cases q4 : w = 4
        · rw [if_pos q4, if_neg (show ¬ w = 0 by omega), if_pos q4]
        · rw [if_neg q4, x5_by139 hK h hc (by omega)]
          by_cases q0 : w = 0
          · rw [if_pos q0, if_pos q0]
          · rw [if_neg q0, if_neg q0, if_neg q4]
      · rw [if_neg q, if_neg (fun z => q z.2)]
theorem pu_12 : lp_12 4096 Rel := by
  intro x y Su Sm ⟨K, hR⟩
  have hK := hR.1
  have hl := x5_lay hK hR.2.2.1
  have ho := mOK_lay hR.2.2.1
  have hR1 := RelK_co hR (coU_refl Su) (layF_co K Sm)
  rcases c_in x 999999 (by decide) with ⟨gu, gm⟩ | ⟨n, hn, rfl, gu, gm⟩
  · have gu : f_X4_within x 0 999999 = some 0 := gu
    have eu : f_X4_by 4096 x y Su = some (-2, Su) := by
      unfold f_X4_by
      rw [gu, bd_s, if_pos rfl]
    by_cases hneg : x < 0
    · refine ⟨-2, Su, eu, layF K Sm, ?_, K, hR1⟩
      unfold f_X5_by
      rw [hl, bd_s, if_pos hneg]
    · obtain ⟨n, hn, rfl⟩ := nI_of hneg
      have hbig : ¬ n / 10 ^ 6 = 0 := by
        intro q
        have hlt : n ≤ 999999 := by omega
        have e := x4_within (nI n) 0 999999
        rw [if_neg (show ¬ (nI n < 0 ∨ (999999 : Int32) < nI n) from rng_t (b := 999999) (by decide) hlt rfl)] at e
        rw [e] at gu
        exact z01 (Option.some.inj gu)
      rcases c_in y 4 (by decide) with ⟨gu2, gm2⟩ | ⟨w, hw, rfl, gu2, gm2⟩
      · have gm2 : f_X5_in y 0 4 = some 0 := gm2
        refine ⟨-2, Su, eu, layF K Sm, ?_, K, hR1⟩
        unfold f_X5_by
        rw [hl, bd_s, if_neg hneg, gm2, bd_s, if_pos rfl]
      · have gm2 : f_X5_in (nI w) 0 4 = some 1 := gm2
        refine ⟨-2, Su, eu, tdM (layF K Sm) n 6, ?_, K, RelK_co hR1 (coU_refl Su) (rwx_coM (by omega))⟩
        unfold f_X5_by
        rw [hl, bd_s, if_neg hneg, gm2, bd_s, if_neg z01, x5_byl hK ho hn hw, if_neg (fun q => hbig q.2)]
  · have gu : f_X4_within (nI n) 0 999999 = some 1 := gu
    have hneg : ¬ nI n < 0 := nI_pos (by omega)
    rcases c_in y 4 (by decide) with ⟨gu2, gm2⟩ | ⟨w, hw, rfl, gu2, gm2⟩
    · have gu2 : f_X4_within y 0 4 = some 0 := gu2
      have gm2 : f_X5_in y 0 4 = some 0 := gm2
      refine ⟨-2, Su, ?_, layF K Sm, ?_, K, hR1⟩
      · unfold f_X4_by
        rw [gu, bd_s, if_neg z01, gu2, bd_s, if_pos rfl]
      · unfold f_X5_by
        rw [hl, bd_s, if_neg hneg, gm2, bd_s, if_pos rfl]
    · have gu2 : f_X4_within (nI w) 0 4 = some 1 := gu2
      have gm2 : f_X5_in (nI w) 0 4 = some 1 := gm2
      obtain ⟨S', hc, e⟩ := x4_by hK hR.2.1 hw gu hn gu2
      refine ⟨_, S', e, tdM (layF K Sm) n 6, ?_, K, RelK_co hR hc (coM_trans (layF_co K Sm) (rwx_coM (by omega)))⟩
      unfold f_X5_by
      rw [hl, bd_s, if_neg hneg, gm2, bd_s, if_neg z01, x5_byl hK ho (by omega) hw]
      by_cases f : fts K n 6 = true
      · rw [if_pos f, if_pos ⟨f, by omega⟩]
      · rw [if_neg f, if_neg (fun q => f q.1)]
