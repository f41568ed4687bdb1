/-! names: counting -/
def ct (P : Nat → Bool) : Nat → Nat
  | 0 => 0
  | n + 1 => if P n = true then ct P n + 1 else ct P n
theorem ct_s {P : Nat → Bool} {n : Nat} : ct P (n + 1) = if P n = true then ct P n + 1 else ct P n := rfl
theorem ct_congr {P Q : Nat → Bool} : ∀ n, (∀ o, o < n → P o = Q o) → ct P n = ct Q n
  | 0, _ => rfl
  | n + 1, h => by rw [ct_s, ct_s, ct_congr n (fun o ho => h o (by omega)), h n (by omega)]
theorem ct_bd {P : Nat → Bool} : ∀ n, ct P n ≤ n
  | 0 => Nat.le_refl 0
  | n + 1 => by
    have := ct_bd (P := P) n
    rw [ct_s]; split <;> omega
theorem ct_mono {P Q : Nat → Bool} : ∀ n, (∀ o, o < n → P o = true → Q o = true) → ct P n ≤ ct Q n
  | 0, _ => Nat.le_refl 0
  | n + 1, h => by
    have ih := ct_mono (P := P) (Q := Q) n (fun o ho => h o (by omega))
    have hn := h n (by omega)
    rw [ct_s, ct_s]
    by_cases e : P n = true
    · rw [if_pos e, if_pos (hn e)]; omega
    · rw [if_neg e]; split <;> omega
theorem ct_lt {P Q : Nat → Bool} {k : Nat} (hP : P k = false) (hQ : Q k = true) : ∀ n, k < n → (∀ o, o < n → P o = true → Q o = true) → ct P n < ct Q n
  | 0, hk, _ => absurd hk (by omega)
  | n + 1, hk, h => by
    rw [ct_s, ct_s]
    by_cases e : k = n
    · subst e
      have := ct_mono (P := P) (Q := Q) k (fun o ho => h o (by omega))
      rw [hP, hQ, if_neg (by decide), if_pos rfl]; omega
    · have ih := ct_lt hP hQ n (by omega) (fun o ho => h o (by omega))
      have hn := h n (by omega)
      by_cases e : P n = true
      · rw [if_pos e, if_pos (hn e)]; omega
      · rw [if_neg e]; split <;> omega
theorem ct_one {P Q : Nat → Bool} {k : Nat} (hP : P k = false) (hQ : Q k = true) : ∀ n, k < n → (∀ o, o < n → o ≠ k → Q o = P o) → ct Q n = ct P n + 1
  | 0, hk, _ => absurd hk (by omega)
  | n + 1, hk, h => by
    rw [ct_s, ct_s]
    by_cases e : k = n
    · subst e
      rw [hP, hQ, if_pos rfl, if_neg (by decide), ct_congr k (fun o ho => h o (by omega) (by omega))]
    · rw [ct_one hP hQ n (by omega) (fun o ho => h o (by omega)), h n (by omega) (by omega)]
      split <;> omega
def ahP (nm : Nat → Nat) (m k o : Nat) : Bool := decide (m < nm o ∨ (nm o = m ∧ o < k))
def An (nm : Nat → Nat) (m k : Nat) : Nat := ct (ahP nm m k) 6
def ah (nm : Nat → Nat) (o : Nat) : Nat := An nm (nm o) o
theorem An_bd {nm : Nat → Nat} {m k : Nat} : An nm m k ≤ 6 := ct_bd 6
theorem ahP_t {nm : Nat → Nat} {m k o : Nat} : ahP nm m k o = true ↔ (m < nm o ∨ (nm o = m ∧ o < k)) := by unfold ahP; exact decide_eq_true_iff
theorem ahP_f {nm : Nat → Nat} {m k o : Nat} (h : ¬ (m < nm o ∨ (nm o = m ∧ o < k))) : ahP nm m k o = false := by unfold ahP; exact decide_eq_false h
theorem ahP_c {nm : Nat → Nat} {m k m' k' o : Nat} (h : (m < nm o ∨ (nm o = m ∧ o < k)) ↔ (m' < nm o ∨ (nm o = m' ∧ o < k'))) : ahP nm m k o = ahP nm m' k' o := by unfold ahP; exact decide_eq_decide.mpr h
theorem An_s {nm : Nat → Nat} {m k : Nat} (hk : k < 6) : An nm m (k + 1) = if nm k = m then An nm m k + 1 else An nm m k := by
  unfold An
  by_cases e : nm k = m
  · rw [if_pos e]
    exact ct_one (ahP_f (by omega)) (ahP_t.mpr (by omega)) 6 hk (fun o _ ho => ahP_c (by omega))
  · rw [if_neg e]
    refine ct_congr 6 (fun o _ => ahP_c ?_)
    by_cases q : o = k
    · subst q; omega
    · omega
theorem An_d {nm : Nat → Nat} {m : Nat} (hm : 0 < m) : An nm m 6 = An nm (m - 1) 0 := ct_congr 6 (fun o ho => ahP_c (by omega))
theorem An_6 {nm : Nat → Nat} (h : ∀ o, o < 6 → nm o ≤ 6) : An nm 6 0 = 0 := by
  unfold An
  rw [ct_congr (Q := fun _ => false) 6 (fun o ho => ahP_f (by have := h o ho; omega))]
  rfl
theorem ah_inj {nm : Nat → Nat} {k k' : Nat} (hk : k < 6) (hk' : k' < 6) (h : ah nm k = ah nm k') : k = k' := by
  have key : ∀ a b, a < 6 → b < 6 → (nm b < nm a ∨ (nm a = nm b ∧ a < b)) → ah nm a < ah nm b := fun a b ha hb hab =>
    ct_lt (k := a) (ahP_f (by omega)) (ahP_t.mpr (by omega)) 6 ha (fun o _ ho => by rw [ahP_t] at ho ⊢; omega)
  by_cases e : k = k'
  · exact e
  · rcases (show (nm k' < nm k ∨ (nm k = nm k' ∧ k < k')) ∨ (nm k < nm k' ∨ (nm k' = nm k ∧ k' < k)) by omega) with q | q
    · have := key k k' hk hk' q; omega
    · have := key k' k hk' hk q; omega
/-- how many pieces of each owner -/
def nmB (K : Nat → Nat → Nat) (c : Nat → Nat) (o p : Nat) : Bool := rea K p (c p) && ((K 1 (c p)).testBit 0 && (K 7 p).testBit o)
def nmC (K : Nat → Nat → Nat) (c : Nat → Nat) (o p : Nat) : Nat := ct (nmB K c o) p
theorem pa_and1 : ∀ a, a < 32 → nI a &&& 1 = if a.testBit 0 = true then 1 else 0 := by decide +kernel
theorem rsN_lt {K : Nat → Nat → Nat} {c : Nat → Nat} : ∀ n, n ≤ 6 → rsN K c n < 64
  | 0, _ => by show 0 < 64; decide
  | n + 1, h => by
    rw [rsN_s]; split
    · exact or_lt64 (rsN_lt n (by omega)) (pw_lt64 (by omega))
    · exact rsN_lt n (by omega)
theorem rsN_bit {K : Nat → Nat → Nat} {c : Nat → Nat} {p : Nat} : ∀ n, (rsN K c n).testBit p = (decide (p < n) && rea K p (c p))
  | 0 => by show (0 : Nat).testBit p = _; rw [Nat.zero_testBit, decide_eq_false (by omega)]; rfl
  | n + 1 => by
    rw [rsN_s]
    by_cases q : p = n
    · subst q
      rw [decide_eq_true (show p < p + 1 by omega), Bool.true_and]
      by_cases e : rea K p (c p) = true
      · rw [if_pos e, Nat.testBit_or, Nat.testBit_two_pow_self, Bool.or_true, e]
      · rw [if_neg e, rsN_bit p, decide_eq_false (by omega), Bool.false_and]
        cases z : rea K p (c p)
        · rfl
        · exact absurd z e
    · have ed : decide (p < n + 1) = decide (p < n) := decide_eq_decide.mpr (by omega)
      rw [ed]
      split
      · rw [bit_or_pow (Ne.symm q), rsN_bit n]
      · exact rsN_bit n
/-- the class's count -/
theorem sto_st2 {S : St} {k i : Nat} {a b : Int32} : sto (sto S k i a) k i b = sto S k i b := by
  funext k' j
  rw [sto_at, sto_at, sto_at]
  by_cases e : k' = k ∧ j = i
  · rw [if_pos e, if_pos e]
  · rw [if_neg e, if_neg e, if_neg e]
def nmU (K : Nat → Nat → Nat) (c : Nat → Nat) (S : St) (i : Nat) : St := rwx S 7 (fun o => nI (nmC K c o 6)) i
theorem x4_countNamed {K : Nat → Nat → Nat} {S : St} {c : Nat → Nat} (hK : okK K) (hR : rep K (vU S)) (h : webOK K S) (hc : ∀ p, p < 6 → c p < 5) (h28 : ∀ p, p < 6 → S 28 p = nI (c p)) : f_X4_countNamed 4096 S = some (nmU K c S 6) := by
  unfold f_X4_countNamed
  rw [x3_reachingBy hK h hc h28, bd_s]
  have hrs := rsN_lt (K := K) (c := c) 6 (Nat.le_refl 6)
  have st := lp_run (F := F_X4_countNamed_17 4096) (res := some (nmU K c S 6)) (fun o => (nI (rsN K c 6), nI o, nmU K c S o)) 6 4096 (by decide) (fun o ho k => ?_) (fun k => ?_)
  · unfold nmU at st ⊢
    rw [rwx_0] at st; exact st
  · show FB_X4_countNamed_17 4096 k (nI (rsN K c 6)) (nI o) (nmU K c S o) = k (nI (rsN K c 6), nI (o + 1), nmU K c S (o + 1))
    have h6 : ¬ (6 : Int32) ≤ nI o := nI_ge (a := o) (b := 6) ho (by decide)
    have ss : sto (nmU K c S o) 7 o (nI (nmC K c o 6)) = nmU K c S (o + 1) := rwx_s (f := fun o => nI (nmC K c o 6))
    have nn : ∀ v k, k ≠ 7 → sto (nmU K c S o) 7 o v k = S k := fun v k hk => by rw [sto_n hk]; unfold nmU; rw [rwx_n hk]
    rw [← ss]
    generalize nmU K c S o = T at nn
    unfold FB_X4_countNamed_17
    rw [if_neg h6, gd_t (ix_n ho (by decide)), nI_clamp (show o < 2 ^ 31 by omega), bd_s]
    refine lp_run (F := F_X4_countNamed_32 4096 k) (fun p => (nI (rsN K c 6), nI o, nI p, sto T 7 o (nI (nmC K c o p)))) 6 4096 (by decide) (fun p hp k2 => ?_) (fun k2 => ?_)
    · show FB_X4_countNamed_32 4096 k k2 (nI (rsN K c 6)) (nI o) (nI p) (sto T 7 o (nI (nmC K c o p))) = k2 (nI (rsN K c 6), nI o, nI (p + 1), sto T 7 o (nI (ct (nmB K c o) (p + 1))))
      have g6 : ¬ (6 : Int32) ≤ nI p := nI_ge (a := p) (b := 6) hp (by decide)
      have hcp := hc p hp
      have a28 : sto T 7 o (nI (nmC K c o p)) 28 p = nI (c p) := by rw [nn _ _ (by decide)]; exact h28 p hp
      have a9 : sto T 7 o (nI (nmC K c o p)) 9 (c p) = nI (K 1 (c p)) := by rw [nn _ _ (by decide)]; exact uA hR hcp
      have a15 : sto T 7 o (nI (nmC K c o p)) 15 p = nI (K 7 p) := by rw [nn _ _ (by decide)]; exact uW hR hp
      have a7 : sto T 7 o (nI (nmC K c o p)) 7 o = nI (nmC K c o p) := by rw [sto_s, if_pos rfl]
      have b0 : B_X4_countNamed_73 4096 k k2 (nI (rsN K c 6)) (nI o) (nI p) 0 (sto T 7 o (nI (nmC K c o p))) = k2 (nI (rsN K c 6), nI o, nI (p + 1), sto T 7 o (nI (nmC K c o p))) := by
        unfold B_X4_countNamed_73
        rw [if_pos rfl, nI_1]
      have b1 : B_X4_countNamed_73 4096 k k2 (nI (rsN K c 6)) (nI o) (nI p) 1 (sto T 7 o (nI (nmC K c o p))) = if (K 7 p).testBit o = true then k2 (nI (rsN K c 6), nI o, nI (p + 1), sto T 7 o (nI (nmC K c o p + 1))) else k2 (nI (rsN K c 6), nI o, nI (p + 1), sto T 7 o (nI (nmC K c o p))) := by
        unfold B_X4_countNamed_73
        rw [if_neg z01]
        simp only [gd_t (ix_n hp (show 6 ≤ 65536 by decide)), nI_clamp (show p < 2 ^ 31 by omega), a15, x4_has (kW hK hp) (show o < 10 by omega), bd_s, gd_t (ix_n ho (show 6 ≤ 65536 by decide)), nI_clamp (show o < 2 ^ 31 by omega), a7, nI_1, sto_st2]
        rw [it_b]
      unfold FB_X4_countNamed_32
      rw [if_neg g6, x4_has hrs (show p < 10 by omega), bd_s, it_b, rsN_bit 6, decide_eq_true hp, Bool.true_and]
      simp only [gd_t (ix_n hp (show 6 ≤ 65536 by decide)), nI_clamp (show p < 2 ^ 31 by omega), a28, gd_t (ix_n hcp (show 5 ≤ 65536 by decide)), nI_clamp (show c p < 2 ^ 31 by omega), a9]
      rw [pa_and1 _ (kA hK hcp), it_b, b0, b1, ct_s]
      show _ = k2 (nI (rsN K c 6), nI o, nI (p + 1), sto T 7 o (nI (if (rea K p (c p) && ((K 1 (c p)).testBit 0 && (K 7 p).testBit o)) = true then nmC K c o p + 1 else nmC K c o p)))
      generalize rea K p (c p) = y1
      generalize (K 1 (c p)).testBit 0 = y2
      generalize (K 7 p).testBit o = y3
      cases y1 <;> cases y2 <;> cases y3 <;> rfl
    · show FB_X4_countNamed_32 4096 k k2 (nI (rsN K c 6)) (nI o) (nI 6) (sto T 7 o (nI (nmC K c o 6))) = _
      unfold FB_X4_countNamed_32
      rw [if_pos (by decide), nI_1]
  · show FB_X4_countNamed_17 4096 k (nI (rsN K c 6)) (nI 6) (nmU K c S 6) = _
    unfold FB_X4_countNamed_17
    rw [if_pos (by decide)]
theorem x4_namedInAll {S : St} {nm : Nat → Nat} (h7 : ∀ o, o < 6 → S 7 o = nI (nm o)) (hb : ∀ o, o < 6 → nm o ≤ 6) : f_X4_namedInAll 4096 S = some (nI (An nm 0 0)) := by
  unfold f_X4_namedInAll An
  refine lp_run (F := F_X4_namedInAll_4 4096 S) (fun i => (nI (ct (ahP nm 0 0) i), nI i)) 6 4096 (by decide) (fun i hi k => ?_) (fun k => ?_)
  · show FB_X4_namedInAll_4 4096 S k (nI (ct (ahP nm 0 0) i)) (nI i) = k (nI (ct (ahP nm 0 0) (i + 1)), nI (i + 1))
    have h6 : ¬ (6 : Int32) ≤ nI i := nI_ge (a := i) (b := 6) hi (by decide)
    have hbi := hb i hi
    unfold FB_X4_namedInAll_4
    rw [if_neg h6, gd_t (ix_n hi (by decide)), nI_clamp (show i < 2 ^ 31 by omega), h7 i hi, it_le0 (by omega), nI_1, nI_1, ct_s]
    by_cases e : nm i = 0
    · rw [if_pos e, if_neg (by rw [ahP_t]; omega)]
    · rw [if_neg e, if_pos (ahP_t.mpr (by omega))]
  · show FB_X4_namedInAll_4 4096 S k (nI (ct (ahP nm 0 0) 6)) (nI 6) = _
    unfold FB_X4_namedInAll_4
    rw [if_pos (by decide)]
theorem x4_namedAhead {S : St} {nm : Nat → Nat} {o : Nat} (h7 : ∀ o, o < 6 → S 7 o = nI (nm o)) (hb : ∀ o, o < 6 → nm o ≤ 6) (ho : o < 6) : f_X4_namedAhead 4096 (nI o) S = some (nI (ah nm o)) := by
  unfold f_X4_namedAhead ah An
  refine lp_run (F := F_X4_namedAhead_4 4096 S) (fun i => (nI o, nI (ct (ahP nm (nm o) o) i), nI i)) 6 4096 (by decide) (fun i hi k => ?_) (fun k => ?_)
  · show FB_X4_namedAhead_4 4096 S k (nI o) (nI (ct (ahP nm (nm o) o) i)) (nI i) = k (nI o, nI (ct (ahP nm (nm o) o) (i + 1)), nI (i + 1))
    have h6 : ¬ (6 : Int32) ≤ nI i := nI_ge (a := i) (b := 6) hi (by decide)
    have hbi := hb i hi
    have hbo := hb o ho
    unfold FB_X4_namedAhead_4
    rw [if_neg h6]
    simp only [gd_t (ix_n hi (show 6 ≤ 65536 by decide)), nI_clamp (show i < 2 ^ 31 by omega), gd_t (ix_n ho (show 6 ≤ 65536 by decide)), nI_clamp (show o < 2 ^ 31 by omega), h7 i hi, h7 o ho, nI_1]
    rw [it_lt (by omega) (by omega), it_eq (by omega) (by omega), it_le (by omega) (by omega), ct_s]
    by_cases e1 : nm o < nm i
    · rw [if_pos e1, if_pos (ahP_t.mpr (by omega))]
    · rw [if_neg e1]
      by_cases e2 : nm i = nm o
      · rw [if_pos e2]
        by_cases e3 : o ≤ i
        · rw [if_pos e3, if_neg (by rw [ahP_t]; omega)]
        · rw [if_neg e3, if_pos (ahP_t.mpr (by omega))]
      · rw [if_neg e2, if_neg (by rw [ahP_t]; omega)]
  · show FB_X4_namedAhead_4 4096 S k (nI o) (nI (ct (ahP nm (nm o) o) 6)) (nI 6) = _
    unfold FB_X4_namedAhead_4
    rw [if_pos (by decide)]
theorem x4_na {S : St} {nm : Nat → Nat} {x : Int32} {o : Nat} (h7 : ∀ o, o < 6 → S 7 o = nI (nm o)) (hb : ∀ o, o < 6 → nm o ≤ 6) (ho : o < 6) (k : Int32 × Int32 → Option Int32) : FB_X4_namedAt_2 4096 S k x (nI o) = if nm o = 0 then k (x, nI (o + 1)) else if nI (ah nm o) = x then some (nI o) else k (x, nI (o + 1)) := by
  have h6 : ¬ (6 : Int32) ≤ nI o := nI_ge (a := o) (b := 6) ho (by decide)
  have hbo := hb o ho
  unfold FB_X4_namedAt_2
  rw [if_neg h6, gd_t (ix_n ho (by decide)), nI_clamp (show o < 2 ^ 31 by omega), h7 o ho, it_le0 (by omega), x4_namedAhead h7 hb ho, bd_s, nI_1]
theorem ah_bd {nm : Nat → Nat} {o : Nat} : ah nm o ≤ 6 := An_bd
theorem ah_eq {nm : Nat → Nat} {a b : Nat} {x : Int32} (ha : a < 6) (hb : b < 6) (h1 : nI (ah nm a) = x) (h2 : nI (ah nm b) = x) : a = b := by
  have e : nI (ah nm a) = nI (ah nm b) := h1.trans h2.symm
  have b1 := ah_bd (nm := nm) (o := a)
  have b2 := ah_bd (nm := nm) (o := b)
  exact ah_inj ha hb (nI_inj (by omega) (by omega) e)
theorem x4_namedAt1 {S : St} {nm : Nat → Nat} {x : Int32} {k0 : Nat} (h7 : ∀ o, o < 6 → S 7 o = nI (nm o)) (hb : ∀ o, o < 6 → nm o ≤ 6) (hk : k0 < 6) (hn : nm k0 ≠ 0) (he : nI (ah nm k0) = x) : f_X4_namedAt 4096 x S = some (nI k0) := by
  unfold f_X4_namedAt
  refine lp_run (F := F_X4_namedAt_2 4096 S) (fun i => (x, nI i)) k0 4096 (by omega) (fun i hi k => ?_) (fun k => ?_)
  · show FB_X4_namedAt_2 4096 S k x (nI i) = _
    rw [x4_na h7 hb (by omega)]
    by_cases e : nm i = 0
    · rw [if_pos e]
    · rw [if_neg e, if_neg (fun q => by have := ah_eq (by omega) hk q he; omega)]
  · show FB_X4_namedAt_2 4096 S k x (nI k0) = _
    rw [x4_na h7 hb hk, if_neg hn, if_pos he]
theorem x4_namedAt0 {S : St} {nm : Nat → Nat} {x : Int32} (h7 : ∀ o, o < 6 → S 7 o = nI (nm o)) (hb : ∀ o, o < 6 → nm o ≤ 6) (hn : ∀ o, o < 6 → nm o ≠ 0 → ¬ nI (ah nm o) = x) : f_X4_namedAt 4096 x S = some (-6) := by
  unfold f_X4_namedAt
  refine lp_run (F := F_X4_namedAt_2 4096 S) (fun i => (x, nI i)) 6 4096 (by decide) (fun i hi k => ?_) (fun k => ?_)
  · show FB_X4_namedAt_2 4096 S k x (nI i) = _
    rw [x4_na h7 hb hi]
    by_cases e : nm i = 0
    · rw [if_pos e]
    · rw [if_neg e, if_neg (hn i hi e)]
  · show FB_X4_namedAt_2 4096 S k x (nI 6) = _
    unfold FB_X4_namedAt_2
    rw [if_pos (by decide)]
/-- the model's search -/
theorem x5_n144 {S : St} {nm : Nat → Nat} {x : Int32} {m i : Nat} (h13 : ∀ o, o < 6 → S 13 o = nI (nm o)) (hb : ∀ o, o < 6 → nm o ≤ 6) (hm : m ≤ 6) (hi : i < 6) (k137 : Int32 × Int32 × Int32 × St → Option (Int32 × St)) (k : Int32 × Int32 × Int32 × Int32 × St → Option (Int32 × St)) : FB_X5_names_144 4096 k137 k x (nI (An nm m i)) (nI m) (nI i) S = if nm i = m then (if nI (An nm m i) = x then some (nI i, S) else k (x, nI (An nm m (i + 1)), nI m, nI (i + 1), S)) else k (x, nI (An nm m (i + 1)), nI m, nI (i + 1), S) := by
  have h6 : ¬ (6 : Int32) ≤ nI i := nI_ge (a := i) (b := 6) hi (by decide)
  have hbi := hb i hi
  unfold FB_X5_names_144
  rw [if_neg h6, gd_t (ix_n hi (by decide)), nI_clamp (show i < 2 ^ 31 by omega), h13 i hi, it_eq (by omega) (by omega), nI_1, nI_1, An_s hi]
  by_cases e : nm i = m
  · rw [if_pos e, if_pos e, if_pos e]
  · rw [if_neg e, if_neg e, if_neg e]
theorem x5_nin {S : St} {nm : Nat → Nat} {x : Int32} {m : Nat} (h13 : ∀ o, o < 6 → S 13 o = nI (nm o)) (hb : ∀ o, o < 6 → nm o ≤ 6) (hm : m ≤ 6) (h0 : 0 < m) (hn : ∀ o, o < 6 → nm o = m → ¬ nI (ah nm o) = x) (k137 : Int32 × Int32 × Int32 × St → Option (Int32 × St)) : lpI (F_X5_names_144 4096 k137) 4096 (x, nI (An nm m 0), nI m, 0, S) = k137 (x, nI (An nm (m - 1) 0), nI (m - 1), S) := by
  refine lp_run (F := F_X5_names_144 4096 k137) (fun i => (x, nI (An nm m i), nI m, nI i, S)) 6 4096 (by decide) (fun i hi k => ?_) (fun k => ?_)
  · show FB_X5_names_144 4096 k137 k x (nI (An nm m i)) (nI m) (nI i) S = _
    rw [x5_n144 h13 hb hm hi]
    by_cases e : nm i = m
    · rw [if_pos e, if_neg (fun q => hn i hi e (by unfold ah; rw [e]; exact q))]
    · rw [if_neg e]
  · show FB_X5_names_144 4096 k137 k x (nI (An nm m 6)) (nI m) (nI 6) S = _
    unfold FB_X5_names_144
    rw [if_pos (by decide), An_d h0, m1 h0]
theorem x5_n137a {S : St} {nm : Nat → Nat} {x : Int32} (h13 : ∀ o, o < 6 → S 13 o = nI (nm o)) (hb : ∀ o, o < 6 → nm o ≤ 6) (hn : ∀ o, o < 6 → nm o ≠ 0 → ¬ nI (ah nm o) = x) : lpI (F_X5_names_137 4096) 4096 (x, 0, 6, S) = some (if x = -1 then nI (An nm 0 0) else -6, S) := by
  have st := lp_run (F := F_X5_names_137 4096) (res := some (if x = -1 then nI (An nm 0 0) else -6, S)) (fun j => (x, nI (An nm (6 - j) 0), nI (6 - j), S)) 6 4096 (by decide) (fun j hj k => ?_) (fun k => ?_)
  · have e : An nm (6 - 0) 0 = 0 := An_6 hb
    rw [e] at st; exact st
  · show FB_X5_names_137 4096 k x (nI (An nm (6 - j) 0)) (nI (6 - j)) S = k (x, nI (An nm (6 - (j + 1)) 0), nI (6 - (j + 1)), S)
    unfold FB_X5_names_137
    rw [if_neg (nI_nle (show 0 < 6 - j by omega) (by omega)), x5_nin h13 hb (by omega) (by omega) (fun o ho e => hn o ho (by omega)), show 6 - j - 1 = 6 - (j + 1) by omega]
  · show FB_X5_names_137 4096 k x (nI (An nm (6 - 6) 0)) (nI (6 - 6)) S = _
    unfold FB_X5_names_137
    rw [if_pos (by decide)]
    by_cases e : x = -1
    · rw [if_pos e, if_pos e]
    · rw [if_neg e, if_neg e]
theorem x5_n137b {S : St} {nm : Nat → Nat} {x : Int32} {k0 : Nat} (h13 : ∀ o, o < 6 → S 13 o = nI (nm o)) (hb : ∀ o, o < 6 → nm o ≤ 6) (hk : k0 < 6) (hn : nm k0 ≠ 0) (he : nI (ah nm k0) = x) : lpI (F_X5_names_137 4096) 4096 (x, 0, 6, S) = some (nI k0, S) := by
  have hb0 := hb k0 hk
  have st := lp_run (F := F_X5_names_137 4096) (res := some (nI k0, S)) (fun j => (x, nI (An nm (6 - j) 0), nI (6 - j), S)) (6 - nm k0) 4096 (by omega) (fun j hj k => ?_) (fun k => ?_)
  · have e : An nm (6 - 0) 0 = 0 := An_6 hb
    rw [e] at st; exact st
  · show FB_X5_names_137 4096 k x (nI (An nm (6 - j) 0)) (nI (6 - j)) S = k (x, nI (An nm (6 - (j + 1)) 0), nI (6 - (j + 1)), S)
    unfold FB_X5_names_137
    rw [if_neg (nI_nle (show 0 < 6 - j by omega) (by omega)), x5_nin h13 hb (by omega) (by omega) (fun o ho e q => by have := ah_eq ho hk q he; subst this; omega), show 6 - j - 1 = 6 - (j + 1) by omega]
  · show FB_X5_names_137 4096 k x (nI (An nm (6 - (6 - nm k0)) 0)) (nI (6 - (6 - nm k0))) S = _
    rw [show 6 - (6 - nm k0) = nm k0 by omega]
    unfold FB_X5_names_137
    rw [if_neg (nI_nle (show 0 < nm k0 by omega) (by omega))]
    refine lp_run (F := F_X5_names_144 4096 k) (fun i => (x, nI (An nm (nm k0) i), nI (nm k0), nI i, S)) k0 4096 (by omega) (fun i hi k2 => ?_) (fun k2 => ?_)
    · show FB_X5_names_144 4096 k k2 x (nI (An nm (nm k0) i)) (nI (nm k0)) (nI i) S = _
      rw [x5_n144 h13 hb hb0 (by omega)]
      by_cases e : nm i = nm k0
      · rw [if_pos e, if_neg (fun q => by have := ah_eq (a := i) (b := k0) (by omega) hk (by unfold ah; rw [e]; exact q) he; omega)]
      · rw [if_neg e]
    · show FB_X5_names_144 4096 k k2 x (nI (An nm (nm k0) k0)) (nI (nm k0)) (nI k0) S = _
      rw [x5_n144 h13 hb hb0 hk, if_pos rfl, if_pos (show nI (An nm (nm k0) k0) = x from he)]
