/-! the model's begin and next -/
def mOK (K : Nat → Nat → Nat) (m : Nat) (S : St) : Prop := S 0 8 = nI (K 0 9) ∧ (∀ r, r < 4 → S 8 r = nI (rch K r)) ∧ (∀ p, p < 6 → S 9 p = nI (cho K p)) ∧ S 0 15 = nI m ∧ (∀ t, t < 5 → S 2 t = nI (K 1 t)) ∧ (∀ t, t < 5 → S 3 t = nI (K 2 t)) ∧ (∀ t, t < 5 → S 4 t = nI (K 3 t))
def alw (K : Nat → Nat → Nat) (p : Nat) : Nat := if (prt K).testBit p = true then cho K p else 1
def q10 (S : St) (c : Nat → Nat) : St := fun k j => if k = 10 ∧ j < 6 then nI (c j) else S k j
theorem q10_n {S : St} {c : Nat → Nat} {k : Nat} (h : k ≠ 10) : q10 S c k = S k := by funext j; unfold q10; rw [if_neg (fun q => h q.1)]
theorem q10_s {S : St} {c : Nat → Nat} {p : Nat} (h : p < 6) : q10 S c 10 p = nI (c p) := by unfold q10; rw [if_pos ⟨rfl, h⟩]
theorem q10_up {S : St} {c : Nat → Nat} {p t : Nat} (hp : p < 6) : sto (q10 S c) 10 p (nI t) = q10 S (cup c p t) := by
  funext k j
  rw [sto_at]
  unfold q10 cup
  by_cases e : k = 10 ∧ j = p
  · rw [if_pos e, if_pos (by omega), if_pos e.2]
  · rw [if_neg e]
    by_cases d : k = 10 ∧ j < 6
    · rw [if_pos d, if_pos d, if_neg (by omega)]
    · rw [if_neg d, if_neg d]
theorem q10_q10 {S : St} {c d : Nat → Nat} : q10 (q10 S c) d = q10 S d := by
  funext k j
  unfold q10
  by_cases e : k = 10 ∧ j < 6
  · rw [if_pos e, if_pos e]
  · rw [if_neg e, if_neg e, if_neg e]
theorem mOK_q {K : Nat → Nat → Nat} {m : Nat} {S : St} {c : Nat → Nat} (h : mOK K m S) : mOK K m (q10 S c) := by
  unfold mOK at *
  rw [q10_n (by decide), q10_n (by decide), q10_n (by decide), q10_n (by decide), q10_n (by decide), q10_n (by decide)]
  exact h
theorem q10_co {S : St} {c : Nat → Nat} : coM S (q10 S c) := by
  refine ⟨?_, ?_, ?_, fun k h1 h2 => q10_n (by omega), fun j hj => ?_, q10_n (by decide), q10_n (by decide)⟩ <;> rw [q10_n (by decide)]
theorem alw_ok {K : Nat → Nat → Nat} (hK : okK K) : ∀ p, p < 6 → alw K p < 32 ∧ 1 ≤ alw K p := fun p hp => by
  unfold alw
  split
  · exact ⟨cho_lt hK hp, cho_pos hK hp⟩
  · exact ⟨by decide, by decide⟩
theorem pa_hgh : ∀ b, b < 32 → ∀ t, t < 5 → (nI b >>> ((nI t + 1) &&& 31)) <<< ((nI t + 1) &&& 31) = nI (hgh b t) := by decide +kernel
theorem hgh_lt : ∀ b, b < 32 → ∀ t, t < 5 → hgh b t < 32 := by decide +kernel
theorem x5_leastIn : ∀ b, b < 32 → 1 ≤ b → f_X5_leastIn 4096 (nI b) = some (nI (lea b)) := by decide +kernel
theorem prt_bit {K : Nat → Nat → Nat} {p : Nat} (hp : p < 6) : (prt K).testBit p = ((rch K 3).testBit p && !(decide (K 0 9 = p))) := by
  unfold prt
  rw [ndf_bit hp, Nat.testBit_two_pow]
theorem x5_isChosen {K : Nat → Nat → Nat} {m : Nat} {S : St} {p : Nat} (hK : okK K) (h : mOK K m S) (hp : p < 6) : f_X5_isChosen (nI p) S = some (if (prt K).testBit p = true then 1 else 0) := by
  have hw := kWh hK
  have c3 : Int32.toNatClampNeg 3 = 3 := rfl
  rw [prt_bit hp]
  simp only [f_X5_isChosen, h.1, c3, h.2.1 3 (by decide), gd_t (show ix 3 4 by decide), x5_has (rch_lt 3 hK) (show p < 10 by omega), bd_s]
  by_cases e : p = K 0 9
  · rw [if_pos (by rw [e]), if_neg (by simp [e])]
  · rw [if_neg (fun q => e (nI_inj (by omega) (by omega) q))]
    cases hb : (rch K 3).testBit p
    · rw [if_neg (show ¬ false = true by simp), if_pos rfl, if_neg (by simp)]
    · rw [if_pos (rfl : true = true), if_neg z01, if_pos (by simp; omega)]
def c0 : Nat → Nat := fun _ => 0
def bg (K : Nat → Nat → Nat) (S : St) (i : Nat) : St := fun k j => if k = 10 ∧ j < i then nI (lea (alw K j)) else S k j
theorem bg_s {K : Nat → Nat → Nat} {S : St} {i : Nat} : sto (bg K S i) 10 i (nI (lea (alw K i))) = bg K S (i + 1) := by
  funext k j
  rw [sto_at]
  unfold bg
  by_cases e : k = 10 ∧ j = i
  · rw [if_pos e, if_pos (by omega), e.2]
  · rw [if_neg e]
    by_cases d : k = 10 ∧ j < i
    · rw [if_pos d, if_pos (by omega)]
    · rw [if_neg d, if_neg (by omega)]
theorem mOK_bg {K : Nat → Nat → Nat} {m i : Nat} {S : St} (h : mOK K m S) : mOK K m (bg K S i) := by
  have n : ∀ k, k ≠ 10 → bg K S i k = S k := fun k hk => by funext j; unfold bg; rw [if_neg (fun q => hk q.1)]
  unfold mOK at *
  rw [n 0 (by decide), n 8 (by decide), n 9 (by decide), n 2 (by decide), n 3 (by decide), n 4 (by decide)]
  exact h
theorem bg_0 {K : Nat → Nat → Nat} {S : St} : bg K S 0 = S := by funext k j; unfold bg; rw [if_neg (by omega)]
theorem bg_6 {K : Nat → Nat → Nat} {S : St} : bg K S 6 = q10 S (rst (alw K) 6 c0) := by
  funext k j
  unfold bg q10 rst
  by_cases d : k = 10 ∧ j < 6
  · rw [if_pos d, if_pos d, if_pos (by omega)]
  · rw [if_neg d, if_neg d]
theorem x5_begin {K : Nat → Nat → Nat} {m : Nat} {S : St} (hK : okK K) (h : mOK K m S) : f_X5_begin 4096 S = some (q10 S (rst (alw K) 6 c0)) := by
  rw [← bg_6]
  unfold f_X5_begin
  have e0 := bg_0 (K := K) (S := S)
  rw [show (0, S) = ((fun i => (nI i, bg K S i)) 0 : Int32 × St) by rw [show (fun i => (nI i, bg K S i)) 0 = (nI 0, bg K S 0) from rfl, e0]; rfl]
  refine lp_run (F := F_X5_begin_2 4096) (fun i => (nI i, bg K S i)) 6 4096 (by decide) (fun i hi k => ?_) (fun k => ?_)
  · show FB_X5_begin_2 4096 k (nI i) (bg K S i) = k (nI (i + 1), bg K S (i + 1))
    have h6 : ¬ (6 : Int32) ≤ nI i := nI_ge (a := i) (b := 6) hi (by decide)
    have ho := mOK_bg (i := i) h
    have hl := cho_lt hK hi
    have hp := cho_pos hK hi
    rw [← bg_s]
    simp only [FB_X5_begin_2, h6, x5_isChosen hK ho hi, bd_s, nI_clamp (show i < 2 ^ 31 by omega), gd_t (ix_n hi (show 6 ≤ 65536 by decide)), ho.2.2.1 i hi, x5_leastIn _ hl hp, nI_1, ↓reduceIte]
    by_cases e : (prt K).testBit i = true
    · rw [if_pos e, if_neg z01]
      unfold alw
      rw [if_pos e]
    · rw [if_neg e, if_pos rfl]
      unfold alw
      rw [if_neg e]; rfl
  · show FB_X5_begin_2 4096 k (nI 6) (bg K S 6) = _
    unfold FB_X5_begin_2
    rw [if_pos (by decide)]
theorem rst_c {a : Nat → Nat} {i : Nat} (hi : i ≤ 5) (c : Nat → Nat) : cup (rst a i c) (5 - i) (lea (a (5 - i))) = rst a (i + 1) c := by
  funext j
  unfold cup rst
  by_cases e : j = 5 - i
  · subst e; rw [if_pos rfl, if_pos (by omega)]
  · rw [if_neg e]
    by_cases d : 6 - i ≤ j ∧ j < 6
    · rw [if_pos d, if_pos (by omega)]
    · rw [if_neg d, if_neg (by omega)]
theorem rst_at {a : Nat → Nat} {i : Nat} (hi : i ≤ 5) (c : Nat → Nat) : rst a i c (5 - i) = c (5 - i) := by
  unfold rst; rw [if_neg (by omega)]
theorem rst_0 {a : Nat → Nat} (c : Nat → Nat) : rst a 0 c = c := by funext j; unfold rst; rw [if_neg (by omega)]
def okC (K : Nat → Nat → Nat) (c : Nat → Nat) : Prop := ∀ p, p < 6 → c p < 5 ∧ (alw K p).testBit (c p) = true
theorem bit1_0 : ∀ t, t < 5 → (1 : Nat).testBit t = true → t = 0 := by decide +kernel
theorem x5_nx {K : Nat → Nat → Nat} {m : Nat} {S : St} {c : Nat → Nat} {i : Nat} (hK : okK K) (h : mOK K m S) (hc : okC K c) (hi : i ≤ 5) (k : Int32 × St → Option (Int32 × St)) : FB_X5_next_2 4096 k (nI (5 - i)) (q10 S (rst (alw K) i c)) = if hgh (alw K (5 - i)) (c (5 - i)) = 0 then k (nI (5 - i) + (-1), q10 S (rst (alw K) (i + 1) c)) else some (1, q10 S (cup (rst (alw K) i c) (5 - i) (lea (hgh (alw K (5 - i)) (c (5 - i)))))) := by
  have hp : 5 - i < 6 := by omega
  have ho := mOK_q (c := rst (alw K) i c) h
  have hl := cho_lt hK hp
  have hps := cho_pos hK hp
  have hcp := hc _ hp
  have hn : ¬ nI (5 - i) < 0 := by
    intro q
    have := nI_ge (a := 5 - i) (b := 6) hp (by decide)
    revert q
    have hd : ∀ n, n < 6 → ¬ nI n < 0 := by decide +kernel
    exact hd _ hp
  have e10 : q10 S (rst (alw K) i c) 10 (5 - i) = nI (c (5 - i)) := by rw [q10_s hp, rst_at hi]
  by_cases e : (prt K).testBit (5 - i) = true
  · have ea : alw K (5 - i) = cho K (5 - i) := by unfold alw; rw [if_pos e]
    have hh := hgh_lt _ hl _ hcp.1
    simp only [FB_X5_next_2, B_X5_next_42, hn, x5_isChosen hK ho hp, e, bd_s, z01, nI_clamp (show 5 - i < 2 ^ 31 by omega), gd_t (ix_n hp (show 6 ≤ 65536 by decide)), ho.2.2.1 _ hp, e10, pa_hgh _ hl _ hcp.1, x5_leastIn _ hl hps, q10_up hp, ↓reduceIte]
    rw [ea]
    by_cases z : hgh (cho K (5 - i)) (c (5 - i)) = 0
    · rw [z, if_pos (show nI 0 = 0 from rfl), if_pos rfl, ← rst_c hi, ea]
    · have zn : ¬ nI (hgh (cho K (5 - i)) (c (5 - i))) = 0 := fun q => z (nI_inj (b := 0) (by omega) (by decide) q)
      rw [if_neg zn, if_neg z, x5_leastIn _ hh (by omega), bd_s, q10_up hp]
  · have ea : alw K (5 - i) = 1 := by unfold alw; rw [if_neg e]
    have ec : c (5 - i) = 0 := bit1_0 _ hcp.1 (by rw [← ea]; exact hcp.2)
    rw [ea, ec, if_pos (show hgh 1 0 = 0 by decide)]
    have q0 : sto (q10 S (rst (alw K) i c)) 10 (5 - i) 0 = q10 S (rst (alw K) (i + 1) c) := by
      rw [← rst_c hi, ea]; exact q10_up (t := 0) hp
    simp only [FB_X5_next_2, B_X5_next_42, hn, x5_isChosen hK ho hp, e, Bool.false_eq_true, bd_s, nI_clamp (show 5 - i < 2 ^ 31 by omega), gd_t (ix_n hp (show 6 ≤ 65536 by decide)), q0, ↓reduceIte]
def nxT (K : Nat → Nat → Nat) (S : St) (c : Nat → Nat) (i : Nat) : Int32 × St := (if i < 6 then nI (5 - i) else -1, q10 S (rst (alw K) i c))
theorem nxT_s {K : Nat → Nat → Nat} {S : St} {c : Nat → Nat} {i : Nat} (hi : i ≤ 5) : (nI (5 - i) + (-1), q10 S (rst (alw K) (i + 1) c)) = nxT K S c (i + 1) := by
  unfold nxT
  by_cases e : i = 5
  · subst e; rfl
  · rw [if_pos (by omega), m1 (show 0 < 5 - i by omega)]; rfl
theorem nxT_at {K : Nat → Nat → Nat} {S : St} {c : Nat → Nat} {i : Nat} (hi : i ≤ 5) : nxT K S c i = (nI (5 - i), q10 S (rst (alw K) i c)) := by
  unfold nxT; rw [if_pos (by omega)]
theorem nxT_0 {K : Nat → Nat → Nat} {S : St} {c : Nat → Nat} : (5, q10 S c) = nxT K S c 0 := by
  unfold nxT; rw [rst_0]; rfl
theorem x5_next1 {K : Nat → Nat → Nat} {m : Nat} {S : St} {c d : Nat → Nat} (hK : okK K) (h : mOK K m S) (hc : okC K c) (hs : stp (alw K) c d) : f_X5_next 4096 (q10 S c) = some (1, q10 S d) := by
  obtain ⟨i, hi, h1, h2, h3⟩ := hs
  unfold f_X5_next
  rw [nxT_0 (K := K)]
  refine lp_run (F := F_X5_next_2 4096) (nxT K S c) i 4096 (by omega) (fun j hj k => ?_) (fun k => ?_)
  · rw [nxT_at (by omega)]
    show FB_X5_next_2 4096 k (nI (5 - j)) (q10 S (rst (alw K) j c)) = _
    rw [x5_nx hK h hc (by omega), if_pos (h1 j hj), nxT_s (by omega)]
  · rw [nxT_at (by omega)]
    show FB_X5_next_2 4096 k (nI (5 - i)) (q10 S (rst (alw K) i c)) = _
    rw [x5_nx hK h hc (by omega), if_neg h2, h3]
theorem x5_next0 {K : Nat → Nat → Nat} {m : Nat} {S : St} {c : Nat → Nat} (hK : okK K) (h : mOK K m S) (hc : okC K c) (hs : lastp (alw K) 6 c) : f_X5_next 4096 (q10 S c) = some (0, q10 S (rst (alw K) 6 c)) := by
  unfold f_X5_next
  rw [nxT_0 (K := K)]
  refine lp_run (F := F_X5_next_2 4096) (nxT K S c) 6 4096 (by decide) (fun j hj k => ?_) (fun k => ?_)
  · rw [nxT_at (by omega)]
    show FB_X5_next_2 4096 k (nI (5 - j)) (q10 S (rst (alw K) j c)) = _
    rw [x5_nx hK h hc (by omega), if_pos (hs j hj), nxT_s (by omega)]
  · show FB_X5_next_2 4096 k (-1) (q10 S (rst (alw K) 6 c)) = _
    unfold FB_X5_next_2
    rw [if_pos (by decide)]
