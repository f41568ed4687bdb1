/-! bar, in the model -/
theorem x5_inside {K : Nat → Nat → Nat} {m : Nat} {S : St} (hK : okK K) (h : mOK K m S) : f_X5_inside S = some (nI (prt K)) := by
  have hw := kWh hK
  have c3 : Int32.toNatClampNeg 3 = 3 := rfl
  unfold f_X5_inside
  rw [gd_t (show ix 3 4 by decide), c3, h.2.1 3 (by decide), h.1, pa_shl _ (by omega), pa_ndf _ (rch_lt 3 hK) _ (pw_lt64 hw)]
  rfl
theorem mOK_mute {K : Nat → Nat → Nat} {m m' : Nat} {S : St} (h : mOK K m S) : mOK K m' (sto S 0 15 (nI m')) := by
  unfold mOK at *
  rw [sto_s, sto_s, sto_n (by decide), sto_n (by decide), sto_n (by decide), sto_n (by decide), sto_n (by decide), if_neg (by decide), if_pos rfl]
  exact ⟨h.1, h.2.1, h.2.2.1, rfl, h.2.2.2.2⟩
theorem mute_co {S : St} {v : Int32} : coM S (sto S 0 15 v) := by
  refine ⟨?_, ?_, ?_, fun k h1 h2 => sto_n (by omega), fun j _ => ?_, sto_n (by decide), sto_n (by decide)⟩
  · rw [sto_s, if_neg (by decide)]
  · rw [sto_s, if_neg (by decide)]
  · rw [sto_s, if_neg (by decide)]
  · rw [sto_n (by decide)]
theorem mutebits {K : Nat → Nat → Nat} {s : Nat} (hK : okK K) (hs : s < 64) (h : ndf s (prt K) = 0) : (∀ p, p < 6 → s.testBit p = true → (prt K).testBit p = true ∧ (ndf 63 s).testBit p = false) ∧ (∀ p, p < 6 → s.testBit p = false → (prt K).testBit p = false ∨ (ndf 63 s).testBit p = true) := by
  refine ⟨fun p hp e => ⟨ndf_sub s hs _ (prt_lt hK) h p hp e, ?_⟩, fun p hp e => Or.inr ?_⟩
  · rw [ndf_bit hp, e]; simp
  · rw [ndf_bit hp, e]
    have q : ∀ p, p < 6 → (63 : Nat).testBit p = true := by decide +kernel
    rw [q p hp]; rfl
theorem x5_b51 {K : Nat → Nat → Nat} {m s : Nat} {S : St} {v : Int32} (hK : okK K) (h : mOK K m S) (hs : s < 64) (hp : ndf s (prt K) = 0) : ∃ S', mOK K (ndf 63 s) S' ∧ coM S S' ∧ ∀ k, B_X5_bar_51 4096 k v (nI s) S = if rmN K s 31 = 0 then k (nI s, nI (s + 1), S') else k (v, nI (s + 1), S') := by
  have hb := mutebits hK hs hp
  have hm : ndf 63 s < 64 := Nat.lt_of_le_of_lt (ndf_le _ _) (by decide)
  have ho := mOK_mute (m' := ndf 63 s) h
  obtain ⟨d, hd⟩ := x5_sgd hK hm ho hb.1 hb.2
  refine ⟨q10 (sto S 0 15 (nI (ndf 63 s))) d, mOK_q ho, coM_trans mute_co q10_co, fun k => ?_⟩
  have e63 : (63 : Int32) &&& (nI s ^^^ (-1)) = nI (ndf 63 s) := pa_ndf 63 (by decide) s hs
  unfold B_X5_bar_51
  rw [bd_s, e63, hd, bd2_s, nI_1]
  by_cases e : rmN K s 31 = 0
  · rw [if_pos (by rw [sg01]; exact e), if_pos e]
  · rw [if_neg (by rw [sg01]; exact e), if_neg e]
