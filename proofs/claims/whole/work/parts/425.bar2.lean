/-! bar, in the model -/
theorem x5_inside {K : Nat → Nat → Nat} {m : Nat} {S : St} (hK : okK K) (h : mOK K m S) : f_X5_inside S = some (nI (prt K)) := by
  have hw := kWh hK
  have c3 : Int32.toNatClampNeg 3 = 3 := rfl
  unfold f_X5_inside
  rw [gd_t (show ix 3 4 by decide), c3, h.2.1 3 (by decide), h.1, pa_shl _ (by omega), pa_ndf _ (rch_lt 3 hK) _ (pw_lt64 hw)]
  rfl
theorem mOK_mute {K : Nat → Nat → Nat} {m m' : Nat} {S : St} (h : mOK K m S) : mOK K m' (sto S 0 15 (nI m')) := by
  unfold mOK at *
  rw [sto_s, sto_s, sto_n (by decide), sto_n (by decide), sto_n (by decide), sto_n (by decide), sto_n (by decide), if_neg (by decide), if_pos rfl]
  exact ⟨h.1, h.2.1, h.2.2.1, rfl, h.2.2.2.2⟩
theorem mute_co {S : St} {v : Int32} : coM S (sto S 0 15 v) := by
  refine ⟨?_, ?_, ?_, fun k h1 h2 => sto_n (by omega), fun j _ => ?_, sto_n (by decide), sto_n (by decide)⟩
  · rw [sto_s, if_neg (by decide)]
  · rw [sto_s, if_neg (by decide)]
  · rw [sto_s, if_neg (by decide)]
  · rw [sto_n (by decide)]
