/-! bar -/
def cb (K : Nat → Nat → Nat) : Nat → Nat
  | 0 => prt K
  | i + 1 => if pop i < pop (cb K i) ∧ ndf i (prt K) = 0 ∧ rmN K i 31 = 0 then i else cb K i
theorem cb_s {K : Nat → Nat → Nat} {i : Nat} : cb K (i + 1) = if pop i < pop (cb K i) ∧ ndf i (prt K) = 0 ∧ rmN K i 31 = 0 then i else cb K i := rfl
theorem cb_lt {K : Nat → Nat → Nat} (hK : okK K) : ∀ i, i ≤ 64 → cb K i < 64
  | 0, _ => prt_lt hK
  | i + 1, h => by
    unfold cb
    split
    · omega
    · exact cb_lt hK i (by omega)
theorem nI_le7 {a b : Nat} (ha : a < 7) (hb : b < 7) : (nI a ≤ nI b) = (a ≤ b) := by
  have h : ∀ a, a < 7 → ∀ b, b < 7 → (nI a ≤ nI b ↔ a ≤ b) := by decide +kernel
  exact propext (h a ha b hb)
theorem sg01 {K : Nat → Nat → Nat} {s : Nat} : (sgd K s = 0) = (rmN K s 31 = 0) := by
  unfold sgd
  by_cases e : rmN K s 31 = 0
  · rw [if_pos e]; simp [e]
  · rw [if_neg e]; simp [e, z01]
theorem x4_fewest {K : Nat → Nat → Nat} {S : St} (hK : okK K) (h : webOK K S) : ∃ r, (r.1 = nI (cb K 64) ∧ coU S r.2) ∧ f_X4_fewestBarring 4096 S = some r := by
  unfold f_X4_fewestBarring
  rw [bd_s, h.2.2.1]
  refine lp_rel (F := F_X4_fewestBarring_10 4096) (fun i x => ∃ S', x = (nI (cb K i), nI i, S') ∧ webOK K S' ∧ coU S S') 64 4096 (by decide) (fun i hi x hx => ?_) (fun x hx => ?_) ⟨S, rfl, h, coU_refl S⟩
  · obtain ⟨S', e, hw, hc⟩ := hx
    subst e
    have hcb := cb_lt hK i (by omega)
    have h63 : ¬ (63 : Int32) < nI i := by
      have q : ∀ i, i < 64 → ¬ (63 : Int32) < nI i := by decide +kernel
      exact q i hi
    have hb : ∀ k, FB_X4_fewestBarring_10 4096 k (nI (cb K i)) (nI i) S' = if pop (cb K i) ≤ pop i then B_X4_fewestBarring_32 4096 k (nI (cb K i)) (nI i) 0 S' else B_X4_fewestBarring_32 4096 k (nI (cb K i)) (nI i) 1 S' := fun k => by
      unfold FB_X4_fewestBarring_10
      rw [if_neg h63, x4_pop i hi, bd_s, x4_pop _ hcb, bd_s]
      have q := nI_le7 (pop_lt _ hcb) (pop_lt i hi)
      by_cases e : pop (cb K i) ≤ pop i
      · rw [if_pos (by rw [q]; exact e), if_pos e]
      · rw [if_neg (by rw [q]; exact e), if_neg e]
    by_cases e1 : pop (cb K i) ≤ pop i
    · refine ⟨_, ⟨S', rfl, hw, hc⟩, fun k => ?_⟩
      show FB_X4_fewestBarring_10 4096 k (nI (cb K i)) (nI i) S' = _
      rw [hb, if_pos e1]
      unfold B_X4_fewestBarring_32
      rw [cb_s, if_pos rfl, if_neg (by omega), nI_1]
    · by_cases e2 : ndf i (prt K) = 0
      · refine ⟨_, ⟨r25 S' (ltS K i 31) 6, rfl, web_r25 hw, coU_trans hc r25_co⟩, fun k => ?_⟩
        show FB_X4_fewestBarring_10 4096 k (nI (cb K i)) (nI i) S' = _
        rw [hb, if_neg e1]
        unfold B_X4_fewestBarring_32
        rw [cb_s, if_neg z01, hw.2.2.1, x4_isPartOf hi (prt_lt hK), bd_s, if_pos e2, if_neg z01, x3_someGoodWith hK hw hi, bd2_s, nI_1]
        by_cases e3 : rmN K i 31 = 0
        · rw [if_pos (by rw [sg01]; exact e3), if_pos ⟨by omega, e2, e3⟩]
        · rw [if_neg (by rw [sg01]; exact e3), if_neg (fun q => e3 q.2.2)]
      · refine ⟨_, ⟨S', rfl, hw, hc⟩, fun k => ?_⟩
        show FB_X4_fewestBarring_10 4096 k (nI (cb K i)) (nI i) S' = _
        rw [hb, if_neg e1]
        unfold B_X4_fewestBarring_32
        rw [cb_s, if_neg z01, hw.2.2.1, x4_isPartOf hi (prt_lt hK), bd_s, if_neg e2, if_pos rfl, if_neg (fun q => e2 q.2.1), nI_1]
  · obtain ⟨S', e, hw, hc⟩ := hx
    subst e
    refine ⟨(nI (cb K 64), S'), ⟨rfl, hc⟩, fun k => ?_⟩
    show FB_X4_fewestBarring_10 4096 k (nI (cb K 64)) (nI 64) S' = _
    unfold FB_X4_fewestBarring_10
    rw [if_pos (by decide)]
