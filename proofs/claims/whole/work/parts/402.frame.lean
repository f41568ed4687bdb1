/-! stores and the books -/
theorem vU_out {S : St} {k i r j : Nat} {v : Int32} (h2 : k ≠ 2) (hk : k < 9 ∨ 17 < k) (hr : inB r j) : vU (sto S k i v) r j = vU S r j := by
  unfold vU
  rcases hr with ⟨rfl, _⟩ | ⟨h1, h9, _⟩
  · rw [if_pos rfl, if_pos rfl, sto_n (by omega)]
  · rw [if_neg (show ¬ r = 0 by omega), if_neg (show ¬ r = 0 by omega), sto_n (by omega)]
theorem vI_out {S : St} {k i n r j : Nat} {v : Int32} (hk : k < 29) : vI (sto S k i v) n r j = vI S n r j := by
  unfold vI
  by_cases e : r = 0
  · rw [if_pos e, if_pos e, sto_n (by omega)]
  · rw [if_neg e, if_neg e, sto_n (by omega)]
theorem vM_out {S : St} {k i r j : Nat} {v : Int32} (hk : k = 1 ∨ 8 ≤ k ∨ (k = 0 ∧ i ≠ 8 ∧ i ≠ 9)) (hr : inB r j) : vM (sto S k i v) r j = vM S r j := by
  unfold vM
  rcases hr with ⟨rfl, _⟩ | ⟨h1, h9, _⟩
  · rw [if_pos rfl, if_pos rfl]
    by_cases e0 : k = 0
    · subst e0
      rw [sto_s, sto_s, if_neg (show ¬ (8 : Nat) = i by omega), if_neg (show ¬ (9 : Nat) = i by omega)]
    · rw [sto_n (by omega)]
  · rw [if_neg (show ¬ r = 0 by omega), if_neg (show ¬ r = 0 by omega)]
    by_cases e4 : r ≤ 4
    · rw [if_pos e4, if_pos e4, sto_n (by omega)]
    · rw [if_neg e4, if_neg e4]
      by_cases e8 : r ≤ 8
      · rw [if_pos e8, if_pos e8, sto_n (by omega)]
      · rw [if_neg e8, if_neg e8, sto_n (by omega)]
theorem vN_out {S : St} {k i n r j : Nat} {v : Int32} (hk : k ≠ 16) : vN (sto S k i v) n r j = vN S n r j := by
  unfold vN
  rw [sto_n (show (16 : Nat) ≠ k by omega)]
theorem vU_in {S : St} {r0 i r j : Nat} {v : Int32} (h0 : 1 ≤ r0) (hr : inB r j) : vU (sto S (8 + r0) i v) r j = if r = r0 ∧ j = i then v else vU S r j := by
  unfold vU
  rcases hr with ⟨rfl, _⟩ | ⟨h1, h9, _⟩
  · rw [if_pos rfl, if_pos rfl, sto_n (by omega), if_neg (by omega)]
  · rw [if_neg (show ¬ r = 0 by omega), if_neg (show ¬ r = 0 by omega)]
    by_cases e : r = r0
    · subst e
      rw [sto_s]
      by_cases e2 : j = i
      · rw [if_pos e2, if_pos ⟨rfl, e2⟩]
      · rw [if_neg e2, if_neg (fun q => e2 q.2)]
    · rw [sto_n (by omega), if_neg (fun q => e q.1)]
theorem vU_in0 {S : St} {i r j : Nat} {v : Int32} (hr : inB r j) : vU (sto S 2 i v) r j = if r = 0 ∧ j = i then v else vU S r j := by
  unfold vU
  rcases hr with ⟨rfl, _⟩ | ⟨h1, h9, _⟩
  · rw [if_pos rfl, if_pos rfl, sto_s]
    by_cases e2 : j = i
    · rw [if_pos e2, if_pos ⟨rfl, e2⟩]
    · rw [if_neg e2, if_neg (fun q => e2 q.2)]
  · rw [if_neg (show ¬ r = 0 by omega), if_neg (show ¬ r = 0 by omega), sto_n (by omega), if_neg (by omega)]
theorem vM_inT {S : St} {r0 i r j : Nat} {v : Int32} (h0 : 1 ≤ r0) (h4 : r0 ≤ 4) (hr : inB r j) : vM (sto S (r0 + 1) i v) r j = if r = r0 ∧ j = i then v else vM S r j := by
  unfold vM
  rcases hr with ⟨rfl, _⟩ | ⟨h1, h9, _⟩
  · rw [if_pos rfl, if_pos rfl, sto_n (by omega), if_neg (show ¬ (0 = r0 ∧ j = i) by omega)]
  · rw [if_neg (show ¬ r = 0 by omega), if_neg (show ¬ r = 0 by omega)]
    by_cases e4 : r ≤ 4
    · rw [if_pos e4, if_pos e4]
      by_cases e : r = r0
      · subst e
        rw [sto_s]
        by_cases e2 : j = i
        · rw [if_pos e2, if_pos ⟨rfl, e2⟩]
        · rw [if_neg e2, if_neg (fun q => e2 q.2)]
      · rw [sto_n (by omega), if_neg (fun q => e q.1)]
    · rw [if_neg e4, if_neg e4, if_neg (show ¬ (r = r0 ∧ j = i) by omega)]
      by_cases e8 : r ≤ 8
      · rw [if_pos e8, if_pos e8, sto_n (by omega)]
      · rw [if_neg e8, if_neg e8, sto_n (by omega)]
theorem vM_inP {S : St} {w i r j : Nat} {v : Int32} (hw : w < 4) (hr : inB r j) : vM (sto S 6 (4 * i + w) v) r j = if r = 5 + w ∧ j = i then v else vM S r j := by
  unfold vM
  rcases hr with ⟨rfl, _⟩ | ⟨h1, h9, _⟩
  · rw [if_pos rfl, if_pos rfl, sto_n (by omega), if_neg (show ¬ (0 = 5 + w ∧ j = i) by omega)]
  · rw [if_neg (show ¬ r = 0 by omega), if_neg (show ¬ r = 0 by omega)]
    by_cases e4 : r ≤ 4
    · rw [if_pos e4, if_pos e4, sto_n (by omega), if_neg (by omega)]
    · rw [if_neg e4, if_neg e4]
      by_cases e8 : r ≤ 8
      · rw [if_pos e8, if_pos e8, sto_s]
        by_cases e2 : 4 * j + (r - 5) = 4 * i + w
        · rw [if_pos e2, if_pos (by omega)]
        · rw [if_neg e2, if_neg (by omega)]
      · rw [if_neg e8, if_neg e8, sto_n (by omega), if_neg (by omega)]
theorem vM_inK {S : St} {i r j : Nat} {v : Int32} (hr : inB r j) : vM (sto S 7 i v) r j = if r = 9 ∧ j = i then v else vM S r j := by
  unfold vM
  rcases hr with ⟨rfl, _⟩ | ⟨h1, h9, _⟩
  · rw [if_pos rfl, if_pos rfl, sto_n (by omega), if_neg (show ¬ (0 = 9 ∧ j = i) by omega)]
  · rw [if_neg (show ¬ r = 0 by omega), if_neg (show ¬ r = 0 by omega)]
    by_cases e4 : r ≤ 4
    · rw [if_pos e4, if_pos e4, sto_n (by omega), if_neg (by omega)]
    · rw [if_neg e4, if_neg e4]
      by_cases e8 : r ≤ 8
      · rw [if_pos e8, if_pos e8, sto_n (by omega), if_neg (by omega)]
      · rw [if_neg e8, if_neg e8, sto_s]
        by_cases e2 : j = i
        · rw [if_pos e2, if_pos ⟨by omega, e2⟩]
        · rw [if_neg e2, if_neg (fun q => e2 q.2)]
theorem vM_in0 {S : St} {i r j : Nat} {v : Int32} (hi : i = 9 ∨ i = 10) (hr : inB r j) : vM (sto S 0 (i - 1) v) r j = if r = 0 ∧ j = i then v else vM S r j := by
  unfold vM
  rcases hr with ⟨rfl, hj⟩ | ⟨h1, h9, _⟩
  · rw [if_pos rfl, if_pos rfl, sto_s, sto_s]
    rcases hi with rfl | rfl <;> rcases hj with rfl | rfl <;> simp
  · rw [if_neg (show ¬ r = 0 by omega), if_neg (show ¬ r = 0 by omega), if_neg (show ¬ (r = 0 ∧ j = i) by omega)]
    by_cases e4 : r ≤ 4
    · rw [if_pos e4, if_pos e4, sto_n (by omega)]
    · rw [if_neg e4, if_neg e4]
      by_cases e8 : r ≤ 8
      · rw [if_pos e8, if_pos e8, sto_n (by omega)]
      · rw [if_neg e8, if_neg e8, sto_n (by omega)]
/-- the same images -/
theorem imgR_same {Su Sm Su' Sm' : St} (h : imgR Su Sm) (h6 : Su' 6 = Su 6) (h17 : Sm' 17 = Sm 17) (hi : ∀ n r j, n < 2 → inB r j → vI Su' n r j = vI Su n r j) (hn : ∀ n r j, n < 2 → inB r j → vN Sm' n r j = vN Sm n r j) : imgR Su' Sm' := by
  intro n hl
  obtain ⟨g1, g2⟩ := h n hl
  refine ⟨by rw [h6, h17]; exact g1, ?_⟩
  rcases g2 with g2 | ⟨g2, Kn, g3, g4, g5⟩
  · exact Or.inl (by rw [h6]; exact g2)
  · exact Or.inr ⟨by rw [h6]; exact g2, Kn, g3, rep_same g4 (fun r j hj => hi n r j hl hj), rep_same g5 (fun r j hj => hn n r j hl hj)⟩
/-- one number of the book is put, on both sides -/
theorem Rel_put {K : Nat → Nat → Nat} {Su Sm : St} {r0 i n ku iu km im : Nat} {v : Int32} (h : RelK K Su Sm) (hv : v = ev r0 n) (hn : okv r0 i n)
    (hu : ∀ r j, inB r j → vU (sto Su ku iu v) r j = if r = r0 ∧ j = i then v else vU Su r j) (hm : ∀ r j, inB r j → vM (sto Sm km im v) r j = if r = r0 ∧ j = i then v else vM Sm r j)
    (hku : ku = 2 ∨ (9 ≤ ku ∧ ku ≤ 17)) (hkm : (km = 0 ∧ im ≠ 0) ∨ (2 ≤ km ∧ km ≤ 7)) : Rel (sto Su ku iu v) (sto Sm km im v) := by
  obtain ⟨h1, h2, h3, ⟨c, h4, h5, h6, h7⟩, h8⟩ := h
  refine ⟨kup K r0 i n, okK_up h1 hn, rep_up h2 hv hu, rep_up h3 hv hm, ⟨c, h4, by rw [sto_n (by omega)]; exact h5, ?_, by rw [sto_n (by omega), sto_n (by omega)]; exact h7⟩, imgR_same h8 (sto_n (by omega)) (sto_n (by omega)) (fun n r j _ _ => vI_out (by omega)) (fun n r j _ _ => vN_out (by omega))⟩
  rcases hkm with ⟨rfl, hi⟩ | hk
  · rw [sto_s, if_neg (Ne.symm hi)]; exact h6
  · rw [sto_n (by omega)]; exact h6
