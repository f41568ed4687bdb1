/-! fault, terms: put together -/
theorem lp_steps {α β : Type} {F : (α → Option β) → α → Option β} (T : Nat → α) (n m : Nat) (hs : ∀ i, i < n → ∀ k, F k (T i) = k (T (i + 1))) : lpI F (m + n) (T 0) = lpI F m (T n) := by
  have key : ∀ (j : Nat), j ≤ n → lpI F (m + j) (T (n - j)) = lpI F m (T n) := by
    intro j
    induction j with
    | zero => intro _; rfl
    | succ j ih =>
      intro h
      show F (lpI F (m + j)) (T (n - (j + 1))) = _
      rw [hs _ (by omega), show n - (j + 1) + 1 = n - j by omega]
      exact ih (by omega)
  have := key n (Nat.le_refl n)
  rwa [Nat.sub_self] at this
section ExA
variable {S : St} {c n : Nat} {k : Int32 × Int32 × Int32 × St → Option (Int32 × St)}
theorem x5_in3 (x : Int32) : f_X5_in x 48 51 = some (if x < 48 ∨ 51 < x then 0 else 1) := x5_in x 48 51
theorem x4_in3 (x : Int32) : f_X4_within x 48 51 = some (if x < 48 ∨ 51 < x then 0 else 1) := x4_within x 48 51
theorem x5_endA {a : Int32} (hc : S 0 0 = nI c) (hc20 : c ≤ 20) : F_X5_faultOf_23 4096 k (0, -6, nI c, st3 S a (-6) 0) = some (nI c, st3 S a (-6) 0) := by
  show FB_X5_faultOf_23 4096 k 0 (-6) (nI c) (st3 S a (-6) 0) = _
  have hl2 : nI c ≤ nI c := nI_le (Nat.le_refl c) (by omega)
  have e6 : (-6 : Int32) < 0 := by decide
  simp only [FB_X5_faultOf_23, st3_0 S _ _ _ (show 0 < 10 by decide), st3_11, hc, hl2, e6, ↓reduceIte]
theorem x5_badA (hc : S 0 0 = nI c) (hn : n < c) (hc20 : c ≤ 20) (hb : ¬ goodA (S 1) n) (hd : S 1 n < 48 ∨ 51 < S 1 n) : F_X5_faultOf_23 4096 k (0, -6, nI n, st3 S (nI (aS (S 1) n)) (-6) 0) = some (nI n, st3 S (nI (aS (S 1) n)) (-6) 0) := by
  show FB_X5_faultOf_23 4096 k 0 (-6) (nI n) (st3 S (nI (aS (S 1) n)) (-6) 0) = _
  have hlt : ¬ nI c ≤ nI n := nI_ge (by omega) (by omega)
  have e0 : ¬ (0 : Int32) ≤ -6 := by decide
  have e6 : (-6 : Int32) < 0 := by decide
  have hal := askN_lt (S 1 n)
  have w2 := and_n0 (b := askN (S 1 n)) (aS_lt (S 1) n)
  by_cases a0 : askN (S 1 n) = 0
  · have e1 : nI (askN (S 1 n)) ≤ 0 := by rw [a0]; decide
    simp only [FB_X5_faultOf_23, B_X5_faultOf_84, B_X5_faultOf_115, B_X5_faultOf_138, st3_0 S _ _ _ (show 0 < 10 by decide), st3_k S _ _ _ (show 1 ≠ 0 by decide), st3_10, st3_11, st3_12, hc, hlt, e0, e6, e1, x5_ask, x5_in3, hd, gd_t (ix_n (show n < 20 by omega) (by decide)), nI_clamp (show n < 2 ^ 31 by omega), bd_s, ↓reduceIte]
  · have e1 : ¬ nI (askN (S 1 n)) ≤ 0 := nI_nle (by omega) (by omega)
    have e2 : ¬ (nI (aS (S 1) n) &&& nI (askN (S 1 n)) = 0) := fun q => hb ⟨a0, w2.mp q⟩
    simp only [FB_X5_faultOf_23, B_X5_faultOf_84, B_X5_faultOf_115, B_X5_faultOf_138, st3_0 S _ _ _ (show 0 < 10 by decide), st3_k S _ _ _ (show 1 ≠ 0 by decide), st3_10, st3_11, st3_12, hc, hlt, e0, e6, e1, e2, x5_ask, x5_in3, hd, gd_t (ix_n (show n < 20 by omega) (by decide)), nI_clamp (show n < 2 ^ 31 by omega), bd_s, ↓reduceIte]
theorem ask_digit {r : Nat} (hr : r ≤ 3) : askN (nI (48 + r)) = 0 := by
  rcases (show r = 0 ∨ r = 1 ∨ r = 2 ∨ r = 3 by omega) with rfl | rfl | rfl | rfl <;> decide
theorem x5_stepR {a : Int32} {r : Nat} (hc : S 0 0 = nI c) (hn : n < c) (hc20 : c ≤ 20) (hr : r ≤ 3) (hd : S 1 n = nI (48 + r)) : F_X5_faultOf_23 4096 k (0, -6, nI n, st3 S a (-6) 0) = k (0, -6, nI (n + 1), st3 S a (nI r) 0) := by
  show FB_X5_faultOf_23 4096 k 0 (-6) (nI n) (st3 S a (-6) 0) = _
  have hlt : ¬ nI c ≤ nI n := nI_ge (by omega) (by omega)
  have e0 : ¬ (0 : Int32) ≤ -6 := by decide
  have e1 : nI 0 ≤ (0 : Int32) := by decide
  have hin : ¬ (nI (48 + r) < 48 ∨ 51 < nI (48 + r)) := by
    rintro (q | q)
    · exact nI_nlt (a := 48 + r) (b := 48) (by omega) (by omega) q
    · exact nI_nlt (a := 51) (b := 48 + r) (by omega) (by decide) q
  simp only [FB_X5_faultOf_23, B_X5_faultOf_84, st3_0 S _ _ _ (show 0 < 10 by decide), st3_k S _ _ _ (show 1 ≠ 0 by decide), st3_10, st3_11, hc, hlt, e0, x5_ask, hd, ask_digit hr, e1, x5_in3, hin, z01, gd_t (ix_n (show n < 20 by omega) (by decide)), nI_clamp (show n < 2 ^ 31 by omega), bd_s, sub48, st3_r, nI_1, ↓reduceIte]
theorem x5_endB {a : Int32} {r : Nat} (hr : r ≤ 3) (hc : S 0 0 = nI c) (hc20 : c ≤ 20) : F_X5_faultOf_23 4096 k (0, -6, nI c, st3 S a (nI r) 0) = some (-6, st3 S a (nI r) 31) := by
  show FB_X5_faultOf_23 4096 k 0 (-6) (nI c) (st3 S a (nI r) 0) = _
  have hl2 : nI c ≤ nI c := nI_le (Nat.le_refl c) (by omega)
  have hrn : ¬ nI r < 0 := nI_pos (by omega)
  simp only [FB_X5_faultOf_23, B_X5_faultOf_215, st3_0 S _ _ _ (show 0 < 10 by decide), st3_11, hc, hl2, hrn, bd_s, st3_g, ↓reduceIte]
theorem x5_stepB {a : Int32} {r : Nat} (hr : r ≤ 3) (hc : S 0 0 = nI c) (hn : n < c) (hc20 : c ≤ 20) (hd : S 1 n = 58) : F_X5_faultOf_23 4096 k (0, -6, nI n, st3 S a (nI r) 0) = k (1, -6, nI (n + 1), st3 S a (nI r) 0) := by
  show FB_X5_faultOf_23 4096 k 0 (-6) (nI n) (st3 S a (nI r) 0) = _
  have hlt : ¬ nI c ≤ nI n := nI_ge (by omega) (by omega)
  have hrp : (0 : Int32) ≤ nI r := nI_pos' (by omega)
  have hrn : ¬ nI r < 0 := nI_pos (by omega)
  simp only [FB_X5_faultOf_23, B_X5_faultOf_84, B_X5_faultOf_115, st3_0 S _ _ _ (show 0 < 10 by decide), st3_k S _ _ _ (show 1 ≠ 0 by decide), st3_10, st3_11, hc, hlt, hrp, hrn, hd, gd_t (ix_n (show n < 20 by omega) (by decide)), nI_clamp (show n < 2 ^ 31 by omega), bd_s, nI_1, ↓reduceIte]
theorem x5_badB {a : Int32} {r : Nat} (hr : r ≤ 3) (hc : S 0 0 = nI c) (hn : n < c) (hc20 : c ≤ 20) (hd : ¬ S 1 n = 58) : F_X5_faultOf_23 4096 k (0, -6, nI n, st3 S a (nI r) 0) = some (nI n, st3 S a (nI r) 0) := by
  show FB_X5_faultOf_23 4096 k 0 (-6) (nI n) (st3 S a (nI r) 0) = _
  have hlt : ¬ nI c ≤ nI n := nI_ge (by omega) (by omega)
  have hrp : (0 : Int32) ≤ nI r := nI_pos' (by omega)
  have hrn : ¬ nI r < 0 := nI_pos (by omega)
  simp only [FB_X5_faultOf_23, B_X5_faultOf_84, B_X5_faultOf_115, B_X5_faultOf_138, st3_0 S _ _ _ (show 0 < 10 by decide), st3_k S _ _ _ (show 1 ≠ 0 by decide), st3_10, st3_11, hc, hlt, hrp, hrn, hd, gd_t (ix_n (show n < 20 by omega) (by decide)), nI_clamp (show n < 2 ^ 31 by omega), bd_s, ↓reduceIte]
end ExA
theorem x5_fo (S : St) : f_X5_faultOf 4096 S = lpI (F_X5_faultOf_23 4096) 4096 (0, -6, 0, st3 S 0 (-6) 0) := by
  simp only [f_X5_faultOf, bd_s]; rfl
def readOK (Su' Sm' : St) : Prop := ∃ a r g : Nat, a < 32 ∧ r < 4 ∧ g < 32 ∧ Su' 1 2 = nI a ∧ Su' 1 3 = nI r ∧ Su' 1 4 = nI g ∧ Sm' 0 10 = nI a ∧ Sm' 0 11 = nI r ∧ Sm' 0 12 = nI g
theorem read_both {Su Sm : St} (h : padR Su Sm) : ∃ (f : Int32) (Su' Sm' : St), f_X2_read 4096 Su = some (f, Su') ∧ f_X5_faultOf 4096 Sm = some (f, Sm') ∧ coU Su Su' ∧ coM Sm Sm' ∧ ((∃ n, n ≤ 20 ∧ f = nI n) ∨ (f = -6 ∧ readOK Su' Sm')) := by
  obtain ⟨c, hc20, hcu, hcm, hsg⟩ := h
  obtain ⟨n, hn, hg, he⟩ := firstBad (goodA (Sm 1)) c
  have ra : f_X2_readAsks 4096 Su = some (nI n, sto Su 1 2 (nI (aS (Sm 1) n))) := by
    rw [← hsg]
    exact x2_readAsks hcu hc20 hn (by rw [hsg]; exact hg) (by rw [hsg]; exact he)
  have hal := aS_lt (Sm 1) n
  obtain ⟨m, hm⟩ : ∃ m, 4096 = m + 30 + n := ⟨4066 - n, by omega⟩
  have fo : f_X5_faultOf 4096 Sm = lpI (F_X5_faultOf_23 4096) (m + 30) (0, -6, nI n, st3 Sm (nI (aS (Sm 1) n)) (-6) 0) := by
    rw [x5_fo]
    have := lp_steps (F := F_X5_faultOf_23 4096) (fun i => ((0 : Int32), (-6 : Int32), nI i, st3 Sm (nI (aS (Sm 1) i)) (-6) 0)) n (m + 30) (fun i hi k => x5_stepA hcm (by omega) hc20 (hg i hi))
    rw [← hm] at this
    exact this
  have s8 : ∀ (i : Nat) (v : Int32), sto Su 1 i v 8 = Sm 1 := fun i v => by rw [sto_n (by decide)]; exact hsg
  have s11 : sto Su 1 2 (nI (aS (Sm 1) n)) 1 1 = nI c := by rw [sto_s, if_neg (by decide)]; exact hcu
  rcases Nat.lt_or_ge n c with hlt | hge
  · have hb : ¬ goodA (Sm 1) n := by rcases he with he | he; (· omega); exact he
    have hl : ¬ nI c ≤ nI n := nI_ge hlt (by omega)
    have ix1 : ix (nI n) 20 := ix_n (by omega) (by decide)
    have cl1 : (nI n).toNatClampNeg = n := nI_clamp (by omega)
    by_cases hd : Sm 1 n < 48 ∨ 51 < Sm 1 n
    · refine ⟨nI n, sto Su 1 2 (nI (aS (Sm 1) n)), st3 Sm (nI (aS (Sm 1) n)) (-6) 0, ?_, ?_, su1_co (by decide), st3_co _ _ _ _, Or.inl ⟨n, by omega, rfl⟩⟩
      · simp only [f_X2_read, ra, bd2_s, s11, hl, gd_t ix1, cl1, s8, x4_in3, hd, bd_s, ↓reduceIte]
      · rw [fo]; exact x5_badA hcm hlt hc20 hb hd
    · obtain ⟨j, h1, hj, e⟩ := in_nat (a := 48) (b := 51) (by decide) (by decide) (fun z => hd (Or.inl z)) (fun z => hd (Or.inr z))
      obtain ⟨r, rfl⟩ : ∃ r, j = 48 + r := ⟨j - 48, by omega⟩
      have hr3 : r ≤ 3 := by omega
      have fo2 : f_X5_faultOf 4096 Sm = lpI (F_X5_faultOf_23 4096) (m + 29) (0, -6, nI (n + 1), st3 Sm (nI (aS (Sm 1) n)) (nI r) 0) := by
        rw [fo]; exact x5_stepR hcm hlt hc20 hr3 e
      have s2c : ∀ v : Int32, sto (sto Su 1 2 (nI (aS (Sm 1) n))) 1 3 v 1 1 = nI c := fun v => by rw [sto_s, if_neg (by decide)]; exact s11
      have s28 : ∀ v : Int32, sto (sto Su 1 2 (nI (aS (Sm 1) n))) 1 3 v 8 = Sm 1 := fun v => by rw [sto_n (by decide)]; exact s8 _ _
      have co2 : ∀ v : Int32, coU Su (sto (sto Su 1 2 (nI (aS (Sm 1) n))) 1 3 v) := fun v => coU_trans (su1_co (by decide)) (su1_co (by decide))
      have n1 : nI n + 1 = nI (n + 1) := nI_1 n
      rcases Nat.lt_or_ge (n + 1) c with hlt2 | hge2
      · have hl2 : nI (n + 1) < nI c := nI_lt hlt2 (by omega)
        have ix2 : ix (nI (n + 1)) 20 := ix_n (by omega) (by decide)
        have cl2 : (nI (n + 1)).toNatClampNeg = n + 1 := nI_clamp (by omega)
        have rd : f_X2_read 4096 Su = if Sm 1 (n + 1) = 58 then (bd2 (f_X2_readGo 4096 (nI (n + 1 + 1)) (sto (sto Su 1 2 (nI (aS (Sm 1) n))) 1 3 (nI r))) fun r3 S3 => some (r3, S3)) else some (nI (n + 1), sto (sto Su 1 2 (nI (aS (Sm 1) n))) 1 3 (nI r)) := by
          have hd2 := hd
          rw [e] at hd2
          simp only [f_X2_read, ra, bd2_s, s11, hl, gd_t ix1, cl1, s8, x4_in3, e, hd2, bd_s, z01, sub48, s2c, s28, n1, hl2, gd_t ix2, cl2, nI_1, ↓reduceIte]
        by_cases hcol : Sm 1 (n + 1) = 58
        · obtain ⟨w, hw, hgg, hge3⟩ := firstBad (goodG (Sm 1) (n + 1 + 1)) (c - (n + 1 + 1))
          have hwc : n + 1 + 1 + w ≤ c := by omega
          have hwe : n + 1 + 1 + w = c ∨ ¬ goodG (Sm 1) (n + 1 + 1) w := by
            rcases hge3 with q | q
            · exact Or.inl (by omega)
            · exact Or.inr q
          have rg := x2_readGo (S := sto (sto Su 1 2 (nI (aS (Sm 1) n))) 1 3 (nI r)) (f := n + 1 + 1) (n := w) (s2c _) hc20 hwc (by rw [s28]; exact hgg) (by rw [s28]; exact hwe)
          rw [s28] at rg
          obtain ⟨m2, hm2⟩ : ∃ m2, m + 28 = m2 + 1 + w := ⟨m + 27 - w, by omega⟩
          have fo3 : f_X5_faultOf 4096 Sm = some (if n + 1 + 1 + w = c then (if gS (Sm 1) (n + 1 + 1) w = 0 then nI c else -6) else nI (n + 1 + 1 + w), st3 Sm (nI (aS (Sm 1) n)) (nI r) (nI (gS (Sm 1) (n + 1 + 1) w))) := by
            rw [fo2]
            show F_X5_faultOf_23 4096 (lpI (F_X5_faultOf_23 4096) (m + 28)) _ = _
            rw [x5_stepB hr3 hcm hlt2 hc20 hcol, hm2]
            have := lp_steps (F := F_X5_faultOf_23 4096) (fun i => ((1 : Int32), lastC (Sm 1) (n + 1 + 1) i, nI (n + 1 + 1 + i), st3 Sm (nI (aS (Sm 1) n)) (nI r) (nI (gS (Sm 1) (n + 1 + 1) i)))) w (m2 + 1) (fun i hi k => x5_stepG (nI_pos' (by omega)) hcm (by omega) hc20 (fun j hj => hgg j (by omega)))
            refine Eq.trans this ?_
            exact x5_exitG (nI_pos' (by omega)) hcm hwc hc20 hgg hwe
          have hgl := gS_lt (i := w) hgg
          refine ⟨_, _, _, by rw [rd, if_pos hcol, rg]; rfl, fo3, coU_trans (co2 _) (su1_co (by decide)), st3_co _ _ _ _, ?_⟩
          by_cases e1 : n + 1 + 1 + w = c
          · rw [if_pos e1]
            by_cases e2 : gS (Sm 1) (n + 1 + 1) w = 0
            · rw [if_pos e2]; exact Or.inl ⟨c, hc20, rfl⟩
            · rw [if_neg e2]
              refine Or.inr ⟨rfl, aS (Sm 1) n, r, gS (Sm 1) (n + 1 + 1) w, hal, by omega, hgl, ?_, ?_, ?_, st3_10 _ _ _ _, st3_11 _ _ _ _, st3_12 _ _ _ _⟩
              · rw [sto_s, if_neg (by decide), sto_s, if_neg (by decide), sto_s, if_pos rfl]
              · rw [sto_s, if_neg (by decide), sto_s, if_pos rfl]
              · rw [sto_s, if_pos rfl]
          · rw [if_neg e1]; exact Or.inl ⟨n + 1 + 1 + w, by omega, rfl⟩
        · refine ⟨nI (n + 1), _, st3 Sm (nI (aS (Sm 1) n)) (nI r) 0, by rw [rd, if_neg hcol], ?_, co2 _, st3_co _ _ _ _, Or.inl ⟨n + 1, by omega, rfl⟩⟩
          rw [fo2]
          exact x5_badB hr3 hcm hlt2 hc20 hcol
      · have e1 : n + 1 = c := by omega
        have hl2 : ¬ nI (n + 1) < nI c := nI_nlt hge2 (by omega)
        have hd2 := hd
        rw [e] at hd2
        refine ⟨-6, sto (sto (sto Su 1 2 (nI (aS (Sm 1) n))) 1 3 (nI r)) 1 4 31, st3 Sm (nI (aS (Sm 1) n)) (nI r) 31, ?_, ?_, coU_trans (co2 _) (su1_co (by decide)), st3_co _ _ _ _, Or.inr ⟨rfl, aS (Sm 1) n, r, 31, hal, by omega, by decide, ?_, ?_, ?_, st3_10 _ _ _ _, st3_11 _ _ _ _, st3_12 _ _ _ _⟩⟩
        · simp only [f_X2_read, ra, bd2_s, s11, hl, gd_t ix1, cl1, s8, x4_in3, e, hd2, bd_s, z01, sub48, s2c, n1, hl2, ↓reduceIte]
        · rw [fo2, e1]; exact x5_endB hr3 hcm hc20
        · rw [sto_s, if_neg (by decide), sto_s, if_neg (by decide), sto_s, if_pos rfl]
        · rw [sto_s, if_neg (by decide), sto_s, if_pos rfl]
        · rw [sto_s, if_pos rfl]; rfl
  · have e1 : n = c := by omega
    have hl : nI c ≤ nI n := nI_le hge (by omega)
    refine ⟨nI n, sto Su 1 2 (nI (aS (Sm 1) n)), st3 Sm (nI (aS (Sm 1) n)) (-6) 0, ?_, ?_, su1_co (by decide), st3_co _ _ _ _, Or.inl ⟨n, by omega, rfl⟩⟩
    · simp only [f_X2_read, ra, bd2_s, s11, hl, ↓reduceIte]
    · rw [fo, e1]; exact x5_endA hcm hc20
theorem pu_2 : lp_2 4096 Rel := by
  intro Su Sm ⟨K, hR⟩
  obtain ⟨f, Su', Sm', e1, e2, cu, cm, _⟩ := read_both hR.2.2.2.1
  exact ⟨f, Su', by simp only [f_X4_fault, e1, bd2_s], Sm', by simp only [f_X5_fault, e2, bd2_s], K, RelK_co hR cu cm⟩
theorem Rel_wipe {K : Nat → Nat → Nat} {Su Sm : St} (h : RelK K Su Sm) : RelK K (sto Su 1 1 0) (sto Sm 0 0 0) := by
  obtain ⟨h1, h2, h3, ⟨c, h4, h5, h6, h7⟩, h8⟩ := h
  refine ⟨h1, rep_same h2 (fun r j hj => vU_out (by decide) (by decide) hj), rep_same h3 (fun r j hj => vM_out (by decide) hj), ⟨0, by decide, ?_, ?_, ?_⟩, imgR_same h8 (sto_n (by decide)) (sto_n (by decide)) (fun n r j _ _ => vI_out (by decide)) (fun n r j _ _ => vN_out (by decide))⟩
  · rw [sto_s, if_pos rfl]; rfl
  · rw [sto_s, if_pos rfl]; rfl
  · rw [sto_n (by decide), sto_n (by decide)]; exact h7
theorem okv1 {j n : Nat} (h : n < 32) : okv 1 j n := by unfold okv; omega
theorem okv2 {j n : Nat} (h : n < 4) : okv 2 j n := by unfold okv; omega
theorem okv3 {j n : Nat} (h : n < 32) : okv 3 j n := by unfold okv; omega
theorem pu_3 : lp_3 4096 Rel := by
  intro x Su Sm ⟨K, hR⟩
  rcases c_terms x with ⟨hu, hm⟩ | ⟨t, ht, rfl, hu, hm⟩
  · exact ⟨-1, Su, by simp only [f_X4_terms, hu, bd_s, ↓reduceIte], Sm, by simp only [f_X5_terms, hm, bd_s, ↓reduceIte], K, hR⟩
  · obtain ⟨f, Su', Sm', e1, e2, cu, cm, hf⟩ := read_both hR.2.2.2.1
    have hR' := RelK_co hR cu cm
    rcases hf with ⟨n, hn, rfl⟩ | ⟨rfl, a, r, g, ha, hr, hg, u2, u3, u4, m10, m11, m12⟩
    · have d1 : ¬ nI n = -6 := nI_ne6 (by omega)
      have d2 : ¬ nI n < 0 := nI_pos (by omega)
      exact ⟨-5, Su', by simp only [f_X4_terms, hu, e1, bd_s, bd2_s, z01, d1, ↓reduceIte], Sm', by simp only [f_X5_terms, hm, e2, bd_s, bd2_s, z01, d2, ↓reduceIte], K, hR'⟩
    · have hix : ix (nI t) 5 := ix_n (by omega) (by decide)
      have hcl : (nI t).toNatClampNeg = t := nI_clamp (by omega)
      have d2 : (-6 : Int32) < 0 := by decide
      have a3 : sto Su' 9 t (nI a) 1 3 = nI r := by rw [sto_n (by decide)]; exact u3
      have a4 : sto (sto Su' 9 t (nI a)) 10 t (nI r) 1 4 = nI g := by rw [sto_n (by decide), sto_n (by decide)]; exact u4
      have b3 : sto Sm' 2 t (nI a) 0 11 = nI r := by rw [sto_n (by decide)]; exact m11
      have b4 : sto (sto Sm' 2 t (nI a)) 3 t (nI r) 0 12 = nI g := by rw [sto_n (by decide), sto_n (by decide)]; exact m12
      have ru : sto (sto (sto (sto Su' 9 t (nI a)) 10 t (nI r)) 11 t (nI g)) 1 1 0 9 t = nI a := by rw [sto_n (by decide), sto_n (by decide), sto_n (by decide), sto_s, if_pos rfl]
      have rm : sto (sto (sto (sto Sm' 2 t (nI a)) 3 t (nI r)) 4 t (nI g)) 0 0 0 2 t = nI a := by rw [sto_n (by decide), sto_n (by decide), sto_n (by decide), sto_s, if_pos rfl]
      obtain ⟨K1, R1⟩ := Rel_put (r0 := 1) (i := t) (n := a) (ku := 9) (iu := t) (km := 2) (im := t) hR' (ev_n' (by decide)) (okv1 ha) (fun r j hj => vU_in (r0 := 1) (by decide) hj) (fun r j hj => vM_inT (r0 := 1) (by decide) (by decide) hj) (by decide) (Or.inr ⟨by decide, by decide⟩)
      obtain ⟨K2, R2⟩ := Rel_put (r0 := 2) (i := t) (n := r) (ku := 10) (iu := t) (km := 3) (im := t) R1 (ev_n' (by decide)) (okv2 hr) (fun r j hj => vU_in (r0 := 2) (by decide) hj) (fun r j hj => vM_inT (r0 := 2) (by decide) (by decide) hj) (by decide) (Or.inr ⟨by decide, by decide⟩)
      obtain ⟨K3, R3⟩ := Rel_put (r0 := 3) (i := t) (n := g) (ku := 11) (iu := t) (km := 4) (im := t) R2 (ev_n' (by decide)) (okv3 hg) (fun r j hj => vU_in (r0 := 3) (by decide) hj) (fun r j hj => vM_inT (r0 := 3) (by decide) (by decide) hj) (by decide) (Or.inr ⟨by decide, by decide⟩)
      exact ⟨nI a, _, by simp only [f_X4_terms, hu, e1, bd_s, bd2_s, z01, ↓reduceIte, gd_t hix, hcl, u2, a3, a4, ru], _, by simp only [f_X5_terms, hm, e2, bd_s, bd2_s, z01, d2, ↓reduceIte, gd_t hix, hcl, m10, b3, b4, rm], K3, Rel_wipe R3⟩
