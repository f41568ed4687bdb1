variable {p : Program} {l : Launch} {e : Env} {s : State} {m : MethodId} {args : Array Value} {below : List Frame} {meth : Method} {c : Code} {D : va_G} {E : bE} {a b : Nat → Nat} {bs L : Nat} {xs : Nat → Int32} {Rel : St → St → Prop} {Q : State → Prop} {i : Int32}
/-- all that the law rests on -/
def lpAll (N : Nat) (Rel : St → St → Prop) : Prop := lp_0 Rel ∧ lp_1 Rel ∧ lp_2 N Rel ∧ lp_3 N Rel ∧ lp_4 Rel ∧ lp_5 Rel ∧ lp_6 Rel ∧ lp_7 Rel ∧ lp_8 N Rel ∧ lp_9 Rel ∧ lp_10 Rel ∧ lp_11 N Rel ∧ lp_12 N Rel ∧ lp_13 N Rel ∧ lp_14 N Rel ∧ lp_15 N Rel ∧ lp_16 N Rel ∧ lp_17 N Rel ∧ lp_18 N Rel ∧ lp_19 N Rel ∧ lp_20 N Rel ∧ lp_21 N Rel ∧ lp_22 N Rel ∧ lp_23 N Rel ∧ lp_24 Rel
theorem law_loop (N : Nat) (hL : L ≤ 2048) (X : lwX D E a b p s m args meth c bs L xs) (hpu : lpAll N Rel) (hend : ∀ (H : Heap) (locs : List Loc) (ls : Array Slot), va_S (lwA s) s.heap H locs → W p l e room_1 s m args below meth c H locs 600000 7302249 Q (F0 m 799 ls [])) : ∀ (n k : Nat), k ≤ L → L + 1 ≤ k + n → lW D E a b p l e s m args below meth c bs Rel Q 18 (nI k) := by
  obtain ⟨C, hX, hbl, hIa, hIb, haf, hbf, hab⟩ := id X
  obtain ⟨hx, hb, hml, hown, hts, hK, hr, hlocks⟩ := id C
  obtain ⟨pu0, pu1, pu2, pu3, pu4, pu5, pu6, pu7, pu8, pu9, pu10, pu11, pu12, pu13, pu14, pu15, pu16, pu17, pu18, pu19, pu20, pu21, pu22, pu23, pu24⟩ := hpu
  have hbA : ¬ lwA s bs := Nat.not_le.mpr hbl
  intro n
  induction n with
  | zero => intro k h1 h2; exact absurd h2 (by omega)
  | succ n ih =>
    intro k hk hn Su Sm H locs ls hR hPu hPm hS hl
    refine lv_iload_n (pc := 18) hx hb dL_law_18 rfl (lv_at hl 3 rfl) ?_
    refine lv_aload_n (pc := 19) hx hb dL_law_19 rfl (lv_at hl 0 rfl) ?_
    refine va_slen (pc := 20) hx hb hX hbl hbA hS dL_law_20 ?_
    refine lv_iconst (v := 4) (pc := 21) hx hb dL_law_21 (by decide) ?_
    refine lv_isub (pc := 22) hx hb dL_law_22 ?_
    refine lv_icmp_gt (tgt := 799) (pc := 23) hx hb dL_law_23 (by decide) (fun hc => ?_) (fun hc => ?_)
    · exact hend H locs ls hS
    · have hk4 : k + 4 ≤ L := by
        rcases Nat.lt_or_ge L (k + 4) with h | h
        · exfalso; apply hc
          have e1 : (Int32.ofNat L - 4).toInt = (L : Int) - 4 := pk_sub_toInt (a := L) (b := 4) (by omega) (by omega)
          exact Int32.lt_iff_toInt_lt.mpr (by rw [e1, nI_toInt (by omega)]; omega)
        · exact h
      have k9 : lW D E a b p l e s m args below meth c bs Rel Q 793 (nI k) := by
        intro Su Sm H locs ls hR hPu hPm hS hl
        refine lv_iinc (v := nI (k + 4)) (lv' := [(3, .int (nI (k + 4))), (0, .ref bs), (1, .ref (a 0)), (2, .ref (b 0))]) (pc := 793) hx hb dL_law_793 hl (k := 3) rfl ((ii4 _).trans (nI_add k 4)) (by decide) rfl (fun ls hl => ?_)
        refine lv_goto (tgt := 18) (pc := 796) hx hb dL_law_796 (by decide) ?_
        exact ih (k + 4) hk4 (by omega) Su Sm H locs ls hR hPu hPm hS (lv_sub hl [1, 2, 3, 0] rfl)
      have hi0 : vp_in (nI k) L := vp_in_nI (by omega) (by omega)
      have hi1 : vp_in (nI k + 1) L := by rw [show nI k + 1 = nI (k + 1) from nI_add k 1]; exact vp_in_nI (by omega) (by omega)
      have hi2 : vp_in (nI k + 2) L := by rw [show nI k + 2 = nI (k + 2) from nI_add k 2]; exact vp_in_nI (by omega) (by omega)
      have hi3 : vp_in (nI k + 3) L := by rw [show nI k + 3 = nI (k + 3) from nI_add k 3]; exact vp_in_nI (by omega) (by omega)
      refine lv_aload_n (pc := 26) hx hb dL_law_26 rfl (lv_at hl 0 rfl) ?_
      refine lv_iload_n (pc := 27) hx hb dL_law_27 rfl (lv_at hl 3 rfl) ?_
      refine va_sld (pc := 28) hx hb hX hbl hbA hS hi0 dL_law_28 ?_
      refine lv_bipush (v := 31) (pc := 29) hx hb dL_law_29 (by decide) ?_
      refine lv_iand (pc := 31) hx hb dL_law_31 ?_
      refine lv_topi (fun w hw => ?_)
      by_cases hc0 : w = 0
      · refine r_tabIn (pc := 32) (v := 0) (off := 116) (tgt := 148) hx hb dL_law_32 hc0 (by decide) (by decide) (by decide +kernel) (by decide) ?_
        exact law_0 X hi1 pu0 k9 Su Sm H locs ls hR hPu hPm hS hl
      by_cases hc1 : w = 1
      · refine r_tabIn (pc := 32) (v := 1) (off := 139) (tgt := 171) hx hb dL_law_32 hc1 (by decide) (by decide) (by decide +kernel) (by decide) ?_
        exact law_1 X pu1 k9 Su Sm H locs ls hR hPu hPm hS hl
      by_cases hc2 : w = 2
      · refine r_tabIn (pc := 32) (v := 2) (off := 152) (tgt := 184) hx hb dL_law_32 hc2 (by decide) (by decide) (by decide +kernel) (by decide) ?_
        exact law_2 N X pu2 k9 Su Sm H locs ls hR hPu hPm hS hl
      by_cases hc3 : w = 3
      · refine r_tabIn (pc := 32) (v := 3) (off := 165) (tgt := 197) hx hb dL_law_32 hc3 (by decide) (by decide) (by decide +kernel) (by decide) ?_
        exact law_3 N X hi1 pu3 k9 Su Sm H locs ls hR hPu hPm hS hl
      by_cases hc4 : w = 4
      · refine r_tabIn (pc := 32) (v := 4) (off := 188) (tgt := 220) hx hb dL_law_32 hc4 (by decide) (by decide) (by decide +kernel) (by decide) ?_
        exact law_4 X hi1 hi2 pu4 k9 Su Sm H locs ls hR hPu hPm hS hl
      by_cases hc5 : w = 5
      · refine r_tabIn (pc := 32) (v := 5) (off := 221) (tgt := 253) hx hb dL_law_32 hc5 (by decide) (by decide) (by decide +kernel) (by decide) ?_
        exact law_5 X hi1 hi2 pu5 k9 Su Sm H locs ls hR hPu hPm hS hl
      by_cases hc6 : w = 6
      · refine r_tabIn (pc := 32) (v := 6) (off := 254) (tgt := 286) hx hb dL_law_32 hc6 (by decide) (by decide) (by decide +kernel) (by decide) ?_
        exact law_6 X hi1 hi2 hi3 pu6 k9 Su Sm H locs ls hR hPu hPm hS hl
      by_cases hc7 : w = 7
      · refine r_tabIn (pc := 32) (v := 7) (off := 297) (tgt := 329) hx hb dL_law_32 hc7 (by decide) (by decide) (by decide +kernel) (by decide) ?_
        exact law_7 X hi1 hi2 hi3 pu7 k9 Su Sm H locs ls hR hPu hPm hS hl
      by_cases hc8 : w = 8
      · refine r_tabIn (pc := 32) (v := 8) (off := 340) (tgt := 372) hx hb dL_law_32 hc8 (by decide) (by decide) (by decide +kernel) (by decide) ?_
        exact law_8 N X hi1 pu8 k9 Su Sm H locs ls hR hPu hPm hS hl
      by_cases hc9 : w = 9
      · refine r_tabIn (pc := 32) (v := 9) (off := 363) (tgt := 395) hx hb dL_law_32 hc9 (by decide) (by decide) (by decide +kernel) (by decide) ?_
        exact law_9 X hi1 pu9 k9 Su Sm H locs ls hR hPu hPm hS hl
      by_cases hc10 : w = 10
      · refine r_tabIn (pc := 32) (v := 10) (off := 386) (tgt := 418) hx hb dL_law_32 hc10 (by decide) (by decide) (by decide +kernel) (by decide) ?_
        exact law_10 X hi1 pu10 k9 Su Sm H locs ls hR hPu hPm hS hl
      by_cases hc11 : w = 11
      · refine r_tabIn (pc := 32) (v := 11) (off := 409) (tgt := 441) hx hb dL_law_32 hc11 (by decide) (by decide) (by decide +kernel) (by decide) ?_
        exact law_11 N X pu11 k9 Su Sm H locs ls hR hPu hPm hS hl
      by_cases hc12 : w = 12
      · refine r_tabIn (pc := 32) (v := 12) (off := 422) (tgt := 454) hx hb dL_law_32 hc12 (by decide) (by decide) (by decide +kernel) (by decide) ?_
        exact law_12 N X hi1 hi2 pu12 k9 Su Sm H locs ls hR hPu hPm hS hl
      by_cases hc13 : w = 13
      · refine r_tabIn (pc := 32) (v := 13) (off := 455) (tgt := 487) hx hb dL_law_32 hc13 (by decide) (by decide) (by decide +kernel) (by decide) ?_
        exact law_13 N X hi1 hi2 pu13 k9 Su Sm H locs ls hR hPu hPm hS hl
      by_cases hc14 : w = 14
      · refine r_tabIn (pc := 32) (v := 14) (off := 488) (tgt := 520) hx hb dL_law_32 hc14 (by decide) (by decide) (by decide +kernel) (by decide) ?_
        exact law_14 N X pu14 k9 Su Sm H locs ls hR hPu hPm hS hl
      by_cases hc15 : w = 15
      · refine r_tabIn (pc := 32) (v := 15) (off := 501) (tgt := 533) hx hb dL_law_32 hc15 (by decide) (by decide) (by decide +kernel) (by decide) ?_
        exact law_15 N X pu15 k9 Su Sm H locs ls hR hPu hPm hS hl
      by_cases hc16 : w = 16
      · refine r_tabIn (pc := 32) (v := 16) (off := 514) (tgt := 546) hx hb dL_law_32 hc16 (by decide) (by decide) (by decide +kernel) (by decide) ?_
        exact law_16 N X hi1 pu16 k9 Su Sm H locs ls hR hPu hPm hS hl
      by_cases hc17 : w = 17
      · refine r_tabIn (pc := 32) (v := 17) (off := 537) (tgt := 569) hx hb dL_law_32 hc17 (by decide) (by decide) (by decide +kernel) (by decide) ?_
        exact law_17 N X hi1 pu17 k9 Su Sm H locs ls hR hPu hPm hS hl
      by_cases hc18 : w = 18
      · refine r_tabIn (pc := 32) (v := 18) (off := 560) (tgt := 592) hx hb dL_law_32 hc18 (by decide) (by decide) (by decide +kernel) (by decide) ?_
        exact law_18 N X hi1 hi2 pu18 k9 Su Sm H locs ls hR hPu hPm hS hl
      by_cases hc19 : w = 19
      · refine r_tabIn (pc := 32) (v := 19) (off := 593) (tgt := 625) hx hb dL_law_32 hc19 (by decide) (by decide) (by decide +kernel) (by decide) ?_
        exact law_19 N X hi1 hi2 hi3 pu19 k9 Su Sm H locs ls hR hPu hPm hS hl
      by_cases hc20 : w = 20
      · refine r_tabIn (pc := 32) (v := 20) (off := 636) (tgt := 668) hx hb dL_law_32 hc20 (by decide) (by decide) (by decide +kernel) (by decide) ?_
        exact law_20 N X hi1 pu20 k9 Su Sm H locs ls hR hPu hPm hS hl
      by_cases hc21 : w = 21
      · refine r_tabIn (pc := 32) (v := 21) (off := 659) (tgt := 691) hx hb dL_law_32 hc21 (by decide) (by decide) (by decide +kernel) (by decide) ?_
        exact law_21 N X hi1 hi2 pu21 k9 Su Sm H locs ls hR hPu hPm hS hl
      by_cases hc22 : w = 22
      · refine r_tabIn (pc := 32) (v := 22) (off := 692) (tgt := 724) hx hb dL_law_32 hc22 (by decide) (by decide) (by decide +kernel) (by decide) ?_
        exact law_22 N X hi1 pu22 k9 Su Sm H locs ls hR hPu hPm hS hl
      by_cases hc23 : w = 23
      · refine r_tabIn (pc := 32) (v := 23) (off := 715) (tgt := 747) hx hb dL_law_32 hc23 (by decide) (by decide) (by decide +kernel) (by decide) ?_
        exact law_23 N X hi1 pu23 k9 Su Sm H locs ls hR hPu hPm hS hl
      by_cases hc24 : w = 24
      · refine r_tabIn (pc := 32) (v := 24) (off := 738) (tgt := 770) hx hb dL_law_32 hc24 (by decide) (by decide) (by decide +kernel) (by decide) ?_
        exact law_24 X hi1 pu24 k9 Su Sm H locs ls hR hPu hPm hS hl
      refine lv_tableOut (pc := 32) (tgt := 793) hx hb dL_law_32 (tabOut0_24 (fun j hj => ?_)) (by decide) ?_
      · match j, hj with
        | 0, _ => exact hc0
        | 1, _ => exact hc1
        | 2, _ => exact hc2
        | 3, _ => exact hc3
        | 4, _ => exact hc4
        | 5, _ => exact hc5
        | 6, _ => exact hc6
        | 7, _ => exact hc7
        | 8, _ => exact hc8
        | 9, _ => exact hc9
        | 10, _ => exact hc10
        | 11, _ => exact hc11
        | 12, _ => exact hc12
        | 13, _ => exact hc13
        | 14, _ => exact hc14
        | 15, _ => exact hc15
        | 16, _ => exact hc16
        | 17, _ => exact hc17
        | 18, _ => exact hc18
        | 19, _ => exact hc19
        | 20, _ => exact hc20
        | 21, _ => exact hc21
        | 22, _ => exact hc22
        | 23, _ => exact hc23
        | 24, _ => exact hc24
        | (j + 25), hj => exact absurd hj (by omega)
      · exact k9 Su Sm H locs ls hR hPu hPm hS hl
