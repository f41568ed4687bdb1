variable {p : Program} {l : Launch} {e : Env} {s : State} {m : MethodId} {args : Array Value} {below : List Frame} {meth : Method} {c : Code} {D : va_G} {E : bE} {a : Nat → Nat}
/-! X4_swap_14 -/
def f_X4_swap_14 (x1 : Int32) (x2 : Int32) (S : St) : Option (Int32 × St) :=
  gd (ix x1 6) (bd (some (S 14 (Int32.toNatClampNeg x1))) fun y1 => gd (ix x1 6) (bd (some (sto S 14 (Int32.toNatClampNeg x1) x2)) fun S1 => some (y1, S1)))
theorem t_X4_swap_14_0 {rr : Int32} {SS : St} (hI : aI 49 a) (C : bC D E RX4 cX4_swap 4 (some .int) p s m args meth c) {x1 : Int32} {x2 : Int32} {S : St} (h : f_X4_swap_14 x1 x2 S = some (rr, SS)) : gU D (Wu E a) (aA 49 a) p l e (bRm 0 0) s m args below meth c 4 (qU D below (aA 49 a) (Wu E a SS) rr args s) 0 [(0, .ref (a 14)), (1, .int x1), (2, .int x2)] [] S := by
  obtain ⟨hx, hb, hml, hown, hts, hK, hr, hlocks⟩ := id C
  intro H locs hP hS ls hl
  unfold f_X4_swap_14 at h
  refine lv_aload_n (pc := 0) hx hb dX4_swap_0 rfl (lv_at hl 0 rfl) ?_
  refine lv_iload_n (pc := 1) hx hb dX4_swap_1 rfl (lv_at hl 1 rfl) ?_
  obtain ⟨hin, h⟩ := gd_some h
  refine r_ald (pc := 2) hx hb hK hP 14 wu14 hin dX4_swap_2 ?_
  refine lv_topi (fun y1 ey1 => ?_)
  have h := bd_y ey1 h
  refine lv_istore_n (lv' := [(3, .int y1), (0, .ref (a 14)), (1, .int x1), (2, .int x2)]) (pc := 3) hx hb dX4_swap_3 rfl hl (by decide) rfl (fun ls hl => ?_)
  refine lv_aload_n (pc := 4) hx hb dX4_swap_4 rfl (lv_at hl 1 rfl) ?_
  refine lv_iload_n (pc := 5) hx hb dX4_swap_5 rfl (lv_at hl 2 rfl) ?_
  refine lv_iload_n (pc := 6) hx hb dX4_swap_6 rfl (lv_at hl 3 rfl) ?_
  obtain ⟨hin, h⟩ := gd_some h
  refine r_ast (pc := 7) (𝓦 := Wu E a) hx hb hK hP (dU hI _) hS 14 wu14 wu14s hin dX4_swap_7 (fun H locs S1 eS1 hP hS => ?_)
  have h := bd_y eS1 h
  refine lv_iload_n (pc := 8) hx hb dX4_swap_8 rfl (lv_at hl 0 rfl) ?_
  exact r_retU (pc := 9) (𝓦 := Wu E a) C h hP hS dX4_swap_9
theorem c_X4_swap_14 {l : Launch} {D : va_G} {E : bE} {a : Nat → Nat} (hI : aI 49 a) {rr : Int32} {S : St} {SS : St} {x1 : Int32} {x2 : Int32} (h : f_X4_swap_14 x1 x2 S = some (rr, SS)) : cU l D E yX4_swap cX4_swap 4 (some .int) 0 0 (aA 49 a) (Wu E a S) (Wu E a SS) [.ref (a 14), .int x1, .int x2] rr := cU_of (by decide) (Nat.le_of_ble_eq_true rfl) (fun p e s m args below meth c C => t_X4_swap_14_0 hI C h)
/-! X4_swap_15 -/
def f_X4_swap_15 (x1 : Int32) (x2 : Int32) (S : St) : Option (Int32 × St) :=
  gd (ix x1 6) (bd (some (S 15 (Int32.toNatClampNeg x1))) fun y1 => gd (ix x1 6) (bd (some (sto S 15 (Int32.toNatClampNeg x1) x2)) fun S1 => some (y1, S1)))
theorem t_X4_swap_15_0 {rr : Int32} {SS : St} (hI : aI 49 a) (C : bC D E RX4 cX4_swap 4 (some .int) p s m args meth c) {x1 : Int32} {x2 : Int32} {S : St} (h : f_X4_swap_15 x1 x2 S = some (rr, SS)) : gU D (Wu E a) (aA 49 a) p l e (bRm 0 0) s m args below meth c 4 (qU D below (aA 49 a) (Wu E a SS) rr args s) 0 [(0, .ref (a 15)), (1, .int x1), (2, .int x2)] [] S := by
  obtain ⟨hx, hb, hml, hown, hts, hK, hr, hlocks⟩ := id C
  intro H locs hP hS ls hl
  unfold f_X4_swap_15 at h
  refine lv_aload_n (pc := 0) hx hb dX4_swap_0 rfl (lv_at hl 0 rfl) ?_
  refine lv_iload_n (pc := 1) hx hb dX4_swap_1 rfl (lv_at hl 1 rfl) ?_
  obtain ⟨hin, h⟩ := gd_some h
  refine r_ald (pc := 2) hx hb hK hP 15 wu15 hin dX4_swap_2 ?_
  refine lv_topi (fun y1 ey1 => ?_)
  have h := bd_y ey1 h
  refine lv_istore_n (lv' := [(3, .int y1), (0, .ref (a 15)), (1, .int x1), (2, .int x2)]) (pc := 3) hx hb dX4_swap_3 rfl hl (by decide) rfl (fun ls hl => ?_)
  refine lv_aload_n (pc := 4) hx hb dX4_swap_4 rfl (lv_at hl 1 rfl) ?_
  refine lv_iload_n (pc := 5) hx hb dX4_swap_5 rfl (lv_at hl 2 rfl) ?_
  refine lv_iload_n (pc := 6) hx hb dX4_swap_6 rfl (lv_at hl 3 rfl) ?_
  obtain ⟨hin, h⟩ := gd_some h
  refine r_ast (pc := 7) (𝓦 := Wu E a) hx hb hK hP (dU hI _) hS 15 wu15 wu15s hin dX4_swap_7 (fun H locs S1 eS1 hP hS => ?_)
  have h := bd_y eS1 h
  refine lv_iload_n (pc := 8) hx hb dX4_swap_8 rfl (lv_at hl 0 rfl) ?_
  exact r_retU (pc := 9) (𝓦 := Wu E a) C h hP hS dX4_swap_9
theorem c_X4_swap_15 {l : Launch} {D : va_G} {E : bE} {a : Nat → Nat} (hI : aI 49 a) {rr : Int32} {S : St} {SS : St} {x1 : Int32} {x2 : Int32} (h : f_X4_swap_15 x1 x2 S = some (rr, SS)) : cU l D E yX4_swap cX4_swap 4 (some .int) 0 0 (aA 49 a) (Wu E a S) (Wu E a SS) [.ref (a 15), .int x1, .int x2] rr := cU_of (by decide) (Nat.le_of_ble_eq_true rfl) (fun p e s m args below meth c C => t_X4_swap_15_0 hI C h)
/-! X4_swap_16 -/
def f_X4_swap_16 (x1 : Int32) (x2 : Int32) (S : St) : Option (Int32 × St) :=
  gd (ix x1 6) (bd (some (S 16 (Int32.toNatClampNeg x1))) fun y1 => gd (ix x1 6) (bd (some (sto S 16 (Int32.toNatClampNeg x1) x2)) fun S1 => some (y1, S1)))
theorem t_X4_swap_16_0 {rr : Int32} {SS : St} (hI : aI 49 a) (C : bC D E RX4 cX4_swap 4 (some .int) p s m args meth c) {x1 : Int32} {x2 : Int32} {S : St} (h : f_X4_swap_16 x1 x2 S = some (rr, SS)) : gU D (Wu E a) (aA 49 a) p l e (bRm 0 0) s m args below meth c 4 (qU D below (aA 49 a) (Wu E a SS) rr args s) 0 [(0, .ref (a 16)), (1, .int x1), (2, .int x2)] [] S := by
  obtain ⟨hx, hb, hml, hown, hts, hK, hr, hlocks⟩ := id C
  intro H locs hP hS ls hl
  unfold f_X4_swap_16 at h
  refine lv_aload_n (pc := 0) hx hb dX4_swap_0 rfl (lv_at hl 0 rfl) ?_
  refine lv_iload_n (pc := 1) hx hb dX4_swap_1 rfl (lv_at hl 1 rfl) ?_
  obtain ⟨hin, h⟩ := gd_some h
  refine r_ald (pc := 2) hx hb hK hP 16 wu16 hin dX4_swap_2 ?_
  refine lv_topi (fun y1 ey1 => ?_)
  have h := bd_y ey1 h
  refine lv_istore_n (lv' := [(3, .int y1), (0, .ref (a 16)), (1, .int x1), (2, .int x2)]) (pc := 3) hx hb dX4_swap_3 rfl hl (by decide) rfl (fun ls hl => ?_)
  refine lv_aload_n (pc := 4) hx hb dX4_swap_4 rfl (lv_at hl 1 rfl) ?_
  refine lv_iload_n (pc := 5) hx hb dX4_swap_5 rfl (lv_at hl 2 rfl) ?_
  refine lv_iload_n (pc := 6) hx hb dX4_swap_6 rfl (lv_at hl 3 rfl) ?_
  obtain ⟨hin, h⟩ := gd_some h
  refine r_ast (pc := 7) (𝓦 := Wu E a) hx hb hK hP (dU hI _) hS 16 wu16 wu16s hin dX4_swap_7 (fun H locs S1 eS1 hP hS => ?_)
  have h := bd_y eS1 h
  refine lv_iload_n (pc := 8) hx hb dX4_swap_8 rfl (lv_at hl 0 rfl) ?_
  exact r_retU (pc := 9) (𝓦 := Wu E a) C h hP hS dX4_swap_9
theorem c_X4_swap_16 {l : Launch} {D : va_G} {E : bE} {a : Nat → Nat} (hI : aI 49 a) {rr : Int32} {S : St} {SS : St} {x1 : Int32} {x2 : Int32} (h : f_X4_swap_16 x1 x2 S = some (rr, SS)) : cU l D E yX4_swap cX4_swap 4 (some .int) 0 0 (aA 49 a) (Wu E a S) (Wu E a SS) [.ref (a 16), .int x1, .int x2] rr := cU_of (by decide) (Nat.le_of_ble_eq_true rfl) (fun p e s m args below meth c C => t_X4_swap_16_0 hI C h)
/-! X4_piece -/
def f_X4_piece (x1 : Int32) (x2 : Int32) (x3 : Int32) (S : St) : Option (Int32 × St) :=
  bd (f_X4_isPiece x1) fun r1 => if r1 = 0 then (some ((-1), S)) else (if x2 = 0 then (bd (f_X4_within x3 1 31) fun r2 => if r2 = 0 then (some ((-2), S)) else (bd2 (f_X4_swap_13 x1 x3 S) fun r3 S1 => some (r3, S1))) else (if x2 = 1 then (bd (f_X4_within x3 0 1) fun r4 => if r4 = 0 then (some ((-2), S)) else (bd2 (f_X4_swap_14 x1 x3 S) fun r5 S2 => some (r5, S2))) else (if x2 = 2 then (bd (f_X4_within x3 0 63) fun r6 => if r6 = 0 then (some ((-2), S)) else (bd2 (f_X4_swap_15 x1 x3 S) fun r7 S3 => some (r7, S3))) else (if x2 = 3 then (bd (f_X4_within x3 0 999) fun r8 => if r8 = 0 then (some ((-2), S)) else (bd2 (f_X4_swap_16 x1 x3 S) fun r9 S4 => some (r9, S4))) else (some ((-2), S))))))
theorem t_X4_piece_0 {rr : Int32} {SS : St} (hI : aI 49 a) (C : bC D E RX4 cX4_piece 4 (some .int) p s m args meth c) {x1 : Int32} {x2 : Int32} {x3 : Int32} {S : St} (h : f_X4_piece x1 x2 x3 S = some (rr, SS)) : gU D (Wu E a) (aA 49 a) p l e (bRm 2 42) s m args below meth c 4 (qU D below (aA 49 a) (Wu E a SS) rr args s) 0 [(0, .ref (a 0)), (1, .int x1), (2, .int x2), (3, .int x3)] [] S := by
  obtain ⟨hx, hb, hml, hown, hts, hK, hr, hlocks⟩ := id C
  intro H locs hP hS ls hl
  unfold f_X4_piece at h
  refine lv_iload_n (pc := 0) hx hb dX4_piece_0 rfl (lv_at hl 1 rfl) ?_
  obtain ⟨r1, hr1, h⟩ := bd_some h
  refine r_callS (pc := 1) C (c_X4_isPiece hr1) k_X4_isPiece wd_295 ⟨Nat.le_of_ble_eq_true rfl, Nat.le_of_ble_eq_true rfl⟩ rfl hl.1 rfl (Nat.le_of_ble_eq_true rfl) dX4_piece_1 ⟨Nat.zero_le _, Nat.zero_le _⟩ ?_
  refine lv_if_ne (tgt := 9) (pc := 4) hx hb dX4_piece_4 (by decide) (fun hc => ?_) (fun hc => ?_)
  · have h := if_n hc h
    refine lv_iload_n (pc := 9) hx hb dX4_piece_9 rfl (lv_at hl 2 rfl) ?_
    by_cases hc0 : x2 = 0
    · refine r_tabIn (pc := 10) (v := 0) (off := 30) (tgt := 40) hx hb dX4_piece_10 hc0 (by decide) (by decide) (by decide +kernel) (by decide) ?_
      have h := if_y hc0 h
      refine lv_iload_n (pc := 40) hx hb dX4_piece_40 rfl (lv_at hl 3 rfl) ?_
      refine lv_iconst (v := 1) (pc := 41) hx hb dX4_piece_41 (by decide) ?_
      refine lv_bipush (v := 31) (pc := 42) hx hb dX4_piece_42 (by decide) ?_
      obtain ⟨r2, hr2, h⟩ := bd_some h
      refine r_callS (pc := 44) C (c_X4_within hr2) k_X4_within wd_244 ⟨Nat.le_of_ble_eq_true rfl, Nat.le_of_ble_eq_true rfl⟩ rfl hl.1 rfl (Nat.le_of_ble_eq_true rfl) dX4_piece_44 ⟨Nat.zero_le _, Nat.zero_le _⟩ ?_
      refine lv_if_eq (tgt := 65) (pc := 47) hx hb dX4_piece_47 (by decide) (fun hc => ?_) (fun hc => ?_)
      · have h := if_y hc h
        refine lv_bipush (v := (-2)) (pc := 65) hx hb dX4_piece_65 (by decide) ?_
        exact r_retU (pc := 67) (𝓦 := Wu E a) C h hP hS dX4_piece_67
      · have h := if_n hc h
        refine lv_aload_n (pc := 50) hx hb dX4_piece_50 rfl (lv_at hl 0 rfl) ?_
        refine va_get (pc := 51) (v := .ref (a 2)) hx hb hts inB4 hown hK.1 hP 0 wu0 rfl 2 (by decide) (hts _ wd_219) (fun _ h9 => h9) rfl dX4_piece_51 ?_
        refine va_get (pc := 54) (v := .ref (a 13)) hx hb hts inB0 hown hK.1 hP 2 wu2 rfl 4 (by decide) (hts _ wd_108) (fun _ h9 => h9) rfl dX4_piece_54 ?_
        refine lv_iload_n (pc := 57) hx hb dX4_piece_57 rfl (lv_at hl 1 rfl) ?_
        refine lv_iload_n (pc := 58) hx hb dX4_piece_58 rfl (lv_at hl 3 rfl) ?_
        obtain ⟨r3, S1, hr3, h⟩ := bd2_some h
        refine r_callSU (pc := 59) C hP hS (c_X4_swap_13 hI hr3) k_X4_swap wd_298 ⟨Nat.le_of_ble_eq_true rfl, Nat.le_of_ble_eq_true rfl⟩ rfl hl.1 rfl (Nat.le_of_ble_eq_true rfl) dX4_piece_59 ⟨Nat.zero_le _, Nat.zero_le _⟩ (fun H locs hP hS => ?_)
        refine lv_goto (tgt := 67) (pc := 62) hx hb dX4_piece_62 (by decide) ?_
        exact r_retU (pc := 67) (𝓦 := Wu E a) C h hP hS dX4_piece_67
    have h := if_n hc0 h
    by_cases hc1 : x2 = 1
    · refine r_tabIn (pc := 10) (v := 1) (off := 58) (tgt := 68) hx hb dX4_piece_10 hc1 (by decide) (by decide) (by decide +kernel) (by decide) ?_
      have h := if_y hc1 h
      refine lv_iload_n (pc := 68) hx hb dX4_piece_68 rfl (lv_at hl 3 rfl) ?_
      refine lv_iconst (v := 0) (pc := 69) hx hb dX4_piece_69 (by decide) ?_
      refine lv_iconst (v := 1) (pc := 70) hx hb dX4_piece_70 (by decide) ?_
      obtain ⟨r4, hr4, h⟩ := bd_some h
      refine r_callS (pc := 71) C (c_X4_within hr4) k_X4_within wd_244 ⟨Nat.le_of_ble_eq_true rfl, Nat.le_of_ble_eq_true rfl⟩ rfl hl.1 rfl (Nat.le_of_ble_eq_true rfl) dX4_piece_71 ⟨Nat.zero_le _, Nat.zero_le _⟩ ?_
      refine lv_if_eq (tgt := 92) (pc := 74) hx hb dX4_piece_74 (by decide) (fun hc => ?_) (fun hc => ?_)
      · have h := if_y hc h
        refine lv_bipush (v := (-2)) (pc := 92) hx hb dX4_piece_92 (by decide) ?_
        exact r_retU (pc := 94) (𝓦 := Wu E a) C h hP hS dX4_piece_94
      · have h := if_n hc h
        refine lv_aload_n (pc := 77) hx hb dX4_piece_77 rfl (lv_at hl 0 rfl) ?_
        refine va_get (pc := 78) (v := .ref (a 2)) hx hb hts inB4 hown hK.1 hP 0 wu0 rfl 2 (by decide) (hts _ wd_219) (fun _ h9 => h9) rfl dX4_piece_78 ?_
        refine va_get (pc := 81) (v := .ref (a 14)) hx hb hts inB0 hown hK.1 hP 2 wu2 rfl 5 (by decide) (hts _ wd_110) (fun _ h9 => h9) rfl dX4_piece_81 ?_
        refine lv_iload_n (pc := 84) hx hb dX4_piece_84 rfl (lv_at hl 1 rfl) ?_
        refine lv_iload_n (pc := 85) hx hb dX4_piece_85 rfl (lv_at hl 3 rfl) ?_
        obtain ⟨r5, S2, hr5, h⟩ := bd2_some h
        refine r_callSU (pc := 86) C hP hS (c_X4_swap_14 hI hr5) k_X4_swap wd_298 ⟨Nat.le_of_ble_eq_true rfl, Nat.le_of_ble_eq_true rfl⟩ rfl hl.1 rfl (Nat.le_of_ble_eq_true rfl) dX4_piece_86 ⟨Nat.zero_le _, Nat.zero_le _⟩ (fun H locs hP hS => ?_)
        refine lv_goto (tgt := 94) (pc := 89) hx hb dX4_piece_89 (by decide) ?_
        exact r_retU (pc := 94) (𝓦 := Wu E a) C h hP hS dX4_piece_94
    have h := if_n hc1 h
    by_cases hc2 : x2 = 2
    · refine r_tabIn (pc := 10) (v := 2) (off := 85) (tgt := 95) hx hb dX4_piece_10 hc2 (by decide) (by decide) (by decide +kernel) (by decide) ?_
      have h := if_y hc2 h
      refine lv_iload_n (pc := 95) hx hb dX4_piece_95 rfl (lv_at hl 3 rfl) ?_
      refine lv_iconst (v := 0) (pc := 96) hx hb dX4_piece_96 (by decide) ?_
      refine lv_bipush (v := 63) (pc := 97) hx hb dX4_piece_97 (by decide) ?_
      obtain ⟨r6, hr6, h⟩ := bd_some h
      refine r_callS (pc := 99) C (c_X4_within hr6) k_X4_within wd_244 ⟨Nat.le_of_ble_eq_true rfl, Nat.le_of_ble_eq_true rfl⟩ rfl hl.1 rfl (Nat.le_of_ble_eq_true rfl) dX4_piece_99 ⟨Nat.zero_le _, Nat.zero_le _⟩ ?_
      refine lv_if_eq (tgt := 120) (pc := 102) hx hb dX4_piece_102 (by decide) (fun hc => ?_) (fun hc => ?_)
      · have h := if_y hc h
        refine lv_bipush (v := (-2)) (pc := 120) hx hb dX4_piece_120 (by decide) ?_
        exact r_retU (pc := 122) (𝓦 := Wu E a) C h hP hS dX4_piece_122
      · have h := if_n hc h
        refine lv_aload_n (pc := 105) hx hb dX4_piece_105 rfl (lv_at hl 0 rfl) ?_
        refine va_get (pc := 106) (v := .ref (a 2)) hx hb hts inB4 hown hK.1 hP 0 wu0 rfl 2 (by decide) (hts _ wd_219) (fun _ h9 => h9) rfl dX4_piece_106 ?_
        refine va_get (pc := 109) (v := .ref (a 15)) hx hb hts inB0 hown hK.1 hP 2 wu2 rfl 6 (by decide) (hts _ wd_112) (fun _ h9 => h9) rfl dX4_piece_109 ?_
        refine lv_iload_n (pc := 112) hx hb dX4_piece_112 rfl (lv_at hl 1 rfl) ?_
        refine lv_iload_n (pc := 113) hx hb dX4_piece_113 rfl (lv_at hl 3 rfl) ?_
        obtain ⟨r7, S3, hr7, h⟩ := bd2_some h
        refine r_callSU (pc := 114) C hP hS (c_X4_swap_15 hI hr7) k_X4_swap wd_298 ⟨Nat.le_of_ble_eq_true rfl, Nat.le_of_ble_eq_true rfl⟩ rfl hl.1 rfl (Nat.le_of_ble_eq_true rfl) dX4_piece_114 ⟨Nat.zero_le _, Nat.zero_le _⟩ (fun H locs hP hS => ?_)
        refine lv_goto (tgt := 122) (pc := 117) hx hb dX4_piece_117 (by decide) ?_
        exact r_retU (pc := 122) (𝓦 := Wu E a) C h hP hS dX4_piece_122
    have h := if_n hc2 h
    by_cases hc3 : x2 = 3
    · refine r_tabIn (pc := 10) (v := 3) (off := 113) (tgt := 123) hx hb dX4_piece_10 hc3 (by decide) (by decide) (by decide +kernel) (by decide) ?_
      have h := if_y hc3 h
      refine lv_iload_n (pc := 123) hx hb dX4_piece_123 rfl (lv_at hl 3 rfl) ?_
      refine lv_iconst (v := 0) (pc := 124) hx hb dX4_piece_124 (by decide) ?_
      refine lv_sipush (v := 999) (pc := 125) hx hb dX4_piece_125 (by decide) ?_
      obtain ⟨r8, hr8, h⟩ := bd_some h
      refine r_callS (pc := 128) C (c_X4_within hr8) k_X4_within wd_244 ⟨Nat.le_of_ble_eq_true rfl, Nat.le_of_ble_eq_true rfl⟩ rfl hl.1 rfl (Nat.le_of_ble_eq_true rfl) dX4_piece_128 ⟨Nat.zero_le _, Nat.zero_le _⟩ ?_
      refine lv_if_eq (tgt := 149) (pc := 131) hx hb dX4_piece_131 (by decide) (fun hc => ?_) (fun hc => ?_)
      · have h := if_y hc h
        refine lv_bipush (v := (-2)) (pc := 149) hx hb dX4_piece_149 (by decide) ?_
        exact r_retU (pc := 151) (𝓦 := Wu E a) C h hP hS dX4_piece_151
      · have h := if_n hc h
        refine lv_aload_n (pc := 134) hx hb dX4_piece_134 rfl (lv_at hl 0 rfl) ?_
        refine va_get (pc := 135) (v := .ref (a 2)) hx hb hts inB4 hown hK.1 hP 0 wu0 rfl 2 (by decide) (hts _ wd_219) (fun _ h9 => h9) rfl dX4_piece_135 ?_
        refine va_get (pc := 138) (v := .ref (a 16)) hx hb hts inB0 hown hK.1 hP 2 wu2 rfl 7 (by decide) (hts _ wd_114) (fun _ h9 => h9) rfl dX4_piece_138 ?_
        refine lv_iload_n (pc := 141) hx hb dX4_piece_141 rfl (lv_at hl 1 rfl) ?_
        refine lv_iload_n (pc := 142) hx hb dX4_piece_142 rfl (lv_at hl 3 rfl) ?_
        obtain ⟨r9, S4, hr9, h⟩ := bd2_some h
        refine r_callSU (pc := 143) C hP hS (c_X4_swap_16 hI hr9) k_X4_swap wd_298 ⟨Nat.le_of_ble_eq_true rfl, Nat.le_of_ble_eq_true rfl⟩ rfl hl.1 rfl (Nat.le_of_ble_eq_true rfl) dX4_piece_143 ⟨Nat.zero_le _, Nat.zero_le _⟩ (fun H locs hP hS => ?_)
        refine lv_goto (tgt := 151) (pc := 146) hx hb dX4_piece_146 (by decide) ?_
        exact r_retU (pc := 151) (𝓦 := Wu E a) C h hP hS dX4_piece_151
    have h := if_n hc3 h
    refine lv_tableOut (pc := 10) (tgt := 152) hx hb dX4_piece_10 (tabOut0_3 hc0 hc1 hc2 hc3) (by decide) ?_
    refine lv_bipush (v := (-2)) (pc := 152) hx hb dX4_piece_152 (by decide) ?_
    exact r_retU (pc := 154) (𝓦 := Wu E a) C h hP hS dX4_piece_154
  · have h := if_y hc h
    refine lv_iconst (v := (-1)) (pc := 7) hx hb dX4_piece_7 (by decide) ?_
    exact r_retU (pc := 8) (𝓦 := Wu E a) C h hP hS dX4_piece_8
theorem c_X4_piece {l : Launch} {D : va_G} {E : bE} {a : Nat → Nat} (hI : aI 49 a) {rr : Int32} {S : St} {SS : St} {x1 : Int32} {x2 : Int32} {x3 : Int32} (h : f_X4_piece x1 x2 x3 S = some (rr, SS)) : cU l D E yX4_piece cX4_piece 4 (some .int) 2 42 (aA 49 a) (Wu E a S) (Wu E a SS) [.ref (a 0), .int x1, .int x2, .int x3] rr := cU_of (by decide) (Nat.le_of_ble_eq_true rfl) (fun p e s m args below meth c C => t_X4_piece_0 hI C h)
/-! X4_use -/
def f_X4_use (x0 : Int32) (x1 : Int32) : Option (Int32) :=
  some ((x0 * 6) + x1)
theorem t_X4_use_0 {rr : Int32} (C : bC D E RX4 cX4_use 2 (some .int) p s m args meth c) {x0 : Int32} {x1 : Int32} (h : f_X4_use x0 x1 = some rr) : gR p l e (bRm 0 0) s m args below meth c 2 (qS below rr args s) 0 [(0, .int x0), (1, .int x1)] [] := by
  obtain ⟨hx, hb, hml, hown, hts, hK, hr, hlocks⟩ := id C
  intro ls hl
  unfold f_X4_use at h
  refine lv_iload_n (pc := 0) hx hb dX4_use_0 rfl (lv_at hl 0 rfl) ?_
  refine lv_bipush (v := 6) (pc := 1) hx hb dX4_use_1 (by decide) ?_
  refine lv_imul (pc := 3) hx hb dX4_use_3 ?_
  refine lv_iload_n (pc := 4) hx hb dX4_use_4 rfl (lv_at hl 1 rfl) ?_
  refine lv_iadd (pc := 5) hx hb dX4_use_5 ?_
  exact r_retS (pc := 6) C h dX4_use_6
theorem c_X4_use {l : Launch} {D : va_G} {E : bE} {rr : Int32} {x0 : Int32} {x1 : Int32} (h : f_X4_use x0 x1 = some rr) : cS l D E yX4_use cX4_use 2 (some .int) 0 0 [.int x0, .int x1] rr := cS_of (by decide) (Nat.le_of_ble_eq_true rfl) (fun p e s m args below meth c C => t_X4_use_0 C h)
/-! X4_swap_17 -/
def f_X4_swap_17 (x1 : Int32) (x2 : Int32) (S : St) : Option (Int32 × St) :=
  gd (ix x1 36) (bd (some (S 17 (Int32.toNatClampNeg x1))) fun y1 => gd (ix x1 36) (bd (some (sto S 17 (Int32.toNatClampNeg x1) x2)) fun S1 => some (y1, S1)))
theorem t_X4_swap_17_0 {rr : Int32} {SS : St} (hI : aI 49 a) (C : bC D E RX4 cX4_swap 4 (some .int) p s m args meth c) {x1 : Int32} {x2 : Int32} {S : St} (h : f_X4_swap_17 x1 x2 S = some (rr, SS)) : gU D (Wu E a) (aA 49 a) p l e (bRm 0 0) s m args below meth c 4 (qU D below (aA 49 a) (Wu E a SS) rr args s) 0 [(0, .ref (a 17)), (1, .int x1), (2, .int x2)] [] S := by
  obtain ⟨hx, hb, hml, hown, hts, hK, hr, hlocks⟩ := id C
  intro H locs hP hS ls hl
  unfold f_X4_swap_17 at h
  refine lv_aload_n (pc := 0) hx hb dX4_swap_0 rfl (lv_at hl 0 rfl) ?_
  refine lv_iload_n (pc := 1) hx hb dX4_swap_1 rfl (lv_at hl 1 rfl) ?_
  obtain ⟨hin, h⟩ := gd_some h
  refine r_ald (pc := 2) hx hb hK hP 17 wu17 hin dX4_swap_2 ?_
  refine lv_topi (fun y1 ey1 => ?_)
  have h := bd_y ey1 h
  refine lv_istore_n (lv' := [(3, .int y1), (0, .ref (a 17)), (1, .int x1), (2, .int x2)]) (pc := 3) hx hb dX4_swap_3 rfl hl (by decide) rfl (fun ls hl => ?_)
  refine lv_aload_n (pc := 4) hx hb dX4_swap_4 rfl (lv_at hl 1 rfl) ?_
  refine lv_iload_n (pc := 5) hx hb dX4_swap_5 rfl (lv_at hl 2 rfl) ?_
  refine lv_iload_n (pc := 6) hx hb dX4_swap_6 rfl (lv_at hl 3 rfl) ?_
  obtain ⟨hin, h⟩ := gd_some h
  refine r_ast (pc := 7) (𝓦 := Wu E a) hx hb hK hP (dU hI _) hS 17 wu17 wu17s hin dX4_swap_7 (fun H locs S1 eS1 hP hS => ?_)
  have h := bd_y eS1 h
  refine lv_iload_n (pc := 8) hx hb dX4_swap_8 rfl (lv_at hl 0 rfl) ?_
  exact r_retU (pc := 9) (𝓦 := Wu E a) C h hP hS dX4_swap_9
theorem c_X4_swap_17 {l : Launch} {D : va_G} {E : bE} {a : Nat → Nat} (hI : aI 49 a) {rr : Int32} {S : St} {SS : St} {x1 : Int32} {x2 : Int32} (h : f_X4_swap_17 x1 x2 S = some (rr, SS)) : cU l D E yX4_swap cX4_swap 4 (some .int) 0 0 (aA 49 a) (Wu E a S) (Wu E a SS) [.ref (a 17), .int x1, .int x2] rr := cU_of (by decide) (Nat.le_of_ble_eq_true rfl) (fun p e s m args below meth c C => t_X4_swap_17_0 hI C h)
/-! X4_uses -/
def B_X4_uses_55 (z0 : Int32) (z1 : Int32) (S : St) : Option (Int32 × St) :=
  bd2 (f_X4_swap_17 z1 z0 S) fun r1 S1 => some (r1, S1)
theorem t_X4_uses_55 {rr : Int32} {SS : St} (hI : aI 49 a) (C : bC D E RX4 cX4_uses 4 (some .int) p s m args meth c) {z0 : Int32} {z1 : Int32} {S : St} (h : B_X4_uses_55 z0 z1 S = some (rr, SS)) : gU D (Wu E a) (aA 49 a) p l e (bRm 2 42) s m args below meth c 4 (qU D below (aA 49 a) (Wu E a SS) rr args s) 55 [] [.int z0, .int z1, .ref (a 17)] S := by
  obtain ⟨hx, hb, hml, hown, hts, hK, hr, hlocks⟩ := id C
  intro H locs hP hS ls hl
  unfold B_X4_uses_55 at h
  obtain ⟨r1, S1, hr1, h⟩ := bd2_some h
  refine r_callSU (pc := 55) C hP hS (c_X4_swap_17 hI hr1) k_X4_swap wd_298 ⟨Nat.le_of_ble_eq_true rfl, Nat.le_of_ble_eq_true rfl⟩ rfl hl.1 rfl (Nat.le_of_ble_eq_true rfl) dX4_uses_55 ⟨Nat.zero_le _, Nat.zero_le _⟩ (fun H locs hP hS => ?_)
  exact r_retU (pc := 58) (𝓦 := Wu E a) C h hP hS dX4_uses_58
def f_X4_uses (x1 : Int32) (x2 : Int32) (x3 : Int32) (S : St) : Option (Int32 × St) :=
  bd (f_X4_isPiece x1) fun r1 => if r1 = 0 then (some ((-1), S)) else (bd (f_X4_within x2 0 (x1 - 1)) fun r2 => if r2 = 0 then (some ((-1), S)) else (bd (f_X4_within x3 (-1) 3) fun r3 => if r3 = 0 then (some ((-2), S)) else (bd (f_X4_use x1 x2) fun r4 => if x3 = (-1) then (B_X4_uses_55 (-6) r4 S) else (B_X4_uses_55 x3 r4 S))))
theorem t_X4_uses_0 {rr : Int32} {SS : St} (hI : aI 49 a) (C : bC D E RX4 cX4_uses 4 (some .int) p s m args meth c) {x1 : Int32} {x2 : Int32} {x3 : Int32} {S : St} (h : f_X4_uses x1 x2 x3 S = some (rr, SS)) : gU D (Wu E a) (aA 49 a) p l e (bRm 2 42) s m args below meth c 4 (qU D below (aA 49 a) (Wu E a SS) rr args s) 0 [(0, .ref (a 0)), (1, .int x1), (2, .int x2), (3, .int x3)] [] S := by
  obtain ⟨hx, hb, hml, hown, hts, hK, hr, hlocks⟩ := id C
  intro H locs hP hS ls hl
  unfold f_X4_uses at h
  refine lv_iload_n (pc := 0) hx hb dX4_uses_0 rfl (lv_at hl 1 rfl) ?_
  obtain ⟨r1, hr1, h⟩ := bd_some h
  refine r_callS (pc := 1) C (c_X4_isPiece hr1) k_X4_isPiece wd_295 ⟨Nat.le_of_ble_eq_true rfl, Nat.le_of_ble_eq_true rfl⟩ rfl hl.1 rfl (Nat.le_of_ble_eq_true rfl) dX4_uses_1 ⟨Nat.zero_le _, Nat.zero_le _⟩ ?_
  refine lv_if_eq (tgt := 18) (pc := 4) hx hb dX4_uses_4 (by decide) (fun hc => ?_) (fun hc => ?_)
  · have h := if_y hc h
    refine lv_iconst (v := (-1)) (pc := 18) hx hb dX4_uses_18 (by decide) ?_
    exact r_retU (pc := 19) (𝓦 := Wu E a) C h hP hS dX4_uses_19
  · have h := if_n hc h
    refine lv_iload_n (pc := 7) hx hb dX4_uses_7 rfl (lv_at hl 2 rfl) ?_
    refine lv_iconst (v := 0) (pc := 8) hx hb dX4_uses_8 (by decide) ?_
    refine lv_iload_n (pc := 9) hx hb dX4_uses_9 rfl (lv_at hl 1 rfl) ?_
    refine lv_iconst (v := 1) (pc := 10) hx hb dX4_uses_10 (by decide) ?_
    refine lv_isub (pc := 11) hx hb dX4_uses_11 ?_
    obtain ⟨r2, hr2, h⟩ := bd_some h
    refine r_callS (pc := 12) C (c_X4_within hr2) k_X4_within wd_244 ⟨Nat.le_of_ble_eq_true rfl, Nat.le_of_ble_eq_true rfl⟩ rfl hl.1 rfl (Nat.le_of_ble_eq_true rfl) dX4_uses_12 ⟨Nat.zero_le _, Nat.zero_le _⟩ ?_
    refine lv_if_ne (tgt := 20) (pc := 15) hx hb dX4_uses_15 (by decide) (fun hc => ?_) (fun hc => ?_)
    · have h := if_n hc h
      refine lv_iload_n (pc := 20) hx hb dX4_uses_20 rfl (lv_at hl 3 rfl) ?_
      refine lv_iconst (v := (-1)) (pc := 21) hx hb dX4_uses_21 (by decide) ?_
      refine lv_iconst (v := 3) (pc := 22) hx hb dX4_uses_22 (by decide) ?_
      obtain ⟨r3, hr3, h⟩ := bd_some h
      refine r_callS (pc := 23) C (c_X4_within hr3) k_X4_within wd_244 ⟨Nat.le_of_ble_eq_true rfl, Nat.le_of_ble_eq_true rfl⟩ rfl hl.1 rfl (Nat.le_of_ble_eq_true rfl) dX4_uses_23 ⟨Nat.zero_le _, Nat.zero_le _⟩ ?_
      refine lv_if_ne (tgt := 32) (pc := 26) hx hb dX4_uses_26 (by decide) (fun hc => ?_) (fun hc => ?_)
      · have h := if_n hc h
        refine lv_aload_n (pc := 32) hx hb dX4_uses_32 rfl (lv_at hl 0 rfl) ?_
        refine va_get (pc := 33) (v := .ref (a 2)) hx hb hts inB4 hown hK.1 hP 0 wu0 rfl 2 (by decide) (hts _ wd_219) (fun _ h9 => h9) rfl dX4_uses_33 ?_
        refine va_get (pc := 36) (v := .ref (a 17)) hx hb hts inB0 hown hK.1 hP 2 wu2 rfl 8 (by decide) (hts _ wd_117) (fun _ h9 => h9) rfl dX4_uses_36 ?_
        refine lv_iload_n (pc := 39) hx hb dX4_uses_39 rfl (lv_at hl 1 rfl) ?_
        refine lv_iload_n (pc := 40) hx hb dX4_uses_40 rfl (lv_at hl 2 rfl) ?_
        obtain ⟨r4, hr4, h⟩ := bd_some h
        refine r_callS (pc := 41) C (c_X4_use hr4) k_X4_use wd_305 ⟨Nat.le_of_ble_eq_true rfl, Nat.le_of_ble_eq_true rfl⟩ rfl hl.1 rfl (Nat.le_of_ble_eq_true rfl) dX4_uses_41 ⟨Nat.zero_le _, Nat.zero_le _⟩ ?_
        refine lv_iload_n (pc := 44) hx hb dX4_uses_44 rfl (lv_at hl 3 rfl) ?_
        refine lv_iconst (v := (-1)) (pc := 45) hx hb dX4_uses_45 (by decide) ?_
        refine lv_icmp_ne (tgt := 54) (pc := 46) hx hb dX4_uses_46 (by decide) (fun hc => ?_) (fun hc => ?_)
        · have h := if_n hc h
          refine lv_iload_n (pc := 54) hx hb dX4_uses_54 rfl (lv_at hl 3 rfl) ?_
          exact t_X4_uses_55 hI C h H locs hP hS ls (lv_sub hl [] rfl)
        · have h := if_y hc h
          refine lv_bipush (v := (-6)) (pc := 49) hx hb dX4_uses_49 (by decide) ?_
          refine lv_goto (tgt := 55) (pc := 51) hx hb dX4_uses_51 (by decide) ?_
          exact t_X4_uses_55 hI C h H locs hP hS ls (lv_sub hl [] rfl)
      · have h := if_y hc h
        refine lv_bipush (v := (-2)) (pc := 29) hx hb dX4_uses_29 (by decide) ?_
        exact r_retU (pc := 31) (𝓦 := Wu E a) C h hP hS dX4_uses_31
    · have h := if_y hc h
      refine lv_iconst (v := (-1)) (pc := 18) hx hb dX4_uses_18 (by decide) ?_
      exact r_retU (pc := 19) (𝓦 := Wu E a) C h hP hS dX4_uses_19
theorem c_X4_uses {l : Launch} {D : va_G} {E : bE} {a : Nat → Nat} (hI : aI 49 a) {rr : Int32} {S : St} {SS : St} {x1 : Int32} {x2 : Int32} {x3 : Int32} (h : f_X4_uses x1 x2 x3 S = some (rr, SS)) : cU l D E yX4_uses cX4_uses 4 (some .int) 2 42 (aA 49 a) (Wu E a S) (Wu E a SS) [.ref (a 0), .int x1, .int x2, .int x3] rr := cU_of (by decide) (Nat.le_of_ble_eq_true rfl) (fun p e s m args below meth c C => t_X4_uses_0 hI C h)
/-! X4_has -/
def f_X4_has (x0 : Int32) (x1 : Int32) : Option (Int32) :=
  if ((x0 >>> (x1 &&& 31)) &&& 1) = 0 then (some 0) else (some 1)
theorem t_X4_has_0 {rr : Int32} (C : bC D E RX4 cX4_has 2 (some .boolean) p s m args meth c) {x0 : Int32} {x1 : Int32} (h : f_X4_has x0 x1 = some rr) : gR p l e (bRm 0 0) s m args below meth c 2 (qS below rr args s) 0 [(0, .int x0), (1, .int x1)] [] := by
  obtain ⟨hx, hb, hml, hown, hts, hK, hr, hlocks⟩ := id C
  intro ls hl
  unfold f_X4_has at h
  refine lv_iload_n (pc := 0) hx hb dX4_has_0 rfl (lv_at hl 0 rfl) ?_
  refine lv_iload_n (pc := 1) hx hb dX4_has_1 rfl (lv_at hl 1 rfl) ?_
  refine lv_ishr (pc := 2) hx hb dX4_has_2 ?_
  refine lv_iconst (v := 1) (pc := 3) hx hb dX4_has_3 (by decide) ?_
  refine lv_iand (pc := 4) hx hb dX4_has_4 ?_
  refine lv_if_eq (tgt := 12) (pc := 5) hx hb dX4_has_5 (by decide) (fun hc => ?_) (fun hc => ?_)
  · have h := if_y hc h
    refine lv_iconst (v := 0) (pc := 12) hx hb dX4_has_12 (by decide) ?_
    exact r_retZ (pc := 13) C (gd_lit (by decide) h) dX4_has_13
  · have h := if_n hc h
    refine lv_iconst (v := 1) (pc := 8) hx hb dX4_has_8 (by decide) ?_
    refine lv_goto (tgt := 13) (pc := 9) hx hb dX4_has_9 (by decide) ?_
    exact r_retZ (pc := 13) C (gd_lit (by decide) h) dX4_has_13
theorem c_X4_has {l : Launch} {D : va_G} {E : bE} {rr : Int32} {x0 : Int32} {x1 : Int32} (h : f_X4_has x0 x1 = some rr) : cS l D E yX4_has cX4_has 2 (some .boolean) 0 0 [.int x0, .int x1] rr := cS_of (by decide) (Nat.le_of_ble_eq_true rfl) (fun p e s m args below meth c C => t_X4_has_0 C h)
/-! X0_choicesOf -/
def FB_X0_choicesOf_28 (N : Nat) (k20 : Int32 × Int32 → Option (Int32)) (S : St) (k28 : Int32 × Int32 × Int32 → Option (Int32)) (x2 : Int32) (x3 : Int32) (x4 : Int32) : Option (Int32) :=
  if 5 ≤ x4 then (k20 (x2, (x3 + 1))) else (bd (f_X4_has x2 x4) fun r1 => if r1 = 0 then (k28 (x2, x3, (x4 + 1))) else (gd (ix x4 5) (if (S 12 (Int32.toNatClampNeg x4)) = (-6) then (k28 (x2, x3, (x4 + 1))) else (gd (ix x4 5) (bd (some (x2 ||| (1 <<< ((S 12 (Int32.toNatClampNeg x4)) &&& 31)))) fun y2 => k28 (y2, x3, (x4 + 1)))))))
def F_X0_choicesOf_28 (N : Nat) (k20 : Int32 × Int32 → Option (Int32)) (S : St) (k28 : Int32 × Int32 × Int32 → Option (Int32)) (v : Int32 × Int32 × Int32) : Option (Int32) := FB_X0_choicesOf_28 N k20 S k28 v.1 v.2.1 v.2.2
theorem s_X0_choicesOf_28 {rr : Int32} (hI : aI 49 a) (N : Nat) (C : bC D E RX0 cX0_choicesOf 5 (some .int) p s m args meth c) {S : St} (hP : va_P D vwCl (Wu E a S) s.heap) (k20 : Int32 × Int32 → Option (Int32)) (hk20 : ∀ (x2 : Int32) (x3 : Int32), k20 (x2, x3) = some rr → gR p l e (bRm 1 21) s m args below meth c 5 (qS below rr args s) 20 [(0, .ref (a 2)), (2, .int x2), (3, .int x3)] []) (k28 : Int32 × Int32 × Int32 → Option (Int32)) (hk28 : ∀ (x2 : Int32) (x3 : Int32) (x4 : Int32), k28 (x2, x3, x4) = some rr → gR p l e (bRm 1 21) s m args below meth c 5 (qS below rr args s) 28 [(0, .ref (a 2)), (2, .int x2), (3, .int x3), (4, .int x4)] []) {x2 : Int32} {x3 : Int32} {x4 : Int32} (h : FB_X0_choicesOf_28 N k20 S k28 x2 x3 x4 = some rr) : gR p l e (bRm 1 21) s m args below meth c 5 (qS below rr args s) 28 [(0, .ref (a 2)), (2, .int x2), (3, .int x3), (4, .int x4)] [] := by
  obtain ⟨hx, hb, hml, hown, hts, hK, hr, hlocks⟩ := id C
  intro ls hl
  unfold FB_X0_choicesOf_28 at h
  refine lv_iload (pc := 28) hx hb dX0_choicesOf_28 (lv_at hl 3 rfl) ?_
  refine lv_iconst (v := 5) (pc := 30) hx hb dX0_choicesOf_30 (by decide) ?_
  refine lv_icmp_ge (tgt := 73) (pc := 31) hx hb dX0_choicesOf_31 (by decide) (fun hc => ?_) (fun hc => ?_)
  · have h := if_y hc h
    refine lv_iinc (v := (x3 + 1)) (lv' := [(3, .int (x3 + 1)), (0, .ref (a 2)), (2, .int x2), (4, .int x4)]) (pc := 73) hx hb dX0_choicesOf_73 hl (k := 2) rfl (ii1 _) (by decide) rfl (fun ls hl => ?_)
    refine lv_goto (tgt := 20) (pc := 76) hx hb dX0_choicesOf_76 (by decide) ?_
    exact hk20 _ _ h ls (lv_sub hl [1, 2, 0] rfl)
  · have h := if_n hc h
    refine lv_iload_n (pc := 34) hx hb dX0_choicesOf_34 rfl (lv_at hl 1 rfl) ?_
    refine lv_iload (pc := 35) hx hb dX0_choicesOf_35 (lv_at hl 3 rfl) ?_
    obtain ⟨r1, hr1, h⟩ := bd_some h
    refine r_callSN (pc := 37) (host := RX4) C (c_X4_has hr1) k_X4_has nst_5 ⟨Nat.le_of_ble_eq_true rfl, Nat.le_of_ble_eq_true rfl⟩ rfl hl.1 rfl (Nat.le_of_ble_eq_true rfl) dX0_choicesOf_37 ⟨Nat.zero_le _, Nat.zero_le _⟩ ?_
    refine lv_if_eq (tgt := 67) (pc := 40) hx hb dX0_choicesOf_40 (by decide) (fun hc => ?_) (fun hc => ?_)
    · have h := if_y hc h
      refine lv_iinc (v := (x4 + 1)) (lv' := [(4, .int (x4 + 1)), (0, .ref (a 2)), (2, .int x2), (3, .int x3)]) (pc := 67) hx hb dX0_choicesOf_67 hl (k := 3) rfl (ii1 _) (by decide) rfl (fun ls hl => ?_)
      refine lv_goto (tgt := 28) (pc := 70) hx hb dX0_choicesOf_70 (by decide) ?_
      exact hk28 _ _ _ h ls (lv_sub hl [1, 2, 3, 0] rfl)
    · have h := if_n hc h
      refine lv_aload_n (pc := 43) hx hb dX0_choicesOf_43 rfl (lv_at hl 0 rfl) ?_
      refine va_get (pc := 44) (v := .ref (a 12)) hx hb hts inB0 hown hK.1 hP 2 wu2 rfl 3 (by decide) (hts _ wd_105) (fun _ h9 => h9) rfl dX0_choicesOf_44 ?_
      refine lv_iload (pc := 47) hx hb dX0_choicesOf_47 (lv_at hl 3 rfl) ?_
      obtain ⟨hin, h⟩ := gd_some h
      refine r_ald (pc := 49) hx hb hK hP 12 wu12 hin dX0_choicesOf_49 ?_
      refine lv_bipush (v := (-6)) (pc := 50) hx hb dX0_choicesOf_50 (by decide) ?_
      refine lv_icmp_eq (tgt := 67) (pc := 52) hx hb dX0_choicesOf_52 (by decide) (fun hc => ?_) (fun hc => ?_)
      · have h := if_y hc h
        refine lv_iinc (v := (x4 + 1)) (lv' := [(4, .int (x4 + 1)), (0, .ref (a 2)), (2, .int x2), (3, .int x3)]) (pc := 67) hx hb dX0_choicesOf_67 hl (k := 3) rfl (ii1 _) (by decide) rfl (fun ls hl => ?_)
        refine lv_goto (tgt := 28) (pc := 70) hx hb dX0_choicesOf_70 (by decide) ?_
        exact hk28 _ _ _ h ls (lv_sub hl [1, 2, 3, 0] rfl)
      · have h := if_n hc h
        refine lv_iload_n (pc := 55) hx hb dX0_choicesOf_55 rfl (lv_at hl 1 rfl) ?_
        refine lv_iconst (v := 1) (pc := 56) hx hb dX0_choicesOf_56 (by decide) ?_
        refine lv_aload_n (pc := 57) hx hb dX0_choicesOf_57 rfl (lv_at hl 0 rfl) ?_
        refine va_get (pc := 58) (v := .ref (a 12)) hx hb hts inB0 hown hK.1 hP 2 wu2 rfl 3 (by decide) (hts _ wd_105) (fun _ h9 => h9) rfl dX0_choicesOf_58 ?_
        refine lv_iload (pc := 61) hx hb dX0_choicesOf_61 (lv_at hl 3 rfl) ?_
        obtain ⟨hin, h⟩ := gd_some h
        refine r_ald (pc := 63) hx hb hK hP 12 wu12 hin dX0_choicesOf_63 ?_
        refine lv_ishl (pc := 64) hx hb dX0_choicesOf_64 ?_
        refine lv_ior (pc := 65) hx hb dX0_choicesOf_65 ?_
        refine lv_topi (fun y2 ey2 => ?_)
        have h := bd_y ey2 h
        refine lv_istore_n (lv' := [(2, .int y2), (0, .ref (a 2)), (3, .int x3), (4, .int x4)]) (pc := 66) hx hb dX0_choicesOf_66 rfl hl (by decide) rfl (fun ls hl => ?_)
        refine lv_iinc (v := (x4 + 1)) (lv' := [(4, .int (x4 + 1)), (2, .int y2), (0, .ref (a 2)), (3, .int x3)]) (pc := 67) hx hb dX0_choicesOf_67 hl (k := 3) rfl (ii1 _) (by decide) rfl (fun ls hl => ?_)
        refine lv_goto (tgt := 28) (pc := 70) hx hb dX0_choicesOf_70 (by decide) ?_
        exact hk28 _ _ _ h ls (lv_sub hl [2, 1, 3, 0] rfl)
theorem t_X0_choicesOf_28 {rr : Int32} (hI : aI 49 a) (N : Nat) (C : bC D E RX0 cX0_choicesOf 5 (some .int) p s m args meth c) {S : St} (hP : va_P D vwCl (Wu E a S) s.heap) (k20 : Int32 × Int32 → Option (Int32)) (hk20 : ∀ (x2 : Int32) (x3 : Int32), k20 (x2, x3) = some rr → gR p l e (bRm 1 21) s m args below meth c 5 (qS below rr args s) 20 [(0, .ref (a 2)), (2, .int x2), (3, .int x3)] []) {n : Nat} {x2 : Int32} {x3 : Int32} {x4 : Int32} (h : lpI (F_X0_choicesOf_28 N k20 S) n (x2, x3, x4) = some rr) : gR p l e (bRm 1 21) s m args below meth c 5 (qS below rr args s) 28 [(0, .ref (a 2)), (2, .int x2), (3, .int x3), (4, .int x4)] [] := by
  exact lpI_ind (P := fun v q => q = rr → gR p l e (bRm 1 21) s m args below meth c 5 (qS below rr args s) 28 [(0, .ref (a 2)), (2, .int v.1), (3, .int v.2.1), (4, .int v.2.2)] []) (fun k hk v q h9 hq => s_X0_choicesOf_28 hI N C hP k20 hk20 k (fun x2 x3 x4 h8 => hk (x2, x3, x4) _ h8 rfl) (h9.trans (congrArg some hq))) n (x2, x3, x4) _ h rfl
def FB_X0_choicesOf_20 (N : Nat) (S : St) (k20 : Int32 × Int32 → Option (Int32)) (x2 : Int32) (x3 : Int32) : Option (Int32) :=
  if 5 ≤ x3 then (some x2) else (lpI (F_X0_choicesOf_28 N k20 S) N (x2, x3, 0))
def F_X0_choicesOf_20 (N : Nat) (S : St) (k20 : Int32 × Int32 → Option (Int32)) (v : Int32 × Int32) : Option (Int32) := FB_X0_choicesOf_20 N S k20 v.1 v.2
theorem s_X0_choicesOf_20 {rr : Int32} (hI : aI 49 a) (N : Nat) (C : bC D E RX0 cX0_choicesOf 5 (some .int) p s m args meth c) {S : St} (hP : va_P D vwCl (Wu E a S) s.heap) (k20 : Int32 × Int32 → Option (Int32)) (hk20 : ∀ (x2 : Int32) (x3 : Int32), k20 (x2, x3) = some rr → gR p l e (bRm 1 21) s m args below meth c 5 (qS below rr args s) 20 [(0, .ref (a 2)), (2, .int x2), (3, .int x3)] []) {x2 : Int32} {x3 : Int32} (h : FB_X0_choicesOf_20 N S k20 x2 x3 = some rr) : gR p l e (bRm 1 21) s m args below meth c 5 (qS below rr args s) 20 [(0, .ref (a 2)), (2, .int x2), (3, .int x3)] [] := by
  obtain ⟨hx, hb, hml, hown, hts, hK, hr, hlocks⟩ := id C
  intro ls hl
  unfold FB_X0_choicesOf_20 at h
  refine lv_iload_n (pc := 20) hx hb dX0_choicesOf_20 rfl (lv_at hl 2 rfl) ?_
  refine lv_iconst (v := 5) (pc := 21) hx hb dX0_choicesOf_21 (by decide) ?_
  refine lv_icmp_ge (tgt := 79) (pc := 22) hx hb dX0_choicesOf_22 (by decide) (fun hc => ?_) (fun hc => ?_)
  · have h := if_y hc h
    refine lv_iload_n (pc := 79) hx hb dX0_choicesOf_79 rfl (lv_at hl 1 rfl) ?_
    exact r_retS (pc := 80) C h dX0_choicesOf_80
  · have h := if_n hc h
    refine lv_iconst (v := 0) (pc := 25) hx hb dX0_choicesOf_25 (by decide) ?_
    refine lv_istore (lv' := [(4, .int 0), (0, .ref (a 2)), (2, .int x2), (3, .int x3)]) (pc := 26) hx hb dX0_choicesOf_26 hl (by decide) rfl (fun ls hl => ?_)
    exact t_X0_choicesOf_28 hI N C hP k20 hk20 h ls (lv_sub hl [1, 2, 3, 0] rfl)
theorem t_X0_choicesOf_20 {rr : Int32} (hI : aI 49 a) (N : Nat) (C : bC D E RX0 cX0_choicesOf 5 (some .int) p s m args meth c) {S : St} (hP : va_P D vwCl (Wu E a S) s.heap) {n : Nat} {x2 : Int32} {x3 : Int32} (h : lpI (F_X0_choicesOf_20 N S) n (x2, x3) = some rr) : gR p l e (bRm 1 21) s m args below meth c 5 (qS below rr args s) 20 [(0, .ref (a 2)), (2, .int x2), (3, .int x3)] [] := by
  exact lpI_ind (P := fun v q => q = rr → gR p l e (bRm 1 21) s m args below meth c 5 (qS below rr args s) 20 [(0, .ref (a 2)), (2, .int v.1), (3, .int v.2)] []) (fun k hk v q h9 hq => s_X0_choicesOf_20 hI N C hP k (fun x2 x3 h8 => hk (x2, x3) _ h8 rfl) (h9.trans (congrArg some hq))) n (x2, x3) _ h rfl
def f_X0_choicesOf (N : Nat) (x1 : Int32) (S : St) : Option (Int32) :=
  gd (ix x1 6) (bd (some (S 13 (Int32.toNatClampNeg x1))) fun y1 => gd (ix x1 6) (if (S 14 (Int32.toNatClampNeg x1)) = 0 then (some y1) else (lpI (F_X0_choicesOf_20 N S) N (y1, 0))))
theorem t_X0_choicesOf_0 {rr : Int32} (hI : aI 49 a) (N : Nat) (C : bC D E RX0 cX0_choicesOf 5 (some .int) p s m args meth c) {S : St} (hP : va_P D vwCl (Wu E a S) s.heap) {x1 : Int32} (h : f_X0_choicesOf N x1 S = some rr) : gR p l e (bRm 1 21) s m args below meth c 5 (qS below rr args s) 0 [(0, .ref (a 2)), (1, .int x1)] [] := by
  obtain ⟨hx, hb, hml, hown, hts, hK, hr, hlocks⟩ := id C
  intro ls hl
  unfold f_X0_choicesOf at h
  refine lv_aload_n (pc := 0) hx hb dX0_choicesOf_0 rfl (lv_at hl 0 rfl) ?_
  refine va_get (pc := 1) (v := .ref (a 13)) hx hb hts inB0 hown hK.1 hP 2 wu2 rfl 4 (by decide) (hts _ wd_107) (fun _ h9 => h9) rfl dX0_choicesOf_1 ?_
  refine lv_iload_n (pc := 4) hx hb dX0_choicesOf_4 rfl (lv_at hl 1 rfl) ?_
  obtain ⟨hin, h⟩ := gd_some h
  refine r_ald (pc := 5) hx hb hK hP 13 wu13 hin dX0_choicesOf_5 ?_
  refine lv_topi (fun y1 ey1 => ?_)
  have h := bd_y ey1 h
  refine lv_istore_n (lv' := [(2, .int y1), (0, .ref (a 2)), (1, .int x1)]) (pc := 6) hx hb dX0_choicesOf_6 rfl hl (by decide) rfl (fun ls hl => ?_)
  refine lv_aload_n (pc := 7) hx hb dX0_choicesOf_7 rfl (lv_at hl 1 rfl) ?_
  refine va_get (pc := 8) (v := .ref (a 14)) hx hb hts inB0 hown hK.1 hP 2 wu2 rfl 5 (by decide) (hts _ wd_109) (fun _ h9 => h9) rfl dX0_choicesOf_8 ?_
  refine lv_iload_n (pc := 11) hx hb dX0_choicesOf_11 rfl (lv_at hl 2 rfl) ?_
  obtain ⟨hin, h⟩ := gd_some h
  refine r_ald (pc := 12) hx hb hK hP 14 wu14 hin dX0_choicesOf_12 ?_
  refine lv_if_ne (tgt := 18) (pc := 13) hx hb dX0_choicesOf_13 (by decide) (fun hc => ?_) (fun hc => ?_)
  · have h := if_n hc h
    refine lv_iconst (v := 0) (pc := 18) hx hb dX0_choicesOf_18 (by decide) ?_
    refine lv_istore_n (lv' := [(3, .int 0), (2, .int y1), (0, .ref (a 2)), (1, .int x1)]) (pc := 19) hx hb dX0_choicesOf_19 rfl hl (by decide) rfl (fun ls hl => ?_)
    exact t_X0_choicesOf_20 hI N C hP h ls (lv_sub hl [2, 1, 0] rfl)
  · have h := if_y hc h
    refine lv_iload_n (pc := 16) hx hb dX0_choicesOf_16 rfl (lv_at hl 0 rfl) ?_
    exact r_retS (pc := 17) C h dX0_choicesOf_17
theorem c_X0_choicesOf {l : Launch} {D : va_G} {E : bE} {a : Nat → Nat} (hI : aI 49 a) (N : Nat) {rr : Int32} {S : St} {x1 : Int32} (h : f_X0_choicesOf N x1 S = some rr) : cR l D E yX0_choicesOf cX0_choicesOf 5 (some .int) 1 21 (Wu E a S) [.ref (a 2), .int x1] rr := cR_of (by decide) (Nat.le_of_ble_eq_true rfl) (fun p e s m args below meth c C hP => t_X0_choicesOf_0 hI N C hP h)
/-! X4_choices -/
def f_X4_choices (N : Nat) (x1 : Int32) (S : St) : Option (Int32) :=
  bd (f_X4_isPiece x1) fun r1 => if r1 = 0 then (some (-1)) else (bd (f_X0_choicesOf N x1 S) fun r2 => some r2)
theorem t_X4_choices_0 {rr : Int32} (hI : aI 49 a) (N : Nat) (C : bC D E RX4 cX4_choices 2 (some .int) p s m args meth c) {S : St} (hP : va_P D vwCl (Wu E a S) s.heap) {x1 : Int32} (h : f_X4_choices N x1 S = some rr) : gR p l e (bRm 2 45) s m args below meth c 2 (qS below rr args s) 0 [(0, .ref (a 0)), (1, .int x1)] [] := by
  obtain ⟨hx, hb, hml, hown, hts, hK, hr, hlocks⟩ := id C
  intro ls hl
  unfold f_X4_choices at h
  refine lv_iload_n (pc := 0) hx hb dX4_choices_0 rfl (lv_at hl 1 rfl) ?_
  obtain ⟨r1, hr1, h⟩ := bd_some h
  refine r_callS (pc := 1) C (c_X4_isPiece hr1) k_X4_isPiece wd_295 ⟨Nat.le_of_ble_eq_true rfl, Nat.le_of_ble_eq_true rfl⟩ rfl hl.1 rfl (Nat.le_of_ble_eq_true rfl) dX4_choices_1 ⟨Nat.zero_le _, Nat.zero_le _⟩ ?_
  refine lv_if_eq (tgt := 18) (pc := 4) hx hb dX4_choices_4 (by decide) (fun hc => ?_) (fun hc => ?_)
  · have h := if_y hc h
    refine lv_iconst (v := (-1)) (pc := 18) hx hb dX4_choices_18 (by decide) ?_
    exact r_retS (pc := 19) C h dX4_choices_19
  · have h := if_n hc h
    refine lv_aload_n (pc := 7) hx hb dX4_choices_7 rfl (lv_at hl 0 rfl) ?_
    refine va_get (pc := 8) (v := .ref (a 2)) hx hb hts inB4 hown hK.1 hP 0 wu0 rfl 2 (by decide) (hts _ wd_219) (fun _ h9 => h9) rfl dX4_choices_8 ?_
    refine lv_iload_n (pc := 11) hx hb dX4_choices_11 rfl (lv_at hl 1 rfl) ?_
    obtain ⟨r2, hr2, h⟩ := bd_some h
    refine r_callR (pc := 12) C hP (c_X0_choicesOf hI N hr2) k_X0_choicesOf wd_312 (q0 := 2) wu2 rfl rfl ⟨Nat.le_of_ble_eq_true rfl, Nat.le_of_ble_eq_true rfl⟩ rfl hl.1 rfl (Nat.le_of_ble_eq_true rfl) dX4_choices_12 ⟨Nat.zero_le _, Nat.zero_le _⟩ ?_
    refine lv_goto (tgt := 19) (pc := 15) hx hb dX4_choices_15 (by decide) ?_
    exact r_retS (pc := 19) C h dX4_choices_19
theorem c_X4_choices {l : Launch} {D : va_G} {E : bE} {a : Nat → Nat} (hI : aI 49 a) (N : Nat) {rr : Int32} {S : St} {x1 : Int32} (h : f_X4_choices N x1 S = some rr) : cR l D E yX4_choices cX4_choices 2 (some .int) 2 45 (Wu E a S) [.ref (a 0), .int x1] rr := cR_of (by decide) (Nat.le_of_ble_eq_true rfl) (fun p e s m args below meth c C hP => t_X4_choices_0 hI N C hP h)
/-! X4_whole -/
def f_X4_whole (x1 : Int32) (S : St) : Option (Int32 × St) :=
  bd (f_X4_isPiece x1) fun r1 => if r1 = 0 then (some ((-1), S)) else (bd (some (S 2 9)) fun y2 => bd (some (sto S 2 9 x1)) fun S1 => some (y2, S1))
theorem t_X4_whole_0 {rr : Int32} {SS : St} (hI : aI 49 a) (C : bC D E RX4 cX4_whole 3 (some .int) p s m args meth c) {x1 : Int32} {S : St} (h : f_X4_whole x1 S = some (rr, SS)) : gU D (Wu E a) (aA 49 a) p l e (bRm 2 42) s m args below meth c 3 (qU D below (aA 49 a) (Wu E a SS) rr args s) 0 [(0, .ref (a 0)), (1, .int x1)] [] S := by
  obtain ⟨hx, hb, hml, hown, hts, hK, hr, hlocks⟩ := id C
  intro H locs hP hS ls hl
  unfold f_X4_whole at h
  refine lv_iload_n (pc := 0) hx hb dX4_whole_0 rfl (lv_at hl 1 rfl) ?_
  obtain ⟨r1, hr1, h⟩ := bd_some h
  refine r_callS (pc := 1) C (c_X4_isPiece hr1) k_X4_isPiece wd_295 ⟨Nat.le_of_ble_eq_true rfl, Nat.le_of_ble_eq_true rfl⟩ rfl hl.1 rfl (Nat.le_of_ble_eq_true rfl) dX4_whole_1 ⟨Nat.zero_le _, Nat.zero_le _⟩ ?_
  refine lv_if_ne (tgt := 9) (pc := 4) hx hb dX4_whole_4 (by decide) (fun hc => ?_) (fun hc => ?_)
  · have h := if_n hc h
    refine lv_aload_n (pc := 9) hx hb dX4_whole_9 rfl (lv_at hl 0 rfl) ?_
    refine va_get (pc := 10) (v := .ref (a 2)) hx hb hts inB4 hown hK.1 hP 0 wu0 rfl 2 (by decide) (hts _ wd_219) (fun _ h9 => h9) rfl dX4_whole_10 ?_
    refine va_get (pc := 13) (v := .int (S 2 9)) hx hb hts inB0 hown hK.1 hP 2 wu2 rfl 9 (by decide) (hts _ wd_120) (fun _ h9 => h9) rfl dX4_whole_13 ?_
    refine lv_topi (fun y2 ey2 => ?_)
    have h := bd_y ey2 h
    refine lv_istore_n (lv' := [(2, .int y2), (0, .ref (a 0)), (1, .int x1)]) (pc := 16) hx hb dX4_whole_16 rfl hl (by decide) rfl (fun ls hl => ?_)
    refine lv_aload_n (pc := 17) hx hb dX4_whole_17 rfl (lv_at hl 1 rfl) ?_
    refine va_get (pc := 18) (v := .ref (a 2)) hx hb hts inB4 hown hK.1 hP 0 wu0 rfl 2 (by decide) (hts _ wd_219) (fun _ h9 => h9) rfl dX4_whole_18 ?_
    refine lv_iload_n (pc := 21) hx hb dX4_whole_21 rfl (lv_at hl 2 rfl) ?_
    refine r_put (pc := 22) (𝓦 := Wu E a) hx hb hts hown hK inB0 tyX0 tyX0_ok nmX0 hP (dU hI _) hS 2 wu2 rfl 9 (by decide) wd_120 rfl (by decide +kernel) (Nat.le_of_ble_eq_true rfl) (wu2p9 _) dX4_whole_22 (fun H locs S1 eS1 hP hS => ?_)
    have h := bd_y eS1 h
    refine lv_iload_n (pc := 25) hx hb dX4_whole_25 rfl (lv_at hl 0 rfl) ?_
    exact r_retU (pc := 26) (𝓦 := Wu E a) C h hP hS dX4_whole_26
  · have h := if_y hc h
    refine lv_iconst (v := (-1)) (pc := 7) hx hb dX4_whole_7 (by decide) ?_
    exact r_retU (pc := 8) (𝓦 := Wu E a) C h hP hS dX4_whole_8
theorem c_X4_whole {l : Launch} {D : va_G} {E : bE} {a : Nat → Nat} (hI : aI 49 a) {rr : Int32} {S : St} {SS : St} {x1 : Int32} (h : f_X4_whole x1 S = some (rr, SS)) : cU l D E yX4_whole cX4_whole 3 (some .int) 2 42 (aA 49 a) (Wu E a S) (Wu E a SS) [.ref (a 0), .int x1] rr := cU_of (by decide) (Nat.le_of_ble_eq_true rfl) (fun p e s m args below meth c C => t_X4_whole_0 hI C h)
/-! X4_coin -/
def f_X4_coin (x1 : Int32) (S : St) : Option (Int32 × St) :=
  bd (f_X4_within x1 0 99) fun r1 => if r1 = 0 then (some ((-2), S)) else (bd (some (S 2 10)) fun y2 => bd (some (sto S 2 10 x1)) fun S1 => some (y2, S1))
theorem t_X4_coin_0 {rr : Int32} {SS : St} (hI : aI 49 a) (C : bC D E RX4 cX4_coin 3 (some .int) p s m args meth c) {x1 : Int32} {S : St} (h : f_X4_coin x1 S = some (rr, SS)) : gU D (Wu E a) (aA 49 a) p l e (bRm 1 22) s m args below meth c 3 (qU D below (aA 49 a) (Wu E a SS) rr args s) 0 [(0, .ref (a 0)), (1, .int x1)] [] S := by
  obtain ⟨hx, hb, hml, hown, hts, hK, hr, hlocks⟩ := id C
  intro H locs hP hS ls hl
  unfold f_X4_coin at h
  refine lv_iload_n (pc := 0) hx hb dX4_coin_0 rfl (lv_at hl 1 rfl) ?_
  refine lv_iconst (v := 0) (pc := 1) hx hb dX4_coin_1 (by decide) ?_
  refine lv_bipush (v := 99) (pc := 2) hx hb dX4_coin_2 (by decide) ?_
  obtain ⟨r1, hr1, h⟩ := bd_some h
  refine r_callS (pc := 4) C (c_X4_within hr1) k_X4_within wd_244 ⟨Nat.le_of_ble_eq_true rfl, Nat.le_of_ble_eq_true rfl⟩ rfl hl.1 rfl (Nat.le_of_ble_eq_true rfl) dX4_coin_4 ⟨Nat.zero_le _, Nat.zero_le _⟩ ?_
  refine lv_if_ne (tgt := 13) (pc := 7) hx hb dX4_coin_7 (by decide) (fun hc => ?_) (fun hc => ?_)
  · have h := if_n hc h
    refine lv_aload_n (pc := 13) hx hb dX4_coin_13 rfl (lv_at hl 0 rfl) ?_
    refine va_get (pc := 14) (v := .ref (a 2)) hx hb hts inB4 hown hK.1 hP 0 wu0 rfl 2 (by decide) (hts _ wd_219) (fun _ h9 => h9) rfl dX4_coin_14 ?_
    refine va_get (pc := 17) (v := .int (S 2 10)) hx hb hts inB0 hown hK.1 hP 2 wu2 rfl 10 (by decide) (hts _ wd_122) (fun _ h9 => h9) rfl dX4_coin_17 ?_
    refine lv_topi (fun y2 ey2 => ?_)
    have h := bd_y ey2 h
    refine lv_istore_n (lv' := [(2, .int y2), (0, .ref (a 0)), (1, .int x1)]) (pc := 20) hx hb dX4_coin_20 rfl hl (by decide) rfl (fun ls hl => ?_)
    refine lv_aload_n (pc := 21) hx hb dX4_coin_21 rfl (lv_at hl 1 rfl) ?_
    refine va_get (pc := 22) (v := .ref (a 2)) hx hb hts inB4 hown hK.1 hP 0 wu0 rfl 2 (by decide) (hts _ wd_219) (fun _ h9 => h9) rfl dX4_coin_22 ?_
    refine lv_iload_n (pc := 25) hx hb dX4_coin_25 rfl (lv_at hl 2 rfl) ?_
    refine r_put (pc := 26) (𝓦 := Wu E a) hx hb hts hown hK inB0 tyX0 tyX0_ok nmX0 hP (dU hI _) hS 2 wu2 rfl 10 (by decide) wd_122 rfl (by decide +kernel) (Nat.le_of_ble_eq_true rfl) (wu2p10 _) dX4_coin_26 (fun H locs S1 eS1 hP hS => ?_)
    have h := bd_y eS1 h
    refine lv_iload_n (pc := 29) hx hb dX4_coin_29 rfl (lv_at hl 0 rfl) ?_
    exact r_retU (pc := 30) (𝓦 := Wu E a) C h hP hS dX4_coin_30
  · have h := if_y hc h
    refine lv_bipush (v := (-2)) (pc := 10) hx hb dX4_coin_10 (by decide) ?_
    exact r_retU (pc := 12) (𝓦 := Wu E a) C h hP hS dX4_coin_12
theorem c_X4_coin {l : Launch} {D : va_G} {E : bE} {a : Nat → Nat} (hI : aI 49 a) {rr : Int32} {S : St} {SS : St} {x1 : Int32} (h : f_X4_coin x1 S = some (rr, SS)) : cU l D E yX4_coin cX4_coin 3 (some .int) 1 22 (aA 49 a) (Wu E a S) (Wu E a SS) [.ref (a 0), .int x1] rr := cU_of (by decide) (Nat.le_of_ble_eq_true rfl) (fun p e s m args below meth c C => t_X4_coin_0 hI C h)
/-! X3_reachedBy -/
def FB_X3_reachedBy_25 (N : Nat) (k18 : Int32 × Int32 × Int32 → Option (Int32)) (S : St) (k25 : Int32 × Int32 × Int32 × Int32 → Option (Int32)) (x1 : Int32) (x2 : Int32) (x3 : Int32) (x4 : Int32) : Option (Int32) :=
  if x3 ≤ x4 then (k18 (x1, x2, (x3 + (-1)))) else (bd (f_X4_has x2 x3) fun r1 => if r1 = 0 then (k25 (x1, x2, x3, (x4 + 1))) else (bd (f_X4_use x3 x4) fun r2 => gd (ix r2 36) (bd (f_X4_within (S 21 (Int32.toNatClampNeg r2)) 0 x1) fun r3 => if r3 = 0 then (k25 (x1, x2, x3, (x4 + 1))) else (bd (some (x2 ||| (1 <<< (x4 &&& 31)))) fun y4 => k25 (x1, y4, x3, (x4 + 1))))))
def F_X3_reachedBy_25 (N : Nat) (k18 : Int32 × Int32 × Int32 → Option (Int32)) (S : St) (k25 : Int32 × Int32 × Int32 × Int32 → Option (Int32)) (v : Int32 × Int32 × Int32 × Int32) : Option (Int32) := FB_X3_reachedBy_25 N k18 S k25 v.1 v.2.1 v.2.2.1 v.2.2.2
theorem s_X3_reachedBy_25 {rr : Int32} (hI : aI 49 a) (N : Nat) (C : bC D E RX3 cX3_reachedBy 5 (some .int) p s m args meth c) {S : St} (hP : va_P D vwCl (Wu E a S) s.heap) (k18 : Int32 × Int32 × Int32 → Option (Int32)) (hk18 : ∀ (x1 : Int32) (x2 : Int32) (x3 : Int32), k18 (x1, x2, x3) = some rr → gR p l e (bRm 1 22) s m args below meth c 5 (qS below rr args s) 18 [(0, .ref (a 3)), (1, .int x1), (2, .int x2), (3, .int x3)] []) (k25 : Int32 × Int32 × Int32 × Int32 → Option (Int32)) (hk25 : ∀ (x1 : Int32) (x2 : Int32) (x3 : Int32) (x4 : Int32), k25 (x1, x2, x3, x4) = some rr → gR p l e (bRm 1 22) s m args below meth c 5 (qS below rr args s) 25 [(0, .ref (a 3)), (1, .int x1), (2, .int x2), (3, .int x3), (4, .int x4)] []) {x1 : Int32} {x2 : Int32} {x3 : Int32} {x4 : Int32} (h : FB_X3_reachedBy_25 N k18 S k25 x1 x2 x3 x4 = some rr) : gR p l e (bRm 1 22) s m args below meth c 5 (qS below rr args s) 25 [(0, .ref (a 3)), (1, .int x1), (2, .int x2), (3, .int x3), (4, .int x4)] [] := by
  obtain ⟨hx, hb, hml, hown, hts, hK, hr, hlocks⟩ := id C
  intro ls hl
  unfold FB_X3_reachedBy_25 at h
  refine lv_iload (pc := 25) hx hb dX3_reachedBy_25 (lv_at hl 4 rfl) ?_
  refine lv_iload_n (pc := 27) hx hb dX3_reachedBy_27 rfl (lv_at hl 3 rfl) ?_
  refine lv_icmp_ge (tgt := 71) (pc := 28) hx hb dX3_reachedBy_28 (by decide) (fun hc => ?_) (fun hc => ?_)
  · have h := if_y hc h
    refine lv_iinc (v := (x3 + (-1))) (lv' := [(3, .int (x3 + (-1))), (0, .ref (a 3)), (1, .int x1), (2, .int x2), (4, .int x4)]) (pc := 71) hx hb dX3_reachedBy_71 hl (k := 3) rfl (iim1 _) (by decide) rfl (fun ls hl => ?_)
    refine lv_goto (tgt := 18) (pc := 74) hx hb dX3_reachedBy_74 (by decide) ?_
    exact hk18 _ _ _ h ls (lv_sub hl [1, 2, 3, 0] rfl)
  · have h := if_n hc h
    refine lv_iload_n (pc := 31) hx hb dX3_reachedBy_31 rfl (lv_at hl 2 rfl) ?_
    refine lv_iload_n (pc := 32) hx hb dX3_reachedBy_32 rfl (lv_at hl 3 rfl) ?_
    obtain ⟨r1, hr1, h⟩ := bd_some h
    refine r_callSN (pc := 33) (host := RX4) C (c_X4_has hr1) k_X4_has nst_6 ⟨Nat.le_of_ble_eq_true rfl, Nat.le_of_ble_eq_true rfl⟩ rfl hl.1 rfl (Nat.le_of_ble_eq_true rfl) dX3_reachedBy_33 ⟨Nat.zero_le _, Nat.zero_le _⟩ ?_
    refine lv_if_eq (tgt := 65) (pc := 36) hx hb dX3_reachedBy_36 (by decide) (fun hc => ?_) (fun hc => ?_)
    · have h := if_y hc h
      refine lv_iinc (v := (x4 + 1)) (lv' := [(4, .int (x4 + 1)), (0, .ref (a 3)), (1, .int x1), (2, .int x2), (3, .int x3)]) (pc := 65) hx hb dX3_reachedBy_65 hl (k := 4) rfl (ii1 _) (by decide) rfl (fun ls hl => ?_)
      refine lv_goto (tgt := 25) (pc := 68) hx hb dX3_reachedBy_68 (by decide) ?_
      exact hk25 _ _ _ _ h ls (lv_sub hl [1, 2, 3, 4, 0] rfl)
    · have h := if_n hc h
      refine lv_aload_n (pc := 39) hx hb dX3_reachedBy_39 rfl (lv_at hl 0 rfl) ?_
      refine va_get (pc := 40) (v := .ref (a 21)) hx hb hts inB3 hown hK.1 hP 3 wu3 rfl 6 (by decide) (hts _ wd_158) (fun _ h9 => h9) rfl dX3_reachedBy_40 ?_
      refine lv_iload_n (pc := 43) hx hb dX3_reachedBy_43 rfl (lv_at hl 3 rfl) ?_
      refine lv_iload (pc := 44) hx hb dX3_reachedBy_44 (lv_at hl 4 rfl) ?_
      obtain ⟨r2, hr2, h⟩ := bd_some h
      refine r_callSN (pc := 46) (host := RX4) C (c_X4_use hr2) k_X4_use nst_7 ⟨Nat.le_of_ble_eq_true rfl, Nat.le_of_ble_eq_true rfl⟩ rfl hl.1 rfl (Nat.le_of_ble_eq_true rfl) dX3_reachedBy_46 ⟨Nat.zero_le _, Nat.zero_le _⟩ ?_
      obtain ⟨hin, h⟩ := gd_some h
      refine r_ald (pc := 49) hx hb hK hP 21 wu21 hin dX3_reachedBy_49 ?_
      refine lv_iconst (v := 0) (pc := 50) hx hb dX3_reachedBy_50 (by decide) ?_
      refine lv_iload_n (pc := 51) hx hb dX3_reachedBy_51 rfl (lv_at hl 1 rfl) ?_
      obtain ⟨r3, hr3, h⟩ := bd_some h
      refine r_callSN (pc := 52) (host := RX4) C (c_X4_within hr3) k_X4_within nst_8 ⟨Nat.le_of_ble_eq_true rfl, Nat.le_of_ble_eq_true rfl⟩ rfl hl.1 rfl (Nat.le_of_ble_eq_true rfl) dX3_reachedBy_52 ⟨Nat.zero_le _, Nat.zero_le _⟩ ?_
      refine lv_if_eq (tgt := 65) (pc := 55) hx hb dX3_reachedBy_55 (by decide) (fun hc => ?_) (fun hc => ?_)
      · have h := if_y hc h
        refine lv_iinc (v := (x4 + 1)) (lv' := [(4, .int (x4 + 1)), (0, .ref (a 3)), (1, .int x1), (2, .int x2), (3, .int x3)]) (pc := 65) hx hb dX3_reachedBy_65 hl (k := 4) rfl (ii1 _) (by decide) rfl (fun ls hl => ?_)
        refine lv_goto (tgt := 25) (pc := 68) hx hb dX3_reachedBy_68 (by decide) ?_
        exact hk25 _ _ _ _ h ls (lv_sub hl [1, 2, 3, 4, 0] rfl)
      · have h := if_n hc h
        refine lv_iload_n (pc := 58) hx hb dX3_reachedBy_58 rfl (lv_at hl 2 rfl) ?_
        refine lv_iconst (v := 1) (pc := 59) hx hb dX3_reachedBy_59 (by decide) ?_
        refine lv_iload (pc := 60) hx hb dX3_reachedBy_60 (lv_at hl 4 rfl) ?_
        refine lv_ishl (pc := 62) hx hb dX3_reachedBy_62 ?_
        refine lv_ior (pc := 63) hx hb dX3_reachedBy_63 ?_
        refine lv_topi (fun y4 ey4 => ?_)
        have h := bd_y ey4 h
        refine lv_istore_n (lv' := [(2, .int y4), (0, .ref (a 3)), (1, .int x1), (3, .int x3), (4, .int x4)]) (pc := 64) hx hb dX3_reachedBy_64 rfl hl (by decide) rfl (fun ls hl => ?_)
        refine lv_iinc (v := (x4 + 1)) (lv' := [(4, .int (x4 + 1)), (2, .int y4), (0, .ref (a 3)), (1, .int x1), (3, .int x3)]) (pc := 65) hx hb dX3_reachedBy_65 hl (k := 4) rfl (ii1 _) (by decide) rfl (fun ls hl => ?_)
        refine lv_goto (tgt := 25) (pc := 68) hx hb dX3_reachedBy_68 (by decide) ?_
        exact hk25 _ _ _ _ h ls (lv_sub hl [2, 3, 1, 4, 0] rfl)
theorem t_X3_reachedBy_25 {rr : Int32} (hI : aI 49 a) (N : Nat) (C : bC D E RX3 cX3_reachedBy 5 (some .int) p s m args meth c) {S : St} (hP : va_P D vwCl (Wu E a S) s.heap) (k18 : Int32 × Int32 × Int32 → Option (Int32)) (hk18 : ∀ (x1 : Int32) (x2 : Int32) (x3 : Int32), k18 (x1, x2, x3) = some rr → gR p l e (bRm 1 22) s m args below meth c 5 (qS below rr args s) 18 [(0, .ref (a 3)), (1, .int x1), (2, .int x2), (3, .int x3)] []) {n : Nat} {x1 : Int32} {x2 : Int32} {x3 : Int32} {x4 : Int32} (h : lpI (F_X3_reachedBy_25 N k18 S) n (x1, x2, x3, x4) = some rr) : gR p l e (bRm 1 22) s m args below meth c 5 (qS below rr args s) 25 [(0, .ref (a 3)), (1, .int x1), (2, .int x2), (3, .int x3), (4, .int x4)] [] := by
  exact lpI_ind (P := fun v q => q = rr → gR p l e (bRm 1 22) s m args below meth c 5 (qS below rr args s) 25 [(0, .ref (a 3)), (1, .int v.1), (2, .int v.2.1), (3, .int v.2.2.1), (4, .int v.2.2.2)] []) (fun k hk v q h9 hq => s_X3_reachedBy_25 hI N C hP k18 hk18 k (fun x1 x2 x3 x4 h8 => hk (x1, x2, x3, x4) _ h8 rfl) (h9.trans (congrArg some hq))) n (x1, x2, x3, x4) _ h rfl
def FB_X3_reachedBy_18 (N : Nat) (S : St) (k18 : Int32 × Int32 × Int32 → Option (Int32)) (x1 : Int32) (x2 : Int32) (x3 : Int32) : Option (Int32) :=
  if x3 ≤ 0 then (some x2) else (lpI (F_X3_reachedBy_25 N k18 S) N (x1, x2, x3, 0))
def F_X3_reachedBy_18 (N : Nat) (S : St) (k18 : Int32 × Int32 × Int32 → Option (Int32)) (v : Int32 × Int32 × Int32) : Option (Int32) := FB_X3_reachedBy_18 N S k18 v.1 v.2.1 v.2.2
theorem s_X3_reachedBy_18 {rr : Int32} (hI : aI 49 a) (N : Nat) (C : bC D E RX3 cX3_reachedBy 5 (some .int) p s m args meth c) {S : St} (hP : va_P D vwCl (Wu E a S) s.heap) (k18 : Int32 × Int32 × Int32 → Option (Int32)) (hk18 : ∀ (x1 : Int32) (x2 : Int32) (x3 : Int32), k18 (x1, x2, x3) = some rr → gR p l e (bRm 1 22) s m args below meth c 5 (qS below rr args s) 18 [(0, .ref (a 3)), (1, .int x1), (2, .int x2), (3, .int x3)] []) {x1 : Int32} {x2 : Int32} {x3 : Int32} (h : FB_X3_reachedBy_18 N S k18 x1 x2 x3 = some rr) : gR p l e (bRm 1 22) s m args below meth c 5 (qS below rr args s) 18 [(0, .ref (a 3)), (1, .int x1), (2, .int x2), (3, .int x3)] [] := by
  obtain ⟨hx, hb, hml, hown, hts, hK, hr, hlocks⟩ := id C
  intro ls hl
  unfold FB_X3_reachedBy_18 at h
  refine lv_iload_n (pc := 18) hx hb dX3_reachedBy_18 rfl (lv_at hl 3 rfl) ?_
  refine lv_if_le (tgt := 77) (pc := 19) hx hb dX3_reachedBy_19 (by decide) (fun hc => ?_) (fun hc => ?_)
  · have h := if_y hc h
    refine lv_iload_n (pc := 77) hx hb dX3_reachedBy_77 rfl (lv_at hl 2 rfl) ?_
    exact r_retS (pc := 78) C h dX3_reachedBy_78
  · have h := if_n hc h
    refine lv_iconst (v := 0) (pc := 22) hx hb dX3_reachedBy_22 (by decide) ?_
    refine lv_istore (lv' := [(4, .int 0), (0, .ref (a 3)), (1, .int x1), (2, .int x2), (3, .int x3)]) (pc := 23) hx hb dX3_reachedBy_23 hl (by decide) rfl (fun ls hl => ?_)
    exact t_X3_reachedBy_25 hI N C hP k18 hk18 h ls (lv_sub hl [1, 2, 3, 4, 0] rfl)
theorem t_X3_reachedBy_18 {rr : Int32} (hI : aI 49 a) (N : Nat) (C : bC D E RX3 cX3_reachedBy 5 (some .int) p s m args meth c) {S : St} (hP : va_P D vwCl (Wu E a S) s.heap) {n : Nat} {x1 : Int32} {x2 : Int32} {x3 : Int32} (h : lpI (F_X3_reachedBy_18 N S) n (x1, x2, x3) = some rr) : gR p l e (bRm 1 22) s m args below meth c 5 (qS below rr args s) 18 [(0, .ref (a 3)), (1, .int x1), (2, .int x2), (3, .int x3)] [] := by
  exact lpI_ind (P := fun v q => q = rr → gR p l e (bRm 1 22) s m args below meth c 5 (qS below rr args s) 18 [(0, .ref (a 3)), (1, .int v.1), (2, .int v.2.1), (3, .int v.2.2)] []) (fun k hk v q h9 hq => s_X3_reachedBy_18 hI N C hP k (fun x1 x2 x3 h8 => hk (x1, x2, x3) _ h8 rfl) (h9.trans (congrArg some hq))) n (x1, x2, x3) _ h rfl
def f_X3_reachedBy (N : Nat) (x1 : Int32) (S : St) : Option (Int32) :=
  bd (some (1 <<< ((S 2 9) &&& 31))) fun y1 => bd (some (S 2 9)) fun y2 => lpI (F_X3_reachedBy_18 N S) N (x1, y1, y2)
theorem t_X3_reachedBy_0 {rr : Int32} (hI : aI 49 a) (N : Nat) (C : bC D E RX3 cX3_reachedBy 5 (some .int) p s m args meth c) {S : St} (hP : va_P D vwCl (Wu E a S) s.heap) {x1 : Int32} (h : f_X3_reachedBy N x1 S = some rr) : gR p l e (bRm 1 22) s m args below meth c 5 (qS below rr args s) 0 [(0, .ref (a 3)), (1, .int x1)] [] := by
  obtain ⟨hx, hb, hml, hown, hts, hK, hr, hlocks⟩ := id C
  intro ls hl
  unfold f_X3_reachedBy at h
  refine lv_iconst (v := 1) (pc := 0) hx hb dX3_reachedBy_0 (by decide) ?_
  refine lv_aload_n (pc := 1) hx hb dX3_reachedBy_1 rfl (lv_at hl 0 rfl) ?_
  refine va_get (pc := 2) (v := .ref (a 2)) hx hb hts inB3 hown hK.1 hP 3 wu3 rfl 0 (by decide) (hts _ wd_146) (fun _ h9 => h9) rfl dX3_reachedBy_2 ?_
  refine va_get (pc := 5) (v := .int (S 2 9)) hx hb hts inB0 hown hK.1 hP 2 wu2 rfl 9 (by decide) (hts _ wd_119) (fun _ h9 => h9) rfl dX3_reachedBy_5 ?_
  refine lv_ishl (pc := 8) hx hb dX3_reachedBy_8 ?_
  refine lv_topi (fun y1 ey1 => ?_)
  have h := bd_y ey1 h
  refine lv_istore_n (lv' := [(2, .int y1), (0, .ref (a 3)), (1, .int x1)]) (pc := 9) hx hb dX3_reachedBy_9 rfl hl (by decide) rfl (fun ls hl => ?_)
  refine lv_aload_n (pc := 10) hx hb dX3_reachedBy_10 rfl (lv_at hl 1 rfl) ?_
  refine va_get (pc := 11) (v := .ref (a 2)) hx hb hts inB3 hown hK.1 hP 3 wu3 rfl 0 (by decide) (hts _ wd_146) (fun _ h9 => h9) rfl dX3_reachedBy_11 ?_
  refine va_get (pc := 14) (v := .int (S 2 9)) hx hb hts inB0 hown hK.1 hP 2 wu2 rfl 9 (by decide) (hts _ wd_119) (fun _ h9 => h9) rfl dX3_reachedBy_14 ?_
  refine lv_topi (fun y2 ey2 => ?_)
  have h := bd_y ey2 h
  refine lv_istore_n (lv' := [(3, .int y2), (2, .int y1), (0, .ref (a 3)), (1, .int x1)]) (pc := 17) hx hb dX3_reachedBy_17 rfl hl (by decide) rfl (fun ls hl => ?_)
  exact t_X3_reachedBy_18 hI N C hP h ls (lv_sub hl [2, 3, 1, 0] rfl)
theorem c_X3_reachedBy {l : Launch} {D : va_G} {E : bE} {a : Nat → Nat} (hI : aI 49 a) (N : Nat) {rr : Int32} {S : St} {x1 : Int32} (h : f_X3_reachedBy N x1 S = some rr) : cR l D E yX3_reachedBy cX3_reachedBy 5 (some .int) 1 22 (Wu E a S) [.ref (a 3), .int x1] rr := cR_of (by decide) (Nat.le_of_ble_eq_true rfl) (fun p e s m args below meth c C hP => t_X3_reachedBy_0 hI N C hP h)
