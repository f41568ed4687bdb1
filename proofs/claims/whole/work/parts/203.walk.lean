variable {p : Program} {l : Launch} {e : Env} {s : State} {m : MethodId} {args : Array Value} {below : List Frame} {meth : Method} {c : Code} {D : va_G} {E : bE} {a : Nat → Nat}
/-! X4_by -/
def f_X4_by (N : Nat) (x1 : Int32) (x2 : Int32) (S : St) : Option (Int32 × St) :=
  bd (f_X4_within x1 0 999999) fun r1 => if r1 = 0 then (some ((-2), S)) else (bd (f_X4_within x2 0 4) fun r2 => if r2 = 0 then (some ((-2), S)) else (bd (f_X3_spin N S) fun S1 => bd2 (f_X4_takeDigits N x1 S1) fun r3 S2 => if r3 = 0 then (some ((-2), S2)) else (if x2 = 0 then (bd (f_X3_reachingBy N S2) fun r4 => some (r4, S2)) else (if x2 = 4 then (bd (f_X3_mayGoBy N S2) fun r5 => some (r5, S2)) else (bd (f_X3_mustsBy N (x2 - 1) S2) fun r6 => some (r6, S2))))))
theorem t_X4_by_0 {rr : Int32} {SS : St} (hI : aI 49 a) (N : Nat) (C : bC D E RX4 cX4_by 3 (some .int) p s m args meth c) {x1 : Int32} {x2 : Int32} {S : St} (h : f_X4_by N x1 x2 S = some (rr, SS)) : gU D (Wu E a) (aA 49 a) p l e (bRm 4 90) s m args below meth c 3 (qU D below (aA 49 a) (Wu E a SS) rr args s) 0 [(0, .ref (a 0)), (1, .int x1), (2, .int x2)] [] S := by
  obtain ⟨hx, hb, hml, hown, hts, hK, hr, hlocks⟩ := id C
  intro H locs hP hS ls hl
  unfold f_X4_by at h
  refine lv_iload_n (pc := 0) hx hb dX4_by_0 rfl (lv_at hl 1 rfl) ?_
  refine lv_iconst (v := 0) (pc := 1) hx hb dX4_by_1 (by decide) ?_
  refine lv_ldc (v := 999999) (pc := 2) hx hb hown (hts _ wd_361) dX4_by_2 ?_
  obtain ⟨r1, hr1, h⟩ := bd_some h
  refine r_callS (pc := 4) C (c_X4_within hr1) k_X4_within wd_244 ⟨Nat.le_of_ble_eq_true rfl, Nat.le_of_ble_eq_true rfl⟩ rfl hl.1 rfl (Nat.le_of_ble_eq_true rfl) dX4_by_4 ⟨Nat.zero_le _, Nat.zero_le _⟩ ?_
  refine lv_if_eq (tgt := 19) (pc := 7) hx hb dX4_by_7 (by decide) (fun hc => ?_) (fun hc => ?_)
  · have h := if_y hc h
    refine lv_bipush (v := (-2)) (pc := 19) hx hb dX4_by_19 (by decide) ?_
    exact r_retU (pc := 21) (𝓦 := Wu E a) C h hP hS dX4_by_21
  · have h := if_n hc h
    refine lv_iload_n (pc := 10) hx hb dX4_by_10 rfl (lv_at hl 2 rfl) ?_
    refine lv_iconst (v := 0) (pc := 11) hx hb dX4_by_11 (by decide) ?_
    refine lv_iconst (v := 4) (pc := 12) hx hb dX4_by_12 (by decide) ?_
    obtain ⟨r2, hr2, h⟩ := bd_some h
    refine r_callS (pc := 13) C (c_X4_within hr2) k_X4_within wd_244 ⟨Nat.le_of_ble_eq_true rfl, Nat.le_of_ble_eq_true rfl⟩ rfl hl.1 rfl (Nat.le_of_ble_eq_true rfl) dX4_by_13 ⟨Nat.zero_le _, Nat.zero_le _⟩ ?_
    refine lv_if_ne (tgt := 22) (pc := 16) hx hb dX4_by_16 (by decide) (fun hc => ?_) (fun hc => ?_)
    · have h := if_n hc h
      refine lv_aload_n (pc := 22) hx hb dX4_by_22 rfl (lv_at hl 0 rfl) ?_
      refine va_get (pc := 23) (v := .ref (a 3)) hx hb hts inB4 hown hK.1 hP 0 wu0 rfl 1 (by decide) (hts _ wd_218) (fun _ h9 => h9) rfl dX4_by_23 ?_
      obtain ⟨S1, hS1, h⟩ := bd_some h
      refine r_callV (pc := 26) C hP hS (c_X3_spin hI N hS1) k_X3_spin wd_331 (q0 := 3) wu3 rfl rfl ⟨Nat.le_of_ble_eq_true rfl, Nat.le_of_ble_eq_true rfl⟩ rfl hl.1 rfl (Nat.le_of_ble_eq_true rfl) dX4_by_26 ⟨Nat.zero_le _, Nat.zero_le _⟩ (fun H locs hP hS => ?_)
      refine lv_aload_n (pc := 29) hx hb dX4_by_29 rfl (lv_at hl 0 rfl) ?_
      refine lv_iload_n (pc := 30) hx hb dX4_by_30 rfl (lv_at hl 1 rfl) ?_
      obtain ⟨r3, S2, hr3, h⟩ := bd2_some h
      refine r_callU (pc := 31) C hP hS (c_X4_takeDigits hI N hr3) k_X4_takeDigits wd_362 (q0 := 0) wu0 rfl rfl ⟨Nat.le_of_ble_eq_true rfl, Nat.le_of_ble_eq_true rfl⟩ rfl hl.1 rfl (Nat.le_of_ble_eq_true rfl) dX4_by_31 ⟨Nat.zero_le _, Nat.zero_le _⟩ (fun H locs hP hS => ?_)
      refine lv_if_ne (tgt := 40) (pc := 34) hx hb dX4_by_34 (by decide) (fun hc => ?_) (fun hc => ?_)
      · have h := if_n hc h
        refine lv_iload_n (pc := 40) hx hb dX4_by_40 rfl (lv_at hl 2 rfl) ?_
        by_cases hc0 : x2 = 0
        · refine r_lookIn (pc := 41) (v := 0) (off := 27) (tgt := 68) hx hb dX4_by_41 (by decide +kernel) hc0 (by decide +kernel) (by decide) ?_
          have h := if_y hc0 h
          refine lv_aload_n (pc := 68) hx hb dX4_by_68 rfl (lv_at hl 0 rfl) ?_
          refine va_get (pc := 69) (v := .ref (a 3)) hx hb hts inB4 hown hK.1 hP 0 wu0 rfl 1 (by decide) (hts _ wd_218) (fun _ h9 => h9) rfl dX4_by_69 ?_
          refine lv_aload_n (pc := 72) hx hb dX4_by_72 rfl (lv_at hl 0 rfl) ?_
          refine va_get (pc := 73) (v := .ref (a 4)) hx hb hts inB4 hown hK.1 hP 0 wu0 rfl 3 (by decide) (hts _ wd_220) (fun _ h9 => h9) rfl dX4_by_73 ?_
          refine va_get (pc := 76) (v := .ref (a 28)) hx hb hts inB1 hown hK.1 hP 4 wu4 rfl 0 (by decide) (hts _ wd_199) (fun _ h9 => h9) rfl dX4_by_76 ?_
          obtain ⟨r4, hr4, h⟩ := bd_some h
          refine r_callR (pc := 79) C hP (c_X3_reachingBy hI N hr4) k_X3_reachingBy wd_367 (q0 := 3) wu3 rfl rfl ⟨Nat.le_of_ble_eq_true rfl, Nat.le_of_ble_eq_true rfl⟩ rfl hl.1 rfl (Nat.le_of_ble_eq_true rfl) dX4_by_79 ⟨Nat.zero_le _, Nat.zero_le _⟩ ?_
          exact r_retU (pc := 82) (𝓦 := Wu E a) C h hP hS dX4_by_82
        have h := if_n hc0 h
        by_cases hc4 : x2 = 4
        · refine r_lookIn (pc := 41) (v := 4) (off := 42) (tgt := 83) hx hb dX4_by_41 (by decide +kernel) hc4 (by decide +kernel) (by decide) ?_
          have h := if_y hc4 h
          refine lv_aload_n (pc := 83) hx hb dX4_by_83 rfl (lv_at hl 0 rfl) ?_
          refine va_get (pc := 84) (v := .ref (a 3)) hx hb hts inB4 hown hK.1 hP 0 wu0 rfl 1 (by decide) (hts _ wd_218) (fun _ h9 => h9) rfl dX4_by_84 ?_
          refine lv_aload_n (pc := 87) hx hb dX4_by_87 rfl (lv_at hl 0 rfl) ?_
          refine va_get (pc := 88) (v := .ref (a 4)) hx hb hts inB4 hown hK.1 hP 0 wu0 rfl 3 (by decide) (hts _ wd_220) (fun _ h9 => h9) rfl dX4_by_88 ?_
          refine va_get (pc := 91) (v := .ref (a 28)) hx hb hts inB1 hown hK.1 hP 4 wu4 rfl 0 (by decide) (hts _ wd_199) (fun _ h9 => h9) rfl dX4_by_91 ?_
          obtain ⟨r5, hr5, h⟩ := bd_some h
          refine r_callR (pc := 94) C hP (c_X3_mayGoBy hI N hr5) k_X3_mayGoBy wd_371 (q0 := 3) wu3 rfl rfl ⟨Nat.le_of_ble_eq_true rfl, Nat.le_of_ble_eq_true rfl⟩ rfl hl.1 rfl (Nat.le_of_ble_eq_true rfl) dX4_by_94 ⟨Nat.zero_le _, Nat.zero_le _⟩ ?_
          exact r_retU (pc := 97) (𝓦 := Wu E a) C h hP hS dX4_by_97
        have h := if_n hc4 h
        refine lv_lookup (pc := 41) (off := 57) (tgt := 98) hx hb dX4_by_41 (by decide +kernel) ((lv_osw (k := 0) hc0 (by decide)).trans ((lv_osw (k := 4) hc4 (by decide)).trans (rfl))) (by decide) ?_
        refine lv_aload_n (pc := 98) hx hb dX4_by_98 rfl (lv_at hl 0 rfl) ?_
        refine va_get (pc := 99) (v := .ref (a 3)) hx hb hts inB4 hown hK.1 hP 0 wu0 rfl 1 (by decide) (hts _ wd_218) (fun _ h9 => h9) rfl dX4_by_99 ?_
        refine lv_aload_n (pc := 102) hx hb dX4_by_102 rfl (lv_at hl 0 rfl) ?_
        refine va_get (pc := 103) (v := .ref (a 4)) hx hb hts inB4 hown hK.1 hP 0 wu0 rfl 3 (by decide) (hts _ wd_220) (fun _ h9 => h9) rfl dX4_by_103 ?_
        refine va_get (pc := 106) (v := .ref (a 28)) hx hb hts inB1 hown hK.1 hP 4 wu4 rfl 0 (by decide) (hts _ wd_199) (fun _ h9 => h9) rfl dX4_by_106 ?_
        refine lv_iload_n (pc := 109) hx hb dX4_by_109 rfl (lv_at hl 2 rfl) ?_
        refine lv_iconst (v := 1) (pc := 110) hx hb dX4_by_110 (by decide) ?_
        refine lv_isub (pc := 111) hx hb dX4_by_111 ?_
        obtain ⟨r6, hr6, h⟩ := bd_some h
        refine r_callR (pc := 112) C hP (c_X3_mustsBy hI N hr6) k_X3_mustsBy wd_375 (q0 := 3) wu3 rfl rfl ⟨Nat.le_of_ble_eq_true rfl, Nat.le_of_ble_eq_true rfl⟩ rfl hl.1 rfl (Nat.le_of_ble_eq_true rfl) dX4_by_112 ⟨Nat.zero_le _, Nat.zero_le _⟩ ?_
        exact r_retU (pc := 115) (𝓦 := Wu E a) C h hP hS dX4_by_115
      · have h := if_y hc h
        refine lv_bipush (v := (-2)) (pc := 37) hx hb dX4_by_37 (by decide) ?_
        exact r_retU (pc := 39) (𝓦 := Wu E a) C h hP hS dX4_by_39
    · have h := if_y hc h
      refine lv_bipush (v := (-2)) (pc := 19) hx hb dX4_by_19 (by decide) ?_
      exact r_retU (pc := 21) (𝓦 := Wu E a) C h hP hS dX4_by_21
theorem c_X4_by {l : Launch} {D : va_G} {E : bE} {a : Nat → Nat} (hI : aI 49 a) (N : Nat) {rr : Int32} {S : St} {SS : St} {x1 : Int32} {x2 : Int32} (h : f_X4_by N x1 x2 S = some (rr, SS)) : cU l D E yX4_by cX4_by 3 (some .int) 4 90 (aA 49 a) (Wu E a S) (Wu E a SS) [.ref (a 0), .int x1, .int x2] rr := cU_of (by decide) (Nat.le_of_ble_eq_true rfl) (fun p e s m args below meth c C => t_X4_by_0 hI N C h)
/-! J6_bitCount_0f7a4 -/
def f_J6_bitCount_0f7a4 (x0 : Int32) : Option (Int32) :=
  bd (some (x0 - ((Int32.toUInt32 x0 >>> (Int32.toUInt32 1 &&& Int32.toUInt32 31)).toInt32 &&& 1431655765))) fun y1 => bd (some ((y1 &&& 858993459) + ((Int32.toUInt32 y1 >>> (Int32.toUInt32 2 &&& Int32.toUInt32 31)).toInt32 &&& 858993459))) fun y2 => bd (some ((y2 + (Int32.toUInt32 y2 >>> (Int32.toUInt32 4 &&& Int32.toUInt32 31)).toInt32) &&& 252645135)) fun y3 => bd (some (y3 + (Int32.toUInt32 y3 >>> (Int32.toUInt32 8 &&& Int32.toUInt32 31)).toInt32)) fun y4 => bd (some (y4 + (Int32.toUInt32 y4 >>> (Int32.toUInt32 16 &&& Int32.toUInt32 31)).toInt32)) fun y5 => some (y5 &&& 63)
theorem t_J6_bitCount_0f7a4_0 {rr : Int32} (C : bC D E RJ6 cJ6_bitCount_0f7a4 1 (some .int) p s m args meth c) {x0 : Int32} (h : f_J6_bitCount_0f7a4 x0 = some rr) : gR p l e (bRm 0 0) s m args below meth c 1 (qS below rr args s) 0 [(0, .int x0)] [] := by
  obtain ⟨hx, hb, hml, hown, hts, hK, hr, hlocks⟩ := id C
  intro ls hl
  unfold f_J6_bitCount_0f7a4 at h
  refine lv_iload_n (pc := 0) hx hb dJ6_bitCount_0f7a4_0 rfl (lv_at hl 0 rfl) ?_
  refine lv_iload_n (pc := 1) hx hb dJ6_bitCount_0f7a4_1 rfl (lv_at hl 0 rfl) ?_
  refine lv_iconst (v := 1) (pc := 2) hx hb dJ6_bitCount_0f7a4_2 (by decide) ?_
  refine lv_iushr (pc := 3) hx hb dJ6_bitCount_0f7a4_3 rfl ?_
  refine lv_ldcw (v := 1431655765) (pc := 4) hx hb hown (hts _ wd_397) dJ6_bitCount_0f7a4_4 ?_
  refine lv_iand (pc := 7) hx hb dJ6_bitCount_0f7a4_7 ?_
  refine lv_isub (pc := 8) hx hb dJ6_bitCount_0f7a4_8 ?_
  refine lv_topi (fun y1 ey1 => ?_)
  have h := bd_y ey1 h
  refine lv_istore_n (lv' := [(0, .int y1)]) (pc := 9) hx hb dJ6_bitCount_0f7a4_9 rfl hl (by decide) rfl (fun ls hl => ?_)
  refine lv_iload_n (pc := 10) hx hb dJ6_bitCount_0f7a4_10 rfl (lv_at hl 0 rfl) ?_
  refine lv_ldcw (v := 858993459) (pc := 11) hx hb hown (hts _ wd_398) dJ6_bitCount_0f7a4_11 ?_
  refine lv_iand (pc := 14) hx hb dJ6_bitCount_0f7a4_14 ?_
  refine lv_iload_n (pc := 15) hx hb dJ6_bitCount_0f7a4_15 rfl (lv_at hl 0 rfl) ?_
  refine lv_iconst (v := 2) (pc := 16) hx hb dJ6_bitCount_0f7a4_16 (by decide) ?_
  refine lv_iushr (pc := 17) hx hb dJ6_bitCount_0f7a4_17 rfl ?_
  refine lv_ldcw (v := 858993459) (pc := 18) hx hb hown (hts _ wd_398) dJ6_bitCount_0f7a4_18 ?_
  refine lv_iand (pc := 21) hx hb dJ6_bitCount_0f7a4_21 ?_
  refine lv_iadd (pc := 22) hx hb dJ6_bitCount_0f7a4_22 ?_
  refine lv_topi (fun y2 ey2 => ?_)
  have h := bd_y ey2 h
  refine lv_istore_n (lv' := [(0, .int y2)]) (pc := 23) hx hb dJ6_bitCount_0f7a4_23 rfl hl (by decide) rfl (fun ls hl => ?_)
  refine lv_iload_n (pc := 24) hx hb dJ6_bitCount_0f7a4_24 rfl (lv_at hl 0 rfl) ?_
  refine lv_iload_n (pc := 25) hx hb dJ6_bitCount_0f7a4_25 rfl (lv_at hl 0 rfl) ?_
  refine lv_iconst (v := 4) (pc := 26) hx hb dJ6_bitCount_0f7a4_26 (by decide) ?_
  refine lv_iushr (pc := 27) hx hb dJ6_bitCount_0f7a4_27 rfl ?_
  refine lv_iadd (pc := 28) hx hb dJ6_bitCount_0f7a4_28 ?_
  refine lv_ldcw (v := 252645135) (pc := 29) hx hb hown (hts _ wd_399) dJ6_bitCount_0f7a4_29 ?_
  refine lv_iand (pc := 32) hx hb dJ6_bitCount_0f7a4_32 ?_
  refine lv_topi (fun y3 ey3 => ?_)
  have h := bd_y ey3 h
  refine lv_istore_n (lv' := [(0, .int y3)]) (pc := 33) hx hb dJ6_bitCount_0f7a4_33 rfl hl (by decide) rfl (fun ls hl => ?_)
  refine lv_iload_n (pc := 34) hx hb dJ6_bitCount_0f7a4_34 rfl (lv_at hl 0 rfl) ?_
  refine lv_iload_n (pc := 35) hx hb dJ6_bitCount_0f7a4_35 rfl (lv_at hl 0 rfl) ?_
  refine lv_bipush (v := 8) (pc := 36) hx hb dJ6_bitCount_0f7a4_36 (by decide) ?_
  refine lv_iushr (pc := 38) hx hb dJ6_bitCount_0f7a4_38 rfl ?_
  refine lv_iadd (pc := 39) hx hb dJ6_bitCount_0f7a4_39 ?_
  refine lv_topi (fun y4 ey4 => ?_)
  have h := bd_y ey4 h
  refine lv_istore_n (lv' := [(0, .int y4)]) (pc := 40) hx hb dJ6_bitCount_0f7a4_40 rfl hl (by decide) rfl (fun ls hl => ?_)
  refine lv_iload_n (pc := 41) hx hb dJ6_bitCount_0f7a4_41 rfl (lv_at hl 0 rfl) ?_
  refine lv_iload_n (pc := 42) hx hb dJ6_bitCount_0f7a4_42 rfl (lv_at hl 0 rfl) ?_
  refine lv_bipush (v := 16) (pc := 43) hx hb dJ6_bitCount_0f7a4_43 (by decide) ?_
  refine lv_iushr (pc := 45) hx hb dJ6_bitCount_0f7a4_45 rfl ?_
  refine lv_iadd (pc := 46) hx hb dJ6_bitCount_0f7a4_46 ?_
  refine lv_topi (fun y5 ey5 => ?_)
  have h := bd_y ey5 h
  refine lv_istore_n (lv' := [(0, .int y5)]) (pc := 47) hx hb dJ6_bitCount_0f7a4_47 rfl hl (by decide) rfl (fun ls hl => ?_)
  refine lv_iload_n (pc := 48) hx hb dJ6_bitCount_0f7a4_48 rfl (lv_at hl 0 rfl) ?_
  refine lv_bipush (v := 63) (pc := 49) hx hb dJ6_bitCount_0f7a4_49 (by decide) ?_
  refine lv_iand (pc := 51) hx hb dJ6_bitCount_0f7a4_51 ?_
  exact r_retS (pc := 52) C h dJ6_bitCount_0f7a4_52
theorem c_J6_bitCount_0f7a4 {l : Launch} {D : va_G} {E : bE} {rr : Int32} {x0 : Int32} (h : f_J6_bitCount_0f7a4 x0 = some rr) : cS l D E yJ6_bitCount_0f7a4 cJ6_bitCount_0f7a4 1 (some .int) 0 0 [.int x0] rr := cS_of (by decide) (Nat.le_of_ble_eq_true rfl) (fun p e s m args below meth c C => t_J6_bitCount_0f7a4_0 C h)
/-! X4_isPartOf -/
def f_X4_isPartOf (x0 : Int32) (x1 : Int32) : Option (Int32) :=
  if (x0 &&& (x1 ^^^ (-1))) = 0 then (some 1) else (some 0)
theorem t_X4_isPartOf_0 {rr : Int32} (C : bC D E RX4 cX4_isPartOf 2 (some .boolean) p s m args meth c) {x0 : Int32} {x1 : Int32} (h : f_X4_isPartOf x0 x1 = some rr) : gR p l e (bRm 0 0) s m args below meth c 2 (qS below rr args s) 0 [(0, .int x0), (1, .int x1)] [] := by
  obtain ⟨hx, hb, hml, hown, hts, hK, hr, hlocks⟩ := id C
  intro ls hl
  unfold f_X4_isPartOf at h
  refine lv_iload_n (pc := 0) hx hb dX4_isPartOf_0 rfl (lv_at hl 0 rfl) ?_
  refine lv_iload_n (pc := 1) hx hb dX4_isPartOf_1 rfl (lv_at hl 1 rfl) ?_
  refine lv_iconst (v := (-1)) (pc := 2) hx hb dX4_isPartOf_2 (by decide) ?_
  refine lv_ixor (pc := 3) hx hb dX4_isPartOf_3 ?_
  refine lv_iand (pc := 4) hx hb dX4_isPartOf_4 ?_
  refine lv_if_ne (tgt := 12) (pc := 5) hx hb dX4_isPartOf_5 (by decide) (fun hc => ?_) (fun hc => ?_)
  · have h := if_n hc h
    refine lv_iconst (v := 0) (pc := 12) hx hb dX4_isPartOf_12 (by decide) ?_
    exact r_retZ (pc := 13) C (gd_lit (by decide) h) dX4_isPartOf_13
  · have h := if_y hc h
    refine lv_iconst (v := 1) (pc := 8) hx hb dX4_isPartOf_8 (by decide) ?_
    refine lv_goto (tgt := 13) (pc := 9) hx hb dX4_isPartOf_9 (by decide) ?_
    exact r_retZ (pc := 13) C (gd_lit (by decide) h) dX4_isPartOf_13
theorem c_X4_isPartOf {l : Launch} {D : va_G} {E : bE} {rr : Int32} {x0 : Int32} {x1 : Int32} (h : f_X4_isPartOf x0 x1 = some rr) : cS l D E yX4_isPartOf cX4_isPartOf 2 (some .boolean) 0 0 [.int x0, .int x1] rr := cS_of (by decide) (Nat.le_of_ble_eq_true rfl) (fun p e s m args below meth c C => t_X4_isPartOf_0 C h)
/-! X3_mayChoose -/
def f_X3_mayChoose (x1 : Int32) (x2 : Int32) (x3 : Int32) (S : St) : Option (Int32) :=
  gd (ix x1 6) (bd (f_X4_has (S 18 (Int32.toNatClampNeg x1)) x2) fun r1 => if r1 = 0 then (some 0) else (bd (f_X3_offer x1 x2) fun r2 => gd (ix r2 30) (bd (f_X4_isPartOf (S 23 (Int32.toNatClampNeg r2)) x3) fun r3 => if r3 = 0 then (some 0) else (some 1))))
theorem t_X3_mayChoose_0 {rr : Int32} (hI : aI 49 a) (C : bC D E RX3 cX3_mayChoose 4 (some .boolean) p s m args meth c) {S : St} (hP : va_P D vwCl (Wu E a S) s.heap) {x1 : Int32} {x2 : Int32} {x3 : Int32} (h : f_X3_mayChoose x1 x2 x3 S = some rr) : gR p l e (bRm 1 21) s m args below meth c 4 (qS below rr args s) 0 [(0, .ref (a 3)), (1, .int x1), (2, .int x2), (3, .int x3)] [] := by
  obtain ⟨hx, hb, hml, hown, hts, hK, hr, hlocks⟩ := id C
  intro ls hl
  unfold f_X3_mayChoose at h
  refine lv_aload_n (pc := 0) hx hb dX3_mayChoose_0 rfl (lv_at hl 0 rfl) ?_
  refine va_get (pc := 1) (v := .ref (a 18)) hx hb hts inB3 hown hK.1 hP 3 wu3 rfl 1 (by decide) (hts _ wd_148) (fun _ h9 => h9) rfl dX3_mayChoose_1 ?_
  refine lv_iload_n (pc := 4) hx hb dX3_mayChoose_4 rfl (lv_at hl 1 rfl) ?_
  obtain ⟨hin, h⟩ := gd_some h
  refine r_ald (pc := 5) hx hb hK hP 18 wu18 hin dX3_mayChoose_5 ?_
  refine lv_iload_n (pc := 6) hx hb dX3_mayChoose_6 rfl (lv_at hl 2 rfl) ?_
  obtain ⟨r1, hr1, h⟩ := bd_some h
  refine r_callSN (pc := 7) (host := RX4) C (c_X4_has hr1) k_X4_has nst_6 ⟨Nat.le_of_ble_eq_true rfl, Nat.le_of_ble_eq_true rfl⟩ rfl hl.1 rfl (Nat.le_of_ble_eq_true rfl) dX3_mayChoose_7 ⟨Nat.zero_le _, Nat.zero_le _⟩ ?_
  refine lv_if_eq (tgt := 34) (pc := 10) hx hb dX3_mayChoose_10 (by decide) (fun hc => ?_) (fun hc => ?_)
  · have h := if_y hc h
    refine lv_iconst (v := 0) (pc := 34) hx hb dX3_mayChoose_34 (by decide) ?_
    exact r_retZ (pc := 35) C (gd_lit (by decide) h) dX3_mayChoose_35
  · have h := if_n hc h
    refine lv_aload_n (pc := 13) hx hb dX3_mayChoose_13 rfl (lv_at hl 0 rfl) ?_
    refine va_get (pc := 14) (v := .ref (a 23)) hx hb hts inB3 hown hK.1 hP 3 wu3 rfl 8 (by decide) (hts _ wd_160) (fun _ h9 => h9) rfl dX3_mayChoose_14 ?_
    refine lv_iload_n (pc := 17) hx hb dX3_mayChoose_17 rfl (lv_at hl 1 rfl) ?_
    refine lv_iload_n (pc := 18) hx hb dX3_mayChoose_18 rfl (lv_at hl 2 rfl) ?_
    obtain ⟨r2, hr2, h⟩ := bd_some h
    refine r_callS (pc := 19) C (c_X3_offer hr2) k_X3_offer wd_354 ⟨Nat.le_of_ble_eq_true rfl, Nat.le_of_ble_eq_true rfl⟩ rfl hl.1 rfl (Nat.le_of_ble_eq_true rfl) dX3_mayChoose_19 ⟨Nat.zero_le _, Nat.zero_le _⟩ ?_
    obtain ⟨hin, h⟩ := gd_some h
    refine r_ald (pc := 22) hx hb hK hP 23 wu23 hin dX3_mayChoose_22 ?_
    refine lv_iload_n (pc := 23) hx hb dX3_mayChoose_23 rfl (lv_at hl 3 rfl) ?_
    obtain ⟨r3, hr3, h⟩ := bd_some h
    refine r_callSN (pc := 24) (host := RX4) C (c_X4_isPartOf hr3) k_X4_isPartOf nst_9 ⟨Nat.le_of_ble_eq_true rfl, Nat.le_of_ble_eq_true rfl⟩ rfl hl.1 rfl (Nat.le_of_ble_eq_true rfl) dX3_mayChoose_24 ⟨Nat.zero_le _, Nat.zero_le _⟩ ?_
    refine lv_if_eq (tgt := 34) (pc := 27) hx hb dX3_mayChoose_27 (by decide) (fun hc => ?_) (fun hc => ?_)
    · have h := if_y hc h
      refine lv_iconst (v := 0) (pc := 34) hx hb dX3_mayChoose_34 (by decide) ?_
      exact r_retZ (pc := 35) C (gd_lit (by decide) h) dX3_mayChoose_35
    · have h := if_n hc h
      refine lv_iconst (v := 1) (pc := 30) hx hb dX3_mayChoose_30 (by decide) ?_
      refine lv_goto (tgt := 35) (pc := 31) hx hb dX3_mayChoose_31 (by decide) ?_
      exact r_retZ (pc := 35) C (gd_lit (by decide) h) dX3_mayChoose_35
theorem c_X3_mayChoose {l : Launch} {D : va_G} {E : bE} {a : Nat → Nat} (hI : aI 49 a) {rr : Int32} {S : St} {x1 : Int32} {x2 : Int32} {x3 : Int32} (h : f_X3_mayChoose x1 x2 x3 S = some rr) : cR l D E yX3_mayChoose cX3_mayChoose 4 (some .boolean) 1 21 (Wu E a S) [.ref (a 3), .int x1, .int x2, .int x3] rr := cR_of (by decide) (Nat.le_of_ble_eq_true rfl) (fun p e s m args below meth c C hP => t_X3_mayChoose_0 hI C hP h)
/-! X3_letsOf -/
def FB_X3_letsOf_5 (N : Nat) (S : St) (k5 : Int32 × Int32 × Int32 × Int32 → Option (Int32)) (x1 : Int32) (x2 : Int32) (x3 : Int32) (x4 : Int32) : Option (Int32) :=
  if 5 ≤ x4 then (some x3) else (bd (f_X3_mayChoose x1 x4 x2 S) fun r1 => if r1 = 0 then (k5 (x1, x2, x3, (x4 + 1))) else (bd (f_X3_offer x1 x4) fun r2 => gd (ix r2 30) (bd (some (x3 ||| (S 22 (Int32.toNatClampNeg r2)))) fun y3 => k5 (x1, x2, y3, (x4 + 1)))))
def F_X3_letsOf_5 (N : Nat) (S : St) (k5 : Int32 × Int32 × Int32 × Int32 → Option (Int32)) (v : Int32 × Int32 × Int32 × Int32) : Option (Int32) := FB_X3_letsOf_5 N S k5 v.1 v.2.1 v.2.2.1 v.2.2.2
theorem s_X3_letsOf_5 {rr : Int32} (hI : aI 49 a) (N : Nat) (C : bC D E RX3 cX3_letsOf 5 (some .int) p s m args meth c) {S : St} (hP : va_P D vwCl (Wu E a S) s.heap) (k5 : Int32 × Int32 × Int32 × Int32 → Option (Int32)) (hk5 : ∀ (x1 : Int32) (x2 : Int32) (x3 : Int32) (x4 : Int32), k5 (x1, x2, x3, x4) = some rr → gR p l e (bRm 2 44) s m args below meth c 5 (qS below rr args s) 5 [(0, .ref (a 3)), (1, .int x1), (2, .int x2), (3, .int x3), (4, .int x4)] []) {x1 : Int32} {x2 : Int32} {x3 : Int32} {x4 : Int32} (h : FB_X3_letsOf_5 N S k5 x1 x2 x3 x4 = some rr) : gR p l e (bRm 2 44) s m args below meth c 5 (qS below rr args s) 5 [(0, .ref (a 3)), (1, .int x1), (2, .int x2), (3, .int x3), (4, .int x4)] [] := by
  obtain ⟨hx, hb, hml, hown, hts, hK, hr, hlocks⟩ := id C
  intro ls hl
  unfold FB_X3_letsOf_5 at h
  refine lv_iload (pc := 5) hx hb dX3_letsOf_5 (lv_at hl 4 rfl) ?_
  refine lv_iconst (v := 5) (pc := 7) hx hb dX3_letsOf_7 (by decide) ?_
  refine lv_icmp_ge (tgt := 42) (pc := 8) hx hb dX3_letsOf_8 (by decide) (fun hc => ?_) (fun hc => ?_)
  · have h := if_y hc h
    refine lv_iload_n (pc := 42) hx hb dX3_letsOf_42 rfl (lv_at hl 3 rfl) ?_
    exact r_retS (pc := 43) C h dX3_letsOf_43
  · have h := if_n hc h
    refine lv_aload_n (pc := 11) hx hb dX3_letsOf_11 rfl (lv_at hl 0 rfl) ?_
    refine lv_iload_n (pc := 12) hx hb dX3_letsOf_12 rfl (lv_at hl 1 rfl) ?_
    refine lv_iload (pc := 13) hx hb dX3_letsOf_13 (lv_at hl 4 rfl) ?_
    refine lv_iload_n (pc := 15) hx hb dX3_letsOf_15 rfl (lv_at hl 2 rfl) ?_
    obtain ⟨r1, hr1, h⟩ := bd_some h
    refine r_callR (pc := 16) C hP (c_X3_mayChoose hI hr1) k_X3_mayChoose wd_408 (q0 := 3) wu3 rfl rfl ⟨Nat.le_of_ble_eq_true rfl, Nat.le_of_ble_eq_true rfl⟩ rfl hl.1 rfl (Nat.le_of_ble_eq_true rfl) dX3_letsOf_16 ⟨Nat.zero_le _, Nat.zero_le _⟩ ?_
    refine lv_if_eq (tgt := 36) (pc := 19) hx hb dX3_letsOf_19 (by decide) (fun hc => ?_) (fun hc => ?_)
    · have h := if_y hc h
      refine lv_iinc (v := (x4 + 1)) (lv' := [(4, .int (x4 + 1)), (0, .ref (a 3)), (1, .int x1), (2, .int x2), (3, .int x3)]) (pc := 36) hx hb dX3_letsOf_36 hl (k := 4) rfl (ii1 _) (by decide) rfl (fun ls hl => ?_)
      refine lv_goto (tgt := 5) (pc := 39) hx hb dX3_letsOf_39 (by decide) ?_
      exact hk5 _ _ _ _ h ls (lv_sub hl [1, 2, 3, 4, 0] rfl)
    · have h := if_n hc h
      refine lv_iload_n (pc := 22) hx hb dX3_letsOf_22 rfl (lv_at hl 3 rfl) ?_
      refine lv_aload_n (pc := 23) hx hb dX3_letsOf_23 rfl (lv_at hl 0 rfl) ?_
      refine va_get (pc := 24) (v := .ref (a 22)) hx hb hts inB3 hown hK.1 hP 3 wu3 rfl 7 (by decide) (hts _ wd_159) (fun _ h9 => h9) rfl dX3_letsOf_24 ?_
      refine lv_iload_n (pc := 27) hx hb dX3_letsOf_27 rfl (lv_at hl 1 rfl) ?_
      refine lv_iload (pc := 28) hx hb dX3_letsOf_28 (lv_at hl 4 rfl) ?_
      obtain ⟨r2, hr2, h⟩ := bd_some h
      refine r_callS (pc := 30) C (c_X3_offer hr2) k_X3_offer wd_354 ⟨Nat.le_of_ble_eq_true rfl, Nat.le_of_ble_eq_true rfl⟩ rfl hl.1 rfl (Nat.le_of_ble_eq_true rfl) dX3_letsOf_30 ⟨Nat.zero_le _, Nat.zero_le _⟩ ?_
      obtain ⟨hin, h⟩ := gd_some h
      refine r_ald (pc := 33) hx hb hK hP 22 wu22 hin dX3_letsOf_33 ?_
      refine lv_ior (pc := 34) hx hb dX3_letsOf_34 ?_
      refine lv_topi (fun y3 ey3 => ?_)
      have h := bd_y ey3 h
      refine lv_istore_n (lv' := [(3, .int y3), (0, .ref (a 3)), (1, .int x1), (2, .int x2), (4, .int x4)]) (pc := 35) hx hb dX3_letsOf_35 rfl hl (by decide) rfl (fun ls hl => ?_)
      refine lv_iinc (v := (x4 + 1)) (lv' := [(4, .int (x4 + 1)), (3, .int y3), (0, .ref (a 3)), (1, .int x1), (2, .int x2)]) (pc := 36) hx hb dX3_letsOf_36 hl (k := 4) rfl (ii1 _) (by decide) rfl (fun ls hl => ?_)
      refine lv_goto (tgt := 5) (pc := 39) hx hb dX3_letsOf_39 (by decide) ?_
      exact hk5 _ _ _ _ h ls (lv_sub hl [2, 3, 4, 1, 0] rfl)
theorem t_X3_letsOf_5 {rr : Int32} (hI : aI 49 a) (N : Nat) (C : bC D E RX3 cX3_letsOf 5 (some .int) p s m args meth c) {S : St} (hP : va_P D vwCl (Wu E a S) s.heap) {n : Nat} {x1 : Int32} {x2 : Int32} {x3 : Int32} {x4 : Int32} (h : lpI (F_X3_letsOf_5 N S) n (x1, x2, x3, x4) = some rr) : gR p l e (bRm 2 44) s m args below meth c 5 (qS below rr args s) 5 [(0, .ref (a 3)), (1, .int x1), (2, .int x2), (3, .int x3), (4, .int x4)] [] := by
  exact lpI_ind (P := fun v q => q = rr → gR p l e (bRm 2 44) s m args below meth c 5 (qS below rr args s) 5 [(0, .ref (a 3)), (1, .int v.1), (2, .int v.2.1), (3, .int v.2.2.1), (4, .int v.2.2.2)] []) (fun k hk v q h9 hq => s_X3_letsOf_5 hI N C hP k (fun x1 x2 x3 x4 h8 => hk (x1, x2, x3, x4) _ h8 rfl) (h9.trans (congrArg some hq))) n (x1, x2, x3, x4) _ h rfl
def f_X3_letsOf (N : Nat) (x1 : Int32) (x2 : Int32) (S : St) : Option (Int32) :=
  lpI (F_X3_letsOf_5 N S) N (x1, x2, 0, 0)
theorem t_X3_letsOf_0 {rr : Int32} (hI : aI 49 a) (N : Nat) (C : bC D E RX3 cX3_letsOf 5 (some .int) p s m args meth c) {S : St} (hP : va_P D vwCl (Wu E a S) s.heap) {x1 : Int32} {x2 : Int32} (h : f_X3_letsOf N x1 x2 S = some rr) : gR p l e (bRm 2 44) s m args below meth c 5 (qS below rr args s) 0 [(0, .ref (a 3)), (1, .int x1), (2, .int x2)] [] := by
  obtain ⟨hx, hb, hml, hown, hts, hK, hr, hlocks⟩ := id C
  intro ls hl
  unfold f_X3_letsOf at h
  refine lv_iconst (v := 0) (pc := 0) hx hb dX3_letsOf_0 (by decide) ?_
  refine lv_istore_n (lv' := [(3, .int 0), (0, .ref (a 3)), (1, .int x1), (2, .int x2)]) (pc := 1) hx hb dX3_letsOf_1 rfl hl (by decide) rfl (fun ls hl => ?_)
  refine lv_iconst (v := 0) (pc := 2) hx hb dX3_letsOf_2 (by decide) ?_
  refine lv_istore (lv' := [(4, .int 0), (3, .int 0), (0, .ref (a 3)), (1, .int x1), (2, .int x2)]) (pc := 3) hx hb dX3_letsOf_3 hl (by decide) rfl (fun ls hl => ?_)
  exact t_X3_letsOf_5 hI N C hP h ls (lv_sub hl [2, 3, 4, 1, 0] rfl)
theorem c_X3_letsOf {l : Launch} {D : va_G} {E : bE} {a : Nat → Nat} (hI : aI 49 a) (N : Nat) {rr : Int32} {S : St} {x1 : Int32} {x2 : Int32} (h : f_X3_letsOf N x1 x2 S = some rr) : cR l D E yX3_letsOf cX3_letsOf 5 (some .int) 2 44 (Wu E a S) [.ref (a 3), .int x1, .int x2] rr := cR_of (by decide) (Nat.le_of_ble_eq_true rfl) (fun p e s m args below meth c C hP => t_X3_letsOf_0 hI N C hP h)
/-! X3_roomLeft -/
def FB_X3_roomLeft_15 (N : Nat) (S : St) (k15 : Int32 × Int32 → Option (Int32)) (x1 : Int32) (x2 : Int32) : Option (Int32) :=
  if 6 ≤ x2 then (some x1) else (gd (ix x2 6) (bd (some (x1 &&& (S 25 (Int32.toNatClampNeg x2)))) fun y1 => k15 (y1, (x2 + 1))))
def F_X3_roomLeft_15 (N : Nat) (S : St) (k15 : Int32 × Int32 → Option (Int32)) (v : Int32 × Int32) : Option (Int32) := FB_X3_roomLeft_15 N S k15 v.1 v.2
theorem s_X3_roomLeft_15 {rr : Int32} (hI : aI 49 a) (N : Nat) (C : bC D E RX3 cX3_roomLeft 3 (some .int) p s m args meth c) {S : St} (hP : va_P D vwCl (Wu E a S) s.heap) (k15 : Int32 × Int32 → Option (Int32)) (hk15 : ∀ (x1 : Int32) (x2 : Int32), k15 (x1, x2) = some rr → gR p l e (bRm 0 0) s m args below meth c 3 (qS below rr args s) 15 [(0, .ref (a 3)), (1, .int x1), (2, .int x2)] []) {x1 : Int32} {x2 : Int32} (h : FB_X3_roomLeft_15 N S k15 x1 x2 = some rr) : gR p l e (bRm 0 0) s m args below meth c 3 (qS below rr args s) 15 [(0, .ref (a 3)), (1, .int x1), (2, .int x2)] [] := by
  obtain ⟨hx, hb, hml, hown, hts, hK, hr, hlocks⟩ := id C
  intro ls hl
  unfold FB_X3_roomLeft_15 at h
  refine lv_iload_n (pc := 15) hx hb dX3_roomLeft_15 rfl (lv_at hl 2 rfl) ?_
  refine lv_bipush (v := 6) (pc := 16) hx hb dX3_roomLeft_16 (by decide) ?_
  refine lv_icmp_ge (tgt := 36) (pc := 18) hx hb dX3_roomLeft_18 (by decide) (fun hc => ?_) (fun hc => ?_)
  · have h := if_y hc h
    refine lv_iload_n (pc := 36) hx hb dX3_roomLeft_36 rfl (lv_at hl 1 rfl) ?_
    exact r_retS (pc := 37) C h dX3_roomLeft_37
  · have h := if_n hc h
    refine lv_iload_n (pc := 21) hx hb dX3_roomLeft_21 rfl (lv_at hl 1 rfl) ?_
    refine lv_aload_n (pc := 22) hx hb dX3_roomLeft_22 rfl (lv_at hl 0 rfl) ?_
    refine va_get (pc := 23) (v := .ref (a 25)) hx hb hts inB3 hown hK.1 hP 3 wu3 rfl 10 (by decide) (hts _ wd_162) (fun _ h9 => h9) rfl dX3_roomLeft_23 ?_
    refine lv_iload_n (pc := 26) hx hb dX3_roomLeft_26 rfl (lv_at hl 2 rfl) ?_
    obtain ⟨hin, h⟩ := gd_some h
    refine r_ald (pc := 27) hx hb hK hP 25 wu25 hin dX3_roomLeft_27 ?_
    refine lv_iand (pc := 28) hx hb dX3_roomLeft_28 ?_
    refine lv_topi (fun y1 ey1 => ?_)
    have h := bd_y ey1 h
    refine lv_istore_n (lv' := [(1, .int y1), (0, .ref (a 3)), (2, .int x2)]) (pc := 29) hx hb dX3_roomLeft_29 rfl hl (by decide) rfl (fun ls hl => ?_)
    refine lv_iinc (v := (x2 + 1)) (lv' := [(2, .int (x2 + 1)), (1, .int y1), (0, .ref (a 3))]) (pc := 30) hx hb dX3_roomLeft_30 hl (k := 2) rfl (ii1 _) (by decide) rfl (fun ls hl => ?_)
    refine lv_goto (tgt := 15) (pc := 33) hx hb dX3_roomLeft_33 (by decide) ?_
    exact hk15 _ _ h ls (lv_sub hl [2, 1, 0] rfl)
theorem t_X3_roomLeft_15 {rr : Int32} (hI : aI 49 a) (N : Nat) (C : bC D E RX3 cX3_roomLeft 3 (some .int) p s m args meth c) {S : St} (hP : va_P D vwCl (Wu E a S) s.heap) {n : Nat} {x1 : Int32} {x2 : Int32} (h : lpI (F_X3_roomLeft_15 N S) n (x1, x2) = some rr) : gR p l e (bRm 0 0) s m args below meth c 3 (qS below rr args s) 15 [(0, .ref (a 3)), (1, .int x1), (2, .int x2)] [] := by
  exact lpI_ind (P := fun v q => q = rr → gR p l e (bRm 0 0) s m args below meth c 3 (qS below rr args s) 15 [(0, .ref (a 3)), (1, .int v.1), (2, .int v.2)] []) (fun k hk v q h9 hq => s_X3_roomLeft_15 hI N C hP k (fun x1 x2 h8 => hk (x1, x2) _ h8 rfl) (h9.trans (congrArg some hq))) n (x1, x2) _ h rfl
def f_X3_roomLeft (N : Nat) (S : St) : Option (Int32) :=
  gd (ix (S 2 9) 6) (bd (some (S 18 (Int32.toNatClampNeg (S 2 9)))) fun y1 => lpI (F_X3_roomLeft_15 N S) N (y1, 0))
theorem t_X3_roomLeft_0 {rr : Int32} (hI : aI 49 a) (N : Nat) (C : bC D E RX3 cX3_roomLeft 3 (some .int) p s m args meth c) {S : St} (hP : va_P D vwCl (Wu E a S) s.heap) (h : f_X3_roomLeft N S = some rr) : gR p l e (bRm 0 0) s m args below meth c 3 (qS below rr args s) 0 [(0, .ref (a 3))] [] := by
  obtain ⟨hx, hb, hml, hown, hts, hK, hr, hlocks⟩ := id C
  intro ls hl
  unfold f_X3_roomLeft at h
  refine lv_aload_n (pc := 0) hx hb dX3_roomLeft_0 rfl (lv_at hl 0 rfl) ?_
  refine va_get (pc := 1) (v := .ref (a 18)) hx hb hts inB3 hown hK.1 hP 3 wu3 rfl 1 (by decide) (hts _ wd_148) (fun _ h9 => h9) rfl dX3_roomLeft_1 ?_
  refine lv_aload_n (pc := 4) hx hb dX3_roomLeft_4 rfl (lv_at hl 0 rfl) ?_
  refine va_get (pc := 5) (v := .ref (a 2)) hx hb hts inB3 hown hK.1 hP 3 wu3 rfl 0 (by decide) (hts _ wd_146) (fun _ h9 => h9) rfl dX3_roomLeft_5 ?_
  refine va_get (pc := 8) (v := .int (S 2 9)) hx hb hts inB0 hown hK.1 hP 2 wu2 rfl 9 (by decide) (hts _ wd_119) (fun _ h9 => h9) rfl dX3_roomLeft_8 ?_
  obtain ⟨hin, h⟩ := gd_some h
  refine r_ald (pc := 11) hx hb hK hP 18 wu18 hin dX3_roomLeft_11 ?_
  refine lv_topi (fun y1 ey1 => ?_)
  have h := bd_y ey1 h
  refine lv_istore_n (lv' := [(1, .int y1), (0, .ref (a 3))]) (pc := 12) hx hb dX3_roomLeft_12 rfl hl (by decide) rfl (fun ls hl => ?_)
  refine lv_iconst (v := 0) (pc := 13) hx hb dX3_roomLeft_13 (by decide) ?_
  refine lv_istore_n (lv' := [(2, .int 0), (1, .int y1), (0, .ref (a 3))]) (pc := 14) hx hb dX3_roomLeft_14 rfl hl (by decide) rfl (fun ls hl => ?_)
  exact t_X3_roomLeft_15 hI N C hP h ls (lv_sub hl [2, 1, 0] rfl)
theorem c_X3_roomLeft {l : Launch} {D : va_G} {E : bE} {a : Nat → Nat} (hI : aI 49 a) (N : Nat) {rr : Int32} {S : St} (h : f_X3_roomLeft N S = some rr) : cR l D E yX3_roomLeft cX3_roomLeft 3 (some .int) 0 0 (Wu E a S) [.ref (a 3)] rr := cR_of (by decide) (Nat.le_of_ble_eq_true rfl) (fun p e s m args below meth c C hP => t_X3_roomLeft_0 hI N C hP h)
/-! X3_room -/
def FB_X3_room_2 (N : Nat) (k2 : Int32 × Int32 × Int32 × St → Option (Int32 × St)) (x1 : Int32) (x2 : Int32) (x3 : Int32) (S : St) : Option (Int32 × St) :=
  if 6 ≤ x3 then (bd (f_X3_roomLeft N S) fun r1 => some (r1, S)) else (bd (f_X4_has x1 x3) fun r2 => if r2 = 0 then (gd (ix x3 6) (bd (some (sto S 25 (Int32.toNatClampNeg x3) 31)) fun S1 => k2 (x1, x2, (x3 + 1), S1))) else (bd (f_X3_letsOf N x3 x2 S) fun r3 => gd (ix x3 6) (bd (some (sto S 25 (Int32.toNatClampNeg x3) r3)) fun S2 => k2 (x1, x2, (x3 + 1), S2))))
def F_X3_room_2 (N : Nat) (k2 : Int32 × Int32 × Int32 × St → Option (Int32 × St)) (v : Int32 × Int32 × Int32 × St) : Option (Int32 × St) := FB_X3_room_2 N k2 v.1 v.2.1 v.2.2.1 v.2.2.2
theorem s_X3_room_2 {rr : Int32} {SS : St} (hI : aI 49 a) (N : Nat) (C : bC D E RX3 cX3_room 4 (some .int) p s m args meth c) (k2 : Int32 × Int32 × Int32 × St → Option (Int32 × St)) (hk2 : ∀ (x1 : Int32) (x2 : Int32) (x3 : Int32) (S : St), k2 (x1, x2, x3, S) = some (rr, SS) → gU D (Wu E a) (aA 49 a) p l e (bRm 3 68) s m args below meth c 4 (qU D below (aA 49 a) (Wu E a SS) rr args s) 2 [(0, .ref (a 3)), (1, .int x1), (2, .int x2), (3, .int x3)] [] S) {x1 : Int32} {x2 : Int32} {x3 : Int32} {S : St} (h : FB_X3_room_2 N k2 x1 x2 x3 S = some (rr, SS)) : gU D (Wu E a) (aA 49 a) p l e (bRm 3 68) s m args below meth c 4 (qU D below (aA 49 a) (Wu E a SS) rr args s) 2 [(0, .ref (a 3)), (1, .int x1), (2, .int x2), (3, .int x3)] [] S := by
  obtain ⟨hx, hb, hml, hown, hts, hK, hr, hlocks⟩ := id C
  intro H locs hP hS ls hl
  unfold FB_X3_room_2 at h
  refine lv_iload_n (pc := 2) hx hb dX3_room_2 rfl (lv_at hl 3 rfl) ?_
  refine lv_bipush (v := 6) (pc := 3) hx hb dX3_room_3 (by decide) ?_
  refine lv_icmp_ge (tgt := 39) (pc := 5) hx hb dX3_room_5 (by decide) (fun hc => ?_) (fun hc => ?_)
  · have h := if_y hc h
    refine lv_aload_n (pc := 39) hx hb dX3_room_39 rfl (lv_at hl 0 rfl) ?_
    obtain ⟨r1, hr1, h⟩ := bd_some h
    refine r_callR (pc := 40) C hP (c_X3_roomLeft hI N hr1) k_X3_roomLeft wd_415 (q0 := 3) wu3 rfl rfl ⟨Nat.le_of_ble_eq_true rfl, Nat.le_of_ble_eq_true rfl⟩ rfl hl.1 rfl (Nat.le_of_ble_eq_true rfl) dX3_room_40 ⟨Nat.zero_le _, Nat.zero_le _⟩ ?_
    exact r_retU (pc := 43) (𝓦 := Wu E a) C h hP hS dX3_room_43
  · have h := if_n hc h
    refine lv_aload_n (pc := 8) hx hb dX3_room_8 rfl (lv_at hl 0 rfl) ?_
    refine va_get (pc := 9) (v := .ref (a 25)) hx hb hts inB3 hown hK.1 hP 3 wu3 rfl 10 (by decide) (hts _ wd_162) (fun _ h9 => h9) rfl dX3_room_9 ?_
    refine lv_iload_n (pc := 12) hx hb dX3_room_12 rfl (lv_at hl 3 rfl) ?_
    refine lv_iload_n (pc := 13) hx hb dX3_room_13 rfl (lv_at hl 1 rfl) ?_
    refine lv_iload_n (pc := 14) hx hb dX3_room_14 rfl (lv_at hl 3 rfl) ?_
    obtain ⟨r2, hr2, h⟩ := bd_some h
    refine r_callSN (pc := 15) (host := RX4) C (c_X4_has hr2) k_X4_has nst_6 ⟨Nat.le_of_ble_eq_true rfl, Nat.le_of_ble_eq_true rfl⟩ rfl hl.1 rfl (Nat.le_of_ble_eq_true rfl) dX3_room_15 ⟨Nat.zero_le _, Nat.zero_le _⟩ ?_
    refine lv_if_eq (tgt := 30) (pc := 18) hx hb dX3_room_18 (by decide) (fun hc => ?_) (fun hc => ?_)
    · have h := if_y hc h
      refine lv_bipush (v := 31) (pc := 30) hx hb dX3_room_30 (by decide) ?_
      obtain ⟨hin, h⟩ := gd_some h
      refine r_ast (pc := 32) (𝓦 := Wu E a) hx hb hK hP (dU hI _) hS 25 wu25 wu25s hin dX3_room_32 (fun H locs S1 eS1 hP hS => ?_)
      have h := bd_y eS1 h
      refine lv_iinc (v := (x3 + 1)) (lv' := [(3, .int (x3 + 1)), (0, .ref (a 3)), (1, .int x1), (2, .int x2)]) (pc := 33) hx hb dX3_room_33 hl (k := 3) rfl (ii1 _) (by decide) rfl (fun ls hl => ?_)
      refine lv_goto (tgt := 2) (pc := 36) hx hb dX3_room_36 (by decide) ?_
      exact hk2 _ _ _ _ h H locs hP hS ls (lv_sub hl [1, 2, 3, 0] rfl)
    · have h := if_n hc h
      refine lv_aload_n (pc := 21) hx hb dX3_room_21 rfl (lv_at hl 0 rfl) ?_
      refine lv_iload_n (pc := 22) hx hb dX3_room_22 rfl (lv_at hl 3 rfl) ?_
      refine lv_iload_n (pc := 23) hx hb dX3_room_23 rfl (lv_at hl 2 rfl) ?_
      obtain ⟨r3, hr3, h⟩ := bd_some h
      refine r_callR (pc := 24) C hP (c_X3_letsOf hI N hr3) k_X3_letsOf wd_404 (q0 := 3) wu3 rfl rfl ⟨Nat.le_of_ble_eq_true rfl, Nat.le_of_ble_eq_true rfl⟩ rfl hl.1 rfl (Nat.le_of_ble_eq_true rfl) dX3_room_24 ⟨Nat.zero_le _, Nat.zero_le _⟩ ?_
      refine lv_goto (tgt := 32) (pc := 27) hx hb dX3_room_27 (by decide) ?_
      obtain ⟨hin, h⟩ := gd_some h
      refine r_ast (pc := 32) (𝓦 := Wu E a) hx hb hK hP (dU hI _) hS 25 wu25 wu25s hin dX3_room_32 (fun H locs S2 eS2 hP hS => ?_)
      have h := bd_y eS2 h
      refine lv_iinc (v := (x3 + 1)) (lv' := [(3, .int (x3 + 1)), (0, .ref (a 3)), (1, .int x1), (2, .int x2)]) (pc := 33) hx hb dX3_room_33 hl (k := 3) rfl (ii1 _) (by decide) rfl (fun ls hl => ?_)
      refine lv_goto (tgt := 2) (pc := 36) hx hb dX3_room_36 (by decide) ?_
      exact hk2 _ _ _ _ h H locs hP hS ls (lv_sub hl [1, 2, 3, 0] rfl)
theorem t_X3_room_2 {rr : Int32} {SS : St} (hI : aI 49 a) (N : Nat) (C : bC D E RX3 cX3_room 4 (some .int) p s m args meth c) {n : Nat} {x1 : Int32} {x2 : Int32} {x3 : Int32} {S : St} (h : lpI (F_X3_room_2 N) n (x1, x2, x3, S) = some (rr, SS)) : gU D (Wu E a) (aA 49 a) p l e (bRm 3 68) s m args below meth c 4 (qU D below (aA 49 a) (Wu E a SS) rr args s) 2 [(0, .ref (a 3)), (1, .int x1), (2, .int x2), (3, .int x3)] [] S := by
  exact lpI_ind (P := fun v q => q = (rr, SS) → gU D (Wu E a) (aA 49 a) p l e (bRm 3 68) s m args below meth c 4 (qU D below (aA 49 a) (Wu E a SS) rr args s) 2 [(0, .ref (a 3)), (1, .int v.1), (2, .int v.2.1), (3, .int v.2.2.1)] [] v.2.2.2) (fun k hk v q h9 hq => s_X3_room_2 hI N C k (fun x1 x2 x3 S h8 => hk (x1, x2, x3, S) _ h8 rfl) (h9.trans (congrArg some hq))) n (x1, x2, x3, S) _ h rfl
def f_X3_room (N : Nat) (x1 : Int32) (x2 : Int32) (S : St) : Option (Int32 × St) :=
  lpI (F_X3_room_2 N) N (x1, x2, 0, S)
theorem t_X3_room_0 {rr : Int32} {SS : St} (hI : aI 49 a) (N : Nat) (C : bC D E RX3 cX3_room 4 (some .int) p s m args meth c) {x1 : Int32} {x2 : Int32} {S : St} (h : f_X3_room N x1 x2 S = some (rr, SS)) : gU D (Wu E a) (aA 49 a) p l e (bRm 3 68) s m args below meth c 4 (qU D below (aA 49 a) (Wu E a SS) rr args s) 0 [(0, .ref (a 3)), (1, .int x1), (2, .int x2)] [] S := by
  obtain ⟨hx, hb, hml, hown, hts, hK, hr, hlocks⟩ := id C
  intro H locs hP hS ls hl
  unfold f_X3_room at h
  refine lv_iconst (v := 0) (pc := 0) hx hb dX3_room_0 (by decide) ?_
  refine lv_istore_n (lv' := [(3, .int 0), (0, .ref (a 3)), (1, .int x1), (2, .int x2)]) (pc := 1) hx hb dX3_room_1 rfl hl (by decide) rfl (fun ls hl => ?_)
  exact t_X3_room_2 hI N C h H locs hP hS ls (lv_sub hl [1, 2, 3, 0] rfl)
theorem c_X3_room {l : Launch} {D : va_G} {E : bE} {a : Nat → Nat} (hI : aI 49 a) (N : Nat) {rr : Int32} {S : St} {SS : St} {x1 : Int32} {x2 : Int32} (h : f_X3_room N x1 x2 S = some (rr, SS)) : cU l D E yX3_room cX3_room 4 (some .int) 3 68 (aA 49 a) (Wu E a S) (Wu E a SS) [.ref (a 3), .int x1, .int x2] rr := cU_of (by decide) (Nat.le_of_ble_eq_true rfl) (fun p e s m args below meth c C => t_X3_room_0 hI N C h)
/-! X3_leastMusts -/
def B_X3_leastMusts_33 (N : Nat) (k5 : Int32 × Int32 × Int32 × St → Option (Int32 × St)) (x1 : Int32) (x2 : Int32) (x3 : Int32) (z0 : Int32) (S : St) : Option (Int32 × St) :=
  if z0 = 0 then (k5 (x1, x2, (x3 + 1), S)) else (bd2 (f_X3_room N (S 3 5) (x3 ||| x1) S) fun r1 S1 => if r1 = 0 then (k5 (x1, x2, (x3 + 1), S1)) else (k5 (x1, x3, (x3 + 1), S1)))
theorem t_X3_leastMusts_33 {rr : Int32} {SS : St} (hI : aI 49 a) (N : Nat) (C : bC D E RX3 cX3_leastMusts 5 (some .int) p s m args meth c) (k5 : Int32 × Int32 × Int32 × St → Option (Int32 × St)) (hk5 : ∀ (x1 : Int32) (x2 : Int32) (x3 : Int32) (S : St), k5 (x1, x2, x3, S) = some (rr, SS) → gU D (Wu E a) (aA 49 a) p l e (bRm 4 91) s m args below meth c 5 (qU D below (aA 49 a) (Wu E a SS) rr args s) 5 [(0, .ref (a 3)), (1, .int x1), (2, .int x2), (3, .int x3)] [] S) {x1 : Int32} {x2 : Int32} {x3 : Int32} {z0 : Int32} {S : St} (h : B_X3_leastMusts_33 N k5 x1 x2 x3 z0 S = some (rr, SS)) : gU D (Wu E a) (aA 49 a) p l e (bRm 4 91) s m args below meth c 5 (qU D below (aA 49 a) (Wu E a SS) rr args s) 33 [(0, .ref (a 3)), (1, .int x1), (2, .int x2), (3, .int x3)] [.int z0] S := by
  obtain ⟨hx, hb, hml, hown, hts, hK, hr, hlocks⟩ := id C
  intro H locs hP hS ls hl
  unfold B_X3_leastMusts_33 at h
  refine lv_istore (lv' := [(4, .int z0), (0, .ref (a 3)), (1, .int x1), (2, .int x2), (3, .int x3)]) (pc := 33) hx hb dX3_leastMusts_33 hl (by decide) rfl (fun ls hl => ?_)
  refine lv_iload (pc := 35) hx hb dX3_leastMusts_35 (lv_at hl 0 rfl) ?_
  refine lv_if_eq (tgt := 56) (pc := 37) hx hb dX3_leastMusts_37 (by decide) (fun hc => ?_) (fun hc => ?_)
  · have h := if_y hc h
    refine lv_iinc (v := (x3 + 1)) (lv' := [(3, .int (x3 + 1)), (4, .int z0), (0, .ref (a 3)), (1, .int x1), (2, .int x2)]) (pc := 56) hx hb dX3_leastMusts_56 hl (k := 4) rfl (ii1 _) (by decide) rfl (fun ls hl => ?_)
    refine lv_goto (tgt := 5) (pc := 59) hx hb dX3_leastMusts_59 (by decide) ?_
    exact hk5 _ _ _ _ h H locs hP hS ls (lv_sub hl [2, 3, 4, 0] rfl)
  · have h := if_n hc h
    refine lv_aload_n (pc := 40) hx hb dX3_leastMusts_40 rfl (lv_at hl 1 rfl) ?_
    refine lv_aload_n (pc := 41) hx hb dX3_leastMusts_41 rfl (lv_at hl 1 rfl) ?_
    refine va_get (pc := 42) (v := .int (S 3 5)) hx hb hts inB3 hown hK.1 hP 3 wu3 rfl 5 (by decide) (hts _ wd_156) (fun _ h9 => h9) rfl dX3_leastMusts_42 ?_
    refine lv_iload_n (pc := 45) hx hb dX3_leastMusts_45 rfl (lv_at hl 4 rfl) ?_
    refine lv_iload_n (pc := 46) hx hb dX3_leastMusts_46 rfl (lv_at hl 2 rfl) ?_
    refine lv_ior (pc := 47) hx hb dX3_leastMusts_47 ?_
    obtain ⟨r1, S1, hr1, h⟩ := bd2_some h
    refine r_callU (pc := 48) C hP hS (c_X3_room hI N hr1) k_X3_room wd_400 (q0 := 3) wu3 rfl rfl ⟨Nat.le_of_ble_eq_true rfl, Nat.le_of_ble_eq_true rfl⟩ rfl hl.1 rfl (Nat.le_of_ble_eq_true rfl) dX3_leastMusts_48 ⟨Nat.zero_le _, Nat.zero_le _⟩ (fun H locs hP hS => ?_)
    refine lv_if_eq (tgt := 56) (pc := 51) hx hb dX3_leastMusts_51 (by decide) (fun hc => ?_) (fun hc => ?_)
    · have h := if_y hc h
      refine lv_iinc (v := (x3 + 1)) (lv' := [(3, .int (x3 + 1)), (4, .int z0), (0, .ref (a 3)), (1, .int x1), (2, .int x2)]) (pc := 56) hx hb dX3_leastMusts_56 hl (k := 4) rfl (ii1 _) (by decide) rfl (fun ls hl => ?_)
      refine lv_goto (tgt := 5) (pc := 59) hx hb dX3_leastMusts_59 (by decide) ?_
      exact hk5 _ _ _ _ h H locs hP hS ls (lv_sub hl [2, 3, 4, 0] rfl)
    · have h := if_n hc h
      refine lv_iload_n (pc := 54) hx hb dX3_leastMusts_54 rfl (lv_at hl 4 rfl) ?_
      refine lv_istore_n (lv' := [(2, .int x3), (4, .int z0), (0, .ref (a 3)), (1, .int x1), (3, .int x3)]) (pc := 55) hx hb dX3_leastMusts_55 rfl hl (by decide) rfl (fun ls hl => ?_)
      refine lv_iinc (v := (x3 + 1)) (lv' := [(3, .int (x3 + 1)), (2, .int x3), (4, .int z0), (0, .ref (a 3)), (1, .int x1)]) (pc := 56) hx hb dX3_leastMusts_56 hl (k := 4) rfl (ii1 _) (by decide) rfl (fun ls hl => ?_)
      refine lv_goto (tgt := 5) (pc := 59) hx hb dX3_leastMusts_59 (by decide) ?_
      exact hk5 _ _ _ _ h H locs hP hS ls (lv_sub hl [3, 4, 1, 0] rfl)
def FB_X3_leastMusts_5 (N : Nat) (k5 : Int32 × Int32 × Int32 × St → Option (Int32 × St)) (x1 : Int32) (x2 : Int32) (x3 : Int32) (S : St) : Option (Int32 × St) :=
  if 31 < x3 then (some (x2, S)) else (if x2 = (-6) then (B_X3_leastMusts_33 N k5 x1 x2 x3 1 S) else (bd (f_J6_bitCount_0f7a4 x3) fun r1 => bd (f_J6_bitCount_0f7a4 x2) fun r2 => if r2 ≤ r1 then (B_X3_leastMusts_33 N k5 x1 x2 x3 0 S) else (B_X3_leastMusts_33 N k5 x1 x2 x3 1 S)))
def F_X3_leastMusts_5 (N : Nat) (k5 : Int32 × Int32 × Int32 × St → Option (Int32 × St)) (v : Int32 × Int32 × Int32 × St) : Option (Int32 × St) := FB_X3_leastMusts_5 N k5 v.1 v.2.1 v.2.2.1 v.2.2.2
theorem s_X3_leastMusts_5 {rr : Int32} {SS : St} (hI : aI 49 a) (N : Nat) (C : bC D E RX3 cX3_leastMusts 5 (some .int) p s m args meth c) (k5 : Int32 × Int32 × Int32 × St → Option (Int32 × St)) (hk5 : ∀ (x1 : Int32) (x2 : Int32) (x3 : Int32) (S : St), k5 (x1, x2, x3, S) = some (rr, SS) → gU D (Wu E a) (aA 49 a) p l e (bRm 4 91) s m args below meth c 5 (qU D below (aA 49 a) (Wu E a SS) rr args s) 5 [(0, .ref (a 3)), (1, .int x1), (2, .int x2), (3, .int x3)] [] S) {x1 : Int32} {x2 : Int32} {x3 : Int32} {S : St} (h : FB_X3_leastMusts_5 N k5 x1 x2 x3 S = some (rr, SS)) : gU D (Wu E a) (aA 49 a) p l e (bRm 4 91) s m args below meth c 5 (qU D below (aA 49 a) (Wu E a SS) rr args s) 5 [(0, .ref (a 3)), (1, .int x1), (2, .int x2), (3, .int x3)] [] S := by
  obtain ⟨hx, hb, hml, hown, hts, hK, hr, hlocks⟩ := id C
  intro H locs hP hS ls hl
  unfold FB_X3_leastMusts_5 at h
  refine lv_iload_n (pc := 5) hx hb dX3_leastMusts_5 rfl (lv_at hl 3 rfl) ?_
  refine lv_bipush (v := 31) (pc := 6) hx hb dX3_leastMusts_6 (by decide) ?_
  refine lv_icmp_gt (tgt := 62) (pc := 8) hx hb dX3_leastMusts_8 (by decide) (fun hc => ?_) (fun hc => ?_)
  · have h := if_y hc h
    refine lv_iload_n (pc := 62) hx hb dX3_leastMusts_62 rfl (lv_at hl 2 rfl) ?_
    exact r_retU (pc := 63) (𝓦 := Wu E a) C h hP hS dX3_leastMusts_63
  · have h := if_n hc h
    refine lv_iload_n (pc := 11) hx hb dX3_leastMusts_11 rfl (lv_at hl 2 rfl) ?_
    refine lv_bipush (v := (-6)) (pc := 12) hx hb dX3_leastMusts_12 (by decide) ?_
    refine lv_icmp_eq (tgt := 28) (pc := 14) hx hb dX3_leastMusts_14 (by decide) (fun hc => ?_) (fun hc => ?_)
    · have h := if_y hc h
      refine lv_iconst (v := 1) (pc := 28) hx hb dX3_leastMusts_28 (by decide) ?_
      refine lv_goto (tgt := 33) (pc := 29) hx hb dX3_leastMusts_29 (by decide) ?_
      exact t_X3_leastMusts_33 hI N C k5 hk5 h H locs hP hS ls (lv_sub hl [0, 1, 2, 3] rfl)
    · have h := if_n hc h
      refine lv_iload_n (pc := 17) hx hb dX3_leastMusts_17 rfl (lv_at hl 3 rfl) ?_
      obtain ⟨r1, hr1, h⟩ := bd_some h
      refine r_callS (pc := 18) C (c_J6_bitCount_0f7a4 hr1) k_J6_bitCount_0f7a4 wd_394 ⟨Nat.le_of_ble_eq_true rfl, Nat.le_of_ble_eq_true rfl⟩ rfl hl.1 rfl (Nat.le_of_ble_eq_true rfl) dX3_leastMusts_18 ⟨Nat.zero_le _, Nat.zero_le _⟩ ?_
      refine lv_iload_n (pc := 21) hx hb dX3_leastMusts_21 rfl (lv_at hl 2 rfl) ?_
      obtain ⟨r2, hr2, h⟩ := bd_some h
      refine r_callS (pc := 22) C (c_J6_bitCount_0f7a4 hr2) k_J6_bitCount_0f7a4 wd_394 ⟨Nat.le_of_ble_eq_true rfl, Nat.le_of_ble_eq_true rfl⟩ rfl hl.1 rfl (Nat.le_of_ble_eq_true rfl) dX3_leastMusts_22 ⟨Nat.zero_le _, Nat.zero_le _⟩ ?_
      refine lv_icmp_ge (tgt := 32) (pc := 25) hx hb dX3_leastMusts_25 (by decide) (fun hc => ?_) (fun hc => ?_)
      · have h := if_y hc h
        refine lv_iconst (v := 0) (pc := 32) hx hb dX3_leastMusts_32 (by decide) ?_
        exact t_X3_leastMusts_33 hI N C k5 hk5 h H locs hP hS ls (lv_sub hl [0, 1, 2, 3] rfl)
      · have h := if_n hc h
        refine lv_iconst (v := 1) (pc := 28) hx hb dX3_leastMusts_28 (by decide) ?_
        refine lv_goto (tgt := 33) (pc := 29) hx hb dX3_leastMusts_29 (by decide) ?_
        exact t_X3_leastMusts_33 hI N C k5 hk5 h H locs hP hS ls (lv_sub hl [0, 1, 2, 3] rfl)
theorem t_X3_leastMusts_5 {rr : Int32} {SS : St} (hI : aI 49 a) (N : Nat) (C : bC D E RX3 cX3_leastMusts 5 (some .int) p s m args meth c) {n : Nat} {x1 : Int32} {x2 : Int32} {x3 : Int32} {S : St} (h : lpI (F_X3_leastMusts_5 N) n (x1, x2, x3, S) = some (rr, SS)) : gU D (Wu E a) (aA 49 a) p l e (bRm 4 91) s m args below meth c 5 (qU D below (aA 49 a) (Wu E a SS) rr args s) 5 [(0, .ref (a 3)), (1, .int x1), (2, .int x2), (3, .int x3)] [] S := by
  exact lpI_ind (P := fun v q => q = (rr, SS) → gU D (Wu E a) (aA 49 a) p l e (bRm 4 91) s m args below meth c 5 (qU D below (aA 49 a) (Wu E a SS) rr args s) 5 [(0, .ref (a 3)), (1, .int v.1), (2, .int v.2.1), (3, .int v.2.2.1)] [] v.2.2.2) (fun k hk v q h9 hq => s_X3_leastMusts_5 hI N C k (fun x1 x2 x3 S h8 => hk (x1, x2, x3, S) _ h8 rfl) (h9.trans (congrArg some hq))) n (x1, x2, x3, S) _ h rfl
def f_X3_leastMusts (N : Nat) (x1 : Int32) (S : St) : Option (Int32 × St) :=
  lpI (F_X3_leastMusts_5 N) N (x1, (-6), 0, S)
theorem t_X3_leastMusts_0 {rr : Int32} {SS : St} (hI : aI 49 a) (N : Nat) (C : bC D E RX3 cX3_leastMusts 5 (some .int) p s m args meth c) {x1 : Int32} {S : St} (h : f_X3_leastMusts N x1 S = some (rr, SS)) : gU D (Wu E a) (aA 49 a) p l e (bRm 4 91) s m args below meth c 5 (qU D below (aA 49 a) (Wu E a SS) rr args s) 0 [(0, .ref (a 3)), (1, .int x1)] [] S := by
  obtain ⟨hx, hb, hml, hown, hts, hK, hr, hlocks⟩ := id C
  intro H locs hP hS ls hl
  unfold f_X3_leastMusts at h
  refine lv_bipush (v := (-6)) (pc := 0) hx hb dX3_leastMusts_0 (by decide) ?_
  refine lv_istore_n (lv' := [(2, .int (-6)), (0, .ref (a 3)), (1, .int x1)]) (pc := 2) hx hb dX3_leastMusts_2 rfl hl (by decide) rfl (fun ls hl => ?_)
  refine lv_iconst (v := 0) (pc := 3) hx hb dX3_leastMusts_3 (by decide) ?_
  refine lv_istore_n (lv' := [(3, .int 0), (2, .int (-6)), (0, .ref (a 3)), (1, .int x1)]) (pc := 4) hx hb dX3_leastMusts_4 rfl hl (by decide) rfl (fun ls hl => ?_)
  exact t_X3_leastMusts_5 hI N C h H locs hP hS ls (lv_sub hl [2, 3, 1, 0] rfl)
theorem c_X3_leastMusts {l : Launch} {D : va_G} {E : bE} {a : Nat → Nat} (hI : aI 49 a) (N : Nat) {rr : Int32} {S : St} {SS : St} {x1 : Int32} (h : f_X3_leastMusts N x1 S = some (rr, SS)) : cU l D E yX3_leastMusts cX3_leastMusts 5 (some .int) 4 91 (aA 49 a) (Wu E a S) (Wu E a SS) [.ref (a 3), .int x1] rr := cU_of (by decide) (Nat.le_of_ble_eq_true rfl) (fun p e s m args below meth c C => t_X3_leastMusts_0 hI N C h)
/-! X3_settle -/
def FB_X3_settle_2 (N : Nat) (k2 : Int32 × Int32 × Int32 × St → Option (Int32 × St)) (x1 : Int32) (x2 : Int32) (x3 : Int32) (S : St) : Option (Int32 × St) :=
  if 5 ≤ x3 then (some (0, S)) else (bd (f_X3_mayChoose x1 x3 x2 S) fun r1 => if r1 = 0 then (k2 (x1, x2, (x3 + 1), S)) else (bd (f_X3_offer x1 x3) fun r2 => gd (ix r2 30) (gd (ix x1 6) (bd (some (sto S 25 (Int32.toNatClampNeg x1) (S 22 (Int32.toNatClampNeg r2)))) fun S1 => bd (f_X3_roomLeft N S1) fun r3 => if r3 = 0 then (k2 (x1, x2, (x3 + 1), S1)) else (some (x3, S1))))))
def F_X3_settle_2 (N : Nat) (k2 : Int32 × Int32 × Int32 × St → Option (Int32 × St)) (v : Int32 × Int32 × Int32 × St) : Option (Int32 × St) := FB_X3_settle_2 N k2 v.1 v.2.1 v.2.2.1 v.2.2.2
theorem s_X3_settle_2 {rr : Int32} {SS : St} (hI : aI 49 a) (N : Nat) (C : bC D E RX3 cX3_settle 4 (some .int) p s m args meth c) (k2 : Int32 × Int32 × Int32 × St → Option (Int32 × St)) (hk2 : ∀ (x1 : Int32) (x2 : Int32) (x3 : Int32) (S : St), k2 (x1, x2, x3, S) = some (rr, SS) → gU D (Wu E a) (aA 49 a) p l e (bRm 2 44) s m args below meth c 4 (qU D below (aA 49 a) (Wu E a SS) rr args s) 2 [(0, .ref (a 3)), (1, .int x1), (2, .int x2), (3, .int x3)] [] S) {x1 : Int32} {x2 : Int32} {x3 : Int32} {S : St} (h : FB_X3_settle_2 N k2 x1 x2 x3 S = some (rr, SS)) : gU D (Wu E a) (aA 49 a) p l e (bRm 2 44) s m args below meth c 4 (qU D below (aA 49 a) (Wu E a SS) rr args s) 2 [(0, .ref (a 3)), (1, .int x1), (2, .int x2), (3, .int x3)] [] S := by
  obtain ⟨hx, hb, hml, hown, hts, hK, hr, hlocks⟩ := id C
  intro H locs hP hS ls hl
  unfold FB_X3_settle_2 at h
  refine lv_iload_n (pc := 2) hx hb dX3_settle_2 rfl (lv_at hl 3 rfl) ?_
  refine lv_iconst (v := 5) (pc := 3) hx hb dX3_settle_3 (by decide) ?_
  refine lv_icmp_ge (tgt := 48) (pc := 4) hx hb dX3_settle_4 (by decide) (fun hc => ?_) (fun hc => ?_)
  · have h := if_y hc h
    refine lv_iconst (v := 0) (pc := 48) hx hb dX3_settle_48 (by decide) ?_
    exact r_retU (pc := 49) (𝓦 := Wu E a) C h hP hS dX3_settle_49
  · have h := if_n hc h
    refine lv_aload_n (pc := 7) hx hb dX3_settle_7 rfl (lv_at hl 0 rfl) ?_
    refine lv_iload_n (pc := 8) hx hb dX3_settle_8 rfl (lv_at hl 1 rfl) ?_
    refine lv_iload_n (pc := 9) hx hb dX3_settle_9 rfl (lv_at hl 3 rfl) ?_
    refine lv_iload_n (pc := 10) hx hb dX3_settle_10 rfl (lv_at hl 2 rfl) ?_
    obtain ⟨r1, hr1, h⟩ := bd_some h
    refine r_callR (pc := 11) C hP (c_X3_mayChoose hI hr1) k_X3_mayChoose wd_408 (q0 := 3) wu3 rfl rfl ⟨Nat.le_of_ble_eq_true rfl, Nat.le_of_ble_eq_true rfl⟩ rfl hl.1 rfl (Nat.le_of_ble_eq_true rfl) dX3_settle_11 ⟨Nat.zero_le _, Nat.zero_le _⟩ ?_
    refine lv_if_eq (tgt := 42) (pc := 14) hx hb dX3_settle_14 (by decide) (fun hc => ?_) (fun hc => ?_)
    · have h := if_y hc h
      refine lv_iinc (v := (x3 + 1)) (lv' := [(3, .int (x3 + 1)), (0, .ref (a 3)), (1, .int x1), (2, .int x2)]) (pc := 42) hx hb dX3_settle_42 hl (k := 3) rfl (ii1 _) (by decide) rfl (fun ls hl => ?_)
      refine lv_goto (tgt := 2) (pc := 45) hx hb dX3_settle_45 (by decide) ?_
      exact hk2 _ _ _ _ h H locs hP hS ls (lv_sub hl [1, 2, 3, 0] rfl)
    · have h := if_n hc h
      refine lv_aload_n (pc := 17) hx hb dX3_settle_17 rfl (lv_at hl 0 rfl) ?_
      refine va_get (pc := 18) (v := .ref (a 25)) hx hb hts inB3 hown hK.1 hP 3 wu3 rfl 10 (by decide) (hts _ wd_162) (fun _ h9 => h9) rfl dX3_settle_18 ?_
      refine lv_iload_n (pc := 21) hx hb dX3_settle_21 rfl (lv_at hl 1 rfl) ?_
      refine lv_aload_n (pc := 22) hx hb dX3_settle_22 rfl (lv_at hl 0 rfl) ?_
      refine va_get (pc := 23) (v := .ref (a 22)) hx hb hts inB3 hown hK.1 hP 3 wu3 rfl 7 (by decide) (hts _ wd_159) (fun _ h9 => h9) rfl dX3_settle_23 ?_
      refine lv_iload_n (pc := 26) hx hb dX3_settle_26 rfl (lv_at hl 1 rfl) ?_
      refine lv_iload_n (pc := 27) hx hb dX3_settle_27 rfl (lv_at hl 3 rfl) ?_
      obtain ⟨r2, hr2, h⟩ := bd_some h
      refine r_callS (pc := 28) C (c_X3_offer hr2) k_X3_offer wd_354 ⟨Nat.le_of_ble_eq_true rfl, Nat.le_of_ble_eq_true rfl⟩ rfl hl.1 rfl (Nat.le_of_ble_eq_true rfl) dX3_settle_28 ⟨Nat.zero_le _, Nat.zero_le _⟩ ?_
      obtain ⟨hin, h⟩ := gd_some h
      refine r_ald (pc := 31) hx hb hK hP 22 wu22 hin dX3_settle_31 ?_
      obtain ⟨hin, h⟩ := gd_some h
      refine r_ast (pc := 32) (𝓦 := Wu E a) hx hb hK hP (dU hI _) hS 25 wu25 wu25s hin dX3_settle_32 (fun H locs S1 eS1 hP hS => ?_)
      have h := bd_y eS1 h
      refine lv_aload_n (pc := 33) hx hb dX3_settle_33 rfl (lv_at hl 0 rfl) ?_
      obtain ⟨r3, hr3, h⟩ := bd_some h
      refine r_callR (pc := 34) C hP (c_X3_roomLeft hI N hr3) k_X3_roomLeft wd_415 (q0 := 3) wu3 rfl rfl ⟨Nat.le_of_ble_eq_true rfl, Nat.le_of_ble_eq_true rfl⟩ rfl hl.1 rfl (Nat.le_of_ble_eq_true rfl) dX3_settle_34 ⟨Nat.zero_le _, Nat.zero_le _⟩ ?_
      refine lv_if_eq (tgt := 42) (pc := 37) hx hb dX3_settle_37 (by decide) (fun hc => ?_) (fun hc => ?_)
      · have h := if_y hc h
        refine lv_iinc (v := (x3 + 1)) (lv' := [(3, .int (x3 + 1)), (0, .ref (a 3)), (1, .int x1), (2, .int x2)]) (pc := 42) hx hb dX3_settle_42 hl (k := 3) rfl (ii1 _) (by decide) rfl (fun ls hl => ?_)
        refine lv_goto (tgt := 2) (pc := 45) hx hb dX3_settle_45 (by decide) ?_
        exact hk2 _ _ _ _ h H locs hP hS ls (lv_sub hl [1, 2, 3, 0] rfl)
      · have h := if_n hc h
        refine lv_iload_n (pc := 40) hx hb dX3_settle_40 rfl (lv_at hl 3 rfl) ?_
        exact r_retU (pc := 41) (𝓦 := Wu E a) C h hP hS dX3_settle_41
theorem t_X3_settle_2 {rr : Int32} {SS : St} (hI : aI 49 a) (N : Nat) (C : bC D E RX3 cX3_settle 4 (some .int) p s m args meth c) {n : Nat} {x1 : Int32} {x2 : Int32} {x3 : Int32} {S : St} (h : lpI (F_X3_settle_2 N) n (x1, x2, x3, S) = some (rr, SS)) : gU D (Wu E a) (aA 49 a) p l e (bRm 2 44) s m args below meth c 4 (qU D below (aA 49 a) (Wu E a SS) rr args s) 2 [(0, .ref (a 3)), (1, .int x1), (2, .int x2), (3, .int x3)] [] S := by
  exact lpI_ind (P := fun v q => q = (rr, SS) → gU D (Wu E a) (aA 49 a) p l e (bRm 2 44) s m args below meth c 4 (qU D below (aA 49 a) (Wu E a SS) rr args s) 2 [(0, .ref (a 3)), (1, .int v.1), (2, .int v.2.1), (3, .int v.2.2.1)] [] v.2.2.2) (fun k hk v q h9 hq => s_X3_settle_2 hI N C k (fun x1 x2 x3 S h8 => hk (x1, x2, x3, S) _ h8 rfl) (h9.trans (congrArg some hq))) n (x1, x2, x3, S) _ h rfl
def f_X3_settle (N : Nat) (x1 : Int32) (x2 : Int32) (S : St) : Option (Int32 × St) :=
  lpI (F_X3_settle_2 N) N (x1, x2, 0, S)
theorem t_X3_settle_0 {rr : Int32} {SS : St} (hI : aI 49 a) (N : Nat) (C : bC D E RX3 cX3_settle 4 (some .int) p s m args meth c) {x1 : Int32} {x2 : Int32} {S : St} (h : f_X3_settle N x1 x2 S = some (rr, SS)) : gU D (Wu E a) (aA 49 a) p l e (bRm 2 44) s m args below meth c 4 (qU D below (aA 49 a) (Wu E a SS) rr args s) 0 [(0, .ref (a 3)), (1, .int x1), (2, .int x2)] [] S := by
  obtain ⟨hx, hb, hml, hown, hts, hK, hr, hlocks⟩ := id C
  intro H locs hP hS ls hl
  unfold f_X3_settle at h
  refine lv_iconst (v := 0) (pc := 0) hx hb dX3_settle_0 (by decide) ?_
  refine lv_istore_n (lv' := [(3, .int 0), (0, .ref (a 3)), (1, .int x1), (2, .int x2)]) (pc := 1) hx hb dX3_settle_1 rfl hl (by decide) rfl (fun ls hl => ?_)
  exact t_X3_settle_2 hI N C h H locs hP hS ls (lv_sub hl [1, 2, 3, 0] rfl)
theorem c_X3_settle {l : Launch} {D : va_G} {E : bE} {a : Nat → Nat} (hI : aI 49 a) (N : Nat) {rr : Int32} {S : St} {SS : St} {x1 : Int32} {x2 : Int32} (h : f_X3_settle N x1 x2 S = some (rr, SS)) : cU l D E yX3_settle cX3_settle 4 (some .int) 2 44 (aA 49 a) (Wu E a S) (Wu E a SS) [.ref (a 3), .int x1, .int x2] rr := cU_of (by decide) (Nat.le_of_ble_eq_true rfl) (fun p e s m args below meth c C => t_X3_settle_0 hI N C h)
/-! X3_findBest -/
def FB_X3_findBest_50 (N : Nat) (k50 : Int32 × Int32 × Int32 × St → Option (Int32 × St)) (x3 : Int32) (x4 : Int32) (x5 : Int32) (S : St) : Option (Int32 × St) :=
  if 6 ≤ x5 then (bd (f_X3_roomLeft N S) fun r1 => bd (some (sto S 4 2 r1)) fun S1 => some (1, S1)) else (bd (f_X4_has (S 3 5) x5) fun r2 => if r2 = 0 then (gd (ix x5 6) (bd (some (sto S 28 (Int32.toNatClampNeg x5) 0)) fun S2 => k50 (x3, x4, (x5 + 1), S2))) else (bd2 (f_X3_settle N x5 (x4 ||| x3) S) fun r3 S3 => gd (ix x5 6) (bd (some (sto S3 28 (Int32.toNatClampNeg x5) r3)) fun S4 => k50 (x3, x4, (x5 + 1), S4))))
def F_X3_findBest_50 (N : Nat) (k50 : Int32 × Int32 × Int32 × St → Option (Int32 × St)) (v : Int32 × Int32 × Int32 × St) : Option (Int32 × St) := FB_X3_findBest_50 N k50 v.1 v.2.1 v.2.2.1 v.2.2.2
theorem s_X3_findBest_50 {rr : Int32} {SS : St} (hI : aI 49 a) (N : Nat) (C : bC D E RX3 cX3_findBest 6 (some .boolean) p s m args meth c) (k50 : Int32 × Int32 × Int32 × St → Option (Int32 × St)) (hk50 : ∀ (x3 : Int32) (x4 : Int32) (x5 : Int32) (S : St), k50 (x3, x4, x5, S) = some (rr, SS) → gU D (Wu E a) (aA 49 a) p l e (bRm 5 115) s m args below meth c 6 (qU D below (aA 49 a) (Wu E a SS) rr args s) 50 [(0, .ref (a 3)), (2, .ref (a 4)), (3, .int x3), (4, .int x4), (5, .int x5)] [] S) {x3 : Int32} {x4 : Int32} {x5 : Int32} {S : St} (h : FB_X3_findBest_50 N k50 x3 x4 x5 S = some (rr, SS)) : gU D (Wu E a) (aA 49 a) p l e (bRm 5 115) s m args below meth c 6 (qU D below (aA 49 a) (Wu E a SS) rr args s) 50 [(0, .ref (a 3)), (2, .ref (a 4)), (3, .int x3), (4, .int x4), (5, .int x5)] [] S := by
  obtain ⟨hx, hb, hml, hown, hts, hK, hr, hlocks⟩ := id C
  intro H locs hP hS ls hl
  unfold FB_X3_findBest_50 at h
  refine lv_iload (pc := 50) hx hb dX3_findBest_50 (lv_at hl 4 rfl) ?_
  refine lv_bipush (v := 6) (pc := 52) hx hb dX3_findBest_52 (by decide) ?_
  refine lv_icmp_ge (tgt := 96) (pc := 54) hx hb dX3_findBest_54 (by decide) (fun hc => ?_) (fun hc => ?_)
  · have h := if_y hc h
    refine lv_aload_n (pc := 96) hx hb dX3_findBest_96 rfl (lv_at hl 1 rfl) ?_
    refine lv_aload_n (pc := 97) hx hb dX3_findBest_97 rfl (lv_at hl 0 rfl) ?_
    obtain ⟨r1, hr1, h⟩ := bd_some h
    refine r_callR (pc := 98) C hP (c_X3_roomLeft hI N hr1) k_X3_roomLeft wd_415 (q0 := 3) wu3 rfl rfl ⟨Nat.le_of_ble_eq_true rfl, Nat.le_of_ble_eq_true rfl⟩ rfl hl.1 rfl (Nat.le_of_ble_eq_true rfl) dX3_findBest_98 ⟨Nat.zero_le _, Nat.zero_le _⟩ ?_
    refine r_put (pc := 101) (𝓦 := Wu E a) hx hb hts hown hK inB1 tyX1 tyX1_ok nmX1 hP (dU hI _) hS 4 wu4 rfl 2 (by decide) wd_206 rfl (by decide +kernel) (Nat.le_of_ble_eq_true rfl) (wu4p2 _) dX3_findBest_101 (fun H locs S1 eS1 hP hS => ?_)
    have h := bd_y eS1 h
    refine lv_iconst (v := 1) (pc := 104) hx hb dX3_findBest_104 (by decide) ?_
    exact r_retUZ (pc := 105) (𝓦 := Wu E a) C (gd_lit (by decide) h) hP hS dX3_findBest_105
  · have h := if_n hc h
    refine lv_aload_n (pc := 57) hx hb dX3_findBest_57 rfl (lv_at hl 1 rfl) ?_
    refine va_get (pc := 58) (v := .ref (a 28)) hx hb hts inB1 hown hK.1 hP 4 wu4 rfl 0 (by decide) (hts _ wd_200) (fun _ h9 => h9) rfl dX3_findBest_58 ?_
    refine lv_iload (pc := 61) hx hb dX3_findBest_61 (lv_at hl 4 rfl) ?_
    refine lv_aload_n (pc := 63) hx hb dX3_findBest_63 rfl (lv_at hl 0 rfl) ?_
    refine va_get (pc := 64) (v := .int (S 3 5)) hx hb hts inB3 hown hK.1 hP 3 wu3 rfl 5 (by decide) (hts _ wd_156) (fun _ h9 => h9) rfl dX3_findBest_64 ?_
    refine lv_iload (pc := 67) hx hb dX3_findBest_67 (lv_at hl 4 rfl) ?_
    obtain ⟨r2, hr2, h⟩ := bd_some h
    refine r_callSN (pc := 69) (host := RX4) C (c_X4_has hr2) k_X4_has nst_6 ⟨Nat.le_of_ble_eq_true rfl, Nat.le_of_ble_eq_true rfl⟩ rfl hl.1 rfl (Nat.le_of_ble_eq_true rfl) dX3_findBest_69 ⟨Nat.zero_le _, Nat.zero_le _⟩ ?_
    refine lv_if_eq (tgt := 88) (pc := 72) hx hb dX3_findBest_72 (by decide) (fun hc => ?_) (fun hc => ?_)
    · have h := if_y hc h
      refine lv_iconst (v := 0) (pc := 88) hx hb dX3_findBest_88 (by decide) ?_
      obtain ⟨hin, h⟩ := gd_some h
      refine r_ast (pc := 89) (𝓦 := Wu E a) hx hb hK hP (dU hI _) hS 28 wu28 wu28s hin dX3_findBest_89 (fun H locs S2 eS2 hP hS => ?_)
      have h := bd_y eS2 h
      refine lv_iinc (v := (x5 + 1)) (lv' := [(5, .int (x5 + 1)), (0, .ref (a 3)), (2, .ref (a 4)), (3, .int x3), (4, .int x4)]) (pc := 90) hx hb dX3_findBest_90 hl (k := 4) rfl (ii1 _) (by decide) rfl (fun ls hl => ?_)
      refine lv_goto (tgt := 50) (pc := 93) hx hb dX3_findBest_93 (by decide) ?_
      exact hk50 _ _ _ _ h H locs hP hS ls (lv_sub hl [1, 2, 3, 4, 0] rfl)
    · have h := if_n hc h
      refine lv_aload_n (pc := 75) hx hb dX3_findBest_75 rfl (lv_at hl 0 rfl) ?_
      refine lv_iload (pc := 76) hx hb dX3_findBest_76 (lv_at hl 4 rfl) ?_
      refine lv_iload (pc := 78) hx hb dX3_findBest_78 (lv_at hl 3 rfl) ?_
      refine lv_iload_n (pc := 80) hx hb dX3_findBest_80 rfl (lv_at hl 2 rfl) ?_
      refine lv_ior (pc := 81) hx hb dX3_findBest_81 ?_
      obtain ⟨r3, S3, hr3, h⟩ := bd2_some h
      refine r_callU (pc := 82) C hP hS (c_X3_settle hI N hr3) k_X3_settle wd_419 (q0 := 3) wu3 rfl rfl ⟨Nat.le_of_ble_eq_true rfl, Nat.le_of_ble_eq_true rfl⟩ rfl hl.1 rfl (Nat.le_of_ble_eq_true rfl) dX3_findBest_82 ⟨Nat.zero_le _, Nat.zero_le _⟩ (fun H locs hP hS => ?_)
      refine lv_goto (tgt := 89) (pc := 85) hx hb dX3_findBest_85 (by decide) ?_
      obtain ⟨hin, h⟩ := gd_some h
      refine r_ast (pc := 89) (𝓦 := Wu E a) hx hb hK hP (dU hI _) hS 28 wu28 wu28s hin dX3_findBest_89 (fun H locs S4 eS4 hP hS => ?_)
      have h := bd_y eS4 h
      refine lv_iinc (v := (x5 + 1)) (lv' := [(5, .int (x5 + 1)), (0, .ref (a 3)), (2, .ref (a 4)), (3, .int x3), (4, .int x4)]) (pc := 90) hx hb dX3_findBest_90 hl (k := 4) rfl (ii1 _) (by decide) rfl (fun ls hl => ?_)
      refine lv_goto (tgt := 50) (pc := 93) hx hb dX3_findBest_93 (by decide) ?_
      exact hk50 _ _ _ _ h H locs hP hS ls (lv_sub hl [1, 2, 3, 4, 0] rfl)
theorem t_X3_findBest_50 {rr : Int32} {SS : St} (hI : aI 49 a) (N : Nat) (C : bC D E RX3 cX3_findBest 6 (some .boolean) p s m args meth c) {n : Nat} {x3 : Int32} {x4 : Int32} {x5 : Int32} {S : St} (h : lpI (F_X3_findBest_50 N) n (x3, x4, x5, S) = some (rr, SS)) : gU D (Wu E a) (aA 49 a) p l e (bRm 5 115) s m args below meth c 6 (qU D below (aA 49 a) (Wu E a SS) rr args s) 50 [(0, .ref (a 3)), (2, .ref (a 4)), (3, .int x3), (4, .int x4), (5, .int x5)] [] S := by
  exact lpI_ind (P := fun v q => q = (rr, SS) → gU D (Wu E a) (aA 49 a) p l e (bRm 5 115) s m args below meth c 6 (qU D below (aA 49 a) (Wu E a SS) rr args s) 50 [(0, .ref (a 3)), (2, .ref (a 4)), (3, .int v.1), (4, .int v.2.1), (5, .int v.2.2.1)] [] v.2.2.2) (fun k hk v q h9 hq => s_X3_findBest_50 hI N C k (fun x3 x4 x5 S h8 => hk (x3, x4, x5, S) _ h8 rfl) (h9.trans (congrArg some hq))) n (x3, x4, x5, S) _ h rfl
def f_X3_findBest (N : Nat) (x1 : Int32) (S : St) : Option (Int32 × St) :=
  bd (f_X3_askedBy x1) fun r1 => bd (some (31 &&& (r1 ^^^ (-1)))) fun y2 => bd2 (f_X3_leastMusts N y2 S) fun r3 S1 => if r3 = (-6) then (some (0, S1)) else (bd2 (f_X3_room N (S1 3 5) (r3 ||| y2) S1) fun r4 S2 => if r4 = 0 then (some (0, S2)) else (bd (some (sto S2 4 1 r3)) fun S3 => lpI (F_X3_findBest_50 N) N (y2, r3, 0, S3)))
theorem t_X3_findBest_0 {rr : Int32} {SS : St} (hI : aI 49 a) (N : Nat) (C : bC D E RX3 cX3_findBest 6 (some .boolean) p s m args meth c) {x1 : Int32} {S : St} (h : f_X3_findBest N x1 S = some (rr, SS)) : gU D (Wu E a) (aA 49 a) p l e (bRm 5 115) s m args below meth c 6 (qU D below (aA 49 a) (Wu E a SS) rr args s) 0 [(0, .ref (a 3)), (1, .int x1), (2, .ref (a 4))] [] S := by
  obtain ⟨hx, hb, hml, hown, hts, hK, hr, hlocks⟩ := id C
  intro H locs hP hS ls hl
  unfold f_X3_findBest at h
  refine lv_bipush (v := 31) (pc := 0) hx hb dX3_findBest_0 (by decide) ?_
  refine lv_iload_n (pc := 2) hx hb dX3_findBest_2 rfl (lv_at hl 1 rfl) ?_
  obtain ⟨r1, hr1, h⟩ := bd_some h
  refine r_callS (pc := 3) C (c_X3_askedBy hr1) k_X3_askedBy wd_379 ⟨Nat.le_of_ble_eq_true rfl, Nat.le_of_ble_eq_true rfl⟩ rfl hl.1 rfl (Nat.le_of_ble_eq_true rfl) dX3_findBest_3 ⟨Nat.zero_le _, Nat.zero_le _⟩ ?_
  refine lv_iconst (v := (-1)) (pc := 6) hx hb dX3_findBest_6 (by decide) ?_
  refine lv_ixor (pc := 7) hx hb dX3_findBest_7 ?_
  refine lv_iand (pc := 8) hx hb dX3_findBest_8 ?_
  refine lv_topi (fun y2 ey2 => ?_)
  have h := bd_y ey2 h
  refine lv_istore_n (lv' := [(3, .int y2), (0, .ref (a 3)), (1, .int x1), (2, .ref (a 4))]) (pc := 9) hx hb dX3_findBest_9 rfl hl (by decide) rfl (fun ls hl => ?_)
  refine lv_aload_n (pc := 10) hx hb dX3_findBest_10 rfl (lv_at hl 1 rfl) ?_
  refine lv_iload_n (pc := 11) hx hb dX3_findBest_11 rfl (lv_at hl 0 rfl) ?_
  obtain ⟨r3, S1, hr3, h⟩ := bd2_some h
  refine r_callU (pc := 12) C hP hS (c_X3_leastMusts hI N hr3) k_X3_leastMusts wd_390 (q0 := 3) wu3 rfl rfl ⟨Nat.le_of_ble_eq_true rfl, Nat.le_of_ble_eq_true rfl⟩ rfl hl.1 rfl (Nat.le_of_ble_eq_true rfl) dX3_findBest_12 ⟨Nat.zero_le _, Nat.zero_le _⟩ (fun H locs hP hS => ?_)
  refine lv_istore (lv' := [(4, .int r3), (3, .int y2), (0, .ref (a 3)), (1, .int x1), (2, .ref (a 4))]) (pc := 15) hx hb dX3_findBest_15 hl (by decide) rfl (fun ls hl => ?_)
  refine lv_iload (pc := 17) hx hb dX3_findBest_17 (lv_at hl 0 rfl) ?_
  refine lv_bipush (v := (-6)) (pc := 19) hx hb dX3_findBest_19 (by decide) ?_
  refine lv_icmp_eq (tgt := 39) (pc := 21) hx hb dX3_findBest_21 (by decide) (fun hc => ?_) (fun hc => ?_)
  · have h := if_y hc h
    refine lv_iconst (v := 0) (pc := 39) hx hb dX3_findBest_39 (by decide) ?_
    exact r_retUZ (pc := 40) (𝓦 := Wu E a) C (gd_lit (by decide) h) hP hS dX3_findBest_40
  · have h := if_n hc h
    refine lv_aload_n (pc := 24) hx hb dX3_findBest_24 rfl (lv_at hl 2 rfl) ?_
    refine lv_aload_n (pc := 25) hx hb dX3_findBest_25 rfl (lv_at hl 2 rfl) ?_
    refine va_get (pc := 26) (v := .int (S1 3 5)) hx hb hts inB3 hown hK.1 hP 3 wu3 rfl 5 (by decide) (hts _ wd_156) (fun _ h9 => h9) rfl dX3_findBest_26 ?_
    refine lv_iload (pc := 29) hx hb dX3_findBest_29 (lv_at hl 0 rfl) ?_
    refine lv_iload_n (pc := 31) hx hb dX3_findBest_31 rfl (lv_at hl 1 rfl) ?_
    refine lv_ior (pc := 32) hx hb dX3_findBest_32 ?_
    obtain ⟨r4, S2, hr4, h⟩ := bd2_some h
    refine r_callU (pc := 33) C hP hS (c_X3_room hI N hr4) k_X3_room wd_400 (q0 := 3) wu3 rfl rfl ⟨Nat.le_of_ble_eq_true rfl, Nat.le_of_ble_eq_true rfl⟩ rfl hl.1 rfl (Nat.le_of_ble_eq_true rfl) dX3_findBest_33 ⟨Nat.zero_le _, Nat.zero_le _⟩ (fun H locs hP hS => ?_)
    refine lv_if_ne (tgt := 41) (pc := 36) hx hb dX3_findBest_36 (by decide) (fun hc => ?_) (fun hc => ?_)
    · have h := if_n hc h
      refine lv_aload_n (pc := 41) hx hb dX3_findBest_41 rfl (lv_at hl 4 rfl) ?_
      refine lv_iload (pc := 42) hx hb dX3_findBest_42 (lv_at hl 0 rfl) ?_
      refine r_put (pc := 44) (𝓦 := Wu E a) hx hb hts hown hK inB1 tyX1 tyX1_ok nmX1 hP (dU hI _) hS 4 wu4 rfl 1 (by decide) wd_203 rfl (by decide +kernel) (Nat.le_of_ble_eq_true rfl) (wu4p1 _) dX3_findBest_44 (fun H locs S3 eS3 hP hS => ?_)
      have h := bd_y eS3 h
      refine lv_iconst (v := 0) (pc := 47) hx hb dX3_findBest_47 (by decide) ?_
      refine lv_istore (lv' := [(5, .int 0), (4, .int r3), (3, .int y2), (0, .ref (a 3)), (1, .int x1), (2, .ref (a 4))]) (pc := 48) hx hb dX3_findBest_48 hl (by decide) rfl (fun ls hl => ?_)
      exact t_X3_findBest_50 hI N C h H locs hP hS ls (lv_sub hl [3, 5, 2, 1, 0] rfl)
    · have h := if_y hc h
      refine lv_iconst (v := 0) (pc := 39) hx hb dX3_findBest_39 (by decide) ?_
      exact r_retUZ (pc := 40) (𝓦 := Wu E a) C (gd_lit (by decide) h) hP hS dX3_findBest_40
theorem c_X3_findBest {l : Launch} {D : va_G} {E : bE} {a : Nat → Nat} (hI : aI 49 a) (N : Nat) {rr : Int32} {S : St} {SS : St} {x1 : Int32} (h : f_X3_findBest N x1 S = some (rr, SS)) : cU l D E yX3_findBest cX3_findBest 6 (some .boolean) 5 115 (aA 49 a) (Wu E a S) (Wu E a SS) [.ref (a 3), .int x1, .ref (a 4)] rr := cU_of (by decide) (Nat.le_of_ble_eq_true rfl) (fun p e s m args below meth c C => t_X3_findBest_0 hI N C h)
