variable {p : Program} {l : Launch} {e : Env} {s : State} {m : MethodId} {args : Array Value} {below : List Frame} {meth : Method} {c : Code} {D : va_G} {E : bE} {a : Nat → Nat}
/-! X3_tie -/
def f_X3_tie (N : Nat) (x1 : Int32) (x2 : Int32) (S : St) : Option (St) :=
  bd (f_X4_use (S 2 9) x1) fun r1 => gd (ix r1 36) (bd (some (sto S 21 (Int32.toNatClampNeg r1) x2)) fun S1 => bd (f_X3_spread N S1) fun S2 => some S2)
theorem t_X3_tie_0 {SS : St} (hI : aI 49 a) (N : Nat) (C : bC D E RX3 cX3_tie 3 none p s m args meth c) {x1 : Int32} {x2 : Int32} {S : St} (h : f_X3_tie N x1 x2 S = some SS) : gU D (Wu E a) (aA 49 a) p l e (bRm 3 69) s m args below meth c 3 (qV D below (aA 49 a) (Wu E a SS) args s) 0 [(0, .ref (a 3)), (1, .int x1), (2, .int x2)] [] S := by
  obtain ⟨hx, hb, hml, hown, hts, hK, hr, hlocks⟩ := id C
  intro H locs hP hS ls hl
  unfold f_X3_tie at h
  refine lv_aload_n (pc := 0) hx hb dX3_tie_0 rfl (lv_at hl 0 rfl) ?_
  refine va_get (pc := 1) (v := .ref (a 21)) hx hb hts inB3 hown hK.1 hP 3 wu3 rfl 6 (by decide) (hts _ wd_158) (fun _ h9 => h9) rfl dX3_tie_1 ?_
  refine lv_aload_n (pc := 4) hx hb dX3_tie_4 rfl (lv_at hl 0 rfl) ?_
  refine va_get (pc := 5) (v := .ref (a 2)) hx hb hts inB3 hown hK.1 hP 3 wu3 rfl 0 (by decide) (hts _ wd_146) (fun _ h9 => h9) rfl dX3_tie_5 ?_
  refine va_get (pc := 8) (v := .int (S 2 9)) hx hb hts inB0 hown hK.1 hP 2 wu2 rfl 9 (by decide) (hts _ wd_119) (fun _ h9 => h9) rfl dX3_tie_8 ?_
  refine lv_iload_n (pc := 11) hx hb dX3_tie_11 rfl (lv_at hl 1 rfl) ?_
  obtain ⟨r1, hr1, h⟩ := bd_some h
  refine r_callSN (pc := 12) (host := RX4) C (c_X4_use hr1) k_X4_use nst_7 ⟨Nat.le_of_ble_eq_true rfl, Nat.le_of_ble_eq_true rfl⟩ rfl hl.1 rfl (Nat.le_of_ble_eq_true rfl) dX3_tie_12 ⟨Nat.zero_le _, Nat.zero_le _⟩ ?_
  refine lv_iload_n (pc := 15) hx hb dX3_tie_15 rfl (lv_at hl 2 rfl) ?_
  obtain ⟨hin, h⟩ := gd_some h
  refine r_ast (pc := 16) (𝓦 := Wu E a) hx hb hK hP (dU hI _) hS 21 wu21 wu21s hin dX3_tie_16 (fun H locs S1 eS1 hP hS => ?_)
  have h := bd_y eS1 h
  refine lv_aload_n (pc := 17) hx hb dX3_tie_17 rfl (lv_at hl 0 rfl) ?_
  obtain ⟨S2, hS2, h⟩ := bd_some h
  refine r_callV (pc := 18) C hP hS (c_X3_spread hI N hS2) k_X3_spread wd_339 (q0 := 3) wu3 rfl rfl ⟨Nat.le_of_ble_eq_true rfl, Nat.le_of_ble_eq_true rfl⟩ rfl hl.1 rfl (Nat.le_of_ble_eq_true rfl) dX3_tie_18 ⟨Nat.zero_le _, Nat.zero_le _⟩ (fun H locs hP hS => ?_)
  exact r_retV (pc := 21) (𝓦 := Wu E a) C h hP hS dX3_tie_21
theorem c_X3_tie {l : Launch} {D : va_G} {E : bE} {a : Nat → Nat} (hI : aI 49 a) (N : Nat) {S : St} {SS : St} {x1 : Int32} {x2 : Int32} (h : f_X3_tie N x1 x2 S = some SS) : cV l D E yX3_tie cX3_tie 3 3 69 (aA 49 a) (Wu E a S) (Wu E a SS) [.ref (a 3), .int x1, .int x2] := cV_of (by decide) (Nat.le_of_ble_eq_true rfl) (fun p e s m args below meth c C => t_X3_tie_0 hI N C h)
/-! X4_more -/
def f_X4_more (N : Nat) (x1 : Int32) (x2 : Int32) (x3 : Int32) (S : St) : Option (Int32 × St) :=
  bd (f_X4_within x1 0 ((S 2 9) - 1)) fun r1 => if r1 = 0 then (some ((-1), S)) else (bd (f_X4_within x2 0 3) fun r2 => if r2 = 0 then (some ((-2), S)) else (bd (f_X4_within x3 0 2) fun r3 => if r3 = 0 then (some ((-2), S)) else (bd (f_X4_use (S 2 9) x1) fun r4 => gd (ix r4 36) (if (S 17 (Int32.toNatClampNeg r4)) = (-6) then (bd (f_X3_spin N S) fun S1 => bd2 (f_X3_findBest N x3 S1) fun r5 S2 => if r5 = 0 then (some ((-6), S2)) else (bd (some (S2 4 1)) fun y6 => bd (f_X3_tie N x1 x2 S2) fun S3 => bd2 (f_X3_findBest N x3 S3) fun r7 S4 => if r7 = 0 then (some ((-6), S4)) else (some (((S4 4 1) &&& (y6 ^^^ (-1))), S4)))) else (some ((-3), S))))))
theorem t_X4_more_0 {rr : Int32} {SS : St} (hI : aI 49 a) (N : Nat) (C : bC D E RX4 cX4_more 5 (some .int) p s m args meth c) {x1 : Int32} {x2 : Int32} {x3 : Int32} {S : St} (h : f_X4_more N x1 x2 x3 S = some (rr, SS)) : gU D (Wu E a) (aA 49 a) p l e (bRm 6 140) s m args below meth c 5 (qU D below (aA 49 a) (Wu E a SS) rr args s) 0 [(0, .ref (a 0)), (1, .int x1), (2, .int x2), (3, .int x3)] [] S := by
  obtain ⟨hx, hb, hml, hown, hts, hK, hr, hlocks⟩ := id C
  intro H locs hP hS ls hl
  unfold f_X4_more at h
  refine lv_iload_n (pc := 0) hx hb dX4_more_0 rfl (lv_at hl 1 rfl) ?_
  refine lv_iconst (v := 0) (pc := 1) hx hb dX4_more_1 (by decide) ?_
  refine lv_aload_n (pc := 2) hx hb dX4_more_2 rfl (lv_at hl 0 rfl) ?_
  refine va_get (pc := 3) (v := .ref (a 2)) hx hb hts inB4 hown hK.1 hP 0 wu0 rfl 2 (by decide) (hts _ wd_219) (fun _ h9 => h9) rfl dX4_more_3 ?_
  refine va_get (pc := 6) (v := .int (S 2 9)) hx hb hts inB0 hown hK.1 hP 2 wu2 rfl 9 (by decide) (hts _ wd_120) (fun _ h9 => h9) rfl dX4_more_6 ?_
  refine lv_iconst (v := 1) (pc := 9) hx hb dX4_more_9 (by decide) ?_
  refine lv_isub (pc := 10) hx hb dX4_more_10 ?_
  obtain ⟨r1, hr1, h⟩ := bd_some h
  refine r_callS (pc := 11) C (c_X4_within hr1) k_X4_within wd_244 ⟨Nat.le_of_ble_eq_true rfl, Nat.le_of_ble_eq_true rfl⟩ rfl hl.1 rfl (Nat.le_of_ble_eq_true rfl) dX4_more_11 ⟨Nat.zero_le _, Nat.zero_le _⟩ ?_
  refine lv_if_ne (tgt := 19) (pc := 14) hx hb dX4_more_14 (by decide) (fun hc => ?_) (fun hc => ?_)
  · have h := if_n hc h
    refine lv_iload_n (pc := 19) hx hb dX4_more_19 rfl (lv_at hl 2 rfl) ?_
    refine lv_iconst (v := 0) (pc := 20) hx hb dX4_more_20 (by decide) ?_
    refine lv_iconst (v := 3) (pc := 21) hx hb dX4_more_21 (by decide) ?_
    obtain ⟨r2, hr2, h⟩ := bd_some h
    refine r_callS (pc := 22) C (c_X4_within hr2) k_X4_within wd_244 ⟨Nat.le_of_ble_eq_true rfl, Nat.le_of_ble_eq_true rfl⟩ rfl hl.1 rfl (Nat.le_of_ble_eq_true rfl) dX4_more_22 ⟨Nat.zero_le _, Nat.zero_le _⟩ ?_
    refine lv_if_eq (tgt := 37) (pc := 25) hx hb dX4_more_25 (by decide) (fun hc => ?_) (fun hc => ?_)
    · have h := if_y hc h
      refine lv_bipush (v := (-2)) (pc := 37) hx hb dX4_more_37 (by decide) ?_
      exact r_retU (pc := 39) (𝓦 := Wu E a) C h hP hS dX4_more_39
    · have h := if_n hc h
      refine lv_iload_n (pc := 28) hx hb dX4_more_28 rfl (lv_at hl 3 rfl) ?_
      refine lv_iconst (v := 0) (pc := 29) hx hb dX4_more_29 (by decide) ?_
      refine lv_iconst (v := 2) (pc := 30) hx hb dX4_more_30 (by decide) ?_
      obtain ⟨r3, hr3, h⟩ := bd_some h
      refine r_callS (pc := 31) C (c_X4_within hr3) k_X4_within wd_244 ⟨Nat.le_of_ble_eq_true rfl, Nat.le_of_ble_eq_true rfl⟩ rfl hl.1 rfl (Nat.le_of_ble_eq_true rfl) dX4_more_31 ⟨Nat.zero_le _, Nat.zero_le _⟩ ?_
      refine lv_if_ne (tgt := 40) (pc := 34) hx hb dX4_more_34 (by decide) (fun hc => ?_) (fun hc => ?_)
      · have h := if_n hc h
        refine lv_aload_n (pc := 40) hx hb dX4_more_40 rfl (lv_at hl 0 rfl) ?_
        refine va_get (pc := 41) (v := .ref (a 2)) hx hb hts inB4 hown hK.1 hP 0 wu0 rfl 2 (by decide) (hts _ wd_219) (fun _ h9 => h9) rfl dX4_more_41 ?_
        refine va_get (pc := 44) (v := .ref (a 17)) hx hb hts inB0 hown hK.1 hP 2 wu2 rfl 8 (by decide) (hts _ wd_117) (fun _ h9 => h9) rfl dX4_more_44 ?_
        refine lv_aload_n (pc := 47) hx hb dX4_more_47 rfl (lv_at hl 0 rfl) ?_
        refine va_get (pc := 48) (v := .ref (a 2)) hx hb hts inB4 hown hK.1 hP 0 wu0 rfl 2 (by decide) (hts _ wd_219) (fun _ h9 => h9) rfl dX4_more_48 ?_
        refine va_get (pc := 51) (v := .int (S 2 9)) hx hb hts inB0 hown hK.1 hP 2 wu2 rfl 9 (by decide) (hts _ wd_120) (fun _ h9 => h9) rfl dX4_more_51 ?_
        refine lv_iload_n (pc := 54) hx hb dX4_more_54 rfl (lv_at hl 1 rfl) ?_
        obtain ⟨r4, hr4, h⟩ := bd_some h
        refine r_callS (pc := 55) C (c_X4_use hr4) k_X4_use wd_305 ⟨Nat.le_of_ble_eq_true rfl, Nat.le_of_ble_eq_true rfl⟩ rfl hl.1 rfl (Nat.le_of_ble_eq_true rfl) dX4_more_55 ⟨Nat.zero_le _, Nat.zero_le _⟩ ?_
        obtain ⟨hin, h⟩ := gd_some h
        refine r_ald (pc := 58) hx hb hK hP 17 wu17 hin dX4_more_58 ?_
        refine lv_bipush (v := (-6)) (pc := 59) hx hb dX4_more_59 (by decide) ?_
        refine lv_icmp_eq (tgt := 67) (pc := 61) hx hb dX4_more_61 (by decide) (fun hc => ?_) (fun hc => ?_)
        · have h := if_y hc h
          refine lv_aload_n (pc := 67) hx hb dX4_more_67 rfl (lv_at hl 0 rfl) ?_
          refine va_get (pc := 68) (v := .ref (a 3)) hx hb hts inB4 hown hK.1 hP 0 wu0 rfl 1 (by decide) (hts _ wd_218) (fun _ h9 => h9) rfl dX4_more_68 ?_
          obtain ⟨S1, hS1, h⟩ := bd_some h
          refine r_callV (pc := 71) C hP hS (c_X3_spin hI N hS1) k_X3_spin wd_331 (q0 := 3) wu3 rfl rfl ⟨Nat.le_of_ble_eq_true rfl, Nat.le_of_ble_eq_true rfl⟩ rfl hl.1 rfl (Nat.le_of_ble_eq_true rfl) dX4_more_71 ⟨Nat.zero_le _, Nat.zero_le _⟩ (fun H locs hP hS => ?_)
          refine lv_aload_n (pc := 74) hx hb dX4_more_74 rfl (lv_at hl 0 rfl) ?_
          refine va_get (pc := 75) (v := .ref (a 3)) hx hb hts inB4 hown hK.1 hP 0 wu0 rfl 1 (by decide) (hts _ wd_218) (fun _ h9 => h9) rfl dX4_more_75 ?_
          refine lv_iload_n (pc := 78) hx hb dX4_more_78 rfl (lv_at hl 3 rfl) ?_
          refine lv_aload_n (pc := 79) hx hb dX4_more_79 rfl (lv_at hl 0 rfl) ?_
          refine va_get (pc := 80) (v := .ref (a 4)) hx hb hts inB4 hown hK.1 hP 0 wu0 rfl 3 (by decide) (hts _ wd_220) (fun _ h9 => h9) rfl dX4_more_80 ?_
          obtain ⟨r5, S2, hr5, h⟩ := bd2_some h
          refine r_callU (pc := 83) C hP hS (c_X3_findBest hI N hr5) k_X3_findBest wd_386 (q0 := 3) wu3 rfl rfl ⟨Nat.le_of_ble_eq_true rfl, Nat.le_of_ble_eq_true rfl⟩ rfl hl.1 rfl (Nat.le_of_ble_eq_true rfl) dX4_more_83 ⟨Nat.zero_le _, Nat.zero_le _⟩ (fun H locs hP hS => ?_)
          refine lv_if_ne (tgt := 92) (pc := 86) hx hb dX4_more_86 (by decide) (fun hc => ?_) (fun hc => ?_)
          · have h := if_n hc h
            refine lv_aload_n (pc := 92) hx hb dX4_more_92 rfl (lv_at hl 0 rfl) ?_
            refine va_get (pc := 93) (v := .ref (a 4)) hx hb hts inB4 hown hK.1 hP 0 wu0 rfl 3 (by decide) (hts _ wd_220) (fun _ h9 => h9) rfl dX4_more_93 ?_
            refine va_get (pc := 96) (v := .int (S2 4 1)) hx hb hts inB1 hown hK.1 hP 4 wu4 rfl 1 (by decide) (hts _ wd_202) (fun _ h9 => h9) rfl dX4_more_96 ?_
            refine lv_topi (fun y6 ey6 => ?_)
            have h := bd_y ey6 h
            refine lv_istore (lv' := [(4, .int y6), (0, .ref (a 0)), (1, .int x1), (2, .int x2), (3, .int x3)]) (pc := 99) hx hb dX4_more_99 hl (by decide) rfl (fun ls hl => ?_)
            refine lv_aload_n (pc := 101) hx hb dX4_more_101 rfl (lv_at hl 1 rfl) ?_
            refine va_get (pc := 102) (v := .ref (a 3)) hx hb hts inB4 hown hK.1 hP 0 wu0 rfl 1 (by decide) (hts _ wd_218) (fun _ h9 => h9) rfl dX4_more_102 ?_
            refine lv_iload_n (pc := 105) hx hb dX4_more_105 rfl (lv_at hl 2 rfl) ?_
            refine lv_iload_n (pc := 106) hx hb dX4_more_106 rfl (lv_at hl 3 rfl) ?_
            obtain ⟨S3, hS3, h⟩ := bd_some h
            refine r_callV (pc := 107) C hP hS (c_X3_tie hI N hS3) k_X3_tie wd_485 (q0 := 3) wu3 rfl rfl ⟨Nat.le_of_ble_eq_true rfl, Nat.le_of_ble_eq_true rfl⟩ rfl hl.1 rfl (Nat.le_of_ble_eq_true rfl) dX4_more_107 ⟨Nat.zero_le _, Nat.zero_le _⟩ (fun H locs hP hS => ?_)
            refine lv_aload_n (pc := 110) hx hb dX4_more_110 rfl (lv_at hl 1 rfl) ?_
            refine va_get (pc := 111) (v := .ref (a 3)) hx hb hts inB4 hown hK.1 hP 0 wu0 rfl 1 (by decide) (hts _ wd_218) (fun _ h9 => h9) rfl dX4_more_111 ?_
            refine lv_iload_n (pc := 114) hx hb dX4_more_114 rfl (lv_at hl 4 rfl) ?_
            refine lv_aload_n (pc := 115) hx hb dX4_more_115 rfl (lv_at hl 1 rfl) ?_
            refine va_get (pc := 116) (v := .ref (a 4)) hx hb hts inB4 hown hK.1 hP 0 wu0 rfl 3 (by decide) (hts _ wd_220) (fun _ h9 => h9) rfl dX4_more_116 ?_
            obtain ⟨r7, S4, hr7, h⟩ := bd2_some h
            refine r_callU (pc := 119) C hP hS (c_X3_findBest hI N hr7) k_X3_findBest wd_386 (q0 := 3) wu3 rfl rfl ⟨Nat.le_of_ble_eq_true rfl, Nat.le_of_ble_eq_true rfl⟩ rfl hl.1 rfl (Nat.le_of_ble_eq_true rfl) dX4_more_119 ⟨Nat.zero_le _, Nat.zero_le _⟩ (fun H locs hP hS => ?_)
            refine lv_if_eq (tgt := 140) (pc := 122) hx hb dX4_more_122 (by decide) (fun hc => ?_) (fun hc => ?_)
            · have h := if_y hc h
              refine lv_bipush (v := (-6)) (pc := 140) hx hb dX4_more_140 (by decide) ?_
              exact r_retU (pc := 142) (𝓦 := Wu E a) C h hP hS dX4_more_142
            · have h := if_n hc h
              refine lv_aload_n (pc := 125) hx hb dX4_more_125 rfl (lv_at hl 1 rfl) ?_
              refine va_get (pc := 126) (v := .ref (a 4)) hx hb hts inB4 hown hK.1 hP 0 wu0 rfl 3 (by decide) (hts _ wd_220) (fun _ h9 => h9) rfl dX4_more_126 ?_
              refine va_get (pc := 129) (v := .int (S4 4 1)) hx hb hts inB1 hown hK.1 hP 4 wu4 rfl 1 (by decide) (hts _ wd_202) (fun _ h9 => h9) rfl dX4_more_129 ?_
              refine lv_iload (pc := 132) hx hb dX4_more_132 (lv_at hl 0 rfl) ?_
              refine lv_iconst (v := (-1)) (pc := 134) hx hb dX4_more_134 (by decide) ?_
              refine lv_ixor (pc := 135) hx hb dX4_more_135 ?_
              refine lv_iand (pc := 136) hx hb dX4_more_136 ?_
              refine lv_goto (tgt := 142) (pc := 137) hx hb dX4_more_137 (by decide) ?_
              exact r_retU (pc := 142) (𝓦 := Wu E a) C h hP hS dX4_more_142
          · have h := if_y hc h
            refine lv_bipush (v := (-6)) (pc := 89) hx hb dX4_more_89 (by decide) ?_
            exact r_retU (pc := 91) (𝓦 := Wu E a) C h hP hS dX4_more_91
        · have h := if_n hc h
          refine lv_bipush (v := (-3)) (pc := 64) hx hb dX4_more_64 (by decide) ?_
          exact r_retU (pc := 66) (𝓦 := Wu E a) C h hP hS dX4_more_66
      · have h := if_y hc h
        refine lv_bipush (v := (-2)) (pc := 37) hx hb dX4_more_37 (by decide) ?_
        exact r_retU (pc := 39) (𝓦 := Wu E a) C h hP hS dX4_more_39
  · have h := if_y hc h
    refine lv_iconst (v := (-1)) (pc := 17) hx hb dX4_more_17 (by decide) ?_
    exact r_retU (pc := 18) (𝓦 := Wu E a) C h hP hS dX4_more_18
theorem c_X4_more {l : Launch} {D : va_G} {E : bE} {a : Nat → Nat} (hI : aI 49 a) (N : Nat) {rr : Int32} {S : St} {SS : St} {x1 : Int32} {x2 : Int32} {x3 : Int32} (h : f_X4_more N x1 x2 x3 S = some (rr, SS)) : cU l D E yX4_more cX4_more 5 (some .int) 6 140 (aA 49 a) (Wu E a S) (Wu E a SS) [.ref (a 0), .int x1, .int x2, .int x3] rr := cU_of (by decide) (Nat.le_of_ble_eq_true rfl) (fun p e s m args below meth c C => t_X4_more_0 hI N C h)
/-! X4_countNamed -/
def B_X4_countNamed_73 (N : Nat) (k17 : Int32 × Int32 × St → Option (St)) (k32 : Int32 × Int32 × Int32 × St → Option (St)) (x1 : Int32) (x2 : Int32) (x3 : Int32) (z0 : Int32) (S : St) : Option (St) :=
  if z0 = 0 then (k32 (x1, x2, (x3 + 1), S)) else (gd (ix x3 6) (bd (f_X4_has (S 15 (Int32.toNatClampNeg x3)) x2) fun r1 => if r1 = 0 then (k32 (x1, x2, (x3 + 1), S)) else (gd (ix x2 6) (gd (ix x2 6) (bd (some (sto S 7 (Int32.toNatClampNeg x2) ((S 7 (Int32.toNatClampNeg x2)) + 1))) fun S1 => k32 (x1, x2, (x3 + 1), S1))))))
theorem t_X4_countNamed_73 {SS : St} (hI : aI 49 a) (N : Nat) (C : bC D E RX4 cX4_countNamed 5 none p s m args meth c) (k17 : Int32 × Int32 × St → Option (St)) (hk17 : ∀ (x1 : Int32) (x2 : Int32) (S : St), k17 (x1, x2, S) = some SS → gU D (Wu E a) (aA 49 a) p l e (bRm 3 66) s m args below meth c 5 (qV D below (aA 49 a) (Wu E a SS) args s) 17 [(0, .ref (a 0)), (1, .int x1), (2, .int x2)] [] S) (k32 : Int32 × Int32 × Int32 × St → Option (St)) (hk32 : ∀ (x1 : Int32) (x2 : Int32) (x3 : Int32) (S : St), k32 (x1, x2, x3, S) = some SS → gU D (Wu E a) (aA 49 a) p l e (bRm 3 66) s m args below meth c 5 (qV D below (aA 49 a) (Wu E a SS) args s) 32 [(0, .ref (a 0)), (1, .int x1), (2, .int x2), (3, .int x3)] [] S) {x1 : Int32} {x2 : Int32} {x3 : Int32} {z0 : Int32} {S : St} (h : B_X4_countNamed_73 N k17 k32 x1 x2 x3 z0 S = some SS) : gU D (Wu E a) (aA 49 a) p l e (bRm 3 66) s m args below meth c 5 (qV D below (aA 49 a) (Wu E a SS) args s) 73 [(0, .ref (a 0)), (1, .int x1), (2, .int x2), (3, .int x3)] [.int z0] S := by
  obtain ⟨hx, hb, hml, hown, hts, hK, hr, hlocks⟩ := id C
  intro H locs hP hS ls hl
  unfold B_X4_countNamed_73 at h
  refine lv_istore (lv' := [(4, .int z0), (0, .ref (a 0)), (1, .int x1), (2, .int x2), (3, .int x3)]) (pc := 73) hx hb dX4_countNamed_73 hl (by decide) rfl (fun ls hl => ?_)
  refine lv_iload (pc := 75) hx hb dX4_countNamed_75 (lv_at hl 0 rfl) ?_
  refine lv_if_eq (tgt := 106) (pc := 77) hx hb dX4_countNamed_77 (by decide) (fun hc => ?_) (fun hc => ?_)
  · have h := if_y hc h
    refine lv_iinc (v := (x3 + 1)) (lv' := [(3, .int (x3 + 1)), (4, .int z0), (0, .ref (a 0)), (1, .int x1), (2, .int x2)]) (pc := 106) hx hb dX4_countNamed_106 hl (k := 4) rfl (ii1 _) (by decide) rfl (fun ls hl => ?_)
    refine lv_goto (tgt := 32) (pc := 109) hx hb dX4_countNamed_109 (by decide) ?_
    exact hk32 _ _ _ _ h H locs hP hS ls (lv_sub hl [2, 3, 4, 0] rfl)
  · have h := if_n hc h
    refine lv_aload_n (pc := 80) hx hb dX4_countNamed_80 rfl (lv_at hl 1 rfl) ?_
    refine va_get (pc := 81) (v := .ref (a 2)) hx hb hts inB4 hown hK.1 hP 0 wu0 rfl 2 (by decide) (hts _ wd_219) (fun _ h9 => h9) rfl dX4_countNamed_81 ?_
    refine va_get (pc := 84) (v := .ref (a 15)) hx hb hts inB0 hown hK.1 hP 2 wu2 rfl 6 (by decide) (hts _ wd_112) (fun _ h9 => h9) rfl dX4_countNamed_84 ?_
    refine lv_iload_n (pc := 87) hx hb dX4_countNamed_87 rfl (lv_at hl 4 rfl) ?_
    obtain ⟨hin, h⟩ := gd_some h
    refine r_ald (pc := 88) hx hb hK hP 15 wu15 hin dX4_countNamed_88 ?_
    refine lv_iload_n (pc := 89) hx hb dX4_countNamed_89 rfl (lv_at hl 3 rfl) ?_
    obtain ⟨r1, hr1, h⟩ := bd_some h
    refine r_callS (pc := 90) C (c_X4_has hr1) k_X4_has wd_366 ⟨Nat.le_of_ble_eq_true rfl, Nat.le_of_ble_eq_true rfl⟩ rfl hl.1 rfl (Nat.le_of_ble_eq_true rfl) dX4_countNamed_90 ⟨Nat.zero_le _, Nat.zero_le _⟩ ?_
    refine lv_if_eq (tgt := 106) (pc := 93) hx hb dX4_countNamed_93 (by decide) (fun hc => ?_) (fun hc => ?_)
    · have h := if_y hc h
      refine lv_iinc (v := (x3 + 1)) (lv' := [(3, .int (x3 + 1)), (4, .int z0), (0, .ref (a 0)), (1, .int x1), (2, .int x2)]) (pc := 106) hx hb dX4_countNamed_106 hl (k := 4) rfl (ii1 _) (by decide) rfl (fun ls hl => ?_)
      refine lv_goto (tgt := 32) (pc := 109) hx hb dX4_countNamed_109 (by decide) ?_
      exact hk32 _ _ _ _ h H locs hP hS ls (lv_sub hl [2, 3, 4, 0] rfl)
    · have h := if_n hc h
      refine lv_aload_n (pc := 96) hx hb dX4_countNamed_96 rfl (lv_at hl 1 rfl) ?_
      refine va_get (pc := 97) (v := .ref (a 7)) hx hb hts inB4 hown hK.1 hP 0 wu0 rfl 6 (by decide) (hts _ wd_223) (fun _ h9 => h9) rfl dX4_countNamed_97 ?_
      refine lv_iload_n (pc := 100) hx hb dX4_countNamed_100 rfl (lv_at hl 3 rfl) ?_
      refine lv_dup2_11 (pc := 101) hx hb dX4_countNamed_101 rfl rfl ?_
      obtain ⟨hin, h⟩ := gd_some h
      refine r_ald (pc := 102) hx hb hK hP 7 wu7 hin dX4_countNamed_102 ?_
      refine lv_iconst (v := 1) (pc := 103) hx hb dX4_countNamed_103 (by decide) ?_
      refine lv_iadd (pc := 104) hx hb dX4_countNamed_104 ?_
      obtain ⟨hin, h⟩ := gd_some h
      refine r_ast (pc := 105) (𝓦 := Wu E a) hx hb hK hP (dU hI _) hS 7 wu7 wu7s hin dX4_countNamed_105 (fun H locs S1 eS1 hP hS => ?_)
      have h := bd_y eS1 h
      refine lv_iinc (v := (x3 + 1)) (lv' := [(3, .int (x3 + 1)), (4, .int z0), (0, .ref (a 0)), (1, .int x1), (2, .int x2)]) (pc := 106) hx hb dX4_countNamed_106 hl (k := 4) rfl (ii1 _) (by decide) rfl (fun ls hl => ?_)
      refine lv_goto (tgt := 32) (pc := 109) hx hb dX4_countNamed_109 (by decide) ?_
      exact hk32 _ _ _ _ h H locs hP hS ls (lv_sub hl [2, 3, 4, 0] rfl)
def FB_X4_countNamed_32 (N : Nat) (k17 : Int32 × Int32 × St → Option (St)) (k32 : Int32 × Int32 × Int32 × St → Option (St)) (x1 : Int32) (x2 : Int32) (x3 : Int32) (S : St) : Option (St) :=
  if 6 ≤ x3 then (k17 (x1, (x2 + 1), S)) else (bd (f_X4_has x1 x3) fun r1 => if r1 = 0 then (B_X4_countNamed_73 N k17 k32 x1 x2 x3 0 S) else (gd (ix x3 6) (gd (ix (S 28 (Int32.toNatClampNeg x3)) 5) (if ((S 9 (Int32.toNatClampNeg (S 28 (Int32.toNatClampNeg x3)))) &&& 1) = 0 then (B_X4_countNamed_73 N k17 k32 x1 x2 x3 0 S) else (B_X4_countNamed_73 N k17 k32 x1 x2 x3 1 S)))))
def F_X4_countNamed_32 (N : Nat) (k17 : Int32 × Int32 × St → Option (St)) (k32 : Int32 × Int32 × Int32 × St → Option (St)) (v : Int32 × Int32 × Int32 × St) : Option (St) := FB_X4_countNamed_32 N k17 k32 v.1 v.2.1 v.2.2.1 v.2.2.2
theorem s_X4_countNamed_32 {SS : St} (hI : aI 49 a) (N : Nat) (C : bC D E RX4 cX4_countNamed 5 none p s m args meth c) (k17 : Int32 × Int32 × St → Option (St)) (hk17 : ∀ (x1 : Int32) (x2 : Int32) (S : St), k17 (x1, x2, S) = some SS → gU D (Wu E a) (aA 49 a) p l e (bRm 3 66) s m args below meth c 5 (qV D below (aA 49 a) (Wu E a SS) args s) 17 [(0, .ref (a 0)), (1, .int x1), (2, .int x2)] [] S) (k32 : Int32 × Int32 × Int32 × St → Option (St)) (hk32 : ∀ (x1 : Int32) (x2 : Int32) (x3 : Int32) (S : St), k32 (x1, x2, x3, S) = some SS → gU D (Wu E a) (aA 49 a) p l e (bRm 3 66) s m args below meth c 5 (qV D below (aA 49 a) (Wu E a SS) args s) 32 [(0, .ref (a 0)), (1, .int x1), (2, .int x2), (3, .int x3)] [] S) {x1 : Int32} {x2 : Int32} {x3 : Int32} {S : St} (h : FB_X4_countNamed_32 N k17 k32 x1 x2 x3 S = some SS) : gU D (Wu E a) (aA 49 a) p l e (bRm 3 66) s m args below meth c 5 (qV D below (aA 49 a) (Wu E a SS) args s) 32 [(0, .ref (a 0)), (1, .int x1), (2, .int x2), (3, .int x3)] [] S := by
  obtain ⟨hx, hb, hml, hown, hts, hK, hr, hlocks⟩ := id C
  intro H locs hP hS ls hl
  unfold FB_X4_countNamed_32 at h
  refine lv_iload_n (pc := 32) hx hb dX4_countNamed_32 rfl (lv_at hl 3 rfl) ?_
  refine lv_bipush (v := 6) (pc := 33) hx hb dX4_countNamed_33 (by decide) ?_
  refine lv_icmp_ge (tgt := 112) (pc := 35) hx hb dX4_countNamed_35 (by decide) (fun hc => ?_) (fun hc => ?_)
  · have h := if_y hc h
    refine lv_iinc (v := (x2 + 1)) (lv' := [(2, .int (x2 + 1)), (0, .ref (a 0)), (1, .int x1), (3, .int x3)]) (pc := 112) hx hb dX4_countNamed_112 hl (k := 2) rfl (ii1 _) (by decide) rfl (fun ls hl => ?_)
    refine lv_goto (tgt := 17) (pc := 115) hx hb dX4_countNamed_115 (by decide) ?_
    exact hk17 _ _ _ h H locs hP hS ls (lv_sub hl [1, 2, 0] rfl)
  · have h := if_n hc h
    refine lv_iload_n (pc := 38) hx hb dX4_countNamed_38 rfl (lv_at hl 1 rfl) ?_
    refine lv_iload_n (pc := 39) hx hb dX4_countNamed_39 rfl (lv_at hl 3 rfl) ?_
    obtain ⟨r1, hr1, h⟩ := bd_some h
    refine r_callS (pc := 40) C (c_X4_has hr1) k_X4_has wd_366 ⟨Nat.le_of_ble_eq_true rfl, Nat.le_of_ble_eq_true rfl⟩ rfl hl.1 rfl (Nat.le_of_ble_eq_true rfl) dX4_countNamed_40 ⟨Nat.zero_le _, Nat.zero_le _⟩ ?_
    refine lv_if_eq (tgt := 72) (pc := 43) hx hb dX4_countNamed_43 (by decide) (fun hc => ?_) (fun hc => ?_)
    · have h := if_y hc h
      refine lv_iconst (v := 0) (pc := 72) hx hb dX4_countNamed_72 (by decide) ?_
      exact t_X4_countNamed_73 hI N C k17 hk17 k32 hk32 h H locs hP hS ls (lv_sub hl [0, 1, 2, 3] rfl)
    · have h := if_n hc h
      refine lv_aload_n (pc := 46) hx hb dX4_countNamed_46 rfl (lv_at hl 0 rfl) ?_
      refine va_get (pc := 47) (v := .ref (a 2)) hx hb hts inB4 hown hK.1 hP 0 wu0 rfl 2 (by decide) (hts _ wd_219) (fun _ h9 => h9) rfl dX4_countNamed_47 ?_
      refine va_get (pc := 50) (v := .ref (a 9)) hx hb hts inB0 hown hK.1 hP 2 wu2 rfl 0 (by decide) (hts _ wd_97) (fun _ h9 => h9) rfl dX4_countNamed_50 ?_
      refine lv_aload_n (pc := 53) hx hb dX4_countNamed_53 rfl (lv_at hl 0 rfl) ?_
      refine va_get (pc := 54) (v := .ref (a 4)) hx hb hts inB4 hown hK.1 hP 0 wu0 rfl 3 (by decide) (hts _ wd_220) (fun _ h9 => h9) rfl dX4_countNamed_54 ?_
      refine va_get (pc := 57) (v := .ref (a 28)) hx hb hts inB1 hown hK.1 hP 4 wu4 rfl 0 (by decide) (hts _ wd_199) (fun _ h9 => h9) rfl dX4_countNamed_57 ?_
      refine lv_iload_n (pc := 60) hx hb dX4_countNamed_60 rfl (lv_at hl 3 rfl) ?_
      obtain ⟨hin, h⟩ := gd_some h
      refine r_ald (pc := 61) hx hb hK hP 28 wu28 hin dX4_countNamed_61 ?_
      obtain ⟨hin, h⟩ := gd_some h
      refine r_ald (pc := 62) hx hb hK hP 9 wu9 hin dX4_countNamed_62 ?_
      refine lv_iconst (v := 1) (pc := 63) hx hb dX4_countNamed_63 (by decide) ?_
      refine lv_iand (pc := 64) hx hb dX4_countNamed_64 ?_
      refine lv_if_eq (tgt := 72) (pc := 65) hx hb dX4_countNamed_65 (by decide) (fun hc => ?_) (fun hc => ?_)
      · have h := if_y hc h
        refine lv_iconst (v := 0) (pc := 72) hx hb dX4_countNamed_72 (by decide) ?_
        exact t_X4_countNamed_73 hI N C k17 hk17 k32 hk32 h H locs hP hS ls (lv_sub hl [0, 1, 2, 3] rfl)
      · have h := if_n hc h
        refine lv_iconst (v := 1) (pc := 68) hx hb dX4_countNamed_68 (by decide) ?_
        refine lv_goto (tgt := 73) (pc := 69) hx hb dX4_countNamed_69 (by decide) ?_
        exact t_X4_countNamed_73 hI N C k17 hk17 k32 hk32 h H locs hP hS ls (lv_sub hl [0, 1, 2, 3] rfl)
theorem t_X4_countNamed_32 {SS : St} (hI : aI 49 a) (N : Nat) (C : bC D E RX4 cX4_countNamed 5 none p s m args meth c) (k17 : Int32 × Int32 × St → Option (St)) (hk17 : ∀ (x1 : Int32) (x2 : Int32) (S : St), k17 (x1, x2, S) = some SS → gU D (Wu E a) (aA 49 a) p l e (bRm 3 66) s m args below meth c 5 (qV D below (aA 49 a) (Wu E a SS) args s) 17 [(0, .ref (a 0)), (1, .int x1), (2, .int x2)] [] S) {n : Nat} {x1 : Int32} {x2 : Int32} {x3 : Int32} {S : St} (h : lpI (F_X4_countNamed_32 N k17) n (x1, x2, x3, S) = some SS) : gU D (Wu E a) (aA 49 a) p l e (bRm 3 66) s m args below meth c 5 (qV D below (aA 49 a) (Wu E a SS) args s) 32 [(0, .ref (a 0)), (1, .int x1), (2, .int x2), (3, .int x3)] [] S := by
  exact lpI_ind (P := fun v q => q = SS → gU D (Wu E a) (aA 49 a) p l e (bRm 3 66) s m args below meth c 5 (qV D below (aA 49 a) (Wu E a SS) args s) 32 [(0, .ref (a 0)), (1, .int v.1), (2, .int v.2.1), (3, .int v.2.2.1)] [] v.2.2.2) (fun k hk v q h9 hq => s_X4_countNamed_32 hI N C k17 hk17 k (fun x1 x2 x3 S h8 => hk (x1, x2, x3, S) _ h8 rfl) (h9.trans (congrArg some hq))) n (x1, x2, x3, S) _ h rfl
def FB_X4_countNamed_17 (N : Nat) (k17 : Int32 × Int32 × St → Option (St)) (x1 : Int32) (x2 : Int32) (S : St) : Option (St) :=
  if 6 ≤ x2 then (some S) else (gd (ix x2 6) (bd (some (sto S 7 (Int32.toNatClampNeg x2) 0)) fun S1 => lpI (F_X4_countNamed_32 N k17) N (x1, x2, 0, S1)))
def F_X4_countNamed_17 (N : Nat) (k17 : Int32 × Int32 × St → Option (St)) (v : Int32 × Int32 × St) : Option (St) := FB_X4_countNamed_17 N k17 v.1 v.2.1 v.2.2
theorem s_X4_countNamed_17 {SS : St} (hI : aI 49 a) (N : Nat) (C : bC D E RX4 cX4_countNamed 5 none p s m args meth c) (k17 : Int32 × Int32 × St → Option (St)) (hk17 : ∀ (x1 : Int32) (x2 : Int32) (S : St), k17 (x1, x2, S) = some SS → gU D (Wu E a) (aA 49 a) p l e (bRm 3 66) s m args below meth c 5 (qV D below (aA 49 a) (Wu E a SS) args s) 17 [(0, .ref (a 0)), (1, .int x1), (2, .int x2)] [] S) {x1 : Int32} {x2 : Int32} {S : St} (h : FB_X4_countNamed_17 N k17 x1 x2 S = some SS) : gU D (Wu E a) (aA 49 a) p l e (bRm 3 66) s m args below meth c 5 (qV D below (aA 49 a) (Wu E a SS) args s) 17 [(0, .ref (a 0)), (1, .int x1), (2, .int x2)] [] S := by
  obtain ⟨hx, hb, hml, hown, hts, hK, hr, hlocks⟩ := id C
  intro H locs hP hS ls hl
  unfold FB_X4_countNamed_17 at h
  refine lv_iload_n (pc := 17) hx hb dX4_countNamed_17 rfl (lv_at hl 2 rfl) ?_
  refine lv_bipush (v := 6) (pc := 18) hx hb dX4_countNamed_18 (by decide) ?_
  refine lv_icmp_ge (tgt := 118) (pc := 20) hx hb dX4_countNamed_20 (by decide) (fun hc => ?_) (fun hc => ?_)
  · have h := if_y hc h
    exact r_retV (pc := 118) (𝓦 := Wu E a) C h hP hS dX4_countNamed_118
  · have h := if_n hc h
    refine lv_aload_n (pc := 23) hx hb dX4_countNamed_23 rfl (lv_at hl 0 rfl) ?_
    refine va_get (pc := 24) (v := .ref (a 7)) hx hb hts inB4 hown hK.1 hP 0 wu0 rfl 6 (by decide) (hts _ wd_223) (fun _ h9 => h9) rfl dX4_countNamed_24 ?_
    refine lv_iload_n (pc := 27) hx hb dX4_countNamed_27 rfl (lv_at hl 2 rfl) ?_
    refine lv_iconst (v := 0) (pc := 28) hx hb dX4_countNamed_28 (by decide) ?_
    obtain ⟨hin, h⟩ := gd_some h
    refine r_ast (pc := 29) (𝓦 := Wu E a) hx hb hK hP (dU hI _) hS 7 wu7 wu7s hin dX4_countNamed_29 (fun H locs S1 eS1 hP hS => ?_)
    have h := bd_y eS1 h
    refine lv_iconst (v := 0) (pc := 30) hx hb dX4_countNamed_30 (by decide) ?_
    refine lv_istore_n (lv' := [(3, .int 0), (0, .ref (a 0)), (1, .int x1), (2, .int x2)]) (pc := 31) hx hb dX4_countNamed_31 rfl hl (by decide) rfl (fun ls hl => ?_)
    exact t_X4_countNamed_32 hI N C k17 hk17 h H locs hP hS ls (lv_sub hl [1, 2, 3, 0] rfl)
theorem t_X4_countNamed_17 {SS : St} (hI : aI 49 a) (N : Nat) (C : bC D E RX4 cX4_countNamed 5 none p s m args meth c) {n : Nat} {x1 : Int32} {x2 : Int32} {S : St} (h : lpI (F_X4_countNamed_17 N) n (x1, x2, S) = some SS) : gU D (Wu E a) (aA 49 a) p l e (bRm 3 66) s m args below meth c 5 (qV D below (aA 49 a) (Wu E a SS) args s) 17 [(0, .ref (a 0)), (1, .int x1), (2, .int x2)] [] S := by
  exact lpI_ind (P := fun v q => q = SS → gU D (Wu E a) (aA 49 a) p l e (bRm 3 66) s m args below meth c 5 (qV D below (aA 49 a) (Wu E a SS) args s) 17 [(0, .ref (a 0)), (1, .int v.1), (2, .int v.2.1)] [] v.2.2) (fun k hk v q h9 hq => s_X4_countNamed_17 hI N C k (fun x1 x2 S h8 => hk (x1, x2, S) _ h8 rfl) (h9.trans (congrArg some hq))) n (x1, x2, S) _ h rfl
def f_X4_countNamed (N : Nat) (S : St) : Option (St) :=
  bd (f_X3_reachingBy N S) fun r1 => lpI (F_X4_countNamed_17 N) N (r1, 0, S)
theorem t_X4_countNamed_0 {SS : St} (hI : aI 49 a) (N : Nat) (C : bC D E RX4 cX4_countNamed 5 none p s m args meth c) {S : St} (h : f_X4_countNamed N S = some SS) : gU D (Wu E a) (aA 49 a) p l e (bRm 3 66) s m args below meth c 5 (qV D below (aA 49 a) (Wu E a SS) args s) 0 [(0, .ref (a 0))] [] S := by
  obtain ⟨hx, hb, hml, hown, hts, hK, hr, hlocks⟩ := id C
  intro H locs hP hS ls hl
  unfold f_X4_countNamed at h
  refine lv_aload_n (pc := 0) hx hb dX4_countNamed_0 rfl (lv_at hl 0 rfl) ?_
  refine va_get (pc := 1) (v := .ref (a 3)) hx hb hts inB4 hown hK.1 hP 0 wu0 rfl 1 (by decide) (hts _ wd_218) (fun _ h9 => h9) rfl dX4_countNamed_1 ?_
  refine lv_aload_n (pc := 4) hx hb dX4_countNamed_4 rfl (lv_at hl 0 rfl) ?_
  refine va_get (pc := 5) (v := .ref (a 4)) hx hb hts inB4 hown hK.1 hP 0 wu0 rfl 3 (by decide) (hts _ wd_220) (fun _ h9 => h9) rfl dX4_countNamed_5 ?_
  refine va_get (pc := 8) (v := .ref (a 28)) hx hb hts inB1 hown hK.1 hP 4 wu4 rfl 0 (by decide) (hts _ wd_199) (fun _ h9 => h9) rfl dX4_countNamed_8 ?_
  obtain ⟨r1, hr1, h⟩ := bd_some h
  refine r_callR (pc := 11) C hP (c_X3_reachingBy hI N hr1) k_X3_reachingBy wd_367 (q0 := 3) wu3 rfl rfl ⟨Nat.le_of_ble_eq_true rfl, Nat.le_of_ble_eq_true rfl⟩ rfl hl.1 rfl (Nat.le_of_ble_eq_true rfl) dX4_countNamed_11 ⟨Nat.zero_le _, Nat.zero_le _⟩ ?_
  refine lv_istore_n (lv' := [(1, .int r1), (0, .ref (a 0))]) (pc := 14) hx hb dX4_countNamed_14 rfl hl (by decide) rfl (fun ls hl => ?_)
  refine lv_iconst (v := 0) (pc := 15) hx hb dX4_countNamed_15 (by decide) ?_
  refine lv_istore_n (lv' := [(2, .int 0), (1, .int r1), (0, .ref (a 0))]) (pc := 16) hx hb dX4_countNamed_16 rfl hl (by decide) rfl (fun ls hl => ?_)
  exact t_X4_countNamed_17 hI N C h H locs hP hS ls (lv_sub hl [2, 1, 0] rfl)
theorem c_X4_countNamed {l : Launch} {D : va_G} {E : bE} {a : Nat → Nat} (hI : aI 49 a) (N : Nat) {S : St} {SS : St} (h : f_X4_countNamed N S = some SS) : cV l D E yX4_countNamed cX4_countNamed 5 3 66 (aA 49 a) (Wu E a S) (Wu E a SS) [.ref (a 0)] := cV_of (by decide) (Nat.le_of_ble_eq_true rfl) (fun p e s m args below meth c C => t_X4_countNamed_0 hI N C h)
/-! X4_namedInAll -/
def FB_X4_namedInAll_4 (N : Nat) (S : St) (k4 : Int32 × Int32 → Option (Int32)) (x1 : Int32) (x2 : Int32) : Option (Int32) :=
  if 6 ≤ x2 then (some x1) else (gd (ix x2 6) (if (S 7 (Int32.toNatClampNeg x2)) ≤ 0 then (k4 (x1, (x2 + 1))) else (k4 ((x1 + 1), (x2 + 1)))))
def F_X4_namedInAll_4 (N : Nat) (S : St) (k4 : Int32 × Int32 → Option (Int32)) (v : Int32 × Int32) : Option (Int32) := FB_X4_namedInAll_4 N S k4 v.1 v.2
theorem s_X4_namedInAll_4 {rr : Int32} (hI : aI 49 a) (N : Nat) (C : bC D E RX4 cX4_namedInAll 3 (some .int) p s m args meth c) {S : St} (hP : va_P D vwCl (Wu E a S) s.heap) (k4 : Int32 × Int32 → Option (Int32)) (hk4 : ∀ (x1 : Int32) (x2 : Int32), k4 (x1, x2) = some rr → gR p l e (bRm 0 0) s m args below meth c 3 (qS below rr args s) 4 [(0, .ref (a 0)), (1, .int x1), (2, .int x2)] []) {x1 : Int32} {x2 : Int32} (h : FB_X4_namedInAll_4 N S k4 x1 x2 = some rr) : gR p l e (bRm 0 0) s m args below meth c 3 (qS below rr args s) 4 [(0, .ref (a 0)), (1, .int x1), (2, .int x2)] [] := by
  obtain ⟨hx, hb, hml, hown, hts, hK, hr, hlocks⟩ := id C
  intro ls hl
  unfold FB_X4_namedInAll_4 at h
  refine lv_iload_n (pc := 4) hx hb dX4_namedInAll_4 rfl (lv_at hl 2 rfl) ?_
  refine lv_bipush (v := 6) (pc := 5) hx hb dX4_namedInAll_5 (by decide) ?_
  refine lv_icmp_ge (tgt := 28) (pc := 7) hx hb dX4_namedInAll_7 (by decide) (fun hc => ?_) (fun hc => ?_)
  · have h := if_y hc h
    refine lv_iload_n (pc := 28) hx hb dX4_namedInAll_28 rfl (lv_at hl 1 rfl) ?_
    exact r_retS (pc := 29) C h dX4_namedInAll_29
  · have h := if_n hc h
    refine lv_aload_n (pc := 10) hx hb dX4_namedInAll_10 rfl (lv_at hl 0 rfl) ?_
    refine va_get (pc := 11) (v := .ref (a 7)) hx hb hts inB4 hown hK.1 hP 0 wu0 rfl 6 (by decide) (hts _ wd_223) (fun _ h9 => h9) rfl dX4_namedInAll_11 ?_
    refine lv_iload_n (pc := 14) hx hb dX4_namedInAll_14 rfl (lv_at hl 2 rfl) ?_
    obtain ⟨hin, h⟩ := gd_some h
    refine r_ald (pc := 15) hx hb hK hP 7 wu7 hin dX4_namedInAll_15 ?_
    refine lv_if_le (tgt := 22) (pc := 16) hx hb dX4_namedInAll_16 (by decide) (fun hc => ?_) (fun hc => ?_)
    · have h := if_y hc h
      refine lv_iinc (v := (x2 + 1)) (lv' := [(2, .int (x2 + 1)), (0, .ref (a 0)), (1, .int x1)]) (pc := 22) hx hb dX4_namedInAll_22 hl (k := 2) rfl (ii1 _) (by decide) rfl (fun ls hl => ?_)
      refine lv_goto (tgt := 4) (pc := 25) hx hb dX4_namedInAll_25 (by decide) ?_
      exact hk4 _ _ h ls (lv_sub hl [1, 2, 0] rfl)
    · have h := if_n hc h
      refine lv_iinc (v := (x1 + 1)) (lv' := [(1, .int (x1 + 1)), (0, .ref (a 0)), (2, .int x2)]) (pc := 19) hx hb dX4_namedInAll_19 hl (k := 1) rfl (ii1 _) (by decide) rfl (fun ls hl => ?_)
      refine lv_iinc (v := (x2 + 1)) (lv' := [(2, .int (x2 + 1)), (1, .int (x1 + 1)), (0, .ref (a 0))]) (pc := 22) hx hb dX4_namedInAll_22 hl (k := 2) rfl (ii1 _) (by decide) rfl (fun ls hl => ?_)
      refine lv_goto (tgt := 4) (pc := 25) hx hb dX4_namedInAll_25 (by decide) ?_
      exact hk4 _ _ h ls (lv_sub hl [2, 1, 0] rfl)
theorem t_X4_namedInAll_4 {rr : Int32} (hI : aI 49 a) (N : Nat) (C : bC D E RX4 cX4_namedInAll 3 (some .int) p s m args meth c) {S : St} (hP : va_P D vwCl (Wu E a S) s.heap) {n : Nat} {x1 : Int32} {x2 : Int32} (h : lpI (F_X4_namedInAll_4 N S) n (x1, x2) = some rr) : gR p l e (bRm 0 0) s m args below meth c 3 (qS below rr args s) 4 [(0, .ref (a 0)), (1, .int x1), (2, .int x2)] [] := by
  exact lpI_ind (P := fun v q => q = rr → gR p l e (bRm 0 0) s m args below meth c 3 (qS below rr args s) 4 [(0, .ref (a 0)), (1, .int v.1), (2, .int v.2)] []) (fun k hk v q h9 hq => s_X4_namedInAll_4 hI N C hP k (fun x1 x2 h8 => hk (x1, x2) _ h8 rfl) (h9.trans (congrArg some hq))) n (x1, x2) _ h rfl
def f_X4_namedInAll (N : Nat) (S : St) : Option (Int32) :=
  lpI (F_X4_namedInAll_4 N S) N (0, 0)
theorem t_X4_namedInAll_0 {rr : Int32} (hI : aI 49 a) (N : Nat) (C : bC D E RX4 cX4_namedInAll 3 (some .int) p s m args meth c) {S : St} (hP : va_P D vwCl (Wu E a S) s.heap) (h : f_X4_namedInAll N S = some rr) : gR p l e (bRm 0 0) s m args below meth c 3 (qS below rr args s) 0 [(0, .ref (a 0))] [] := by
  obtain ⟨hx, hb, hml, hown, hts, hK, hr, hlocks⟩ := id C
  intro ls hl
  unfold f_X4_namedInAll at h
  refine lv_iconst (v := 0) (pc := 0) hx hb dX4_namedInAll_0 (by decide) ?_
  refine lv_istore_n (lv' := [(1, .int 0), (0, .ref (a 0))]) (pc := 1) hx hb dX4_namedInAll_1 rfl hl (by decide) rfl (fun ls hl => ?_)
  refine lv_iconst (v := 0) (pc := 2) hx hb dX4_namedInAll_2 (by decide) ?_
  refine lv_istore_n (lv' := [(2, .int 0), (1, .int 0), (0, .ref (a 0))]) (pc := 3) hx hb dX4_namedInAll_3 rfl hl (by decide) rfl (fun ls hl => ?_)
  exact t_X4_namedInAll_4 hI N C hP h ls (lv_sub hl [2, 1, 0] rfl)
theorem c_X4_namedInAll {l : Launch} {D : va_G} {E : bE} {a : Nat → Nat} (hI : aI 49 a) (N : Nat) {rr : Int32} {S : St} (h : f_X4_namedInAll N S = some rr) : cR l D E yX4_namedInAll cX4_namedInAll 3 (some .int) 0 0 (Wu E a S) [.ref (a 0)] rr := cR_of (by decide) (Nat.le_of_ble_eq_true rfl) (fun p e s m args below meth c C hP => t_X4_namedInAll_0 hI N C hP h)
/-! X4_namedAhead -/
def FB_X4_namedAhead_4 (N : Nat) (S : St) (k4 : Int32 × Int32 × Int32 → Option (Int32)) (x1 : Int32) (x2 : Int32) (x3 : Int32) : Option (Int32) :=
  if 6 ≤ x3 then (some x2) else (gd (ix x3 6) (gd (ix x1 6) (if (S 7 (Int32.toNatClampNeg x1)) < (S 7 (Int32.toNatClampNeg x3)) then (k4 (x1, (x2 + 1), (x3 + 1))) else (gd (ix x3 6) (gd (ix x1 6) (if (S 7 (Int32.toNatClampNeg x3)) = (S 7 (Int32.toNatClampNeg x1)) then (if x1 ≤ x3 then (k4 (x1, x2, (x3 + 1))) else (k4 (x1, (x2 + 1), (x3 + 1)))) else (k4 (x1, x2, (x3 + 1)))))))))
def F_X4_namedAhead_4 (N : Nat) (S : St) (k4 : Int32 × Int32 × Int32 → Option (Int32)) (v : Int32 × Int32 × Int32) : Option (Int32) := FB_X4_namedAhead_4 N S k4 v.1 v.2.1 v.2.2
theorem s_X4_namedAhead_4 {rr : Int32} (hI : aI 49 a) (N : Nat) (C : bC D E RX4 cX4_namedAhead 4 (some .int) p s m args meth c) {S : St} (hP : va_P D vwCl (Wu E a S) s.heap) (k4 : Int32 × Int32 × Int32 → Option (Int32)) (hk4 : ∀ (x1 : Int32) (x2 : Int32) (x3 : Int32), k4 (x1, x2, x3) = some rr → gR p l e (bRm 0 0) s m args below meth c 4 (qS below rr args s) 4 [(0, .ref (a 0)), (1, .int x1), (2, .int x2), (3, .int x3)] []) {x1 : Int32} {x2 : Int32} {x3 : Int32} (h : FB_X4_namedAhead_4 N S k4 x1 x2 x3 = some rr) : gR p l e (bRm 0 0) s m args below meth c 4 (qS below rr args s) 4 [(0, .ref (a 0)), (1, .int x1), (2, .int x2), (3, .int x3)] [] := by
  obtain ⟨hx, hb, hml, hown, hts, hK, hr, hlocks⟩ := id C
  intro ls hl
  unfold FB_X4_namedAhead_4 at h
  refine lv_iload_n (pc := 4) hx hb dX4_namedAhead_4 rfl (lv_at hl 3 rfl) ?_
  refine lv_bipush (v := 6) (pc := 5) hx hb dX4_namedAhead_5 (by decide) ?_
  refine lv_icmp_ge (tgt := 54) (pc := 7) hx hb dX4_namedAhead_7 (by decide) (fun hc => ?_) (fun hc => ?_)
  · have h := if_y hc h
    refine lv_iload_n (pc := 54) hx hb dX4_namedAhead_54 rfl (lv_at hl 2 rfl) ?_
    exact r_retS (pc := 55) C h dX4_namedAhead_55
  · have h := if_n hc h
    refine lv_aload_n (pc := 10) hx hb dX4_namedAhead_10 rfl (lv_at hl 0 rfl) ?_
    refine va_get (pc := 11) (v := .ref (a 7)) hx hb hts inB4 hown hK.1 hP 0 wu0 rfl 6 (by decide) (hts _ wd_223) (fun _ h9 => h9) rfl dX4_namedAhead_11 ?_
    refine lv_iload_n (pc := 14) hx hb dX4_namedAhead_14 rfl (lv_at hl 3 rfl) ?_
    obtain ⟨hin, h⟩ := gd_some h
    refine r_ald (pc := 15) hx hb hK hP 7 wu7 hin dX4_namedAhead_15 ?_
    refine lv_aload_n (pc := 16) hx hb dX4_namedAhead_16 rfl (lv_at hl 0 rfl) ?_
    refine va_get (pc := 17) (v := .ref (a 7)) hx hb hts inB4 hown hK.1 hP 0 wu0 rfl 6 (by decide) (hts _ wd_223) (fun _ h9 => h9) rfl dX4_namedAhead_17 ?_
    refine lv_iload_n (pc := 20) hx hb dX4_namedAhead_20 rfl (lv_at hl 1 rfl) ?_
    obtain ⟨hin, h⟩ := gd_some h
    refine r_ald (pc := 21) hx hb hK hP 7 wu7 hin dX4_namedAhead_21 ?_
    refine lv_icmp_gt (tgt := 45) (pc := 22) hx hb dX4_namedAhead_22 (by decide) (fun hc => ?_) (fun hc => ?_)
    · have h := if_y hc h
      refine lv_iinc (v := (x2 + 1)) (lv' := [(2, .int (x2 + 1)), (0, .ref (a 0)), (1, .int x1), (3, .int x3)]) (pc := 45) hx hb dX4_namedAhead_45 hl (k := 2) rfl (ii1 _) (by decide) rfl (fun ls hl => ?_)
      refine lv_iinc (v := (x3 + 1)) (lv' := [(3, .int (x3 + 1)), (2, .int (x2 + 1)), (0, .ref (a 0)), (1, .int x1)]) (pc := 48) hx hb dX4_namedAhead_48 hl (k := 3) rfl (ii1 _) (by decide) rfl (fun ls hl => ?_)
      refine lv_goto (tgt := 4) (pc := 51) hx hb dX4_namedAhead_51 (by decide) ?_
      exact hk4 _ _ _ h ls (lv_sub hl [2, 3, 1, 0] rfl)
    · have h := if_n hc h
      refine lv_aload_n (pc := 25) hx hb dX4_namedAhead_25 rfl (lv_at hl 0 rfl) ?_
      refine va_get (pc := 26) (v := .ref (a 7)) hx hb hts inB4 hown hK.1 hP 0 wu0 rfl 6 (by decide) (hts _ wd_223) (fun _ h9 => h9) rfl dX4_namedAhead_26 ?_
      refine lv_iload_n (pc := 29) hx hb dX4_namedAhead_29 rfl (lv_at hl 3 rfl) ?_
      obtain ⟨hin, h⟩ := gd_some h
      refine r_ald (pc := 30) hx hb hK hP 7 wu7 hin dX4_namedAhead_30 ?_
      refine lv_aload_n (pc := 31) hx hb dX4_namedAhead_31 rfl (lv_at hl 0 rfl) ?_
      refine va_get (pc := 32) (v := .ref (a 7)) hx hb hts inB4 hown hK.1 hP 0 wu0 rfl 6 (by decide) (hts _ wd_223) (fun _ h9 => h9) rfl dX4_namedAhead_32 ?_
      refine lv_iload_n (pc := 35) hx hb dX4_namedAhead_35 rfl (lv_at hl 1 rfl) ?_
      obtain ⟨hin, h⟩ := gd_some h
      refine r_ald (pc := 36) hx hb hK hP 7 wu7 hin dX4_namedAhead_36 ?_
      refine lv_icmp_ne (tgt := 48) (pc := 37) hx hb dX4_namedAhead_37 (by decide) (fun hc => ?_) (fun hc => ?_)
      · have h := if_n hc h
        refine lv_iinc (v := (x3 + 1)) (lv' := [(3, .int (x3 + 1)), (0, .ref (a 0)), (1, .int x1), (2, .int x2)]) (pc := 48) hx hb dX4_namedAhead_48 hl (k := 3) rfl (ii1 _) (by decide) rfl (fun ls hl => ?_)
        refine lv_goto (tgt := 4) (pc := 51) hx hb dX4_namedAhead_51 (by decide) ?_
        exact hk4 _ _ _ h ls (lv_sub hl [1, 2, 3, 0] rfl)
      · have h := if_y hc h
        refine lv_iload_n (pc := 40) hx hb dX4_namedAhead_40 rfl (lv_at hl 3 rfl) ?_
        refine lv_iload_n (pc := 41) hx hb dX4_namedAhead_41 rfl (lv_at hl 1 rfl) ?_
        refine lv_icmp_ge (tgt := 48) (pc := 42) hx hb dX4_namedAhead_42 (by decide) (fun hc => ?_) (fun hc => ?_)
        · have h := if_y hc h
          refine lv_iinc (v := (x3 + 1)) (lv' := [(3, .int (x3 + 1)), (0, .ref (a 0)), (1, .int x1), (2, .int x2)]) (pc := 48) hx hb dX4_namedAhead_48 hl (k := 3) rfl (ii1 _) (by decide) rfl (fun ls hl => ?_)
          refine lv_goto (tgt := 4) (pc := 51) hx hb dX4_namedAhead_51 (by decide) ?_
          exact hk4 _ _ _ h ls (lv_sub hl [1, 2, 3, 0] rfl)
        · have h := if_n hc h
          refine lv_iinc (v := (x2 + 1)) (lv' := [(2, .int (x2 + 1)), (0, .ref (a 0)), (1, .int x1), (3, .int x3)]) (pc := 45) hx hb dX4_namedAhead_45 hl (k := 2) rfl (ii1 _) (by decide) rfl (fun ls hl => ?_)
          refine lv_iinc (v := (x3 + 1)) (lv' := [(3, .int (x3 + 1)), (2, .int (x2 + 1)), (0, .ref (a 0)), (1, .int x1)]) (pc := 48) hx hb dX4_namedAhead_48 hl (k := 3) rfl (ii1 _) (by decide) rfl (fun ls hl => ?_)
          refine lv_goto (tgt := 4) (pc := 51) hx hb dX4_namedAhead_51 (by decide) ?_
          exact hk4 _ _ _ h ls (lv_sub hl [2, 3, 1, 0] rfl)
theorem t_X4_namedAhead_4 {rr : Int32} (hI : aI 49 a) (N : Nat) (C : bC D E RX4 cX4_namedAhead 4 (some .int) p s m args meth c) {S : St} (hP : va_P D vwCl (Wu E a S) s.heap) {n : Nat} {x1 : Int32} {x2 : Int32} {x3 : Int32} (h : lpI (F_X4_namedAhead_4 N S) n (x1, x2, x3) = some rr) : gR p l e (bRm 0 0) s m args below meth c 4 (qS below rr args s) 4 [(0, .ref (a 0)), (1, .int x1), (2, .int x2), (3, .int x3)] [] := by
  exact lpI_ind (P := fun v q => q = rr → gR p l e (bRm 0 0) s m args below meth c 4 (qS below rr args s) 4 [(0, .ref (a 0)), (1, .int v.1), (2, .int v.2.1), (3, .int v.2.2)] []) (fun k hk v q h9 hq => s_X4_namedAhead_4 hI N C hP k (fun x1 x2 x3 h8 => hk (x1, x2, x3) _ h8 rfl) (h9.trans (congrArg some hq))) n (x1, x2, x3) _ h rfl
def f_X4_namedAhead (N : Nat) (x1 : Int32) (S : St) : Option (Int32) :=
  lpI (F_X4_namedAhead_4 N S) N (x1, 0, 0)
theorem t_X4_namedAhead_0 {rr : Int32} (hI : aI 49 a) (N : Nat) (C : bC D E RX4 cX4_namedAhead 4 (some .int) p s m args meth c) {S : St} (hP : va_P D vwCl (Wu E a S) s.heap) {x1 : Int32} (h : f_X4_namedAhead N x1 S = some rr) : gR p l e (bRm 0 0) s m args below meth c 4 (qS below rr args s) 0 [(0, .ref (a 0)), (1, .int x1)] [] := by
  obtain ⟨hx, hb, hml, hown, hts, hK, hr, hlocks⟩ := id C
  intro ls hl
  unfold f_X4_namedAhead at h
  refine lv_iconst (v := 0) (pc := 0) hx hb dX4_namedAhead_0 (by decide) ?_
  refine lv_istore_n (lv' := [(2, .int 0), (0, .ref (a 0)), (1, .int x1)]) (pc := 1) hx hb dX4_namedAhead_1 rfl hl (by decide) rfl (fun ls hl => ?_)
  refine lv_iconst (v := 0) (pc := 2) hx hb dX4_namedAhead_2 (by decide) ?_
  refine lv_istore_n (lv' := [(3, .int 0), (2, .int 0), (0, .ref (a 0)), (1, .int x1)]) (pc := 3) hx hb dX4_namedAhead_3 rfl hl (by decide) rfl (fun ls hl => ?_)
  exact t_X4_namedAhead_4 hI N C hP h ls (lv_sub hl [2, 3, 1, 0] rfl)
theorem c_X4_namedAhead {l : Launch} {D : va_G} {E : bE} {a : Nat → Nat} (hI : aI 49 a) (N : Nat) {rr : Int32} {S : St} {x1 : Int32} (h : f_X4_namedAhead N x1 S = some rr) : cR l D E yX4_namedAhead cX4_namedAhead 4 (some .int) 0 0 (Wu E a S) [.ref (a 0), .int x1] rr := cR_of (by decide) (Nat.le_of_ble_eq_true rfl) (fun p e s m args below meth c C hP => t_X4_namedAhead_0 hI N C hP h)
/-! X4_namedAt -/
def FB_X4_namedAt_2 (N : Nat) (S : St) (k2 : Int32 × Int32 → Option (Int32)) (x1 : Int32) (x2 : Int32) : Option (Int32) :=
  if 6 ≤ x2 then (some (-6)) else (gd (ix x2 6) (if (S 7 (Int32.toNatClampNeg x2)) ≤ 0 then (k2 (x1, (x2 + 1))) else (bd (f_X4_namedAhead N x2 S) fun r1 => if r1 = x1 then (some x2) else (k2 (x1, (x2 + 1))))))
def F_X4_namedAt_2 (N : Nat) (S : St) (k2 : Int32 × Int32 → Option (Int32)) (v : Int32 × Int32) : Option (Int32) := FB_X4_namedAt_2 N S k2 v.1 v.2
theorem s_X4_namedAt_2 {rr : Int32} (hI : aI 49 a) (N : Nat) (C : bC D E RX4 cX4_namedAt 3 (some .int) p s m args meth c) {S : St} (hP : va_P D vwCl (Wu E a S) s.heap) (k2 : Int32 × Int32 → Option (Int32)) (hk2 : ∀ (x1 : Int32) (x2 : Int32), k2 (x1, x2) = some rr → gR p l e (bRm 1 23) s m args below meth c 3 (qS below rr args s) 2 [(0, .ref (a 0)), (1, .int x1), (2, .int x2)] []) {x1 : Int32} {x2 : Int32} (h : FB_X4_namedAt_2 N S k2 x1 x2 = some rr) : gR p l e (bRm 1 23) s m args below meth c 3 (qS below rr args s) 2 [(0, .ref (a 0)), (1, .int x1), (2, .int x2)] [] := by
  obtain ⟨hx, hb, hml, hown, hts, hK, hr, hlocks⟩ := id C
  intro ls hl
  unfold FB_X4_namedAt_2 at h
  refine lv_iload_n (pc := 2) hx hb dX4_namedAt_2 rfl (lv_at hl 2 rfl) ?_
  refine lv_bipush (v := 6) (pc := 3) hx hb dX4_namedAt_3 (by decide) ?_
  refine lv_icmp_ge (tgt := 34) (pc := 5) hx hb dX4_namedAt_5 (by decide) (fun hc => ?_) (fun hc => ?_)
  · have h := if_y hc h
    refine lv_bipush (v := (-6)) (pc := 34) hx hb dX4_namedAt_34 (by decide) ?_
    exact r_retS (pc := 36) C h dX4_namedAt_36
  · have h := if_n hc h
    refine lv_aload_n (pc := 8) hx hb dX4_namedAt_8 rfl (lv_at hl 0 rfl) ?_
    refine va_get (pc := 9) (v := .ref (a 7)) hx hb hts inB4 hown hK.1 hP 0 wu0 rfl 6 (by decide) (hts _ wd_223) (fun _ h9 => h9) rfl dX4_namedAt_9 ?_
    refine lv_iload_n (pc := 12) hx hb dX4_namedAt_12 rfl (lv_at hl 2 rfl) ?_
    obtain ⟨hin, h⟩ := gd_some h
    refine r_ald (pc := 13) hx hb hK hP 7 wu7 hin dX4_namedAt_13 ?_
    refine lv_if_le (tgt := 28) (pc := 14) hx hb dX4_namedAt_14 (by decide) (fun hc => ?_) (fun hc => ?_)
    · have h := if_y hc h
      refine lv_iinc (v := (x2 + 1)) (lv' := [(2, .int (x2 + 1)), (0, .ref (a 0)), (1, .int x1)]) (pc := 28) hx hb dX4_namedAt_28 hl (k := 2) rfl (ii1 _) (by decide) rfl (fun ls hl => ?_)
      refine lv_goto (tgt := 2) (pc := 31) hx hb dX4_namedAt_31 (by decide) ?_
      exact hk2 _ _ h ls (lv_sub hl [1, 2, 0] rfl)
    · have h := if_n hc h
      refine lv_aload_n (pc := 17) hx hb dX4_namedAt_17 rfl (lv_at hl 0 rfl) ?_
      refine lv_iload_n (pc := 18) hx hb dX4_namedAt_18 rfl (lv_at hl 2 rfl) ?_
      obtain ⟨r1, hr1, h⟩ := bd_some h
      refine r_callR (pc := 19) C hP (c_X4_namedAhead hI N hr1) k_X4_namedAhead wd_505 (q0 := 0) wu0 rfl rfl ⟨Nat.le_of_ble_eq_true rfl, Nat.le_of_ble_eq_true rfl⟩ rfl hl.1 rfl (Nat.le_of_ble_eq_true rfl) dX4_namedAt_19 ⟨Nat.zero_le _, Nat.zero_le _⟩ ?_
      refine lv_iload_n (pc := 22) hx hb dX4_namedAt_22 rfl (lv_at hl 1 rfl) ?_
      refine lv_icmp_ne (tgt := 28) (pc := 23) hx hb dX4_namedAt_23 (by decide) (fun hc => ?_) (fun hc => ?_)
      · have h := if_n hc h
        refine lv_iinc (v := (x2 + 1)) (lv' := [(2, .int (x2 + 1)), (0, .ref (a 0)), (1, .int x1)]) (pc := 28) hx hb dX4_namedAt_28 hl (k := 2) rfl (ii1 _) (by decide) rfl (fun ls hl => ?_)
        refine lv_goto (tgt := 2) (pc := 31) hx hb dX4_namedAt_31 (by decide) ?_
        exact hk2 _ _ h ls (lv_sub hl [1, 2, 0] rfl)
      · have h := if_y hc h
        refine lv_iload_n (pc := 26) hx hb dX4_namedAt_26 rfl (lv_at hl 2 rfl) ?_
        exact r_retS (pc := 27) C h dX4_namedAt_27
theorem t_X4_namedAt_2 {rr : Int32} (hI : aI 49 a) (N : Nat) (C : bC D E RX4 cX4_namedAt 3 (some .int) p s m args meth c) {S : St} (hP : va_P D vwCl (Wu E a S) s.heap) {n : Nat} {x1 : Int32} {x2 : Int32} (h : lpI (F_X4_namedAt_2 N S) n (x1, x2) = some rr) : gR p l e (bRm 1 23) s m args below meth c 3 (qS below rr args s) 2 [(0, .ref (a 0)), (1, .int x1), (2, .int x2)] [] := by
  exact lpI_ind (P := fun v q => q = rr → gR p l e (bRm 1 23) s m args below meth c 3 (qS below rr args s) 2 [(0, .ref (a 0)), (1, .int v.1), (2, .int v.2)] []) (fun k hk v q h9 hq => s_X4_namedAt_2 hI N C hP k (fun x1 x2 h8 => hk (x1, x2) _ h8 rfl) (h9.trans (congrArg some hq))) n (x1, x2) _ h rfl
def f_X4_namedAt (N : Nat) (x1 : Int32) (S : St) : Option (Int32) :=
  lpI (F_X4_namedAt_2 N S) N (x1, 0)
theorem t_X4_namedAt_0 {rr : Int32} (hI : aI 49 a) (N : Nat) (C : bC D E RX4 cX4_namedAt 3 (some .int) p s m args meth c) {S : St} (hP : va_P D vwCl (Wu E a S) s.heap) {x1 : Int32} (h : f_X4_namedAt N x1 S = some rr) : gR p l e (bRm 1 23) s m args below meth c 3 (qS below rr args s) 0 [(0, .ref (a 0)), (1, .int x1)] [] := by
  obtain ⟨hx, hb, hml, hown, hts, hK, hr, hlocks⟩ := id C
  intro ls hl
  unfold f_X4_namedAt at h
  refine lv_iconst (v := 0) (pc := 0) hx hb dX4_namedAt_0 (by decide) ?_
  refine lv_istore_n (lv' := [(2, .int 0), (0, .ref (a 0)), (1, .int x1)]) (pc := 1) hx hb dX4_namedAt_1 rfl hl (by decide) rfl (fun ls hl => ?_)
  exact t_X4_namedAt_2 hI N C hP h ls (lv_sub hl [1, 2, 0] rfl)
theorem c_X4_namedAt {l : Launch} {D : va_G} {E : bE} {a : Nat → Nat} (hI : aI 49 a) (N : Nat) {rr : Int32} {S : St} {x1 : Int32} (h : f_X4_namedAt N x1 S = some rr) : cR l D E yX4_namedAt cX4_namedAt 3 (some .int) 1 23 (Wu E a S) [.ref (a 0), .int x1] rr := cR_of (by decide) (Nat.le_of_ble_eq_true rfl) (fun p e s m args below meth c C hP => t_X4_namedAt_0 hI N C hP h)
/-! X4_names -/
def f_X4_names (N : Nat) (x1 : Int32) (S : St) : Option (Int32 × St) :=
  bd (f_X3_spin N S) fun S1 => bd2 (f_X3_findBest N 0 S1) fun r1 S2 => if r1 = 0 then (some ((-6), S2)) else (bd (f_X4_countNamed N S2) fun S3 => if x1 = (-1) then (bd (f_X4_namedInAll N S3) fun r3 => some (r3, S3)) else (bd (f_X4_namedAt N x1 S3) fun r2 => some (r2, S3)))
theorem t_X4_names_0 {rr : Int32} {SS : St} (hI : aI 49 a) (N : Nat) (C : bC D E RX4 cX4_names 2 (some .int) p s m args meth c) {x1 : Int32} {S : St} (h : f_X4_names N x1 S = some (rr, SS)) : gU D (Wu E a) (aA 49 a) p l e (bRm 6 140) s m args below meth c 2 (qU D below (aA 49 a) (Wu E a SS) rr args s) 0 [(0, .ref (a 0)), (1, .int x1)] [] S := by
  obtain ⟨hx, hb, hml, hown, hts, hK, hr, hlocks⟩ := id C
  intro H locs hP hS ls hl
  unfold f_X4_names at h
  refine lv_aload_n (pc := 0) hx hb dX4_names_0 rfl (lv_at hl 0 rfl) ?_
  refine va_get (pc := 1) (v := .ref (a 3)) hx hb hts inB4 hown hK.1 hP 0 wu0 rfl 1 (by decide) (hts _ wd_218) (fun _ h9 => h9) rfl dX4_names_1 ?_
  obtain ⟨S1, hS1, h⟩ := bd_some h
  refine r_callV (pc := 4) C hP hS (c_X3_spin hI N hS1) k_X3_spin wd_331 (q0 := 3) wu3 rfl rfl ⟨Nat.le_of_ble_eq_true rfl, Nat.le_of_ble_eq_true rfl⟩ rfl hl.1 rfl (Nat.le_of_ble_eq_true rfl) dX4_names_4 ⟨Nat.zero_le _, Nat.zero_le _⟩ (fun H locs hP hS => ?_)
  refine lv_aload_n (pc := 7) hx hb dX4_names_7 rfl (lv_at hl 0 rfl) ?_
  refine va_get (pc := 8) (v := .ref (a 3)) hx hb hts inB4 hown hK.1 hP 0 wu0 rfl 1 (by decide) (hts _ wd_218) (fun _ h9 => h9) rfl dX4_names_8 ?_
  refine lv_iconst (v := 0) (pc := 11) hx hb dX4_names_11 (by decide) ?_
  refine lv_aload_n (pc := 12) hx hb dX4_names_12 rfl (lv_at hl 0 rfl) ?_
  refine va_get (pc := 13) (v := .ref (a 4)) hx hb hts inB4 hown hK.1 hP 0 wu0 rfl 3 (by decide) (hts _ wd_220) (fun _ h9 => h9) rfl dX4_names_13 ?_
  obtain ⟨r1, S2, hr1, h⟩ := bd2_some h
  refine r_callU (pc := 16) C hP hS (c_X3_findBest hI N hr1) k_X3_findBest wd_386 (q0 := 3) wu3 rfl rfl ⟨Nat.le_of_ble_eq_true rfl, Nat.le_of_ble_eq_true rfl⟩ rfl hl.1 rfl (Nat.le_of_ble_eq_true rfl) dX4_names_16 ⟨Nat.zero_le _, Nat.zero_le _⟩ (fun H locs hP hS => ?_)
  refine lv_if_ne (tgt := 25) (pc := 19) hx hb dX4_names_19 (by decide) (fun hc => ?_) (fun hc => ?_)
  · have h := if_n hc h
    refine lv_aload_n (pc := 25) hx hb dX4_names_25 rfl (lv_at hl 0 rfl) ?_
    obtain ⟨S3, hS3, h⟩ := bd_some h
    refine r_callV (pc := 26) C hP hS (c_X4_countNamed hI N hS3) k_X4_countNamed wd_493 (q0 := 0) wu0 rfl rfl ⟨Nat.le_of_ble_eq_true rfl, Nat.le_of_ble_eq_true rfl⟩ rfl hl.1 rfl (Nat.le_of_ble_eq_true rfl) dX4_names_26 ⟨Nat.zero_le _, Nat.zero_le _⟩ (fun H locs hP hS => ?_)
    refine lv_iload_n (pc := 29) hx hb dX4_names_29 rfl (lv_at hl 1 rfl) ?_
    refine lv_iconst (v := (-1)) (pc := 30) hx hb dX4_names_30 (by decide) ?_
    refine lv_icmp_ne (tgt := 41) (pc := 31) hx hb dX4_names_31 (by decide) (fun hc => ?_) (fun hc => ?_)
    · have h := if_n hc h
      refine lv_aload_n (pc := 41) hx hb dX4_names_41 rfl (lv_at hl 0 rfl) ?_
      refine lv_iload_n (pc := 42) hx hb dX4_names_42 rfl (lv_at hl 1 rfl) ?_
      obtain ⟨r2, hr2, h⟩ := bd_some h
      refine r_callR (pc := 43) C hP (c_X4_namedAt hI N hr2) k_X4_namedAt wd_501 (q0 := 0) wu0 rfl rfl ⟨Nat.le_of_ble_eq_true rfl, Nat.le_of_ble_eq_true rfl⟩ rfl hl.1 rfl (Nat.le_of_ble_eq_true rfl) dX4_names_43 ⟨Nat.zero_le _, Nat.zero_le _⟩ ?_
      exact r_retU (pc := 46) (𝓦 := Wu E a) C h hP hS dX4_names_46
    · have h := if_y hc h
      refine lv_aload_n (pc := 34) hx hb dX4_names_34 rfl (lv_at hl 0 rfl) ?_
      obtain ⟨r3, hr3, h⟩ := bd_some h
      refine r_callR (pc := 35) C hP (c_X4_namedInAll hI N hr3) k_X4_namedInAll wd_497 (q0 := 0) wu0 rfl rfl ⟨Nat.le_of_ble_eq_true rfl, Nat.le_of_ble_eq_true rfl⟩ rfl hl.1 rfl (Nat.le_of_ble_eq_true rfl) dX4_names_35 ⟨Nat.zero_le _, Nat.zero_le _⟩ ?_
      refine lv_goto (tgt := 46) (pc := 38) hx hb dX4_names_38 (by decide) ?_
      exact r_retU (pc := 46) (𝓦 := Wu E a) C h hP hS dX4_names_46
  · have h := if_y hc h
    refine lv_bipush (v := (-6)) (pc := 22) hx hb dX4_names_22 (by decide) ?_
    exact r_retU (pc := 24) (𝓦 := Wu E a) C h hP hS dX4_names_24
theorem c_X4_names {l : Launch} {D : va_G} {E : bE} {a : Nat → Nat} (hI : aI 49 a) (N : Nat) {rr : Int32} {S : St} {SS : St} {x1 : Int32} (h : f_X4_names N x1 S = some (rr, SS)) : cU l D E yX4_names cX4_names 2 (some .int) 6 140 (aA 49 a) (Wu E a S) (Wu E a SS) [.ref (a 0), .int x1] rr := cU_of (by decide) (Nat.le_of_ble_eq_true rfl) (fun p e s m args below meth c C => t_X4_names_0 hI N C h)
/-! X3_walk -/
def FB_X3_walk_57 (N : Nat) (k51 : Int32 × St → Option (St)) (k57 : Int32 × Int32 × St → Option (St)) (x1 : Int32) (x2 : Int32) (S : St) : Option (St) :=
  if x1 ≤ x2 then (k51 ((x1 + (-1)), S)) else (gd (ix x1 6) (if (S 20 (Int32.toNatClampNeg x1)) ≤ 0 then (k57 (x1, (x2 + 1), S)) else (bd (f_X4_use x1 x2) fun r1 => gd (ix r1 36) (if (S 21 (Int32.toNatClampNeg r1)) = (-6) then (k57 (x1, (x2 + 1), S)) else (gd (ix x2 6) (gd (ix x1 6) (gd (ix x2 6) (bd (some (sto S 20 (Int32.toNatClampNeg x2) ((S 20 (Int32.toNatClampNeg x2)) + (S 20 (Int32.toNatClampNeg x1))))) fun S1 => gd (ix x2 6) (gd (ix x1 6) (gd (ix x2 6) (bd (some (sto S1 19 (Int32.toNatClampNeg x2) (if (S1 19 (Int32.toNatClampNeg x2)) < ((S1 19 (Int32.toNatClampNeg x1)) + 1) then ((S1 19 (Int32.toNatClampNeg x1)) + 1) else (S1 19 (Int32.toNatClampNeg x2))))) fun S2 => k57 (x1, (x2 + 1), S2))))))))))))
def F_X3_walk_57 (N : Nat) (k51 : Int32 × St → Option (St)) (k57 : Int32 × Int32 × St → Option (St)) (v : Int32 × Int32 × St) : Option (St) := FB_X3_walk_57 N k51 k57 v.1 v.2.1 v.2.2
theorem s_X3_walk_57 {SS : St} (hI : aI 49 a) (N : Nat) (C : bC D E RX3 cX3_walk 3 none p s m args meth c) (k51 : Int32 × St → Option (St)) (hk51 : ∀ (x1 : Int32) (S : St), k51 (x1, S) = some SS → gU D (Wu E a) (aA 49 a) p l e (bRm 1 26) s m args below meth c 3 (qV D below (aA 49 a) (Wu E a SS) args s) 51 [(0, .ref (a 3)), (1, .int x1)] [] S) (k57 : Int32 × Int32 × St → Option (St)) (hk57 : ∀ (x1 : Int32) (x2 : Int32) (S : St), k57 (x1, x2, S) = some SS → gU D (Wu E a) (aA 49 a) p l e (bRm 1 26) s m args below meth c 3 (qV D below (aA 49 a) (Wu E a SS) args s) 57 [(0, .ref (a 3)), (1, .int x1), (2, .int x2)] [] S) {x1 : Int32} {x2 : Int32} {S : St} (h : FB_X3_walk_57 N k51 k57 x1 x2 S = some SS) : gU D (Wu E a) (aA 49 a) p l e (bRm 1 26) s m args below meth c 3 (qV D below (aA 49 a) (Wu E a SS) args s) 57 [(0, .ref (a 3)), (1, .int x1), (2, .int x2)] [] S := by
  obtain ⟨hx, hb, hml, hown, hts, hK, hr, hlocks⟩ := id C
  intro H locs hP hS ls hl
  unfold FB_X3_walk_57 at h
  refine lv_iload_n (pc := 57) hx hb dX3_walk_57 rfl (lv_at hl 2 rfl) ?_
  refine lv_iload_n (pc := 58) hx hb dX3_walk_58 rfl (lv_at hl 1 rfl) ?_
  refine lv_icmp_ge (tgt := 130) (pc := 59) hx hb dX3_walk_59 (by decide) (fun hc => ?_) (fun hc => ?_)
  · have h := if_y hc h
    refine lv_iinc (v := (x1 + (-1))) (lv' := [(1, .int (x1 + (-1))), (0, .ref (a 3)), (2, .int x2)]) (pc := 130) hx hb dX3_walk_130 hl (k := 1) rfl (iim1 _) (by decide) rfl (fun ls hl => ?_)
    refine lv_goto (tgt := 51) (pc := 133) hx hb dX3_walk_133 (by decide) ?_
    exact hk51 _ _ h H locs hP hS ls (lv_sub hl [1, 0] rfl)
  · have h := if_n hc h
    refine lv_aload_n (pc := 62) hx hb dX3_walk_62 rfl (lv_at hl 0 rfl) ?_
    refine va_get (pc := 63) (v := .ref (a 20)) hx hb hts inB3 hown hK.1 hP 3 wu3 rfl 3 (by decide) (hts _ wd_152) (fun _ h9 => h9) rfl dX3_walk_63 ?_
    refine lv_iload_n (pc := 66) hx hb dX3_walk_66 rfl (lv_at hl 1 rfl) ?_
    obtain ⟨hin, h⟩ := gd_some h
    refine r_ald (pc := 67) hx hb hK hP 20 wu20 hin dX3_walk_67 ?_
    refine lv_if_le (tgt := 124) (pc := 68) hx hb dX3_walk_68 (by decide) (fun hc => ?_) (fun hc => ?_)
    · have h := if_y hc h
      refine lv_iinc (v := (x2 + 1)) (lv' := [(2, .int (x2 + 1)), (0, .ref (a 3)), (1, .int x1)]) (pc := 124) hx hb dX3_walk_124 hl (k := 2) rfl (ii1 _) (by decide) rfl (fun ls hl => ?_)
      refine lv_goto (tgt := 57) (pc := 127) hx hb dX3_walk_127 (by decide) ?_
      exact hk57 _ _ _ h H locs hP hS ls (lv_sub hl [1, 2, 0] rfl)
    · have h := if_n hc h
      refine lv_aload_n (pc := 71) hx hb dX3_walk_71 rfl (lv_at hl 0 rfl) ?_
      refine va_get (pc := 72) (v := .ref (a 21)) hx hb hts inB3 hown hK.1 hP 3 wu3 rfl 6 (by decide) (hts _ wd_158) (fun _ h9 => h9) rfl dX3_walk_72 ?_
      refine lv_iload_n (pc := 75) hx hb dX3_walk_75 rfl (lv_at hl 1 rfl) ?_
      refine lv_iload_n (pc := 76) hx hb dX3_walk_76 rfl (lv_at hl 2 rfl) ?_
      obtain ⟨r1, hr1, h⟩ := bd_some h
      refine r_callSN (pc := 77) (host := RX4) C (c_X4_use hr1) k_X4_use nst_7 ⟨Nat.le_of_ble_eq_true rfl, Nat.le_of_ble_eq_true rfl⟩ rfl hl.1 rfl (Nat.le_of_ble_eq_true rfl) dX3_walk_77 ⟨Nat.zero_le _, Nat.zero_le _⟩ ?_
      obtain ⟨hin, h⟩ := gd_some h
      refine r_ald (pc := 80) hx hb hK hP 21 wu21 hin dX3_walk_80 ?_
      refine lv_bipush (v := (-6)) (pc := 81) hx hb dX3_walk_81 (by decide) ?_
      refine lv_icmp_eq (tgt := 124) (pc := 83) hx hb dX3_walk_83 (by decide) (fun hc => ?_) (fun hc => ?_)
      · have h := if_y hc h
        refine lv_iinc (v := (x2 + 1)) (lv' := [(2, .int (x2 + 1)), (0, .ref (a 3)), (1, .int x1)]) (pc := 124) hx hb dX3_walk_124 hl (k := 2) rfl (ii1 _) (by decide) rfl (fun ls hl => ?_)
        refine lv_goto (tgt := 57) (pc := 127) hx hb dX3_walk_127 (by decide) ?_
        exact hk57 _ _ _ h H locs hP hS ls (lv_sub hl [1, 2, 0] rfl)
      · have h := if_n hc h
        refine lv_aload_n (pc := 86) hx hb dX3_walk_86 rfl (lv_at hl 0 rfl) ?_
        refine va_get (pc := 87) (v := .ref (a 20)) hx hb hts inB3 hown hK.1 hP 3 wu3 rfl 3 (by decide) (hts _ wd_152) (fun _ h9 => h9) rfl dX3_walk_87 ?_
        refine lv_iload_n (pc := 90) hx hb dX3_walk_90 rfl (lv_at hl 2 rfl) ?_
        refine lv_dup2_11 (pc := 91) hx hb dX3_walk_91 rfl rfl ?_
        obtain ⟨hin, h⟩ := gd_some h
        refine r_ald (pc := 92) hx hb hK hP 20 wu20 hin dX3_walk_92 ?_
        refine lv_aload_n (pc := 93) hx hb dX3_walk_93 rfl (lv_at hl 0 rfl) ?_
        refine va_get (pc := 94) (v := .ref (a 20)) hx hb hts inB3 hown hK.1 hP 3 wu3 rfl 3 (by decide) (hts _ wd_152) (fun _ h9 => h9) rfl dX3_walk_94 ?_
        refine lv_iload_n (pc := 97) hx hb dX3_walk_97 rfl (lv_at hl 1 rfl) ?_
        obtain ⟨hin, h⟩ := gd_some h
        refine r_ald (pc := 98) hx hb hK hP 20 wu20 hin dX3_walk_98 ?_
        refine lv_iadd (pc := 99) hx hb dX3_walk_99 ?_
        obtain ⟨hin, h⟩ := gd_some h
        refine r_ast (pc := 100) (𝓦 := Wu E a) hx hb hK hP (dU hI _) hS 20 wu20 wu20s hin dX3_walk_100 (fun H locs S1 eS1 hP hS => ?_)
        have h := bd_y eS1 h
        refine lv_aload_n (pc := 101) hx hb dX3_walk_101 rfl (lv_at hl 0 rfl) ?_
        refine va_get (pc := 102) (v := .ref (a 19)) hx hb hts inB3 hown hK.1 hP 3 wu3 rfl 2 (by decide) (hts _ wd_150) (fun _ h9 => h9) rfl dX3_walk_102 ?_
        refine lv_iload_n (pc := 105) hx hb dX3_walk_105 rfl (lv_at hl 2 rfl) ?_
        refine lv_aload_n (pc := 106) hx hb dX3_walk_106 rfl (lv_at hl 0 rfl) ?_
        refine va_get (pc := 107) (v := .ref (a 19)) hx hb hts inB3 hown hK.1 hP 3 wu3 rfl 2 (by decide) (hts _ wd_150) (fun _ h9 => h9) rfl dX3_walk_107 ?_
        refine lv_iload_n (pc := 110) hx hb dX3_walk_110 rfl (lv_at hl 2 rfl) ?_
        obtain ⟨hin, h⟩ := gd_some h
        refine r_ald (pc := 111) hx hb hK hP 19 wu19 hin dX3_walk_111 ?_
        refine lv_aload_n (pc := 112) hx hb dX3_walk_112 rfl (lv_at hl 0 rfl) ?_
        refine va_get (pc := 113) (v := .ref (a 19)) hx hb hts inB3 hown hK.1 hP 3 wu3 rfl 2 (by decide) (hts _ wd_150) (fun _ h9 => h9) rfl dX3_walk_113 ?_
        refine lv_iload_n (pc := 116) hx hb dX3_walk_116 rfl (lv_at hl 1 rfl) ?_
        obtain ⟨hin, h⟩ := gd_some h
        refine r_ald (pc := 117) hx hb hK hP 19 wu19 hin dX3_walk_117 ?_
        refine lv_iconst (v := 1) (pc := 118) hx hb dX3_walk_118 (by decide) ?_
        refine lv_iadd (pc := 119) hx hb dX3_walk_119 ?_
        refine va_mmax (pc := 120) hx hb (hml.trans hl.1.symm) hown (hts _ wd_517) (hts _ wd_518) (hts _ wd_48) (hts _ wd_519) (Nat.le_of_ble_eq_true rfl) (Nat.le_of_ble_eq_true rfl) (Nat.zero_le _) (Nat.zero_le _) dX3_walk_120 ?_
        obtain ⟨hin, h⟩ := gd_some h
        refine r_ast (pc := 123) (𝓦 := Wu E a) hx hb hK hP (dU hI _) hS 19 wu19 wu19s hin dX3_walk_123 (fun H locs S2 eS2 hP hS => ?_)
        have h := bd_y eS2 h
        refine lv_iinc (v := (x2 + 1)) (lv' := [(2, .int (x2 + 1)), (0, .ref (a 3)), (1, .int x1)]) (pc := 124) hx hb dX3_walk_124 hl (k := 2) rfl (ii1 _) (by decide) rfl (fun ls hl => ?_)
        refine lv_goto (tgt := 57) (pc := 127) hx hb dX3_walk_127 (by decide) ?_
        exact hk57 _ _ _ h H locs hP hS ls (lv_sub hl [1, 2, 0] rfl)
theorem t_X3_walk_57 {SS : St} (hI : aI 49 a) (N : Nat) (C : bC D E RX3 cX3_walk 3 none p s m args meth c) (k51 : Int32 × St → Option (St)) (hk51 : ∀ (x1 : Int32) (S : St), k51 (x1, S) = some SS → gU D (Wu E a) (aA 49 a) p l e (bRm 1 26) s m args below meth c 3 (qV D below (aA 49 a) (Wu E a SS) args s) 51 [(0, .ref (a 3)), (1, .int x1)] [] S) {n : Nat} {x1 : Int32} {x2 : Int32} {S : St} (h : lpI (F_X3_walk_57 N k51) n (x1, x2, S) = some SS) : gU D (Wu E a) (aA 49 a) p l e (bRm 1 26) s m args below meth c 3 (qV D below (aA 49 a) (Wu E a SS) args s) 57 [(0, .ref (a 3)), (1, .int x1), (2, .int x2)] [] S := by
  exact lpI_ind (P := fun v q => q = SS → gU D (Wu E a) (aA 49 a) p l e (bRm 1 26) s m args below meth c 3 (qV D below (aA 49 a) (Wu E a SS) args s) 57 [(0, .ref (a 3)), (1, .int v.1), (2, .int v.2.1)] [] v.2.2) (fun k hk v q h9 hq => s_X3_walk_57 hI N C k51 hk51 k (fun x1 x2 S h8 => hk (x1, x2, S) _ h8 rfl) (h9.trans (congrArg some hq))) n (x1, x2, S) _ h rfl
def FB_X3_walk_51 (N : Nat) (k51 : Int32 × St → Option (St)) (x1 : Int32) (S : St) : Option (St) :=
  if x1 ≤ 0 then (some S) else (lpI (F_X3_walk_57 N k51) N (x1, 0, S))
def F_X3_walk_51 (N : Nat) (k51 : Int32 × St → Option (St)) (v : Int32 × St) : Option (St) := FB_X3_walk_51 N k51 v.1 v.2
theorem s_X3_walk_51 {SS : St} (hI : aI 49 a) (N : Nat) (C : bC D E RX3 cX3_walk 3 none p s m args meth c) (k51 : Int32 × St → Option (St)) (hk51 : ∀ (x1 : Int32) (S : St), k51 (x1, S) = some SS → gU D (Wu E a) (aA 49 a) p l e (bRm 1 26) s m args below meth c 3 (qV D below (aA 49 a) (Wu E a SS) args s) 51 [(0, .ref (a 3)), (1, .int x1)] [] S) {x1 : Int32} {S : St} (h : FB_X3_walk_51 N k51 x1 S = some SS) : gU D (Wu E a) (aA 49 a) p l e (bRm 1 26) s m args below meth c 3 (qV D below (aA 49 a) (Wu E a SS) args s) 51 [(0, .ref (a 3)), (1, .int x1)] [] S := by
  obtain ⟨hx, hb, hml, hown, hts, hK, hr, hlocks⟩ := id C
  intro H locs hP hS ls hl
  unfold FB_X3_walk_51 at h
  refine lv_iload_n (pc := 51) hx hb dX3_walk_51 rfl (lv_at hl 1 rfl) ?_
  refine lv_if_le (tgt := 136) (pc := 52) hx hb dX3_walk_52 (by decide) (fun hc => ?_) (fun hc => ?_)
  · have h := if_y hc h
    exact r_retV (pc := 136) (𝓦 := Wu E a) C h hP hS dX3_walk_136
  · have h := if_n hc h
    refine lv_iconst (v := 0) (pc := 55) hx hb dX3_walk_55 (by decide) ?_
    refine lv_istore_n (lv' := [(2, .int 0), (0, .ref (a 3)), (1, .int x1)]) (pc := 56) hx hb dX3_walk_56 rfl hl (by decide) rfl (fun ls hl => ?_)
    exact t_X3_walk_57 hI N C k51 hk51 h H locs hP hS ls (lv_sub hl [1, 2, 0] rfl)
theorem t_X3_walk_51 {SS : St} (hI : aI 49 a) (N : Nat) (C : bC D E RX3 cX3_walk 3 none p s m args meth c) {n : Nat} {x1 : Int32} {S : St} (h : lpI (F_X3_walk_51 N) n (x1, S) = some SS) : gU D (Wu E a) (aA 49 a) p l e (bRm 1 26) s m args below meth c 3 (qV D below (aA 49 a) (Wu E a SS) args s) 51 [(0, .ref (a 3)), (1, .int x1)] [] S := by
  exact lpI_ind (P := fun v q => q = SS → gU D (Wu E a) (aA 49 a) p l e (bRm 1 26) s m args below meth c 3 (qV D below (aA 49 a) (Wu E a SS) args s) 51 [(0, .ref (a 3)), (1, .int v.1)] [] v.2) (fun k hk v q h9 hq => s_X3_walk_51 hI N C k (fun x1 S h8 => hk (x1, S) _ h8 rfl) (h9.trans (congrArg some hq))) n (x1, S) _ h rfl
def FB_X3_walk_2 (N : Nat) (k2 : Int32 × St → Option (St)) (x1 : Int32) (S : St) : Option (St) :=
  if 6 ≤ x1 then (bd (some (S 2 9)) fun y1 => lpI (F_X3_walk_51 N) N (y1, S)) else (gd (ix x1 6) (bd (some (sto S 19 (Int32.toNatClampNeg x1) 0)) fun S1 => if x1 = (S1 2 9) then (gd (ix x1 6) (bd (some (sto S1 20 (Int32.toNatClampNeg x1) 1)) fun S3 => k2 ((x1 + 1), S3))) else (gd (ix x1 6) (bd (some (sto S1 20 (Int32.toNatClampNeg x1) 0)) fun S2 => k2 ((x1 + 1), S2)))))
def F_X3_walk_2 (N : Nat) (k2 : Int32 × St → Option (St)) (v : Int32 × St) : Option (St) := FB_X3_walk_2 N k2 v.1 v.2
theorem s_X3_walk_2 {SS : St} (hI : aI 49 a) (N : Nat) (C : bC D E RX3 cX3_walk 3 none p s m args meth c) (k2 : Int32 × St → Option (St)) (hk2 : ∀ (x1 : Int32) (S : St), k2 (x1, S) = some SS → gU D (Wu E a) (aA 49 a) p l e (bRm 1 26) s m args below meth c 3 (qV D below (aA 49 a) (Wu E a SS) args s) 2 [(0, .ref (a 3)), (1, .int x1)] [] S) {x1 : Int32} {S : St} (h : FB_X3_walk_2 N k2 x1 S = some SS) : gU D (Wu E a) (aA 49 a) p l e (bRm 1 26) s m args below meth c 3 (qV D below (aA 49 a) (Wu E a SS) args s) 2 [(0, .ref (a 3)), (1, .int x1)] [] S := by
  obtain ⟨hx, hb, hml, hown, hts, hK, hr, hlocks⟩ := id C
  intro H locs hP hS ls hl
  unfold FB_X3_walk_2 at h
  refine lv_iload_n (pc := 2) hx hb dX3_walk_2 rfl (lv_at hl 1 rfl) ?_
  refine lv_bipush (v := 6) (pc := 3) hx hb dX3_walk_3 (by decide) ?_
  refine lv_icmp_ge (tgt := 43) (pc := 5) hx hb dX3_walk_5 (by decide) (fun hc => ?_) (fun hc => ?_)
  · have h := if_y hc h
    refine lv_aload_n (pc := 43) hx hb dX3_walk_43 rfl (lv_at hl 0 rfl) ?_
    refine va_get (pc := 44) (v := .ref (a 2)) hx hb hts inB3 hown hK.1 hP 3 wu3 rfl 0 (by decide) (hts _ wd_146) (fun _ h9 => h9) rfl dX3_walk_44 ?_
    refine va_get (pc := 47) (v := .int (S 2 9)) hx hb hts inB0 hown hK.1 hP 2 wu2 rfl 9 (by decide) (hts _ wd_119) (fun _ h9 => h9) rfl dX3_walk_47 ?_
    refine lv_topi (fun y1 ey1 => ?_)
    have h := bd_y ey1 h
    refine lv_istore_n (lv' := [(1, .int y1), (0, .ref (a 3))]) (pc := 50) hx hb dX3_walk_50 rfl hl (by decide) rfl (fun ls hl => ?_)
    exact t_X3_walk_51 hI N C h H locs hP hS ls (lv_sub hl [1, 0] rfl)
  · have h := if_n hc h
    refine lv_aload_n (pc := 8) hx hb dX3_walk_8 rfl (lv_at hl 0 rfl) ?_
    refine va_get (pc := 9) (v := .ref (a 19)) hx hb hts inB3 hown hK.1 hP 3 wu3 rfl 2 (by decide) (hts _ wd_150) (fun _ h9 => h9) rfl dX3_walk_9 ?_
    refine lv_iload_n (pc := 12) hx hb dX3_walk_12 rfl (lv_at hl 1 rfl) ?_
    refine lv_iconst (v := 0) (pc := 13) hx hb dX3_walk_13 (by decide) ?_
    obtain ⟨hin, h⟩ := gd_some h
    refine r_ast (pc := 14) (𝓦 := Wu E a) hx hb hK hP (dU hI _) hS 19 wu19 wu19s hin dX3_walk_14 (fun H locs S1 eS1 hP hS => ?_)
    have h := bd_y eS1 h
    refine lv_aload_n (pc := 15) hx hb dX3_walk_15 rfl (lv_at hl 0 rfl) ?_
    refine va_get (pc := 16) (v := .ref (a 20)) hx hb hts inB3 hown hK.1 hP 3 wu3 rfl 3 (by decide) (hts _ wd_152) (fun _ h9 => h9) rfl dX3_walk_16 ?_
    refine lv_iload_n (pc := 19) hx hb dX3_walk_19 rfl (lv_at hl 1 rfl) ?_
    refine lv_iload_n (pc := 20) hx hb dX3_walk_20 rfl (lv_at hl 1 rfl) ?_
    refine lv_aload_n (pc := 21) hx hb dX3_walk_21 rfl (lv_at hl 0 rfl) ?_
    refine va_get (pc := 22) (v := .ref (a 2)) hx hb hts inB3 hown hK.1 hP 3 wu3 rfl 0 (by decide) (hts _ wd_146) (fun _ h9 => h9) rfl dX3_walk_22 ?_
    refine va_get (pc := 25) (v := .int (S1 2 9)) hx hb hts inB0 hown hK.1 hP 2 wu2 rfl 9 (by decide) (hts _ wd_119) (fun _ h9 => h9) rfl dX3_walk_25 ?_
    refine lv_icmp_ne (tgt := 35) (pc := 28) hx hb dX3_walk_28 (by decide) (fun hc => ?_) (fun hc => ?_)
    · have h := if_n hc h
      refine lv_iconst (v := 0) (pc := 35) hx hb dX3_walk_35 (by decide) ?_
      obtain ⟨hin, h⟩ := gd_some h
      refine r_ast (pc := 36) (𝓦 := Wu E a) hx hb hK hP (dU hI _) hS 20 wu20 wu20s hin dX3_walk_36 (fun H locs S2 eS2 hP hS => ?_)
      have h := bd_y eS2 h
      refine lv_iinc (v := (x1 + 1)) (lv' := [(1, .int (x1 + 1)), (0, .ref (a 3))]) (pc := 37) hx hb dX3_walk_37 hl (k := 1) rfl (ii1 _) (by decide) rfl (fun ls hl => ?_)
      refine lv_goto (tgt := 2) (pc := 40) hx hb dX3_walk_40 (by decide) ?_
      exact hk2 _ _ h H locs hP hS ls (lv_sub hl [1, 0] rfl)
    · have h := if_y hc h
      refine lv_iconst (v := 1) (pc := 31) hx hb dX3_walk_31 (by decide) ?_
      refine lv_goto (tgt := 36) (pc := 32) hx hb dX3_walk_32 (by decide) ?_
      obtain ⟨hin, h⟩ := gd_some h
      refine r_ast (pc := 36) (𝓦 := Wu E a) hx hb hK hP (dU hI _) hS 20 wu20 wu20s hin dX3_walk_36 (fun H locs S3 eS3 hP hS => ?_)
      have h := bd_y eS3 h
      refine lv_iinc (v := (x1 + 1)) (lv' := [(1, .int (x1 + 1)), (0, .ref (a 3))]) (pc := 37) hx hb dX3_walk_37 hl (k := 1) rfl (ii1 _) (by decide) rfl (fun ls hl => ?_)
      refine lv_goto (tgt := 2) (pc := 40) hx hb dX3_walk_40 (by decide) ?_
      exact hk2 _ _ h H locs hP hS ls (lv_sub hl [1, 0] rfl)
theorem t_X3_walk_2 {SS : St} (hI : aI 49 a) (N : Nat) (C : bC D E RX3 cX3_walk 3 none p s m args meth c) {n : Nat} {x1 : Int32} {S : St} (h : lpI (F_X3_walk_2 N) n (x1, S) = some SS) : gU D (Wu E a) (aA 49 a) p l e (bRm 1 26) s m args below meth c 3 (qV D below (aA 49 a) (Wu E a SS) args s) 2 [(0, .ref (a 3)), (1, .int x1)] [] S := by
  exact lpI_ind (P := fun v q => q = SS → gU D (Wu E a) (aA 49 a) p l e (bRm 1 26) s m args below meth c 3 (qV D below (aA 49 a) (Wu E a SS) args s) 2 [(0, .ref (a 3)), (1, .int v.1)] [] v.2) (fun k hk v q h9 hq => s_X3_walk_2 hI N C k (fun x1 S h8 => hk (x1, S) _ h8 rfl) (h9.trans (congrArg some hq))) n (x1, S) _ h rfl
def f_X3_walk (N : Nat) (S : St) : Option (St) :=
  lpI (F_X3_walk_2 N) N (0, S)
theorem t_X3_walk_0 {SS : St} (hI : aI 49 a) (N : Nat) (C : bC D E RX3 cX3_walk 3 none p s m args meth c) {S : St} (h : f_X3_walk N S = some SS) : gU D (Wu E a) (aA 49 a) p l e (bRm 1 26) s m args below meth c 3 (qV D below (aA 49 a) (Wu E a SS) args s) 0 [(0, .ref (a 3))] [] S := by
  obtain ⟨hx, hb, hml, hown, hts, hK, hr, hlocks⟩ := id C
  intro H locs hP hS ls hl
  unfold f_X3_walk at h
  refine lv_iconst (v := 0) (pc := 0) hx hb dX3_walk_0 (by decide) ?_
  refine lv_istore_n (lv' := [(1, .int 0), (0, .ref (a 3))]) (pc := 1) hx hb dX3_walk_1 rfl hl (by decide) rfl (fun ls hl => ?_)
  exact t_X3_walk_2 hI N C h H locs hP hS ls (lv_sub hl [1, 0] rfl)
theorem c_X3_walk {l : Launch} {D : va_G} {E : bE} {a : Nat → Nat} (hI : aI 49 a) (N : Nat) {S : St} {SS : St} (h : f_X3_walk N S = some SS) : cV l D E yX3_walk cX3_walk 3 1 26 (aA 49 a) (Wu E a S) (Wu E a SS) [.ref (a 3)] := cV_of (by decide) (Nat.le_of_ble_eq_true rfl) (fun p e s m args below meth c C => t_X3_walk_0 hI N C h)
