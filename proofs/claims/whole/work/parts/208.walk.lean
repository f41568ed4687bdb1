variable {p : Program} {l : Launch} {e : Env} {s : State} {m : MethodId} {args : Array Value} {below : List Frame} {meth : Method} {c : Code} {D : va_G} {E : bE} {a : Nat → Nat}
/-! X4_toldKind -/
def f_X4_toldKind (x1 : Int32) (S : St) : Option (Int32) :=
  bd (some (x1 / 8)) fun y1 => bd (some (x1 - x1 / 8 * 8)) fun y2 => bd (f_X4_isPiece y1) fun r3 => if r3 = 0 then (some (-2)) else (bd (f_X4_isPiece y2) fun r4 => if r4 = 0 then (some (-2)) else (bd (f_X4_use y1 y2) fun r5 => gd (ix r5 36) (some (S 17 (Int32.toNatClampNeg r5)))))
theorem t_X4_toldKind_0 {rr : Int32} (hI : aI 49 a) (C : bC D E RX4 cX4_toldKind 4 (some .int) p s m args meth c) {S : St} (hP : va_P D vwCl (Wu E a S) s.heap) {x1 : Int32} (h : f_X4_toldKind x1 S = some rr) : gR p l e (bRm 2 42) s m args below meth c 4 (qS below rr args s) 0 [(0, .ref (a 0)), (1, .int x1)] [] := by
  obtain ⟨hx, hb, hml, hown, hts, hK, hr, hlocks⟩ := id C
  intro ls hl
  unfold f_X4_toldKind at h
  refine lv_iload_n (pc := 0) hx hb dX4_toldKind_0 rfl (lv_at hl 1 rfl) ?_
  refine lv_bipush (v := 8) (pc := 1) hx hb dX4_toldKind_1 (by decide) ?_
  refine lv_idiv (pc := 3) hx hb dX4_toldKind_3 (by decide) ?_
  refine lv_topi (fun y1 ey1 => ?_)
  have h := bd_y ey1 h
  refine lv_istore_n (lv' := [(2, .int y1), (0, .ref (a 0)), (1, .int x1)]) (pc := 4) hx hb dX4_toldKind_4 rfl hl (by decide) rfl (fun ls hl => ?_)
  refine lv_iload_n (pc := 5) hx hb dX4_toldKind_5 rfl (lv_at hl 2 rfl) ?_
  refine lv_bipush (v := 8) (pc := 6) hx hb dX4_toldKind_6 (by decide) ?_
  refine lv_irem (pc := 8) hx hb dX4_toldKind_8 (by decide) ?_
  refine lv_topi (fun y2 ey2 => ?_)
  have h := bd_y ey2 h
  refine lv_istore_n (lv' := [(3, .int y2), (2, .int y1), (0, .ref (a 0)), (1, .int x1)]) (pc := 9) hx hb dX4_toldKind_9 rfl hl (by decide) rfl (fun ls hl => ?_)
  refine lv_iload_n (pc := 10) hx hb dX4_toldKind_10 rfl (lv_at hl 1 rfl) ?_
  obtain ⟨r3, hr3, h⟩ := bd_some h
  refine r_callS (pc := 11) C (c_X4_isPiece hr3) k_X4_isPiece wd_295 ⟨Nat.le_of_ble_eq_true rfl, Nat.le_of_ble_eq_true rfl⟩ rfl hl.1 rfl (Nat.le_of_ble_eq_true rfl) dX4_toldKind_11 ⟨Nat.zero_le _, Nat.zero_le _⟩ ?_
  refine lv_if_eq (tgt := 40) (pc := 14) hx hb dX4_toldKind_14 (by decide) (fun hc => ?_) (fun hc => ?_)
  · have h := if_y hc h
    refine lv_bipush (v := (-2)) (pc := 40) hx hb dX4_toldKind_40 (by decide) ?_
    exact r_retS (pc := 42) C h dX4_toldKind_42
  · have h := if_n hc h
    refine lv_iload_n (pc := 17) hx hb dX4_toldKind_17 rfl (lv_at hl 0 rfl) ?_
    obtain ⟨r4, hr4, h⟩ := bd_some h
    refine r_callS (pc := 18) C (c_X4_isPiece hr4) k_X4_isPiece wd_295 ⟨Nat.le_of_ble_eq_true rfl, Nat.le_of_ble_eq_true rfl⟩ rfl hl.1 rfl (Nat.le_of_ble_eq_true rfl) dX4_toldKind_18 ⟨Nat.zero_le _, Nat.zero_le _⟩ ?_
    refine lv_if_eq (tgt := 40) (pc := 21) hx hb dX4_toldKind_21 (by decide) (fun hc => ?_) (fun hc => ?_)
    · have h := if_y hc h
      refine lv_bipush (v := (-2)) (pc := 40) hx hb dX4_toldKind_40 (by decide) ?_
      exact r_retS (pc := 42) C h dX4_toldKind_42
    · have h := if_n hc h
      refine lv_aload_n (pc := 24) hx hb dX4_toldKind_24 rfl (lv_at hl 2 rfl) ?_
      refine va_get (pc := 25) (v := .ref (a 2)) hx hb hts inB4 hown hK.1 hP 0 wu0 rfl 2 (by decide) (hts _ wd_219) (fun _ h9 => h9) rfl dX4_toldKind_25 ?_
      refine va_get (pc := 28) (v := .ref (a 17)) hx hb hts inB0 hown hK.1 hP 2 wu2 rfl 8 (by decide) (hts _ wd_117) (fun _ h9 => h9) rfl dX4_toldKind_28 ?_
      refine lv_iload_n (pc := 31) hx hb dX4_toldKind_31 rfl (lv_at hl 1 rfl) ?_
      refine lv_iload_n (pc := 32) hx hb dX4_toldKind_32 rfl (lv_at hl 0 rfl) ?_
      obtain ⟨r5, hr5, h⟩ := bd_some h
      refine r_callS (pc := 33) C (c_X4_use hr5) k_X4_use wd_305 ⟨Nat.le_of_ble_eq_true rfl, Nat.le_of_ble_eq_true rfl⟩ rfl hl.1 rfl (Nat.le_of_ble_eq_true rfl) dX4_toldKind_33 ⟨Nat.zero_le _, Nat.zero_le _⟩ ?_
      obtain ⟨hin, h⟩ := gd_some h
      refine r_ald (pc := 36) hx hb hK hP 17 wu17 hin dX4_toldKind_36 ?_
      refine lv_goto (tgt := 42) (pc := 37) hx hb dX4_toldKind_37 (by decide) ?_
      exact r_retS (pc := 42) C h dX4_toldKind_42
theorem c_X4_toldKind {l : Launch} {D : va_G} {E : bE} {a : Nat → Nat} (hI : aI 49 a) {rr : Int32} {S : St} {x1 : Int32} (h : f_X4_toldKind x1 S = some rr) : cR l D E yX4_toldKind cX4_toldKind 4 (some .int) 2 42 (Wu E a S) [.ref (a 0), .int x1] rr := cR_of (by decide) (Nat.le_of_ble_eq_true rfl) (fun p e s m args below meth c C hP => t_X4_toldKind_0 hI C hP h)
/-! X4_toldPiece -/
def f_X4_toldPiece (x1 : Int32) (x2 : Int32) (S : St) : Option (Int32) :=
  bd (f_X4_isPiece x2) fun r1 => if r1 = 0 then (some (-2)) else (if x1 = 1 then (gd (ix x2 6) (some (S 13 (Int32.toNatClampNeg x2)))) else (if x1 = 2 then (gd (ix x2 6) (some (S 15 (Int32.toNatClampNeg x2)))) else (if x1 = 3 then (gd (ix x2 6) (some (S 16 (Int32.toNatClampNeg x2)))) else (if x1 = 4 then (gd (ix x2 6) (some (S 14 (Int32.toNatClampNeg x2)))) else (some (-2))))))
theorem t_X4_toldPiece_0 {rr : Int32} (hI : aI 49 a) (C : bC D E RX4 cX4_toldPiece 3 (some .int) p s m args meth c) {S : St} (hP : va_P D vwCl (Wu E a S) s.heap) {x1 : Int32} {x2 : Int32} (h : f_X4_toldPiece x1 x2 S = some rr) : gR p l e (bRm 2 42) s m args below meth c 3 (qS below rr args s) 0 [(0, .ref (a 0)), (1, .int x1), (2, .int x2)] [] := by
  obtain ⟨hx, hb, hml, hown, hts, hK, hr, hlocks⟩ := id C
  intro ls hl
  unfold f_X4_toldPiece at h
  refine lv_iload_n (pc := 0) hx hb dX4_toldPiece_0 rfl (lv_at hl 2 rfl) ?_
  obtain ⟨r1, hr1, h⟩ := bd_some h
  refine r_callS (pc := 1) C (c_X4_isPiece hr1) k_X4_isPiece wd_295 ⟨Nat.le_of_ble_eq_true rfl, Nat.le_of_ble_eq_true rfl⟩ rfl hl.1 rfl (Nat.le_of_ble_eq_true rfl) dX4_toldPiece_1 ⟨Nat.zero_le _, Nat.zero_le _⟩ ?_
  refine lv_if_ne (tgt := 10) (pc := 4) hx hb dX4_toldPiece_4 (by decide) (fun hc => ?_) (fun hc => ?_)
  · have h := if_n hc h
    refine lv_iload_n (pc := 10) hx hb dX4_toldPiece_10 rfl (lv_at hl 1 rfl) ?_
    by_cases hc1 : x1 = 1
    · refine r_tabIn (pc := 11) (v := 1) (off := 29) (tgt := 40) hx hb dX4_toldPiece_11 hc1 (by decide) (by decide) (by decide +kernel) (by decide) ?_
      have h := if_y hc1 h
      refine lv_aload_n (pc := 40) hx hb dX4_toldPiece_40 rfl (lv_at hl 0 rfl) ?_
      refine va_get (pc := 41) (v := .ref (a 2)) hx hb hts inB4 hown hK.1 hP 0 wu0 rfl 2 (by decide) (hts _ wd_219) (fun _ h9 => h9) rfl dX4_toldPiece_41 ?_
      refine va_get (pc := 44) (v := .ref (a 13)) hx hb hts inB0 hown hK.1 hP 2 wu2 rfl 4 (by decide) (hts _ wd_108) (fun _ h9 => h9) rfl dX4_toldPiece_44 ?_
      refine lv_iload_n (pc := 47) hx hb dX4_toldPiece_47 rfl (lv_at hl 2 rfl) ?_
      obtain ⟨hin, h⟩ := gd_some h
      refine r_ald (pc := 48) hx hb hK hP 13 wu13 hin dX4_toldPiece_48 ?_
      exact r_retS (pc := 49) C h dX4_toldPiece_49
    have h := if_n hc1 h
    by_cases hc2 : x1 = 2
    · refine r_tabIn (pc := 11) (v := 2) (off := 39) (tgt := 50) hx hb dX4_toldPiece_11 hc2 (by decide) (by decide) (by decide +kernel) (by decide) ?_
      have h := if_y hc2 h
      refine lv_aload_n (pc := 50) hx hb dX4_toldPiece_50 rfl (lv_at hl 0 rfl) ?_
      refine va_get (pc := 51) (v := .ref (a 2)) hx hb hts inB4 hown hK.1 hP 0 wu0 rfl 2 (by decide) (hts _ wd_219) (fun _ h9 => h9) rfl dX4_toldPiece_51 ?_
      refine va_get (pc := 54) (v := .ref (a 15)) hx hb hts inB0 hown hK.1 hP 2 wu2 rfl 6 (by decide) (hts _ wd_112) (fun _ h9 => h9) rfl dX4_toldPiece_54 ?_
      refine lv_iload_n (pc := 57) hx hb dX4_toldPiece_57 rfl (lv_at hl 2 rfl) ?_
      obtain ⟨hin, h⟩ := gd_some h
      refine r_ald (pc := 58) hx hb hK hP 15 wu15 hin dX4_toldPiece_58 ?_
      exact r_retS (pc := 59) C h dX4_toldPiece_59
    have h := if_n hc2 h
    by_cases hc3 : x1 = 3
    · refine r_tabIn (pc := 11) (v := 3) (off := 49) (tgt := 60) hx hb dX4_toldPiece_11 hc3 (by decide) (by decide) (by decide +kernel) (by decide) ?_
      have h := if_y hc3 h
      refine lv_aload_n (pc := 60) hx hb dX4_toldPiece_60 rfl (lv_at hl 0 rfl) ?_
      refine va_get (pc := 61) (v := .ref (a 2)) hx hb hts inB4 hown hK.1 hP 0 wu0 rfl 2 (by decide) (hts _ wd_219) (fun _ h9 => h9) rfl dX4_toldPiece_61 ?_
      refine va_get (pc := 64) (v := .ref (a 16)) hx hb hts inB0 hown hK.1 hP 2 wu2 rfl 7 (by decide) (hts _ wd_114) (fun _ h9 => h9) rfl dX4_toldPiece_64 ?_
      refine lv_iload_n (pc := 67) hx hb dX4_toldPiece_67 rfl (lv_at hl 2 rfl) ?_
      obtain ⟨hin, h⟩ := gd_some h
      refine r_ald (pc := 68) hx hb hK hP 16 wu16 hin dX4_toldPiece_68 ?_
      exact r_retS (pc := 69) C h dX4_toldPiece_69
    have h := if_n hc3 h
    by_cases hc4 : x1 = 4
    · refine r_tabIn (pc := 11) (v := 4) (off := 59) (tgt := 70) hx hb dX4_toldPiece_11 hc4 (by decide) (by decide) (by decide +kernel) (by decide) ?_
      have h := if_y hc4 h
      refine lv_aload_n (pc := 70) hx hb dX4_toldPiece_70 rfl (lv_at hl 0 rfl) ?_
      refine va_get (pc := 71) (v := .ref (a 2)) hx hb hts inB4 hown hK.1 hP 0 wu0 rfl 2 (by decide) (hts _ wd_219) (fun _ h9 => h9) rfl dX4_toldPiece_71 ?_
      refine va_get (pc := 74) (v := .ref (a 14)) hx hb hts inB0 hown hK.1 hP 2 wu2 rfl 5 (by decide) (hts _ wd_110) (fun _ h9 => h9) rfl dX4_toldPiece_74 ?_
      refine lv_iload_n (pc := 77) hx hb dX4_toldPiece_77 rfl (lv_at hl 2 rfl) ?_
      obtain ⟨hin, h⟩ := gd_some h
      refine r_ald (pc := 78) hx hb hK hP 14 wu14 hin dX4_toldPiece_78 ?_
      exact r_retS (pc := 79) C h dX4_toldPiece_79
    have h := if_n hc4 h
    refine lv_tableOut (pc := 11) (tgt := 80) hx hb dX4_toldPiece_11 (tabOut1_4 hc1 hc2 hc3 hc4) (by decide) ?_
    refine lv_bipush (v := (-2)) (pc := 80) hx hb dX4_toldPiece_80 (by decide) ?_
    exact r_retS (pc := 82) C h dX4_toldPiece_82
  · have h := if_y hc h
    refine lv_bipush (v := (-2)) (pc := 7) hx hb dX4_toldPiece_7 (by decide) ?_
    exact r_retS (pc := 9) C h dX4_toldPiece_9
theorem c_X4_toldPiece {l : Launch} {D : va_G} {E : bE} {a : Nat → Nat} (hI : aI 49 a) {rr : Int32} {S : St} {x1 : Int32} {x2 : Int32} (h : f_X4_toldPiece x1 x2 S = some rr) : cR l D E yX4_toldPiece cX4_toldPiece 3 (some .int) 2 42 (Wu E a S) [.ref (a 0), .int x1, .int x2] rr := cR_of (by decide) (Nat.le_of_ble_eq_true rfl) (fun p e s m args below meth c C hP => t_X4_toldPiece_0 hI C hP h)
/-! X4_told -/
def f_X4_told (x1 : Int32) (S : St) : Option (Int32) :=
  if x1 < 100 then (if x1 < 10 then (if x1 = 0 then (some (S 1 1)) else (if x1 = 1 then (some (S 2 9)) else (if x1 = 2 then (some (S 2 10)) else (some (-2))))) else (bd (f_X4_toldPiece (x1 / 10) (x1 - x1 / 10 * 10) S) fun r1 => some r1)) else (bd (f_X4_toldKind (x1 - 100) S) fun r2 => some r2)
theorem t_X4_told_0 {rr : Int32} (hI : aI 49 a) (C : bC D E RX4 cX4_told 2 (some .int) p s m args meth c) {S : St} (hP : va_P D vwCl (Wu E a S) s.heap) {x1 : Int32} (h : f_X4_told x1 S = some rr) : gR p l e (bRm 3 65) s m args below meth c 2 (qS below rr args s) 0 [(0, .ref (a 0)), (1, .int x1)] [] := by
  obtain ⟨hx, hb, hml, hown, hts, hK, hr, hlocks⟩ := id C
  intro ls hl
  unfold f_X4_told at h
  refine lv_iload_n (pc := 0) hx hb dX4_told_0 rfl (lv_at hl 1 rfl) ?_
  refine lv_bipush (v := 100) (pc := 1) hx hb dX4_told_1 (by decide) ?_
  refine lv_icmp_lt (tgt := 15) (pc := 3) hx hb dX4_told_3 (by decide) (fun hc => ?_) (fun hc => ?_)
  · have h := if_y hc h
    refine lv_iload_n (pc := 15) hx hb dX4_told_15 rfl (lv_at hl 1 rfl) ?_
    refine lv_bipush (v := 10) (pc := 16) hx hb dX4_told_16 (by decide) ?_
    refine lv_icmp_lt (tgt := 34) (pc := 18) hx hb dX4_told_18 (by decide) (fun hc => ?_) (fun hc => ?_)
    · have h := if_y hc h
      refine lv_iload_n (pc := 34) hx hb dX4_told_34 rfl (lv_at hl 1 rfl) ?_
      by_cases hc0 : x1 = 0
      · refine r_tabIn (pc := 35) (v := 0) (off := 25) (tgt := 60) hx hb dX4_told_35 hc0 (by decide) (by decide) (by decide +kernel) (by decide) ?_
        have h := if_y hc0 h
        refine lv_aload_n (pc := 60) hx hb dX4_told_60 rfl (lv_at hl 0 rfl) ?_
        refine va_get (pc := 61) (v := .ref (a 1)) hx hb hts inB4 hown hK.1 hP 0 wu0 rfl 0 (by decide) (hts _ wd_217) (fun _ h9 => h9) rfl dX4_told_61 ?_
        refine va_get (pc := 64) (v := .int (S 1 1)) hx hb hts inB2 hown hK.1 hP 1 wu1 rfl 1 (by decide) (hts _ wd_65) (fun _ h9 => h9) rfl dX4_told_64 ?_
        exact r_retS (pc := 67) C h dX4_told_67
      have h := if_n hc0 h
      by_cases hc1 : x1 = 1
      · refine r_tabIn (pc := 35) (v := 1) (off := 33) (tgt := 68) hx hb dX4_told_35 hc1 (by decide) (by decide) (by decide +kernel) (by decide) ?_
        have h := if_y hc1 h
        refine lv_aload_n (pc := 68) hx hb dX4_told_68 rfl (lv_at hl 0 rfl) ?_
        refine va_get (pc := 69) (v := .ref (a 2)) hx hb hts inB4 hown hK.1 hP 0 wu0 rfl 2 (by decide) (hts _ wd_219) (fun _ h9 => h9) rfl dX4_told_69 ?_
        refine va_get (pc := 72) (v := .int (S 2 9)) hx hb hts inB0 hown hK.1 hP 2 wu2 rfl 9 (by decide) (hts _ wd_120) (fun _ h9 => h9) rfl dX4_told_72 ?_
        exact r_retS (pc := 75) C h dX4_told_75
      have h := if_n hc1 h
      by_cases hc2 : x1 = 2
      · refine r_tabIn (pc := 35) (v := 2) (off := 41) (tgt := 76) hx hb dX4_told_35 hc2 (by decide) (by decide) (by decide +kernel) (by decide) ?_
        have h := if_y hc2 h
        refine lv_aload_n (pc := 76) hx hb dX4_told_76 rfl (lv_at hl 0 rfl) ?_
        refine va_get (pc := 77) (v := .ref (a 2)) hx hb hts inB4 hown hK.1 hP 0 wu0 rfl 2 (by decide) (hts _ wd_219) (fun _ h9 => h9) rfl dX4_told_77 ?_
        refine va_get (pc := 80) (v := .int (S 2 10)) hx hb hts inB0 hown hK.1 hP 2 wu2 rfl 10 (by decide) (hts _ wd_122) (fun _ h9 => h9) rfl dX4_told_80 ?_
        exact r_retS (pc := 83) C h dX4_told_83
      have h := if_n hc2 h
      refine lv_tableOut (pc := 35) (tgt := 84) hx hb dX4_told_35 (tabOut0_2 hc0 hc1 hc2) (by decide) ?_
      refine lv_bipush (v := (-2)) (pc := 84) hx hb dX4_told_84 (by decide) ?_
      exact r_retS (pc := 86) C h dX4_told_86
    · have h := if_n hc h
      refine lv_aload_n (pc := 21) hx hb dX4_told_21 rfl (lv_at hl 0 rfl) ?_
      refine lv_iload_n (pc := 22) hx hb dX4_told_22 rfl (lv_at hl 1 rfl) ?_
      refine lv_bipush (v := 10) (pc := 23) hx hb dX4_told_23 (by decide) ?_
      refine lv_idiv (pc := 25) hx hb dX4_told_25 (by decide) ?_
      refine lv_iload_n (pc := 26) hx hb dX4_told_26 rfl (lv_at hl 1 rfl) ?_
      refine lv_bipush (v := 10) (pc := 27) hx hb dX4_told_27 (by decide) ?_
      refine lv_irem (pc := 29) hx hb dX4_told_29 (by decide) ?_
      obtain ⟨r1, hr1, h⟩ := bd_some h
      refine r_callR (pc := 30) C hP (c_X4_toldPiece hI hr1) k_X4_toldPiece wd_541 (q0 := 0) wu0 rfl rfl ⟨Nat.le_of_ble_eq_true rfl, Nat.le_of_ble_eq_true rfl⟩ rfl hl.1 rfl (Nat.le_of_ble_eq_true rfl) dX4_told_30 ⟨Nat.zero_le _, Nat.zero_le _⟩ ?_
      exact r_retS (pc := 33) C h dX4_told_33
  · have h := if_n hc h
    refine lv_aload_n (pc := 6) hx hb dX4_told_6 rfl (lv_at hl 0 rfl) ?_
    refine lv_iload_n (pc := 7) hx hb dX4_told_7 rfl (lv_at hl 1 rfl) ?_
    refine lv_bipush (v := 100) (pc := 8) hx hb dX4_told_8 (by decide) ?_
    refine lv_isub (pc := 10) hx hb dX4_told_10 ?_
    obtain ⟨r2, hr2, h⟩ := bd_some h
    refine r_callR (pc := 11) C hP (c_X4_toldKind hI hr2) k_X4_toldKind wd_537 (q0 := 0) wu0 rfl rfl ⟨Nat.le_of_ble_eq_true rfl, Nat.le_of_ble_eq_true rfl⟩ rfl hl.1 rfl (Nat.le_of_ble_eq_true rfl) dX4_told_11 ⟨Nat.zero_le _, Nat.zero_le _⟩ ?_
    exact r_retS (pc := 14) C h dX4_told_14
theorem c_X4_told {l : Launch} {D : va_G} {E : bE} {a : Nat → Nat} (hI : aI 49 a) {rr : Int32} {S : St} {x1 : Int32} (h : f_X4_told x1 S = some rr) : cR l D E yX4_told cX4_told 2 (some .int) 3 65 (Wu E a S) [.ref (a 0), .int x1] rr := cR_of (by decide) (Nat.le_of_ble_eq_true rfl) (fun p e s m args below meth c C hP => t_X4_told_0 hI C hP h)
/-! X5_in -/
def f_X5_in (x0 : Int32) (x1 : Int32) (x2 : Int32) : Option (Int32) :=
  if x0 < x1 then (some 0) else (if x2 < x0 then (some 0) else (some 1))
theorem t_X5_in_0 {rr : Int32} (C : bC D E RX5 cX5_in 3 (some .boolean) p s m args meth c) {x0 : Int32} {x1 : Int32} {x2 : Int32} (h : f_X5_in x0 x1 x2 = some rr) : gR p l e (bRm 0 0) s m args below meth c 3 (qS below rr args s) 0 [(0, .int x0), (1, .int x1), (2, .int x2)] [] := by
  obtain ⟨hx, hb, hml, hown, hts, hK, hr, hlocks⟩ := id C
  intro ls hl
  unfold f_X5_in at h
  refine lv_iload_n (pc := 0) hx hb dX5_in_0 rfl (lv_at hl 0 rfl) ?_
  refine lv_iload_n (pc := 1) hx hb dX5_in_1 rfl (lv_at hl 1 rfl) ?_
  refine lv_icmp_lt (tgt := 14) (pc := 2) hx hb dX5_in_2 (by decide) (fun hc => ?_) (fun hc => ?_)
  · have h := if_y hc h
    refine lv_iconst (v := 0) (pc := 14) hx hb dX5_in_14 (by decide) ?_
    exact r_retZ (pc := 15) C (gd_lit (by decide) h) dX5_in_15
  · have h := if_n hc h
    refine lv_iload_n (pc := 5) hx hb dX5_in_5 rfl (lv_at hl 0 rfl) ?_
    refine lv_iload_n (pc := 6) hx hb dX5_in_6 rfl (lv_at hl 2 rfl) ?_
    refine lv_icmp_gt (tgt := 14) (pc := 7) hx hb dX5_in_7 (by decide) (fun hc => ?_) (fun hc => ?_)
    · have h := if_y hc h
      refine lv_iconst (v := 0) (pc := 14) hx hb dX5_in_14 (by decide) ?_
      exact r_retZ (pc := 15) C (gd_lit (by decide) h) dX5_in_15
    · have h := if_n hc h
      refine lv_iconst (v := 1) (pc := 10) hx hb dX5_in_10 (by decide) ?_
      refine lv_goto (tgt := 15) (pc := 11) hx hb dX5_in_11 (by decide) ?_
      exact r_retZ (pc := 15) C (gd_lit (by decide) h) dX5_in_15
theorem c_X5_in {l : Launch} {D : va_G} {E : bE} {rr : Int32} {x0 : Int32} {x1 : Int32} {x2 : Int32} (h : f_X5_in x0 x1 x2 = some rr) : cS l D E yX5_in cX5_in 3 (some .boolean) 0 0 [.int x0, .int x1, .int x2] rr := cS_of (by decide) (Nat.le_of_ble_eq_true rfl) (fun p e s m args below meth c C => t_X5_in_0 C h)
/-! X5_isTerms -/
def f_X5_isTerms (x0 : Int32) : Option (Int32) :=
  bd (f_X5_in x0 0 4) fun r1 => gd (r1 &&& 1 = r1) (some r1)
theorem t_X5_isTerms_0 {rr : Int32} (C : bC D E RX5 cX5_isTerms 1 (some .boolean) p s m args meth c) {x0 : Int32} (h : f_X5_isTerms x0 = some rr) : gR p l e (bRm 1 22) s m args below meth c 1 (qS below rr args s) 0 [(0, .int x0)] [] := by
  obtain ⟨hx, hb, hml, hown, hts, hK, hr, hlocks⟩ := id C
  intro ls hl
  unfold f_X5_isTerms at h
  refine lv_iload_n (pc := 0) hx hb dX5_isTerms_0 rfl (lv_at hl 0 rfl) ?_
  refine lv_iconst (v := 0) (pc := 1) hx hb dX5_isTerms_1 (by decide) ?_
  refine lv_iconst (v := 4) (pc := 2) hx hb dX5_isTerms_2 (by decide) ?_
  obtain ⟨r1, hr1, h⟩ := bd_some h
  refine r_callS (pc := 3) C (c_X5_in hr1) k_X5_in wd_634 ⟨Nat.le_of_ble_eq_true rfl, Nat.le_of_ble_eq_true rfl⟩ rfl hl.1 rfl (Nat.le_of_ble_eq_true rfl) dX5_isTerms_3 ⟨Nat.zero_le _, Nat.zero_le _⟩ ?_
  exact r_retZ (pc := 6) C h dX5_isTerms_6
theorem c_X5_isTerms {l : Launch} {D : va_G} {E : bE} {rr : Int32} {x0 : Int32} (h : f_X5_isTerms x0 = some rr) : cS l D E yX5_isTerms cX5_isTerms 1 (some .boolean) 1 22 [.int x0] rr := cS_of (by decide) (Nat.le_of_ble_eq_true rfl) (fun p e s m args below meth c C => t_X5_isTerms_0 C h)
/-! X5_isPiece -/
def f_X5_isPiece (x0 : Int32) : Option (Int32) :=
  bd (f_X5_in x0 0 5) fun r1 => gd (r1 &&& 1 = r1) (some r1)
theorem t_X5_isPiece_0 {rr : Int32} (C : bC D E RX5 cX5_isPiece 1 (some .boolean) p s m args meth c) {x0 : Int32} (h : f_X5_isPiece x0 = some rr) : gR p l e (bRm 1 22) s m args below meth c 1 (qS below rr args s) 0 [(0, .int x0)] [] := by
  obtain ⟨hx, hb, hml, hown, hts, hK, hr, hlocks⟩ := id C
  intro ls hl
  unfold f_X5_isPiece at h
  refine lv_iload_n (pc := 0) hx hb dX5_isPiece_0 rfl (lv_at hl 0 rfl) ?_
  refine lv_iconst (v := 0) (pc := 1) hx hb dX5_isPiece_1 (by decide) ?_
  refine lv_iconst (v := 5) (pc := 2) hx hb dX5_isPiece_2 (by decide) ?_
  obtain ⟨r1, hr1, h⟩ := bd_some h
  refine r_callS (pc := 3) C (c_X5_in hr1) k_X5_in wd_634 ⟨Nat.le_of_ble_eq_true rfl, Nat.le_of_ble_eq_true rfl⟩ rfl hl.1 rfl (Nat.le_of_ble_eq_true rfl) dX5_isPiece_3 ⟨Nat.zero_le _, Nat.zero_le _⟩ ?_
  exact r_retZ (pc := 6) C h dX5_isPiece_6
theorem c_X5_isPiece {l : Launch} {D : va_G} {E : bE} {rr : Int32} {x0 : Int32} (h : f_X5_isPiece x0 = some rr) : cS l D E yX5_isPiece cX5_isPiece 1 (some .boolean) 1 22 [.int x0] rr := cS_of (by decide) (Nat.le_of_ble_eq_true rfl) (fun p e s m args below meth c C => t_X5_isPiece_0 C h)
/-! X5_has -/
def f_X5_has (x0 : Int32) (x1 : Int32) : Option (Int32) :=
  if ((x0 >>> (x1 &&& 31)) &&& 1) = 1 then (some 1) else (some 0)
theorem t_X5_has_0 {rr : Int32} (C : bC D E RX5 cX5_has 2 (some .boolean) p s m args meth c) {x0 : Int32} {x1 : Int32} (h : f_X5_has x0 x1 = some rr) : gR p l e (bRm 0 0) s m args below meth c 2 (qS below rr args s) 0 [(0, .int x0), (1, .int x1)] [] := by
  obtain ⟨hx, hb, hml, hown, hts, hK, hr, hlocks⟩ := id C
  intro ls hl
  unfold f_X5_has at h
  refine lv_iload_n (pc := 0) hx hb dX5_has_0 rfl (lv_at hl 0 rfl) ?_
  refine lv_iload_n (pc := 1) hx hb dX5_has_1 rfl (lv_at hl 1 rfl) ?_
  refine lv_ishr (pc := 2) hx hb dX5_has_2 ?_
  refine lv_iconst (v := 1) (pc := 3) hx hb dX5_has_3 (by decide) ?_
  refine lv_iand (pc := 4) hx hb dX5_has_4 ?_
  refine lv_iconst (v := 1) (pc := 5) hx hb dX5_has_5 (by decide) ?_
  refine lv_icmp_ne (tgt := 13) (pc := 6) hx hb dX5_has_6 (by decide) (fun hc => ?_) (fun hc => ?_)
  · have h := if_n hc h
    refine lv_iconst (v := 0) (pc := 13) hx hb dX5_has_13 (by decide) ?_
    exact r_retZ (pc := 14) C (gd_lit (by decide) h) dX5_has_14
  · have h := if_y hc h
    refine lv_iconst (v := 1) (pc := 9) hx hb dX5_has_9 (by decide) ?_
    refine lv_goto (tgt := 14) (pc := 10) hx hb dX5_has_10 (by decide) ?_
    exact r_retZ (pc := 14) C (gd_lit (by decide) h) dX5_has_14
theorem c_X5_has {l : Launch} {D : va_G} {E : bE} {rr : Int32} {x0 : Int32} {x1 : Int32} (h : f_X5_has x0 x1 = some rr) : cS l D E yX5_has cX5_has 2 (some .boolean) 0 0 [.int x0, .int x1] rr := cS_of (by decide) (Nat.le_of_ble_eq_true rfl) (fun p e s m args below meth c C => t_X5_has_0 C h)
/-! X5_bits -/
def FB_X5_bits_4 (N : Nat) (k4 : Int32 × Int32 × Int32 → Option (Int32)) (x0 : Int32) (x1 : Int32) (x2 : Int32) : Option (Int32) :=
  if 6 ≤ x2 then (some x1) else (bd (some (x1 + ((x0 >>> (x2 &&& 31)) &&& 1))) fun y1 => k4 (x0, y1, (x2 + 1)))
def F_X5_bits_4 (N : Nat) (k4 : Int32 × Int32 × Int32 → Option (Int32)) (v : Int32 × Int32 × Int32) : Option (Int32) := FB_X5_bits_4 N k4 v.1 v.2.1 v.2.2
theorem s_X5_bits_4 {rr : Int32} (N : Nat) (C : bC D E RX5 cX5_bits 3 (some .int) p s m args meth c) (k4 : Int32 × Int32 × Int32 → Option (Int32)) (hk4 : ∀ (x0 : Int32) (x1 : Int32) (x2 : Int32), k4 (x0, x1, x2) = some rr → gR p l e (bRm 0 0) s m args below meth c 3 (qS below rr args s) 4 [(0, .int x0), (1, .int x1), (2, .int x2)] []) {x0 : Int32} {x1 : Int32} {x2 : Int32} (h : FB_X5_bits_4 N k4 x0 x1 x2 = some rr) : gR p l e (bRm 0 0) s m args below meth c 3 (qS below rr args s) 4 [(0, .int x0), (1, .int x1), (2, .int x2)] [] := by
  obtain ⟨hx, hb, hml, hown, hts, hK, hr, hlocks⟩ := id C
  intro ls hl
  unfold FB_X5_bits_4 at h
  refine lv_iload_n (pc := 4) hx hb dX5_bits_4 rfl (lv_at hl 2 rfl) ?_
  refine lv_bipush (v := 6) (pc := 5) hx hb dX5_bits_5 (by decide) ?_
  refine lv_icmp_ge (tgt := 24) (pc := 7) hx hb dX5_bits_7 (by decide) (fun hc => ?_) (fun hc => ?_)
  · have h := if_y hc h
    refine lv_iload_n (pc := 24) hx hb dX5_bits_24 rfl (lv_at hl 1 rfl) ?_
    exact r_retS (pc := 25) C h dX5_bits_25
  · have h := if_n hc h
    refine lv_iload_n (pc := 10) hx hb dX5_bits_10 rfl (lv_at hl 1 rfl) ?_
    refine lv_iload_n (pc := 11) hx hb dX5_bits_11 rfl (lv_at hl 0 rfl) ?_
    refine lv_iload_n (pc := 12) hx hb dX5_bits_12 rfl (lv_at hl 2 rfl) ?_
    refine lv_ishr (pc := 13) hx hb dX5_bits_13 ?_
    refine lv_iconst (v := 1) (pc := 14) hx hb dX5_bits_14 (by decide) ?_
    refine lv_iand (pc := 15) hx hb dX5_bits_15 ?_
    refine lv_iadd (pc := 16) hx hb dX5_bits_16 ?_
    refine lv_topi (fun y1 ey1 => ?_)
    have h := bd_y ey1 h
    refine lv_istore_n (lv' := [(1, .int y1), (0, .int x0), (2, .int x2)]) (pc := 17) hx hb dX5_bits_17 rfl hl (by decide) rfl (fun ls hl => ?_)
    refine lv_iinc (v := (x2 + 1)) (lv' := [(2, .int (x2 + 1)), (1, .int y1), (0, .int x0)]) (pc := 18) hx hb dX5_bits_18 hl (k := 2) rfl (ii1 _) (by decide) rfl (fun ls hl => ?_)
    refine lv_goto (tgt := 4) (pc := 21) hx hb dX5_bits_21 (by decide) ?_
    exact hk4 _ _ _ h ls (lv_sub hl [2, 1, 0] rfl)
theorem t_X5_bits_4 {rr : Int32} (N : Nat) (C : bC D E RX5 cX5_bits 3 (some .int) p s m args meth c) {n : Nat} {x0 : Int32} {x1 : Int32} {x2 : Int32} (h : lpI (F_X5_bits_4 N) n (x0, x1, x2) = some rr) : gR p l e (bRm 0 0) s m args below meth c 3 (qS below rr args s) 4 [(0, .int x0), (1, .int x1), (2, .int x2)] [] := by
  exact lpI_ind (P := fun v q => q = rr → gR p l e (bRm 0 0) s m args below meth c 3 (qS below rr args s) 4 [(0, .int v.1), (1, .int v.2.1), (2, .int v.2.2)] []) (fun k hk v q h9 hq => s_X5_bits_4 N C k (fun x0 x1 x2 h8 => hk (x0, x1, x2) _ h8 rfl) (h9.trans (congrArg some hq))) n (x0, x1, x2) _ h rfl
def f_X5_bits (N : Nat) (x0 : Int32) : Option (Int32) :=
  lpI (F_X5_bits_4 N) N (x0, 0, 0)
theorem t_X5_bits_0 {rr : Int32} (N : Nat) (C : bC D E RX5 cX5_bits 3 (some .int) p s m args meth c) {x0 : Int32} (h : f_X5_bits N x0 = some rr) : gR p l e (bRm 0 0) s m args below meth c 3 (qS below rr args s) 0 [(0, .int x0)] [] := by
  obtain ⟨hx, hb, hml, hown, hts, hK, hr, hlocks⟩ := id C
  intro ls hl
  unfold f_X5_bits at h
  refine lv_iconst (v := 0) (pc := 0) hx hb dX5_bits_0 (by decide) ?_
  refine lv_istore_n (lv' := [(1, .int 0), (0, .int x0)]) (pc := 1) hx hb dX5_bits_1 rfl hl (by decide) rfl (fun ls hl => ?_)
  refine lv_iconst (v := 0) (pc := 2) hx hb dX5_bits_2 (by decide) ?_
  refine lv_istore_n (lv' := [(2, .int 0), (1, .int 0), (0, .int x0)]) (pc := 3) hx hb dX5_bits_3 rfl hl (by decide) rfl (fun ls hl => ?_)
  exact t_X5_bits_4 N C h ls (lv_sub hl [2, 1, 0] rfl)
theorem c_X5_bits {l : Launch} {D : va_G} {E : bE} (N : Nat) {rr : Int32} {x0 : Int32} (h : f_X5_bits N x0 = some rr) : cS l D E yX5_bits cX5_bits 3 (some .int) 0 0 [.int x0] rr := cS_of (by decide) (Nat.le_of_ble_eq_true rfl) (fun p e s m args below meth c C => t_X5_bits_0 N C h)
/-! X5_say -/
def f_X5_say (x1 : Int32) (S : St) : Option (Int32 × St) :=
  bd (f_X5_in x1 33 126) fun r1 => if r1 = 0 then (some ((-2), S)) else (if (S 0 0) = 20 then (some ((-4), S)) else (gd (ix (S 0 0) 20) (bd (some (sto S 1 (Int32.toNatClampNeg (S 0 0)) x1)) fun S1 => bd (some (sto S1 0 0 ((S1 0 0) + 1))) fun S2 => some ((S2 0 0), S2))))
theorem t_X5_say_0 {rr : Int32} {SS : St} (hI : aI 18 a) (C : bC D E RX5 cX5_say 2 (some .int) p s m args meth c) {x1 : Int32} {S : St} (h : f_X5_say x1 S = some (rr, SS)) : gU D (Wm E a) (aA 18 a) p l e (bRm 1 22) s m args below meth c 2 (qU D below (aA 18 a) (Wm E a SS) rr args s) 0 [(0, .ref (a 0)), (1, .int x1)] [] S := by
  obtain ⟨hx, hb, hml, hown, hts, hK, hr, hlocks⟩ := id C
  intro H locs hP hS ls hl
  unfold f_X5_say at h
  refine lv_iload_n (pc := 0) hx hb dX5_say_0 rfl (lv_at hl 1 rfl) ?_
  refine lv_bipush (v := 33) (pc := 1) hx hb dX5_say_1 (by decide) ?_
  refine lv_bipush (v := 126) (pc := 3) hx hb dX5_say_3 (by decide) ?_
  obtain ⟨r1, hr1, h⟩ := bd_some h
  refine r_callS (pc := 5) C (c_X5_in hr1) k_X5_in wd_634 ⟨Nat.le_of_ble_eq_true rfl, Nat.le_of_ble_eq_true rfl⟩ rfl hl.1 rfl (Nat.le_of_ble_eq_true rfl) dX5_say_5 ⟨Nat.zero_le _, Nat.zero_le _⟩ ?_
  refine lv_if_ne (tgt := 14) (pc := 8) hx hb dX5_say_8 (by decide) (fun hc => ?_) (fun hc => ?_)
  · have h := if_n hc h
    refine lv_aload_n (pc := 14) hx hb dX5_say_14 rfl (lv_at hl 0 rfl) ?_
    refine va_get (pc := 15) (v := .int (S 0 0)) hx hb hts inB5 hown hK.1 hP 0 wm0 rfl 0 (by decide) (hts _ wd_551) (fun _ h9 => h9) rfl dX5_say_15 ?_
    refine lv_bipush (v := 20) (pc := 18) hx hb dX5_say_18 (by decide) ?_
    refine lv_icmp_ne (tgt := 26) (pc := 20) hx hb dX5_say_20 (by decide) (fun hc => ?_) (fun hc => ?_)
    · have h := if_n hc h
      refine lv_aload_n (pc := 26) hx hb dX5_say_26 rfl (lv_at hl 0 rfl) ?_
      refine va_get (pc := 27) (v := .ref (a 1)) hx hb hts inB5 hown hK.1 hP 0 wm0 rfl 1 (by decide) (hts _ wd_552) (fun _ h9 => h9) rfl dX5_say_27 ?_
      refine lv_aload_n (pc := 30) hx hb dX5_say_30 rfl (lv_at hl 0 rfl) ?_
      refine va_get (pc := 31) (v := .int (S 0 0)) hx hb hts inB5 hown hK.1 hP 0 wm0 rfl 0 (by decide) (hts _ wd_551) (fun _ h9 => h9) rfl dX5_say_31 ?_
      refine lv_iload_n (pc := 34) hx hb dX5_say_34 rfl (lv_at hl 1 rfl) ?_
      obtain ⟨hin, h⟩ := gd_some h
      refine r_ast (pc := 35) (𝓦 := Wm E a) hx hb hK hP (dM hI _) hS 1 wm1 wm1s hin dX5_say_35 (fun H locs S1 eS1 hP hS => ?_)
      have h := bd_y eS1 h
      refine lv_aload_n (pc := 36) hx hb dX5_say_36 rfl (lv_at hl 0 rfl) ?_
      refine lv_dup (pc := 37) hx hb dX5_say_37 rfl ?_
      refine va_get (pc := 38) (v := .int (S1 0 0)) hx hb hts inB5 hown hK.1 hP 0 wm0 rfl 0 (by decide) (hts _ wd_551) (fun _ h9 => h9) rfl dX5_say_38 ?_
      refine lv_iconst (v := 1) (pc := 41) hx hb dX5_say_41 (by decide) ?_
      refine lv_iadd (pc := 42) hx hb dX5_say_42 ?_
      refine r_put (pc := 43) (𝓦 := Wm E a) hx hb hts hown hK inB5 tyX5 tyX5_ok nmX5 hP (dM hI _) hS 0 wm0 rfl 0 (by decide) wd_551 rfl (by decide +kernel) (Nat.le_of_ble_eq_true rfl) (wm0p0 _) dX5_say_43 (fun H locs S2 eS2 hP hS => ?_)
      have h := bd_y eS2 h
      refine lv_aload_n (pc := 46) hx hb dX5_say_46 rfl (lv_at hl 0 rfl) ?_
      refine va_get (pc := 47) (v := .int (S2 0 0)) hx hb hts inB5 hown hK.1 hP 0 wm0 rfl 0 (by decide) (hts _ wd_551) (fun _ h9 => h9) rfl dX5_say_47 ?_
      exact r_retU (pc := 50) (𝓦 := Wm E a) C h hP hS dX5_say_50
    · have h := if_y hc h
      refine lv_bipush (v := (-4)) (pc := 23) hx hb dX5_say_23 (by decide) ?_
      exact r_retU (pc := 25) (𝓦 := Wm E a) C h hP hS dX5_say_25
  · have h := if_y hc h
    refine lv_bipush (v := (-2)) (pc := 11) hx hb dX5_say_11 (by decide) ?_
    exact r_retU (pc := 13) (𝓦 := Wm E a) C h hP hS dX5_say_13
theorem c_X5_say {l : Launch} {D : va_G} {E : bE} {a : Nat → Nat} (hI : aI 18 a) {rr : Int32} {S : St} {SS : St} {x1 : Int32} (h : f_X5_say x1 S = some (rr, SS)) : cU l D E yX5_say cX5_say 2 (some .int) 1 22 (aA 18 a) (Wm E a S) (Wm E a SS) [.ref (a 0), .int x1] rr := cU_of (by decide) (Nat.le_of_ble_eq_true rfl) (fun p e s m args below meth c C => t_X5_say_0 hI C h)
/-! X5_wipe -/
def f_X5_wipe (S : St) : Option (Int32 × St) :=
  bd (some (S 0 0)) fun y1 => bd (some (sto S 0 0 0)) fun S1 => some (y1, S1)
theorem t_X5_wipe_0 {rr : Int32} {SS : St} (hI : aI 18 a) (C : bC D E RX5 cX5_wipe 2 (some .int) p s m args meth c) {S : St} (h : f_X5_wipe S = some (rr, SS)) : gU D (Wm E a) (aA 18 a) p l e (bRm 0 0) s m args below meth c 2 (qU D below (aA 18 a) (Wm E a SS) rr args s) 0 [(0, .ref (a 0))] [] S := by
  obtain ⟨hx, hb, hml, hown, hts, hK, hr, hlocks⟩ := id C
  intro H locs hP hS ls hl
  unfold f_X5_wipe at h
  refine lv_aload_n (pc := 0) hx hb dX5_wipe_0 rfl (lv_at hl 0 rfl) ?_
  refine va_get (pc := 1) (v := .int (S 0 0)) hx hb hts inB5 hown hK.1 hP 0 wm0 rfl 0 (by decide) (hts _ wd_551) (fun _ h9 => h9) rfl dX5_wipe_1 ?_
  refine lv_topi (fun y1 ey1 => ?_)
  have h := bd_y ey1 h
  refine lv_istore_n (lv' := [(1, .int y1), (0, .ref (a 0))]) (pc := 4) hx hb dX5_wipe_4 rfl hl (by decide) rfl (fun ls hl => ?_)
  refine lv_aload_n (pc := 5) hx hb dX5_wipe_5 rfl (lv_at hl 1 rfl) ?_
  refine lv_iconst (v := 0) (pc := 6) hx hb dX5_wipe_6 (by decide) ?_
  refine r_put (pc := 7) (𝓦 := Wm E a) hx hb hts hown hK inB5 tyX5 tyX5_ok nmX5 hP (dM hI _) hS 0 wm0 rfl 0 (by decide) wd_551 rfl (by decide +kernel) (Nat.le_of_ble_eq_true rfl) (wm0p0 _) dX5_wipe_7 (fun H locs S1 eS1 hP hS => ?_)
  have h := bd_y eS1 h
  refine lv_iload_n (pc := 10) hx hb dX5_wipe_10 rfl (lv_at hl 0 rfl) ?_
  exact r_retU (pc := 11) (𝓦 := Wm E a) C h hP hS dX5_wipe_11
theorem c_X5_wipe {l : Launch} {D : va_G} {E : bE} {a : Nat → Nat} (hI : aI 18 a) {rr : Int32} {S : St} {SS : St} (h : f_X5_wipe S = some (rr, SS)) : cU l D E yX5_wipe cX5_wipe 2 (some .int) 0 0 (aA 18 a) (Wm E a S) (Wm E a SS) [.ref (a 0)] rr := cU_of (by decide) (Nat.le_of_ble_eq_true rfl) (fun p e s m args below meth c C => t_X5_wipe_0 hI C h)
/-! X5_askOf -/
def f_X5_askOf (x0 : Int32) : Option (Int32) :=
  if x0 = 97 then (some 8) else (if x0 = 99 then (some 16) else (if x0 = 110 then (some 1) else (if x0 = 112 then (some 4) else (if x0 = 115 then (some 2) else (some 0)))))
theorem t_X5_askOf_0 {rr : Int32} (C : bC D E RX5 cX5_askOf 1 (some .int) p s m args meth c) {x0 : Int32} (h : f_X5_askOf x0 = some rr) : gR p l e (bRm 0 0) s m args below meth c 1 (qS below rr args s) 0 [(0, .int x0)] [] := by
  obtain ⟨hx, hb, hml, hown, hts, hK, hr, hlocks⟩ := id C
  intro ls hl
  unfold f_X5_askOf at h
  refine lv_iload_n (pc := 0) hx hb dX5_askOf_0 rfl (lv_at hl 0 rfl) ?_
  by_cases hc97 : x0 = 97
  · refine r_lookIn (pc := 1) (v := 97) (off := 57) (tgt := 58) hx hb dX5_askOf_1 (by decide +kernel) hc97 (by decide +kernel) (by decide) ?_
    have h := if_y hc97 h
    refine lv_bipush (v := 8) (pc := 58) hx hb dX5_askOf_58 (by decide) ?_
    exact r_retS (pc := 60) C h dX5_askOf_60
  have h := if_n hc97 h
  by_cases hc99 : x0 = 99
  · refine r_lookIn (pc := 1) (v := 99) (off := 60) (tgt := 61) hx hb dX5_askOf_1 (by decide +kernel) hc99 (by decide +kernel) (by decide) ?_
    have h := if_y hc99 h
    refine lv_bipush (v := 16) (pc := 61) hx hb dX5_askOf_61 (by decide) ?_
    exact r_retS (pc := 63) C h dX5_askOf_63
  have h := if_n hc99 h
  by_cases hc110 : x0 = 110
  · refine r_lookIn (pc := 1) (v := 110) (off := 51) (tgt := 52) hx hb dX5_askOf_1 (by decide +kernel) hc110 (by decide +kernel) (by decide) ?_
    have h := if_y hc110 h
    refine lv_iconst (v := 1) (pc := 52) hx hb dX5_askOf_52 (by decide) ?_
    exact r_retS (pc := 53) C h dX5_askOf_53
  have h := if_n hc110 h
  by_cases hc112 : x0 = 112
  · refine r_lookIn (pc := 1) (v := 112) (off := 55) (tgt := 56) hx hb dX5_askOf_1 (by decide +kernel) hc112 (by decide +kernel) (by decide) ?_
    have h := if_y hc112 h
    refine lv_iconst (v := 4) (pc := 56) hx hb dX5_askOf_56 (by decide) ?_
    exact r_retS (pc := 57) C h dX5_askOf_57
  have h := if_n hc112 h
  by_cases hc115 : x0 = 115
  · refine r_lookIn (pc := 1) (v := 115) (off := 53) (tgt := 54) hx hb dX5_askOf_1 (by decide +kernel) hc115 (by decide +kernel) (by decide) ?_
    have h := if_y hc115 h
    refine lv_iconst (v := 2) (pc := 54) hx hb dX5_askOf_54 (by decide) ?_
    exact r_retS (pc := 55) C h dX5_askOf_55
  have h := if_n hc115 h
  refine lv_lookup (pc := 1) (off := 63) (tgt := 64) hx hb dX5_askOf_1 (by decide +kernel) ((lv_osw (k := 97) hc97 (by decide)).trans ((lv_osw (k := 99) hc99 (by decide)).trans ((lv_osw (k := 110) hc110 (by decide)).trans ((lv_osw (k := 112) hc112 (by decide)).trans ((lv_osw (k := 115) hc115 (by decide)).trans (rfl)))))) (by decide) ?_
  refine lv_iconst (v := 0) (pc := 64) hx hb dX5_askOf_64 (by decide) ?_
  exact r_retS (pc := 65) C h dX5_askOf_65
theorem c_X5_askOf {l : Launch} {D : va_G} {E : bE} {rr : Int32} {x0 : Int32} (h : f_X5_askOf x0 = some rr) : cS l D E yX5_askOf cX5_askOf 1 (some .int) 0 0 [.int x0] rr := cS_of (by decide) (Nat.le_of_ble_eq_true rfl) (fun p e s m args below meth c C => t_X5_askOf_0 C h)
/-! X5_faultOf -/
def B_X5_faultOf_215 (N : Nat) (x1 : Int32) (S : St) : Option (Int32 × St) :=
  if x1 = 0 then (bd (some (sto S 0 12 31)) fun S1 => some ((-6), S1)) else (bd (some (sto S 0 12 (S 0 12))) fun S2 => some ((-6), S2))
theorem t_X5_faultOf_215 {rr : Int32} {SS : St} (hI : aI 18 a) (N : Nat) (C : bC D E RX5 cX5_faultOf 5 (some .int) p s m args meth c) {x1 : Int32} {S : St} (h : B_X5_faultOf_215 N x1 S = some (rr, SS)) : gU D (Wm E a) (aA 18 a) p l e (bRm 1 22) s m args below meth c 5 (qU D below (aA 18 a) (Wm E a SS) rr args s) 215 [(0, .ref (a 0)), (1, .int x1)] [] S := by
  obtain ⟨hx, hb, hml, hown, hts, hK, hr, hlocks⟩ := id C
  intro H locs hP hS ls hl
  unfold B_X5_faultOf_215 at h
  refine lv_aload_n (pc := 215) hx hb dX5_faultOf_215 rfl (lv_at hl 0 rfl) ?_
  refine lv_iload_n (pc := 216) hx hb dX5_faultOf_216 rfl (lv_at hl 1 rfl) ?_
  refine lv_if_eq (tgt := 227) (pc := 217) hx hb dX5_faultOf_217 (by decide) (fun hc => ?_) (fun hc => ?_)
  · have h := if_y hc h
    refine lv_bipush (v := 31) (pc := 227) hx hb dX5_faultOf_227 (by decide) ?_
    refine r_put (pc := 229) (𝓦 := Wm E a) hx hb hts hown hK inB5 tyX5 tyX5_ok nmX5 hP (dM hI _) hS 0 wm0 rfl 12 (by decide) wd_563 rfl (by decide +kernel) (Nat.le_of_ble_eq_true rfl) (wm0p12 _) dX5_faultOf_229 (fun H locs S1 eS1 hP hS => ?_)
    have h := bd_y eS1 h
    refine lv_bipush (v := (-6)) (pc := 232) hx hb dX5_faultOf_232 (by decide) ?_
    exact r_retU (pc := 234) (𝓦 := Wm E a) C h hP hS dX5_faultOf_234
  · have h := if_n hc h
    refine lv_aload_n (pc := 220) hx hb dX5_faultOf_220 rfl (lv_at hl 0 rfl) ?_
    refine va_get (pc := 221) (v := .int (S 0 12)) hx hb hts inB5 hown hK.1 hP 0 wm0 rfl 12 (by decide) (hts _ wd_563) (fun _ h9 => h9) rfl dX5_faultOf_221 ?_
    refine lv_goto (tgt := 229) (pc := 224) hx hb dX5_faultOf_224 (by decide) ?_
    refine r_put (pc := 229) (𝓦 := Wm E a) hx hb hts hown hK inB5 tyX5 tyX5_ok nmX5 hP (dM hI _) hS 0 wm0 rfl 12 (by decide) wd_563 rfl (by decide +kernel) (Nat.le_of_ble_eq_true rfl) (wm0p12 _) dX5_faultOf_229 (fun H locs S2 eS2 hP hS => ?_)
    have h := bd_y eS2 h
    refine lv_bipush (v := (-6)) (pc := 232) hx hb dX5_faultOf_232 (by decide) ?_
    exact r_retU (pc := 234) (𝓦 := Wm E a) C h hP hS dX5_faultOf_234
def B_X5_faultOf_138 (N : Nat) (k23 : Int32 × Int32 × Int32 × St → Option (Int32 × St)) (x1 : Int32) (x2 : Int32) (x3 : Int32) (x4 : Int32) (S : St) : Option (Int32 × St) :=
  if x1 = 0 then (some (x3, S)) else (bd (f_X5_in x4 48 52) fun r1 => if r1 = 0 then (some (x3, S)) else (if (x4 - 48) ≤ x2 then (some (x3, S)) else (bd (some (x4 - 48)) fun y2 => bd (some (sto S 0 12 ((S 0 12) ||| (1 <<< (y2 &&& 31))))) fun S1 => k23 (x1, y2, (x3 + 1), S1))))
theorem t_X5_faultOf_138 {rr : Int32} {SS : St} (hI : aI 18 a) (N : Nat) (C : bC D E RX5 cX5_faultOf 5 (some .int) p s m args meth c) (k23 : Int32 × Int32 × Int32 × St → Option (Int32 × St)) (hk23 : ∀ (x1 : Int32) (x2 : Int32) (x3 : Int32) (S : St), k23 (x1, x2, x3, S) = some (rr, SS) → gU D (Wm E a) (aA 18 a) p l e (bRm 1 22) s m args below meth c 5 (qU D below (aA 18 a) (Wm E a SS) rr args s) 23 [(0, .ref (a 0)), (1, .int x1), (2, .int x2), (3, .int x3)] [] S) {x1 : Int32} {x2 : Int32} {x3 : Int32} {x4 : Int32} {S : St} (h : B_X5_faultOf_138 N k23 x1 x2 x3 x4 S = some (rr, SS)) : gU D (Wm E a) (aA 18 a) p l e (bRm 1 22) s m args below meth c 5 (qU D below (aA 18 a) (Wm E a SS) rr args s) 138 [(0, .ref (a 0)), (1, .int x1), (2, .int x2), (3, .int x3), (4, .int x4)] [] S := by
  obtain ⟨hx, hb, hml, hown, hts, hK, hr, hlocks⟩ := id C
  intro H locs hP hS ls hl
  unfold B_X5_faultOf_138 at h
  refine lv_iload_n (pc := 138) hx hb dX5_faultOf_138 rfl (lv_at hl 1 rfl) ?_
  refine lv_if_eq (tgt := 184) (pc := 139) hx hb dX5_faultOf_139 (by decide) (fun hc => ?_) (fun hc => ?_)
  · have h := if_y hc h
    refine lv_iload_n (pc := 184) hx hb dX5_faultOf_184 rfl (lv_at hl 3 rfl) ?_
    exact r_retU (pc := 185) (𝓦 := Wm E a) C h hP hS dX5_faultOf_185
  · have h := if_n hc h
    refine lv_iload (pc := 142) hx hb dX5_faultOf_142 (lv_at hl 4 rfl) ?_
    refine lv_bipush (v := 48) (pc := 144) hx hb dX5_faultOf_144 (by decide) ?_
    refine lv_bipush (v := 52) (pc := 146) hx hb dX5_faultOf_146 (by decide) ?_
    obtain ⟨r1, hr1, h⟩ := bd_some h
    refine r_callS (pc := 148) C (c_X5_in hr1) k_X5_in wd_634 ⟨Nat.le_of_ble_eq_true rfl, Nat.le_of_ble_eq_true rfl⟩ rfl hl.1 rfl (Nat.le_of_ble_eq_true rfl) dX5_faultOf_148 ⟨Nat.zero_le _, Nat.zero_le _⟩ ?_
    refine lv_if_eq (tgt := 184) (pc := 151) hx hb dX5_faultOf_151 (by decide) (fun hc => ?_) (fun hc => ?_)
    · have h := if_y hc h
      refine lv_iload_n (pc := 184) hx hb dX5_faultOf_184 rfl (lv_at hl 3 rfl) ?_
      exact r_retU (pc := 185) (𝓦 := Wm E a) C h hP hS dX5_faultOf_185
    · have h := if_n hc h
      refine lv_iload (pc := 154) hx hb dX5_faultOf_154 (lv_at hl 4 rfl) ?_
      refine lv_bipush (v := 48) (pc := 156) hx hb dX5_faultOf_156 (by decide) ?_
      refine lv_isub (pc := 158) hx hb dX5_faultOf_158 ?_
      refine lv_iload_n (pc := 159) hx hb dX5_faultOf_159 rfl (lv_at hl 2 rfl) ?_
      refine lv_icmp_le (tgt := 184) (pc := 160) hx hb dX5_faultOf_160 (by decide) (fun hc => ?_) (fun hc => ?_)
      · have h := if_y hc h
        refine lv_iload_n (pc := 184) hx hb dX5_faultOf_184 rfl (lv_at hl 3 rfl) ?_
        exact r_retU (pc := 185) (𝓦 := Wm E a) C h hP hS dX5_faultOf_185
      · have h := if_n hc h
        refine lv_iload (pc := 163) hx hb dX5_faultOf_163 (lv_at hl 4 rfl) ?_
        refine lv_bipush (v := 48) (pc := 165) hx hb dX5_faultOf_165 (by decide) ?_
        refine lv_isub (pc := 167) hx hb dX5_faultOf_167 ?_
        refine lv_topi (fun y2 ey2 => ?_)
        have h := bd_y ey2 h
        refine lv_istore_n (lv' := [(2, .int y2), (0, .ref (a 0)), (1, .int x1), (3, .int x3), (4, .int x4)]) (pc := 168) hx hb dX5_faultOf_168 rfl hl (by decide) rfl (fun ls hl => ?_)
        refine lv_aload_n (pc := 169) hx hb dX5_faultOf_169 rfl (lv_at hl 1 rfl) ?_
        refine lv_dup (pc := 170) hx hb dX5_faultOf_170 rfl ?_
        refine va_get (pc := 171) (v := .int (S 0 12)) hx hb hts inB5 hown hK.1 hP 0 wm0 rfl 12 (by decide) (hts _ wd_563) (fun _ h9 => h9) rfl dX5_faultOf_171 ?_
        refine lv_iconst (v := 1) (pc := 174) hx hb dX5_faultOf_174 (by decide) ?_
        refine lv_iload_n (pc := 175) hx hb dX5_faultOf_175 rfl (lv_at hl 0 rfl) ?_
        refine lv_ishl (pc := 176) hx hb dX5_faultOf_176 ?_
        refine lv_ior (pc := 177) hx hb dX5_faultOf_177 ?_
        refine r_put (pc := 178) (𝓦 := Wm E a) hx hb hts hown hK inB5 tyX5 tyX5_ok nmX5 hP (dM hI _) hS 0 wm0 rfl 12 (by decide) wd_563 rfl (by decide +kernel) (Nat.le_of_ble_eq_true rfl) (wm0p12 _) dX5_faultOf_178 (fun H locs S1 eS1 hP hS => ?_)
        have h := bd_y eS1 h
        refine lv_goto (tgt := 186) (pc := 181) hx hb dX5_faultOf_181 (by decide) ?_
        refine lv_iinc (v := (x3 + 1)) (lv' := [(3, .int (x3 + 1)), (2, .int y2), (0, .ref (a 0)), (1, .int x1), (4, .int x4)]) (pc := 186) hx hb dX5_faultOf_186 hl (k := 3) rfl (ii1 _) (by decide) rfl (fun ls hl => ?_)
        refine lv_goto (tgt := 23) (pc := 189) hx hb dX5_faultOf_189 (by decide) ?_
        exact hk23 _ _ _ _ h H locs hP hS ls (lv_sub hl [2, 3, 1, 0] rfl)
def B_X5_faultOf_115 (N : Nat) (k23 : Int32 × Int32 × Int32 × St → Option (Int32 × St)) (x1 : Int32) (x2 : Int32) (x3 : Int32) (x4 : Int32) (S : St) : Option (Int32 × St) :=
  if (S 0 11) < 0 then (B_X5_faultOf_138 N k23 x1 x2 x3 x4 S) else (if x1 = 0 then (if x4 = 58 then (k23 (1, x2, (x3 + 1), S)) else (B_X5_faultOf_138 N k23 x1 x2 x3 x4 S)) else (B_X5_faultOf_138 N k23 x1 x2 x3 x4 S))
theorem t_X5_faultOf_115 {rr : Int32} {SS : St} (hI : aI 18 a) (N : Nat) (C : bC D E RX5 cX5_faultOf 5 (some .int) p s m args meth c) (k23 : Int32 × Int32 × Int32 × St → Option (Int32 × St)) (hk23 : ∀ (x1 : Int32) (x2 : Int32) (x3 : Int32) (S : St), k23 (x1, x2, x3, S) = some (rr, SS) → gU D (Wm E a) (aA 18 a) p l e (bRm 1 22) s m args below meth c 5 (qU D below (aA 18 a) (Wm E a SS) rr args s) 23 [(0, .ref (a 0)), (1, .int x1), (2, .int x2), (3, .int x3)] [] S) {x1 : Int32} {x2 : Int32} {x3 : Int32} {x4 : Int32} {S : St} (h : B_X5_faultOf_115 N k23 x1 x2 x3 x4 S = some (rr, SS)) : gU D (Wm E a) (aA 18 a) p l e (bRm 1 22) s m args below meth c 5 (qU D below (aA 18 a) (Wm E a SS) rr args s) 115 [(0, .ref (a 0)), (1, .int x1), (2, .int x2), (3, .int x3), (4, .int x4)] [] S := by
  obtain ⟨hx, hb, hml, hown, hts, hK, hr, hlocks⟩ := id C
  intro H locs hP hS ls hl
  unfold B_X5_faultOf_115 at h
  refine lv_aload_n (pc := 115) hx hb dX5_faultOf_115 rfl (lv_at hl 0 rfl) ?_
  refine va_get (pc := 116) (v := .int (S 0 11)) hx hb hts inB5 hown hK.1 hP 0 wm0 rfl 11 (by decide) (hts _ wd_562) (fun _ h9 => h9) rfl dX5_faultOf_116 ?_
  refine lv_if_lt (tgt := 138) (pc := 119) hx hb dX5_faultOf_119 (by decide) (fun hc => ?_) (fun hc => ?_)
  · have h := if_y hc h
    exact t_X5_faultOf_138 hI N C k23 hk23 h H locs hP hS ls (lv_sub hl [0, 1, 2, 3, 4] rfl)
  · have h := if_n hc h
    refine lv_iload_n (pc := 122) hx hb dX5_faultOf_122 rfl (lv_at hl 1 rfl) ?_
    refine lv_if_ne (tgt := 138) (pc := 123) hx hb dX5_faultOf_123 (by decide) (fun hc => ?_) (fun hc => ?_)
    · have h := if_n hc h
      exact t_X5_faultOf_138 hI N C k23 hk23 h H locs hP hS ls (lv_sub hl [0, 1, 2, 3, 4] rfl)
    · have h := if_y hc h
      refine lv_iload (pc := 126) hx hb dX5_faultOf_126 (lv_at hl 4 rfl) ?_
      refine lv_bipush (v := 58) (pc := 128) hx hb dX5_faultOf_128 (by decide) ?_
      refine lv_icmp_ne (tgt := 138) (pc := 130) hx hb dX5_faultOf_130 (by decide) (fun hc => ?_) (fun hc => ?_)
      · have h := if_n hc h
        exact t_X5_faultOf_138 hI N C k23 hk23 h H locs hP hS ls (lv_sub hl [0, 1, 2, 3, 4] rfl)
      · have h := if_y hc h
        refine lv_iconst (v := 1) (pc := 133) hx hb dX5_faultOf_133 (by decide) ?_
        refine lv_istore_n (lv' := [(1, .int 1), (0, .ref (a 0)), (2, .int x2), (3, .int x3), (4, .int x4)]) (pc := 134) hx hb dX5_faultOf_134 rfl hl (by decide) rfl (fun ls hl => ?_)
        refine lv_goto (tgt := 186) (pc := 135) hx hb dX5_faultOf_135 (by decide) ?_
        refine lv_iinc (v := (x3 + 1)) (lv' := [(3, .int (x3 + 1)), (1, .int 1), (0, .ref (a 0)), (2, .int x2), (4, .int x4)]) (pc := 186) hx hb dX5_faultOf_186 hl (k := 3) rfl (ii1 _) (by decide) rfl (fun ls hl => ?_)
        refine lv_goto (tgt := 23) (pc := 189) hx hb dX5_faultOf_189 (by decide) ?_
        exact hk23 _ _ _ _ h H locs hP hS ls (lv_sub hl [2, 1, 3, 0] rfl)
def B_X5_faultOf_84 (N : Nat) (k23 : Int32 × Int32 × Int32 × St → Option (Int32 × St)) (x1 : Int32) (x2 : Int32) (x3 : Int32) (x4 : Int32) (S : St) : Option (Int32 × St) :=
  if 0 ≤ (S 0 11) then (B_X5_faultOf_115 N k23 x1 x2 x3 x4 S) else (bd (f_X5_in x4 48 51) fun r1 => if r1 = 0 then (B_X5_faultOf_115 N k23 x1 x2 x3 x4 S) else (bd (some (sto S 0 11 (x4 - 48))) fun S1 => k23 (x1, x2, (x3 + 1), S1)))
theorem t_X5_faultOf_84 {rr : Int32} {SS : St} (hI : aI 18 a) (N : Nat) (C : bC D E RX5 cX5_faultOf 5 (some .int) p s m args meth c) (k23 : Int32 × Int32 × Int32 × St → Option (Int32 × St)) (hk23 : ∀ (x1 : Int32) (x2 : Int32) (x3 : Int32) (S : St), k23 (x1, x2, x3, S) = some (rr, SS) → gU D (Wm E a) (aA 18 a) p l e (bRm 1 22) s m args below meth c 5 (qU D below (aA 18 a) (Wm E a SS) rr args s) 23 [(0, .ref (a 0)), (1, .int x1), (2, .int x2), (3, .int x3)] [] S) {x1 : Int32} {x2 : Int32} {x3 : Int32} {x4 : Int32} {S : St} (h : B_X5_faultOf_84 N k23 x1 x2 x3 x4 S = some (rr, SS)) : gU D (Wm E a) (aA 18 a) p l e (bRm 1 22) s m args below meth c 5 (qU D below (aA 18 a) (Wm E a SS) rr args s) 84 [(0, .ref (a 0)), (1, .int x1), (2, .int x2), (3, .int x3), (4, .int x4)] [] S := by
  obtain ⟨hx, hb, hml, hown, hts, hK, hr, hlocks⟩ := id C
  intro H locs hP hS ls hl
  unfold B_X5_faultOf_84 at h
  refine lv_aload_n (pc := 84) hx hb dX5_faultOf_84 rfl (lv_at hl 0 rfl) ?_
  refine va_get (pc := 85) (v := .int (S 0 11)) hx hb hts inB5 hown hK.1 hP 0 wm0 rfl 11 (by decide) (hts _ wd_562) (fun _ h9 => h9) rfl dX5_faultOf_85 ?_
  refine lv_if_ge (tgt := 115) (pc := 88) hx hb dX5_faultOf_88 (by decide) (fun hc => ?_) (fun hc => ?_)
  · have h := if_y hc h
    exact t_X5_faultOf_115 hI N C k23 hk23 h H locs hP hS ls (lv_sub hl [0, 1, 2, 3, 4] rfl)
  · have h := if_n hc h
    refine lv_iload (pc := 91) hx hb dX5_faultOf_91 (lv_at hl 4 rfl) ?_
    refine lv_bipush (v := 48) (pc := 93) hx hb dX5_faultOf_93 (by decide) ?_
    refine lv_bipush (v := 51) (pc := 95) hx hb dX5_faultOf_95 (by decide) ?_
    obtain ⟨r1, hr1, h⟩ := bd_some h
    refine r_callS (pc := 97) C (c_X5_in hr1) k_X5_in wd_634 ⟨Nat.le_of_ble_eq_true rfl, Nat.le_of_ble_eq_true rfl⟩ rfl hl.1 rfl (Nat.le_of_ble_eq_true rfl) dX5_faultOf_97 ⟨Nat.zero_le _, Nat.zero_le _⟩ ?_
    refine lv_if_eq (tgt := 115) (pc := 100) hx hb dX5_faultOf_100 (by decide) (fun hc => ?_) (fun hc => ?_)
    · have h := if_y hc h
      exact t_X5_faultOf_115 hI N C k23 hk23 h H locs hP hS ls (lv_sub hl [0, 1, 2, 3, 4] rfl)
    · have h := if_n hc h
      refine lv_aload_n (pc := 103) hx hb dX5_faultOf_103 rfl (lv_at hl 0 rfl) ?_
      refine lv_iload (pc := 104) hx hb dX5_faultOf_104 (lv_at hl 4 rfl) ?_
      refine lv_bipush (v := 48) (pc := 106) hx hb dX5_faultOf_106 (by decide) ?_
      refine lv_isub (pc := 108) hx hb dX5_faultOf_108 ?_
      refine r_put (pc := 109) (𝓦 := Wm E a) hx hb hts hown hK inB5 tyX5 tyX5_ok nmX5 hP (dM hI _) hS 0 wm0 rfl 11 (by decide) wd_562 rfl (by decide +kernel) (Nat.le_of_ble_eq_true rfl) (wm0p11 _) dX5_faultOf_109 (fun H locs S1 eS1 hP hS => ?_)
      have h := bd_y eS1 h
      refine lv_goto (tgt := 186) (pc := 112) hx hb dX5_faultOf_112 (by decide) ?_
      refine lv_iinc (v := (x3 + 1)) (lv' := [(3, .int (x3 + 1)), (0, .ref (a 0)), (1, .int x1), (2, .int x2), (4, .int x4)]) (pc := 186) hx hb dX5_faultOf_186 hl (k := 3) rfl (ii1 _) (by decide) rfl (fun ls hl => ?_)
      refine lv_goto (tgt := 23) (pc := 189) hx hb dX5_faultOf_189 (by decide) ?_
      exact hk23 _ _ _ _ h H locs hP hS ls (lv_sub hl [1, 2, 3, 0] rfl)
def FB_X5_faultOf_23 (N : Nat) (k23 : Int32 × Int32 × Int32 × St → Option (Int32 × St)) (x1 : Int32) (x2 : Int32) (x3 : Int32) (S : St) : Option (Int32 × St) :=
  if (S 0 0) ≤ x3 then (if (S 0 11) < 0 then (some ((S 0 0), S)) else (if x1 = 0 then (B_X5_faultOf_215 N x1 S) else (if (S 0 12) = 0 then (some ((S 0 0), S)) else (B_X5_faultOf_215 N x1 S)))) else (gd (ix x3 20) (bd (some (S 1 (Int32.toNatClampNeg x3))) fun y1 => if 0 ≤ (S 0 11) then (B_X5_faultOf_84 N k23 x1 x2 x3 y1 S) else (bd (f_X5_askOf y1) fun r2 => if r2 ≤ 0 then (B_X5_faultOf_84 N k23 x1 x2 x3 y1 S) else (bd (f_X5_askOf y1) fun r3 => if ((S 0 10) &&& r3) = 0 then (bd (f_X5_askOf y1) fun r4 => bd (some (sto S 0 10 ((S 0 10) ||| r4))) fun S1 => k23 (x1, x2, (x3 + 1), S1)) else (B_X5_faultOf_84 N k23 x1 x2 x3 y1 S)))))
def F_X5_faultOf_23 (N : Nat) (k23 : Int32 × Int32 × Int32 × St → Option (Int32 × St)) (v : Int32 × Int32 × Int32 × St) : Option (Int32 × St) := FB_X5_faultOf_23 N k23 v.1 v.2.1 v.2.2.1 v.2.2.2
theorem s_X5_faultOf_23 {rr : Int32} {SS : St} (hI : aI 18 a) (N : Nat) (C : bC D E RX5 cX5_faultOf 5 (some .int) p s m args meth c) (k23 : Int32 × Int32 × Int32 × St → Option (Int32 × St)) (hk23 : ∀ (x1 : Int32) (x2 : Int32) (x3 : Int32) (S : St), k23 (x1, x2, x3, S) = some (rr, SS) → gU D (Wm E a) (aA 18 a) p l e (bRm 1 22) s m args below meth c 5 (qU D below (aA 18 a) (Wm E a SS) rr args s) 23 [(0, .ref (a 0)), (1, .int x1), (2, .int x2), (3, .int x3)] [] S) {x1 : Int32} {x2 : Int32} {x3 : Int32} {S : St} (h : FB_X5_faultOf_23 N k23 x1 x2 x3 S = some (rr, SS)) : gU D (Wm E a) (aA 18 a) p l e (bRm 1 22) s m args below meth c 5 (qU D below (aA 18 a) (Wm E a SS) rr args s) 23 [(0, .ref (a 0)), (1, .int x1), (2, .int x2), (3, .int x3)] [] S := by
  obtain ⟨hx, hb, hml, hown, hts, hK, hr, hlocks⟩ := id C
  intro H locs hP hS ls hl
  unfold FB_X5_faultOf_23 at h
  refine lv_iload_n (pc := 23) hx hb dX5_faultOf_23 rfl (lv_at hl 3 rfl) ?_
  refine lv_aload_n (pc := 24) hx hb dX5_faultOf_24 rfl (lv_at hl 0 rfl) ?_
  refine va_get (pc := 25) (v := .int (S 0 0)) hx hb hts inB5 hown hK.1 hP 0 wm0 rfl 0 (by decide) (hts _ wd_551) (fun _ h9 => h9) rfl dX5_faultOf_25 ?_
  refine lv_icmp_ge (tgt := 192) (pc := 28) hx hb dX5_faultOf_28 (by decide) (fun hc => ?_) (fun hc => ?_)
  · have h := if_y hc h
    refine lv_aload_n (pc := 192) hx hb dX5_faultOf_192 rfl (lv_at hl 0 rfl) ?_
    refine va_get (pc := 193) (v := .int (S 0 11)) hx hb hts inB5 hown hK.1 hP 0 wm0 rfl 11 (by decide) (hts _ wd_562) (fun _ h9 => h9) rfl dX5_faultOf_193 ?_
    refine lv_if_lt (tgt := 210) (pc := 196) hx hb dX5_faultOf_196 (by decide) (fun hc => ?_) (fun hc => ?_)
    · have h := if_y hc h
      refine lv_aload_n (pc := 210) hx hb dX5_faultOf_210 rfl (lv_at hl 0 rfl) ?_
      refine va_get (pc := 211) (v := .int (S 0 0)) hx hb hts inB5 hown hK.1 hP 0 wm0 rfl 0 (by decide) (hts _ wd_551) (fun _ h9 => h9) rfl dX5_faultOf_211 ?_
      exact r_retU (pc := 214) (𝓦 := Wm E a) C h hP hS dX5_faultOf_214
    · have h := if_n hc h
      refine lv_iload_n (pc := 199) hx hb dX5_faultOf_199 rfl (lv_at hl 1 rfl) ?_
      refine lv_if_eq (tgt := 215) (pc := 200) hx hb dX5_faultOf_200 (by decide) (fun hc => ?_) (fun hc => ?_)
      · have h := if_y hc h
        exact t_X5_faultOf_215 hI N C h H locs hP hS ls (lv_sub hl [0, 1] rfl)
      · have h := if_n hc h
        refine lv_aload_n (pc := 203) hx hb dX5_faultOf_203 rfl (lv_at hl 0 rfl) ?_
        refine va_get (pc := 204) (v := .int (S 0 12)) hx hb hts inB5 hown hK.1 hP 0 wm0 rfl 12 (by decide) (hts _ wd_563) (fun _ h9 => h9) rfl dX5_faultOf_204 ?_
        refine lv_if_ne (tgt := 215) (pc := 207) hx hb dX5_faultOf_207 (by decide) (fun hc => ?_) (fun hc => ?_)
        · have h := if_n hc h
          exact t_X5_faultOf_215 hI N C h H locs hP hS ls (lv_sub hl [0, 1] rfl)
        · have h := if_y hc h
          refine lv_aload_n (pc := 210) hx hb dX5_faultOf_210 rfl (lv_at hl 0 rfl) ?_
          refine va_get (pc := 211) (v := .int (S 0 0)) hx hb hts inB5 hown hK.1 hP 0 wm0 rfl 0 (by decide) (hts _ wd_551) (fun _ h9 => h9) rfl dX5_faultOf_211 ?_
          exact r_retU (pc := 214) (𝓦 := Wm E a) C h hP hS dX5_faultOf_214
  · have h := if_n hc h
    refine lv_aload_n (pc := 31) hx hb dX5_faultOf_31 rfl (lv_at hl 0 rfl) ?_
    refine va_get (pc := 32) (v := .ref (a 1)) hx hb hts inB5 hown hK.1 hP 0 wm0 rfl 1 (by decide) (hts _ wd_552) (fun _ h9 => h9) rfl dX5_faultOf_32 ?_
    refine lv_iload_n (pc := 35) hx hb dX5_faultOf_35 rfl (lv_at hl 3 rfl) ?_
    obtain ⟨hin, h⟩ := gd_some h
    refine r_ald (pc := 36) hx hb hK hP 1 wm1 hin dX5_faultOf_36 ?_
    refine lv_topi (fun y1 ey1 => ?_)
    have h := bd_y ey1 h
    refine lv_istore (lv' := [(4, .int y1), (0, .ref (a 0)), (1, .int x1), (2, .int x2), (3, .int x3)]) (pc := 37) hx hb dX5_faultOf_37 hl (by decide) rfl (fun ls hl => ?_)
    refine lv_aload_n (pc := 39) hx hb dX5_faultOf_39 rfl (lv_at hl 1 rfl) ?_
    refine va_get (pc := 40) (v := .int (S 0 11)) hx hb hts inB5 hown hK.1 hP 0 wm0 rfl 11 (by decide) (hts _ wd_562) (fun _ h9 => h9) rfl dX5_faultOf_40 ?_
    refine lv_if_ge (tgt := 84) (pc := 43) hx hb dX5_faultOf_43 (by decide) (fun hc => ?_) (fun hc => ?_)
    · have h := if_y hc h
      exact t_X5_faultOf_84 hI N C k23 hk23 h H locs hP hS ls (lv_sub hl [1, 2, 3, 4, 0] rfl)
    · have h := if_n hc h
      refine lv_iload (pc := 46) hx hb dX5_faultOf_46 (lv_at hl 0 rfl) ?_
      obtain ⟨r2, hr2, h⟩ := bd_some h
      refine r_callS (pc := 48) C (c_X5_askOf hr2) k_X5_askOf wd_649 ⟨Nat.le_of_ble_eq_true rfl, Nat.le_of_ble_eq_true rfl⟩ rfl hl.1 rfl (Nat.le_of_ble_eq_true rfl) dX5_faultOf_48 ⟨Nat.zero_le _, Nat.zero_le _⟩ ?_
      refine lv_if_le (tgt := 84) (pc := 51) hx hb dX5_faultOf_51 (by decide) (fun hc => ?_) (fun hc => ?_)
      · have h := if_y hc h
        exact t_X5_faultOf_84 hI N C k23 hk23 h H locs hP hS ls (lv_sub hl [1, 2, 3, 4, 0] rfl)
      · have h := if_n hc h
        refine lv_aload_n (pc := 54) hx hb dX5_faultOf_54 rfl (lv_at hl 1 rfl) ?_
        refine va_get (pc := 55) (v := .int (S 0 10)) hx hb hts inB5 hown hK.1 hP 0 wm0 rfl 10 (by decide) (hts _ wd_561) (fun _ h9 => h9) rfl dX5_faultOf_55 ?_
        refine lv_iload (pc := 58) hx hb dX5_faultOf_58 (lv_at hl 0 rfl) ?_
        obtain ⟨r3, hr3, h⟩ := bd_some h
        refine r_callS (pc := 60) C (c_X5_askOf hr3) k_X5_askOf wd_649 ⟨Nat.le_of_ble_eq_true rfl, Nat.le_of_ble_eq_true rfl⟩ rfl hl.1 rfl (Nat.le_of_ble_eq_true rfl) dX5_faultOf_60 ⟨Nat.zero_le _, Nat.zero_le _⟩ ?_
        refine lv_iand (pc := 63) hx hb dX5_faultOf_63 ?_
        refine lv_if_ne (tgt := 84) (pc := 64) hx hb dX5_faultOf_64 (by decide) (fun hc => ?_) (fun hc => ?_)
        · have h := if_n hc h
          exact t_X5_faultOf_84 hI N C k23 hk23 h H locs hP hS ls (lv_sub hl [1, 2, 3, 4, 0] rfl)
        · have h := if_y hc h
          refine lv_aload_n (pc := 67) hx hb dX5_faultOf_67 rfl (lv_at hl 1 rfl) ?_
          refine lv_dup (pc := 68) hx hb dX5_faultOf_68 rfl ?_
          refine va_get (pc := 69) (v := .int (S 0 10)) hx hb hts inB5 hown hK.1 hP 0 wm0 rfl 10 (by decide) (hts _ wd_561) (fun _ h9 => h9) rfl dX5_faultOf_69 ?_
          refine lv_iload (pc := 72) hx hb dX5_faultOf_72 (lv_at hl 0 rfl) ?_
          obtain ⟨r4, hr4, h⟩ := bd_some h
          refine r_callS (pc := 74) C (c_X5_askOf hr4) k_X5_askOf wd_649 ⟨Nat.le_of_ble_eq_true rfl, Nat.le_of_ble_eq_true rfl⟩ rfl hl.1 rfl (Nat.le_of_ble_eq_true rfl) dX5_faultOf_74 ⟨Nat.zero_le _, Nat.zero_le _⟩ ?_
          refine lv_ior (pc := 77) hx hb dX5_faultOf_77 ?_
          refine r_put (pc := 78) (𝓦 := Wm E a) hx hb hts hown hK inB5 tyX5 tyX5_ok nmX5 hP (dM hI _) hS 0 wm0 rfl 10 (by decide) wd_561 rfl (by decide +kernel) (Nat.le_of_ble_eq_true rfl) (wm0p10 _) dX5_faultOf_78 (fun H locs S1 eS1 hP hS => ?_)
          have h := bd_y eS1 h
          refine lv_goto (tgt := 186) (pc := 81) hx hb dX5_faultOf_81 (by decide) ?_
          refine lv_iinc (v := (x3 + 1)) (lv' := [(3, .int (x3 + 1)), (4, .int y1), (0, .ref (a 0)), (1, .int x1), (2, .int x2)]) (pc := 186) hx hb dX5_faultOf_186 hl (k := 4) rfl (ii1 _) (by decide) rfl (fun ls hl => ?_)
          refine lv_goto (tgt := 23) (pc := 189) hx hb dX5_faultOf_189 (by decide) ?_
          exact hk23 _ _ _ _ h H locs hP hS ls (lv_sub hl [2, 3, 4, 0] rfl)
theorem t_X5_faultOf_23 {rr : Int32} {SS : St} (hI : aI 18 a) (N : Nat) (C : bC D E RX5 cX5_faultOf 5 (some .int) p s m args meth c) {n : Nat} {x1 : Int32} {x2 : Int32} {x3 : Int32} {S : St} (h : lpI (F_X5_faultOf_23 N) n (x1, x2, x3, S) = some (rr, SS)) : gU D (Wm E a) (aA 18 a) p l e (bRm 1 22) s m args below meth c 5 (qU D below (aA 18 a) (Wm E a SS) rr args s) 23 [(0, .ref (a 0)), (1, .int x1), (2, .int x2), (3, .int x3)] [] S := by
  exact lpI_ind (P := fun v q => q = (rr, SS) → gU D (Wm E a) (aA 18 a) p l e (bRm 1 22) s m args below meth c 5 (qU D below (aA 18 a) (Wm E a SS) rr args s) 23 [(0, .ref (a 0)), (1, .int v.1), (2, .int v.2.1), (3, .int v.2.2.1)] [] v.2.2.2) (fun k hk v q h9 hq => s_X5_faultOf_23 hI N C k (fun x1 x2 x3 S h8 => hk (x1, x2, x3, S) _ h8 rfl) (h9.trans (congrArg some hq))) n (x1, x2, x3, S) _ h rfl
def f_X5_faultOf (N : Nat) (S : St) : Option (Int32 × St) :=
  bd (some (sto S 0 10 0)) fun S1 => bd (some (sto S1 0 11 (-6))) fun S2 => bd (some (sto S2 0 12 0)) fun S3 => lpI (F_X5_faultOf_23 N) N (0, (-6), 0, S3)
theorem t_X5_faultOf_0 {rr : Int32} {SS : St} (hI : aI 18 a) (N : Nat) (C : bC D E RX5 cX5_faultOf 5 (some .int) p s m args meth c) {S : St} (h : f_X5_faultOf N S = some (rr, SS)) : gU D (Wm E a) (aA 18 a) p l e (bRm 1 22) s m args below meth c 5 (qU D below (aA 18 a) (Wm E a SS) rr args s) 0 [(0, .ref (a 0))] [] S := by
  obtain ⟨hx, hb, hml, hown, hts, hK, hr, hlocks⟩ := id C
  intro H locs hP hS ls hl
  unfold f_X5_faultOf at h
  refine lv_aload_n (pc := 0) hx hb dX5_faultOf_0 rfl (lv_at hl 0 rfl) ?_
  refine lv_iconst (v := 0) (pc := 1) hx hb dX5_faultOf_1 (by decide) ?_
  refine r_put (pc := 2) (𝓦 := Wm E a) hx hb hts hown hK inB5 tyX5 tyX5_ok nmX5 hP (dM hI _) hS 0 wm0 rfl 10 (by decide) wd_561 rfl (by decide +kernel) (Nat.le_of_ble_eq_true rfl) (wm0p10 _) dX5_faultOf_2 (fun H locs S1 eS1 hP hS => ?_)
  have h := bd_y eS1 h
  refine lv_aload_n (pc := 5) hx hb dX5_faultOf_5 rfl (lv_at hl 0 rfl) ?_
  refine lv_bipush (v := (-6)) (pc := 6) hx hb dX5_faultOf_6 (by decide) ?_
  refine r_put (pc := 8) (𝓦 := Wm E a) hx hb hts hown hK inB5 tyX5 tyX5_ok nmX5 hP (dM hI _) hS 0 wm0 rfl 11 (by decide) wd_562 rfl (by decide +kernel) (Nat.le_of_ble_eq_true rfl) (wm0p11 _) dX5_faultOf_8 (fun H locs S2 eS2 hP hS => ?_)
  have h := bd_y eS2 h
  refine lv_aload_n (pc := 11) hx hb dX5_faultOf_11 rfl (lv_at hl 0 rfl) ?_
  refine lv_iconst (v := 0) (pc := 12) hx hb dX5_faultOf_12 (by decide) ?_
  refine r_put (pc := 13) (𝓦 := Wm E a) hx hb hts hown hK inB5 tyX5 tyX5_ok nmX5 hP (dM hI _) hS 0 wm0 rfl 12 (by decide) wd_563 rfl (by decide +kernel) (Nat.le_of_ble_eq_true rfl) (wm0p12 _) dX5_faultOf_13 (fun H locs S3 eS3 hP hS => ?_)
  have h := bd_y eS3 h
  refine lv_iconst (v := 0) (pc := 16) hx hb dX5_faultOf_16 (by decide) ?_
  refine lv_istore_n (lv' := [(1, .int 0), (0, .ref (a 0))]) (pc := 17) hx hb dX5_faultOf_17 rfl hl (by decide) rfl (fun ls hl => ?_)
  refine lv_bipush (v := (-6)) (pc := 18) hx hb dX5_faultOf_18 (by decide) ?_
  refine lv_istore_n (lv' := [(2, .int (-6)), (1, .int 0), (0, .ref (a 0))]) (pc := 20) hx hb dX5_faultOf_20 rfl hl (by decide) rfl (fun ls hl => ?_)
  refine lv_iconst (v := 0) (pc := 21) hx hb dX5_faultOf_21 (by decide) ?_
  refine lv_istore_n (lv' := [(3, .int 0), (2, .int (-6)), (1, .int 0), (0, .ref (a 0))]) (pc := 22) hx hb dX5_faultOf_22 rfl hl (by decide) rfl (fun ls hl => ?_)
  exact t_X5_faultOf_23 hI N C h H locs hP hS ls (lv_sub hl [3, 2, 1, 0] rfl)
theorem c_X5_faultOf {l : Launch} {D : va_G} {E : bE} {a : Nat → Nat} (hI : aI 18 a) (N : Nat) {rr : Int32} {S : St} {SS : St} (h : f_X5_faultOf N S = some (rr, SS)) : cU l D E yX5_faultOf cX5_faultOf 5 (some .int) 1 22 (aA 18 a) (Wm E a S) (Wm E a SS) [.ref (a 0)] rr := cU_of (by decide) (Nat.le_of_ble_eq_true rfl) (fun p e s m args below meth c C => t_X5_faultOf_0 hI N C h)
