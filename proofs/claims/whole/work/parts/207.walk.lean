variable {p : Program} {l : Launch} {e : Env} {s : State} {m : MethodId} {args : Array Value} {below : List Frame} {meth : Method} {c : Code} {D : va_G} {E : bE} {a : Nat → Nat}
/-! X4_audit -/
def f_X4_audit (N : Nat) (x1 : Int32) (x2 : Int32) (S : St) : Option (Int32 × St) :=
  bd (f_X4_isPiece x1) fun r1 => if r1 = 0 then (some ((-1), S)) else (bd (f_X4_within x2 0 1) fun r2 => if r2 = 0 then (some ((-2), S)) else (bd (f_X3_spin N S) fun S1 => bd (f_X4_has (S1 3 4) x1) fun r3 => if r3 = 0 then (some ((-6), S1)) else (bd (f_X3_walk N S1) fun S2 => if x2 = 0 then (gd (ix x1 6) (some ((S2 19 (Int32.toNatClampNeg x1)), S2))) else (gd (ix x1 6) (some ((S2 20 (Int32.toNatClampNeg x1)), S2))))))
theorem t_X4_audit_0 {rr : Int32} {SS : St} (hI : aI 49 a) (N : Nat) (C : bC D E RX4 cX4_audit 3 (some .int) p s m args meth c) {x1 : Int32} {x2 : Int32} {S : St} (h : f_X4_audit N x1 x2 S = some (rr, SS)) : gU D (Wu E a) (aA 49 a) p l e (bRm 4 90) s m args below meth c 3 (qU D below (aA 49 a) (Wu E a SS) rr args s) 0 [(0, .ref (a 0)), (1, .int x1), (2, .int x2)] [] S := by
  obtain ⟨hx, hb, hml, hown, hts, hK, hr, hlocks⟩ := id C
  intro H locs hP hS ls hl
  unfold f_X4_audit at h
  refine lv_iload_n (pc := 0) hx hb dX4_audit_0 rfl (lv_at hl 1 rfl) ?_
  obtain ⟨r1, hr1, h⟩ := bd_some h
  refine r_callS (pc := 1) C (c_X4_isPiece hr1) k_X4_isPiece wd_295 ⟨Nat.le_of_ble_eq_true rfl, Nat.le_of_ble_eq_true rfl⟩ rfl hl.1 rfl (Nat.le_of_ble_eq_true rfl) dX4_audit_1 ⟨Nat.zero_le _, Nat.zero_le _⟩ ?_
  refine lv_if_ne (tgt := 9) (pc := 4) hx hb dX4_audit_4 (by decide) (fun hc => ?_) (fun hc => ?_)
  · have h := if_n hc h
    refine lv_iload_n (pc := 9) hx hb dX4_audit_9 rfl (lv_at hl 2 rfl) ?_
    refine lv_iconst (v := 0) (pc := 10) hx hb dX4_audit_10 (by decide) ?_
    refine lv_iconst (v := 1) (pc := 11) hx hb dX4_audit_11 (by decide) ?_
    obtain ⟨r2, hr2, h⟩ := bd_some h
    refine r_callS (pc := 12) C (c_X4_within hr2) k_X4_within wd_244 ⟨Nat.le_of_ble_eq_true rfl, Nat.le_of_ble_eq_true rfl⟩ rfl hl.1 rfl (Nat.le_of_ble_eq_true rfl) dX4_audit_12 ⟨Nat.zero_le _, Nat.zero_le _⟩ ?_
    refine lv_if_ne (tgt := 21) (pc := 15) hx hb dX4_audit_15 (by decide) (fun hc => ?_) (fun hc => ?_)
    · have h := if_n hc h
      refine lv_aload_n (pc := 21) hx hb dX4_audit_21 rfl (lv_at hl 0 rfl) ?_
      refine va_get (pc := 22) (v := .ref (a 3)) hx hb hts inB4 hown hK.1 hP 0 wu0 rfl 1 (by decide) (hts _ wd_218) (fun _ h9 => h9) rfl dX4_audit_22 ?_
      obtain ⟨S1, hS1, h⟩ := bd_some h
      refine r_callV (pc := 25) C hP hS (c_X3_spin hI N hS1) k_X3_spin wd_331 (q0 := 3) wu3 rfl rfl ⟨Nat.le_of_ble_eq_true rfl, Nat.le_of_ble_eq_true rfl⟩ rfl hl.1 rfl (Nat.le_of_ble_eq_true rfl) dX4_audit_25 ⟨Nat.zero_le _, Nat.zero_le _⟩ (fun H locs hP hS => ?_)
      refine lv_aload_n (pc := 28) hx hb dX4_audit_28 rfl (lv_at hl 0 rfl) ?_
      refine va_get (pc := 29) (v := .ref (a 3)) hx hb hts inB4 hown hK.1 hP 0 wu0 rfl 1 (by decide) (hts _ wd_218) (fun _ h9 => h9) rfl dX4_audit_29 ?_
      refine va_get (pc := 32) (v := .int (S1 3 4)) hx hb hts inB3 hown hK.1 hP 3 wu3 rfl 4 (by decide) (hts _ wd_155) (fun _ h9 => h9) rfl dX4_audit_32 ?_
      refine lv_iload_n (pc := 35) hx hb dX4_audit_35 rfl (lv_at hl 1 rfl) ?_
      obtain ⟨r3, hr3, h⟩ := bd_some h
      refine r_callS (pc := 36) C (c_X4_has hr3) k_X4_has wd_366 ⟨Nat.le_of_ble_eq_true rfl, Nat.le_of_ble_eq_true rfl⟩ rfl hl.1 rfl (Nat.le_of_ble_eq_true rfl) dX4_audit_36 ⟨Nat.zero_le _, Nat.zero_le _⟩ ?_
      refine lv_if_ne (tgt := 45) (pc := 39) hx hb dX4_audit_39 (by decide) (fun hc => ?_) (fun hc => ?_)
      · have h := if_n hc h
        refine lv_aload_n (pc := 45) hx hb dX4_audit_45 rfl (lv_at hl 0 rfl) ?_
        refine va_get (pc := 46) (v := .ref (a 3)) hx hb hts inB4 hown hK.1 hP 0 wu0 rfl 1 (by decide) (hts _ wd_218) (fun _ h9 => h9) rfl dX4_audit_46 ?_
        obtain ⟨S2, hS2, h⟩ := bd_some h
        refine r_callV (pc := 49) C hP hS (c_X3_walk hI N hS2) k_X3_walk wd_513 (q0 := 3) wu3 rfl rfl ⟨Nat.le_of_ble_eq_true rfl, Nat.le_of_ble_eq_true rfl⟩ rfl hl.1 rfl (Nat.le_of_ble_eq_true rfl) dX4_audit_49 ⟨Nat.zero_le _, Nat.zero_le _⟩ (fun H locs hP hS => ?_)
        refine lv_iload_n (pc := 52) hx hb dX4_audit_52 rfl (lv_at hl 2 rfl) ?_
        refine lv_if_ne (tgt := 68) (pc := 53) hx hb dX4_audit_53 (by decide) (fun hc => ?_) (fun hc => ?_)
        · have h := if_n hc h
          refine lv_aload_n (pc := 68) hx hb dX4_audit_68 rfl (lv_at hl 0 rfl) ?_
          refine va_get (pc := 69) (v := .ref (a 3)) hx hb hts inB4 hown hK.1 hP 0 wu0 rfl 1 (by decide) (hts _ wd_218) (fun _ h9 => h9) rfl dX4_audit_69 ?_
          refine va_get (pc := 72) (v := .ref (a 20)) hx hb hts inB3 hown hK.1 hP 3 wu3 rfl 3 (by decide) (hts _ wd_153) (fun _ h9 => h9) rfl dX4_audit_72 ?_
          refine lv_iload_n (pc := 75) hx hb dX4_audit_75 rfl (lv_at hl 1 rfl) ?_
          obtain ⟨hin, h⟩ := gd_some h
          refine r_ald (pc := 76) hx hb hK hP 20 wu20 hin dX4_audit_76 ?_
          exact r_retU (pc := 77) (𝓦 := Wu E a) C h hP hS dX4_audit_77
        · have h := if_y hc h
          refine lv_aload_n (pc := 56) hx hb dX4_audit_56 rfl (lv_at hl 0 rfl) ?_
          refine va_get (pc := 57) (v := .ref (a 3)) hx hb hts inB4 hown hK.1 hP 0 wu0 rfl 1 (by decide) (hts _ wd_218) (fun _ h9 => h9) rfl dX4_audit_57 ?_
          refine va_get (pc := 60) (v := .ref (a 19)) hx hb hts inB3 hown hK.1 hP 3 wu3 rfl 2 (by decide) (hts _ wd_151) (fun _ h9 => h9) rfl dX4_audit_60 ?_
          refine lv_iload_n (pc := 63) hx hb dX4_audit_63 rfl (lv_at hl 1 rfl) ?_
          obtain ⟨hin, h⟩ := gd_some h
          refine r_ald (pc := 64) hx hb hK hP 19 wu19 hin dX4_audit_64 ?_
          refine lv_goto (tgt := 77) (pc := 65) hx hb dX4_audit_65 (by decide) ?_
          exact r_retU (pc := 77) (𝓦 := Wu E a) C h hP hS dX4_audit_77
      · have h := if_y hc h
        refine lv_bipush (v := (-6)) (pc := 42) hx hb dX4_audit_42 (by decide) ?_
        exact r_retU (pc := 44) (𝓦 := Wu E a) C h hP hS dX4_audit_44
    · have h := if_y hc h
      refine lv_bipush (v := (-2)) (pc := 18) hx hb dX4_audit_18 (by decide) ?_
      exact r_retU (pc := 20) (𝓦 := Wu E a) C h hP hS dX4_audit_20
  · have h := if_y hc h
    refine lv_iconst (v := (-1)) (pc := 7) hx hb dX4_audit_7 (by decide) ?_
    exact r_retU (pc := 8) (𝓦 := Wu E a) C h hP hS dX4_audit_8
theorem c_X4_audit {l : Launch} {D : va_G} {E : bE} {a : Nat → Nat} (hI : aI 49 a) (N : Nat) {rr : Int32} {S : St} {SS : St} {x1 : Int32} {x2 : Int32} (h : f_X4_audit N x1 x2 S = some (rr, SS)) : cU l D E yX4_audit cX4_audit 3 (some .int) 4 90 (aA 49 a) (Wu E a S) (Wu E a SS) [.ref (a 0), .int x1, .int x2] rr := cU_of (by decide) (Nat.le_of_ble_eq_true rfl) (fun p e s m args below meth c C => t_X4_audit_0 hI N C h)
/-! X0_takeFrom_29_2 -/
def f_X0_takeFrom_29_2 (S : St) : Option (St) :=
  bd (some (str S 31 (va_cpy (S 9) (S 31) 0 0 (Int32.toNatClampNeg 5)))) fun S1 => bd (some (str S1 32 (va_cpy (S1 10) (S1 32) 0 0 (Int32.toNatClampNeg 5)))) fun S2 => bd (some (str S2 33 (va_cpy (S2 11) (S2 33) 0 0 (Int32.toNatClampNeg 5)))) fun S3 => bd (some (str S3 34 (va_cpy (S3 12) (S3 34) 0 0 (Int32.toNatClampNeg 5)))) fun S4 => bd (some (str S4 35 (va_cpy (S4 13) (S4 35) 0 0 (Int32.toNatClampNeg 6)))) fun S5 => bd (some (str S5 36 (va_cpy (S5 14) (S5 36) 0 0 (Int32.toNatClampNeg 6)))) fun S6 => bd (some (str S6 37 (va_cpy (S6 15) (S6 37) 0 0 (Int32.toNatClampNeg 6)))) fun S7 => bd (some (str S7 38 (va_cpy (S7 16) (S7 38) 0 0 (Int32.toNatClampNeg 6)))) fun S8 => bd (some (str S8 39 (va_cpy (S8 17) (S8 39) 0 0 (Int32.toNatClampNeg 36)))) fun S9 => bd (some (sto S9 29 9 (S9 2 9))) fun S10 => bd (some (sto S10 29 10 (S10 2 10))) fun S11 => some S11
theorem t_X0_takeFrom_29_2_0 {SS : St} (hI : aI 49 a) (C : bC D E RX0 cX0_takeFrom 2 none p s m args meth c) {S : St} (h : f_X0_takeFrom_29_2 S = some SS) : gU D (Wu E a) (aA 49 a) p l e (bRm 1 26) s m args below meth c 2 (qV D below (aA 49 a) (Wu E a SS) args s) 0 [(0, .ref (a 29)), (1, .ref (a 2))] [] S := by
  obtain ⟨hx, hb, hml, hown, hts, hK, hr, hlocks⟩ := id C
  intro H locs hP hS ls hl
  unfold f_X0_takeFrom_29_2 at h
  refine lv_aload_n (pc := 0) hx hb dX0_takeFrom_0 rfl (lv_at hl 1 rfl) ?_
  refine va_get (pc := 1) (v := .ref (a 9)) hx hb hts inB0 hown hK.1 hP 2 wu2 rfl 0 (by decide) (hts _ wd_96) (fun _ h9 => h9) rfl dX0_takeFrom_1 ?_
  refine lv_iconst (v := 0) (pc := 4) hx hb dX0_takeFrom_4 (by decide) ?_
  refine lv_aload_n (pc := 5) hx hb dX0_takeFrom_5 rfl (lv_at hl 0 rfl) ?_
  refine va_get (pc := 6) (v := .ref (a 31)) hx hb hts inB0 hown hK.1 hP 29 wu29 rfl 0 (by decide) (hts _ wd_96) (fun _ h9 => h9) rfl dX0_takeFrom_6 ?_
  refine lv_iconst (v := 0) (pc := 9) hx hb dX0_takeFrom_9 (by decide) ?_
  refine lv_iconst (v := 5) (pc := 10) hx hb dX0_takeFrom_10 (by decide) ?_
  refine r_cpy (pc := 11) (𝓦 := Wu E a) C hP (dU hI _) hS hl.1 wd_528 wd_337 wd_336 wd_46 9 31 wu9 wu31 wu31s (by decide) (by decide) (by decide) (by decide) (by decide) dX0_takeFrom_11 (fun H locs S1 eS1 hP hS => ?_)
  have h := bd_y eS1 h
  refine lv_aload_n (pc := 14) hx hb dX0_takeFrom_14 rfl (lv_at hl 1 rfl) ?_
  refine va_get (pc := 15) (v := .ref (a 10)) hx hb hts inB0 hown hK.1 hP 2 wu2 rfl 1 (by decide) (hts _ wd_99) (fun _ h9 => h9) rfl dX0_takeFrom_15 ?_
  refine lv_iconst (v := 0) (pc := 18) hx hb dX0_takeFrom_18 (by decide) ?_
  refine lv_aload_n (pc := 19) hx hb dX0_takeFrom_19 rfl (lv_at hl 0 rfl) ?_
  refine va_get (pc := 20) (v := .ref (a 32)) hx hb hts inB0 hown hK.1 hP 29 wu29 rfl 1 (by decide) (hts _ wd_99) (fun _ h9 => h9) rfl dX0_takeFrom_20 ?_
  refine lv_iconst (v := 0) (pc := 23) hx hb dX0_takeFrom_23 (by decide) ?_
  refine lv_iconst (v := 5) (pc := 24) hx hb dX0_takeFrom_24 (by decide) ?_
  refine r_cpy (pc := 25) (𝓦 := Wu E a) C hP (dU hI _) hS hl.1 wd_528 wd_337 wd_336 wd_46 10 32 wu10 wu32 wu32s (by decide) (by decide) (by decide) (by decide) (by decide) dX0_takeFrom_25 (fun H locs S2 eS2 hP hS => ?_)
  have h := bd_y eS2 h
  refine lv_aload_n (pc := 28) hx hb dX0_takeFrom_28 rfl (lv_at hl 1 rfl) ?_
  refine va_get (pc := 29) (v := .ref (a 11)) hx hb hts inB0 hown hK.1 hP 2 wu2 rfl 2 (by decide) (hts _ wd_102) (fun _ h9 => h9) rfl dX0_takeFrom_29 ?_
  refine lv_iconst (v := 0) (pc := 32) hx hb dX0_takeFrom_32 (by decide) ?_
  refine lv_aload_n (pc := 33) hx hb dX0_takeFrom_33 rfl (lv_at hl 0 rfl) ?_
  refine va_get (pc := 34) (v := .ref (a 33)) hx hb hts inB0 hown hK.1 hP 29 wu29 rfl 2 (by decide) (hts _ wd_102) (fun _ h9 => h9) rfl dX0_takeFrom_34 ?_
  refine lv_iconst (v := 0) (pc := 37) hx hb dX0_takeFrom_37 (by decide) ?_
  refine lv_iconst (v := 5) (pc := 38) hx hb dX0_takeFrom_38 (by decide) ?_
  refine r_cpy (pc := 39) (𝓦 := Wu E a) C hP (dU hI _) hS hl.1 wd_528 wd_337 wd_336 wd_46 11 33 wu11 wu33 wu33s (by decide) (by decide) (by decide) (by decide) (by decide) dX0_takeFrom_39 (fun H locs S3 eS3 hP hS => ?_)
  have h := bd_y eS3 h
  refine lv_aload_n (pc := 42) hx hb dX0_takeFrom_42 rfl (lv_at hl 1 rfl) ?_
  refine va_get (pc := 43) (v := .ref (a 12)) hx hb hts inB0 hown hK.1 hP 2 wu2 rfl 3 (by decide) (hts _ wd_105) (fun _ h9 => h9) rfl dX0_takeFrom_43 ?_
  refine lv_iconst (v := 0) (pc := 46) hx hb dX0_takeFrom_46 (by decide) ?_
  refine lv_aload_n (pc := 47) hx hb dX0_takeFrom_47 rfl (lv_at hl 0 rfl) ?_
  refine va_get (pc := 48) (v := .ref (a 34)) hx hb hts inB0 hown hK.1 hP 29 wu29 rfl 3 (by decide) (hts _ wd_105) (fun _ h9 => h9) rfl dX0_takeFrom_48 ?_
  refine lv_iconst (v := 0) (pc := 51) hx hb dX0_takeFrom_51 (by decide) ?_
  refine lv_iconst (v := 5) (pc := 52) hx hb dX0_takeFrom_52 (by decide) ?_
  refine r_cpy (pc := 53) (𝓦 := Wu E a) C hP (dU hI _) hS hl.1 wd_528 wd_337 wd_336 wd_46 12 34 wu12 wu34 wu34s (by decide) (by decide) (by decide) (by decide) (by decide) dX0_takeFrom_53 (fun H locs S4 eS4 hP hS => ?_)
  have h := bd_y eS4 h
  refine lv_aload_n (pc := 56) hx hb dX0_takeFrom_56 rfl (lv_at hl 1 rfl) ?_
  refine va_get (pc := 57) (v := .ref (a 13)) hx hb hts inB0 hown hK.1 hP 2 wu2 rfl 4 (by decide) (hts _ wd_107) (fun _ h9 => h9) rfl dX0_takeFrom_57 ?_
  refine lv_iconst (v := 0) (pc := 60) hx hb dX0_takeFrom_60 (by decide) ?_
  refine lv_aload_n (pc := 61) hx hb dX0_takeFrom_61 rfl (lv_at hl 0 rfl) ?_
  refine va_get (pc := 62) (v := .ref (a 35)) hx hb hts inB0 hown hK.1 hP 29 wu29 rfl 4 (by decide) (hts _ wd_107) (fun _ h9 => h9) rfl dX0_takeFrom_62 ?_
  refine lv_iconst (v := 0) (pc := 65) hx hb dX0_takeFrom_65 (by decide) ?_
  refine lv_bipush (v := 6) (pc := 66) hx hb dX0_takeFrom_66 (by decide) ?_
  refine r_cpy (pc := 68) (𝓦 := Wu E a) C hP (dU hI _) hS hl.1 wd_528 wd_337 wd_336 wd_46 13 35 wu13 wu35 wu35s (by decide) (by decide) (by decide) (by decide) (by decide) dX0_takeFrom_68 (fun H locs S5 eS5 hP hS => ?_)
  have h := bd_y eS5 h
  refine lv_aload_n (pc := 71) hx hb dX0_takeFrom_71 rfl (lv_at hl 1 rfl) ?_
  refine va_get (pc := 72) (v := .ref (a 14)) hx hb hts inB0 hown hK.1 hP 2 wu2 rfl 5 (by decide) (hts _ wd_109) (fun _ h9 => h9) rfl dX0_takeFrom_72 ?_
  refine lv_iconst (v := 0) (pc := 75) hx hb dX0_takeFrom_75 (by decide) ?_
  refine lv_aload_n (pc := 76) hx hb dX0_takeFrom_76 rfl (lv_at hl 0 rfl) ?_
  refine va_get (pc := 77) (v := .ref (a 36)) hx hb hts inB0 hown hK.1 hP 29 wu29 rfl 5 (by decide) (hts _ wd_109) (fun _ h9 => h9) rfl dX0_takeFrom_77 ?_
  refine lv_iconst (v := 0) (pc := 80) hx hb dX0_takeFrom_80 (by decide) ?_
  refine lv_bipush (v := 6) (pc := 81) hx hb dX0_takeFrom_81 (by decide) ?_
  refine r_cpy (pc := 83) (𝓦 := Wu E a) C hP (dU hI _) hS hl.1 wd_528 wd_337 wd_336 wd_46 14 36 wu14 wu36 wu36s (by decide) (by decide) (by decide) (by decide) (by decide) dX0_takeFrom_83 (fun H locs S6 eS6 hP hS => ?_)
  have h := bd_y eS6 h
  refine lv_aload_n (pc := 86) hx hb dX0_takeFrom_86 rfl (lv_at hl 1 rfl) ?_
  refine va_get (pc := 87) (v := .ref (a 15)) hx hb hts inB0 hown hK.1 hP 2 wu2 rfl 6 (by decide) (hts _ wd_111) (fun _ h9 => h9) rfl dX0_takeFrom_87 ?_
  refine lv_iconst (v := 0) (pc := 90) hx hb dX0_takeFrom_90 (by decide) ?_
  refine lv_aload_n (pc := 91) hx hb dX0_takeFrom_91 rfl (lv_at hl 0 rfl) ?_
  refine va_get (pc := 92) (v := .ref (a 37)) hx hb hts inB0 hown hK.1 hP 29 wu29 rfl 6 (by decide) (hts _ wd_111) (fun _ h9 => h9) rfl dX0_takeFrom_92 ?_
  refine lv_iconst (v := 0) (pc := 95) hx hb dX0_takeFrom_95 (by decide) ?_
  refine lv_bipush (v := 6) (pc := 96) hx hb dX0_takeFrom_96 (by decide) ?_
  refine r_cpy (pc := 98) (𝓦 := Wu E a) C hP (dU hI _) hS hl.1 wd_528 wd_337 wd_336 wd_46 15 37 wu15 wu37 wu37s (by decide) (by decide) (by decide) (by decide) (by decide) dX0_takeFrom_98 (fun H locs S7 eS7 hP hS => ?_)
  have h := bd_y eS7 h
  refine lv_aload_n (pc := 101) hx hb dX0_takeFrom_101 rfl (lv_at hl 1 rfl) ?_
  refine va_get (pc := 102) (v := .ref (a 16)) hx hb hts inB0 hown hK.1 hP 2 wu2 rfl 7 (by decide) (hts _ wd_113) (fun _ h9 => h9) rfl dX0_takeFrom_102 ?_
  refine lv_iconst (v := 0) (pc := 105) hx hb dX0_takeFrom_105 (by decide) ?_
  refine lv_aload_n (pc := 106) hx hb dX0_takeFrom_106 rfl (lv_at hl 0 rfl) ?_
  refine va_get (pc := 107) (v := .ref (a 38)) hx hb hts inB0 hown hK.1 hP 29 wu29 rfl 7 (by decide) (hts _ wd_113) (fun _ h9 => h9) rfl dX0_takeFrom_107 ?_
  refine lv_iconst (v := 0) (pc := 110) hx hb dX0_takeFrom_110 (by decide) ?_
  refine lv_bipush (v := 6) (pc := 111) hx hb dX0_takeFrom_111 (by decide) ?_
  refine r_cpy (pc := 113) (𝓦 := Wu E a) C hP (dU hI _) hS hl.1 wd_528 wd_337 wd_336 wd_46 16 38 wu16 wu38 wu38s (by decide) (by decide) (by decide) (by decide) (by decide) dX0_takeFrom_113 (fun H locs S8 eS8 hP hS => ?_)
  have h := bd_y eS8 h
  refine lv_aload_n (pc := 116) hx hb dX0_takeFrom_116 rfl (lv_at hl 1 rfl) ?_
  refine va_get (pc := 117) (v := .ref (a 17)) hx hb hts inB0 hown hK.1 hP 2 wu2 rfl 8 (by decide) (hts _ wd_115) (fun _ h9 => h9) rfl dX0_takeFrom_117 ?_
  refine lv_iconst (v := 0) (pc := 120) hx hb dX0_takeFrom_120 (by decide) ?_
  refine lv_aload_n (pc := 121) hx hb dX0_takeFrom_121 rfl (lv_at hl 0 rfl) ?_
  refine va_get (pc := 122) (v := .ref (a 39)) hx hb hts inB0 hown hK.1 hP 29 wu29 rfl 8 (by decide) (hts _ wd_115) (fun _ h9 => h9) rfl dX0_takeFrom_122 ?_
  refine lv_iconst (v := 0) (pc := 125) hx hb dX0_takeFrom_125 (by decide) ?_
  refine lv_bipush (v := 36) (pc := 126) hx hb dX0_takeFrom_126 (by decide) ?_
  refine r_cpy (pc := 128) (𝓦 := Wu E a) C hP (dU hI _) hS hl.1 wd_528 wd_337 wd_336 wd_46 17 39 wu17 wu39 wu39s (by decide) (by decide) (by decide) (by decide) (by decide) dX0_takeFrom_128 (fun H locs S9 eS9 hP hS => ?_)
  have h := bd_y eS9 h
  refine lv_aload_n (pc := 131) hx hb dX0_takeFrom_131 rfl (lv_at hl 0 rfl) ?_
  refine lv_aload_n (pc := 132) hx hb dX0_takeFrom_132 rfl (lv_at hl 1 rfl) ?_
  refine va_get (pc := 133) (v := .int (S9 2 9)) hx hb hts inB0 hown hK.1 hP 2 wu2 rfl 9 (by decide) (hts _ wd_118) (fun _ h9 => h9) rfl dX0_takeFrom_133 ?_
  refine r_put (pc := 136) (𝓦 := Wu E a) hx hb hts hown hK inB0 tyX0 tyX0_ok nmX0 hP (dU hI _) hS 29 wu29 rfl 9 (by decide) wd_118 rfl (by decide +kernel) (Nat.le_of_ble_eq_true rfl) (wu29p9 _) dX0_takeFrom_136 (fun H locs S10 eS10 hP hS => ?_)
  have h := bd_y eS10 h
  refine lv_aload_n (pc := 139) hx hb dX0_takeFrom_139 rfl (lv_at hl 0 rfl) ?_
  refine lv_aload_n (pc := 140) hx hb dX0_takeFrom_140 rfl (lv_at hl 1 rfl) ?_
  refine va_get (pc := 141) (v := .int (S10 2 10)) hx hb hts inB0 hown hK.1 hP 2 wu2 rfl 10 (by decide) (hts _ wd_121) (fun _ h9 => h9) rfl dX0_takeFrom_141 ?_
  refine r_put (pc := 144) (𝓦 := Wu E a) hx hb hts hown hK inB0 tyX0 tyX0_ok nmX0 hP (dU hI _) hS 29 wu29 rfl 10 (by decide) wd_121 rfl (by decide +kernel) (Nat.le_of_ble_eq_true rfl) (wu29p10 _) dX0_takeFrom_144 (fun H locs S11 eS11 hP hS => ?_)
  have h := bd_y eS11 h
  exact r_retV (pc := 147) (𝓦 := Wu E a) C h hP hS dX0_takeFrom_147
theorem c_X0_takeFrom_29_2 {l : Launch} {D : va_G} {E : bE} {a : Nat → Nat} (hI : aI 49 a) {S : St} {SS : St} (h : f_X0_takeFrom_29_2 S = some SS) : cV l D E yX0_takeFrom cX0_takeFrom 2 1 26 (aA 49 a) (Wu E a S) (Wu E a SS) [.ref (a 29), .ref (a 2)] := cV_of (by decide) (Nat.le_of_ble_eq_true rfl) (fun p e s m args below meth c C => t_X0_takeFrom_29_2_0 hI C h)
/-! X0_takeFrom_30_2 -/
def f_X0_takeFrom_30_2 (S : St) : Option (St) :=
  bd (some (str S 40 (va_cpy (S 9) (S 40) 0 0 (Int32.toNatClampNeg 5)))) fun S1 => bd (some (str S1 41 (va_cpy (S1 10) (S1 41) 0 0 (Int32.toNatClampNeg 5)))) fun S2 => bd (some (str S2 42 (va_cpy (S2 11) (S2 42) 0 0 (Int32.toNatClampNeg 5)))) fun S3 => bd (some (str S3 43 (va_cpy (S3 12) (S3 43) 0 0 (Int32.toNatClampNeg 5)))) fun S4 => bd (some (str S4 44 (va_cpy (S4 13) (S4 44) 0 0 (Int32.toNatClampNeg 6)))) fun S5 => bd (some (str S5 45 (va_cpy (S5 14) (S5 45) 0 0 (Int32.toNatClampNeg 6)))) fun S6 => bd (some (str S6 46 (va_cpy (S6 15) (S6 46) 0 0 (Int32.toNatClampNeg 6)))) fun S7 => bd (some (str S7 47 (va_cpy (S7 16) (S7 47) 0 0 (Int32.toNatClampNeg 6)))) fun S8 => bd (some (str S8 48 (va_cpy (S8 17) (S8 48) 0 0 (Int32.toNatClampNeg 36)))) fun S9 => bd (some (sto S9 30 9 (S9 2 9))) fun S10 => bd (some (sto S10 30 10 (S10 2 10))) fun S11 => some S11
theorem t_X0_takeFrom_30_2_0 {SS : St} (hI : aI 49 a) (C : bC D E RX0 cX0_takeFrom 2 none p s m args meth c) {S : St} (h : f_X0_takeFrom_30_2 S = some SS) : gU D (Wu E a) (aA 49 a) p l e (bRm 1 26) s m args below meth c 2 (qV D below (aA 49 a) (Wu E a SS) args s) 0 [(0, .ref (a 30)), (1, .ref (a 2))] [] S := by
  obtain ⟨hx, hb, hml, hown, hts, hK, hr, hlocks⟩ := id C
  intro H locs hP hS ls hl
  unfold f_X0_takeFrom_30_2 at h
  refine lv_aload_n (pc := 0) hx hb dX0_takeFrom_0 rfl (lv_at hl 1 rfl) ?_
  refine va_get (pc := 1) (v := .ref (a 9)) hx hb hts inB0 hown hK.1 hP 2 wu2 rfl 0 (by decide) (hts _ wd_96) (fun _ h9 => h9) rfl dX0_takeFrom_1 ?_
  refine lv_iconst (v := 0) (pc := 4) hx hb dX0_takeFrom_4 (by decide) ?_
  refine lv_aload_n (pc := 5) hx hb dX0_takeFrom_5 rfl (lv_at hl 0 rfl) ?_
  refine va_get (pc := 6) (v := .ref (a 40)) hx hb hts inB0 hown hK.1 hP 30 wu30 rfl 0 (by decide) (hts _ wd_96) (fun _ h9 => h9) rfl dX0_takeFrom_6 ?_
  refine lv_iconst (v := 0) (pc := 9) hx hb dX0_takeFrom_9 (by decide) ?_
  refine lv_iconst (v := 5) (pc := 10) hx hb dX0_takeFrom_10 (by decide) ?_
  refine r_cpy (pc := 11) (𝓦 := Wu E a) C hP (dU hI _) hS hl.1 wd_528 wd_337 wd_336 wd_46 9 40 wu9 wu40 wu40s (by decide) (by decide) (by decide) (by decide) (by decide) dX0_takeFrom_11 (fun H locs S1 eS1 hP hS => ?_)
  have h := bd_y eS1 h
  refine lv_aload_n (pc := 14) hx hb dX0_takeFrom_14 rfl (lv_at hl 1 rfl) ?_
  refine va_get (pc := 15) (v := .ref (a 10)) hx hb hts inB0 hown hK.1 hP 2 wu2 rfl 1 (by decide) (hts _ wd_99) (fun _ h9 => h9) rfl dX0_takeFrom_15 ?_
  refine lv_iconst (v := 0) (pc := 18) hx hb dX0_takeFrom_18 (by decide) ?_
  refine lv_aload_n (pc := 19) hx hb dX0_takeFrom_19 rfl (lv_at hl 0 rfl) ?_
  refine va_get (pc := 20) (v := .ref (a 41)) hx hb hts inB0 hown hK.1 hP 30 wu30 rfl 1 (by decide) (hts _ wd_99) (fun _ h9 => h9) rfl dX0_takeFrom_20 ?_
  refine lv_iconst (v := 0) (pc := 23) hx hb dX0_takeFrom_23 (by decide) ?_
  refine lv_iconst (v := 5) (pc := 24) hx hb dX0_takeFrom_24 (by decide) ?_
  refine r_cpy (pc := 25) (𝓦 := Wu E a) C hP (dU hI _) hS hl.1 wd_528 wd_337 wd_336 wd_46 10 41 wu10 wu41 wu41s (by decide) (by decide) (by decide) (by decide) (by decide) dX0_takeFrom_25 (fun H locs S2 eS2 hP hS => ?_)
  have h := bd_y eS2 h
  refine lv_aload_n (pc := 28) hx hb dX0_takeFrom_28 rfl (lv_at hl 1 rfl) ?_
  refine va_get (pc := 29) (v := .ref (a 11)) hx hb hts inB0 hown hK.1 hP 2 wu2 rfl 2 (by decide) (hts _ wd_102) (fun _ h9 => h9) rfl dX0_takeFrom_29 ?_
  refine lv_iconst (v := 0) (pc := 32) hx hb dX0_takeFrom_32 (by decide) ?_
  refine lv_aload_n (pc := 33) hx hb dX0_takeFrom_33 rfl (lv_at hl 0 rfl) ?_
  refine va_get (pc := 34) (v := .ref (a 42)) hx hb hts inB0 hown hK.1 hP 30 wu30 rfl 2 (by decide) (hts _ wd_102) (fun _ h9 => h9) rfl dX0_takeFrom_34 ?_
  refine lv_iconst (v := 0) (pc := 37) hx hb dX0_takeFrom_37 (by decide) ?_
  refine lv_iconst (v := 5) (pc := 38) hx hb dX0_takeFrom_38 (by decide) ?_
  refine r_cpy (pc := 39) (𝓦 := Wu E a) C hP (dU hI _) hS hl.1 wd_528 wd_337 wd_336 wd_46 11 42 wu11 wu42 wu42s (by decide) (by decide) (by decide) (by decide) (by decide) dX0_takeFrom_39 (fun H locs S3 eS3 hP hS => ?_)
  have h := bd_y eS3 h
  refine lv_aload_n (pc := 42) hx hb dX0_takeFrom_42 rfl (lv_at hl 1 rfl) ?_
  refine va_get (pc := 43) (v := .ref (a 12)) hx hb hts inB0 hown hK.1 hP 2 wu2 rfl 3 (by decide) (hts _ wd_105) (fun _ h9 => h9) rfl dX0_takeFrom_43 ?_
  refine lv_iconst (v := 0) (pc := 46) hx hb dX0_takeFrom_46 (by decide) ?_
  refine lv_aload_n (pc := 47) hx hb dX0_takeFrom_47 rfl (lv_at hl 0 rfl) ?_
  refine va_get (pc := 48) (v := .ref (a 43)) hx hb hts inB0 hown hK.1 hP 30 wu30 rfl 3 (by decide) (hts _ wd_105) (fun _ h9 => h9) rfl dX0_takeFrom_48 ?_
  refine lv_iconst (v := 0) (pc := 51) hx hb dX0_takeFrom_51 (by decide) ?_
  refine lv_iconst (v := 5) (pc := 52) hx hb dX0_takeFrom_52 (by decide) ?_
  refine r_cpy (pc := 53) (𝓦 := Wu E a) C hP (dU hI _) hS hl.1 wd_528 wd_337 wd_336 wd_46 12 43 wu12 wu43 wu43s (by decide) (by decide) (by decide) (by decide) (by decide) dX0_takeFrom_53 (fun H locs S4 eS4 hP hS => ?_)
  have h := bd_y eS4 h
  refine lv_aload_n (pc := 56) hx hb dX0_takeFrom_56 rfl (lv_at hl 1 rfl) ?_
  refine va_get (pc := 57) (v := .ref (a 13)) hx hb hts inB0 hown hK.1 hP 2 wu2 rfl 4 (by decide) (hts _ wd_107) (fun _ h9 => h9) rfl dX0_takeFrom_57 ?_
  refine lv_iconst (v := 0) (pc := 60) hx hb dX0_takeFrom_60 (by decide) ?_
  refine lv_aload_n (pc := 61) hx hb dX0_takeFrom_61 rfl (lv_at hl 0 rfl) ?_
  refine va_get (pc := 62) (v := .ref (a 44)) hx hb hts inB0 hown hK.1 hP 30 wu30 rfl 4 (by decide) (hts _ wd_107) (fun _ h9 => h9) rfl dX0_takeFrom_62 ?_
  refine lv_iconst (v := 0) (pc := 65) hx hb dX0_takeFrom_65 (by decide) ?_
  refine lv_bipush (v := 6) (pc := 66) hx hb dX0_takeFrom_66 (by decide) ?_
  refine r_cpy (pc := 68) (𝓦 := Wu E a) C hP (dU hI _) hS hl.1 wd_528 wd_337 wd_336 wd_46 13 44 wu13 wu44 wu44s (by decide) (by decide) (by decide) (by decide) (by decide) dX0_takeFrom_68 (fun H locs S5 eS5 hP hS => ?_)
  have h := bd_y eS5 h
  refine lv_aload_n (pc := 71) hx hb dX0_takeFrom_71 rfl (lv_at hl 1 rfl) ?_
  refine va_get (pc := 72) (v := .ref (a 14)) hx hb hts inB0 hown hK.1 hP 2 wu2 rfl 5 (by decide) (hts _ wd_109) (fun _ h9 => h9) rfl dX0_takeFrom_72 ?_
  refine lv_iconst (v := 0) (pc := 75) hx hb dX0_takeFrom_75 (by decide) ?_
  refine lv_aload_n (pc := 76) hx hb dX0_takeFrom_76 rfl (lv_at hl 0 rfl) ?_
  refine va_get (pc := 77) (v := .ref (a 45)) hx hb hts inB0 hown hK.1 hP 30 wu30 rfl 5 (by decide) (hts _ wd_109) (fun _ h9 => h9) rfl dX0_takeFrom_77 ?_
  refine lv_iconst (v := 0) (pc := 80) hx hb dX0_takeFrom_80 (by decide) ?_
  refine lv_bipush (v := 6) (pc := 81) hx hb dX0_takeFrom_81 (by decide) ?_
  refine r_cpy (pc := 83) (𝓦 := Wu E a) C hP (dU hI _) hS hl.1 wd_528 wd_337 wd_336 wd_46 14 45 wu14 wu45 wu45s (by decide) (by decide) (by decide) (by decide) (by decide) dX0_takeFrom_83 (fun H locs S6 eS6 hP hS => ?_)
  have h := bd_y eS6 h
  refine lv_aload_n (pc := 86) hx hb dX0_takeFrom_86 rfl (lv_at hl 1 rfl) ?_
  refine va_get (pc := 87) (v := .ref (a 15)) hx hb hts inB0 hown hK.1 hP 2 wu2 rfl 6 (by decide) (hts _ wd_111) (fun _ h9 => h9) rfl dX0_takeFrom_87 ?_
  refine lv_iconst (v := 0) (pc := 90) hx hb dX0_takeFrom_90 (by decide) ?_
  refine lv_aload_n (pc := 91) hx hb dX0_takeFrom_91 rfl (lv_at hl 0 rfl) ?_
  refine va_get (pc := 92) (v := .ref (a 46)) hx hb hts inB0 hown hK.1 hP 30 wu30 rfl 6 (by decide) (hts _ wd_111) (fun _ h9 => h9) rfl dX0_takeFrom_92 ?_
  refine lv_iconst (v := 0) (pc := 95) hx hb dX0_takeFrom_95 (by decide) ?_
  refine lv_bipush (v := 6) (pc := 96) hx hb dX0_takeFrom_96 (by decide) ?_
  refine r_cpy (pc := 98) (𝓦 := Wu E a) C hP (dU hI _) hS hl.1 wd_528 wd_337 wd_336 wd_46 15 46 wu15 wu46 wu46s (by decide) (by decide) (by decide) (by decide) (by decide) dX0_takeFrom_98 (fun H locs S7 eS7 hP hS => ?_)
  have h := bd_y eS7 h
  refine lv_aload_n (pc := 101) hx hb dX0_takeFrom_101 rfl (lv_at hl 1 rfl) ?_
  refine va_get (pc := 102) (v := .ref (a 16)) hx hb hts inB0 hown hK.1 hP 2 wu2 rfl 7 (by decide) (hts _ wd_113) (fun _ h9 => h9) rfl dX0_takeFrom_102 ?_
  refine lv_iconst (v := 0) (pc := 105) hx hb dX0_takeFrom_105 (by decide) ?_
  refine lv_aload_n (pc := 106) hx hb dX0_takeFrom_106 rfl (lv_at hl 0 rfl) ?_
  refine va_get (pc := 107) (v := .ref (a 47)) hx hb hts inB0 hown hK.1 hP 30 wu30 rfl 7 (by decide) (hts _ wd_113) (fun _ h9 => h9) rfl dX0_takeFrom_107 ?_
  refine lv_iconst (v := 0) (pc := 110) hx hb dX0_takeFrom_110 (by decide) ?_
  refine lv_bipush (v := 6) (pc := 111) hx hb dX0_takeFrom_111 (by decide) ?_
  refine r_cpy (pc := 113) (𝓦 := Wu E a) C hP (dU hI _) hS hl.1 wd_528 wd_337 wd_336 wd_46 16 47 wu16 wu47 wu47s (by decide) (by decide) (by decide) (by decide) (by decide) dX0_takeFrom_113 (fun H locs S8 eS8 hP hS => ?_)
  have h := bd_y eS8 h
  refine lv_aload_n (pc := 116) hx hb dX0_takeFrom_116 rfl (lv_at hl 1 rfl) ?_
  refine va_get (pc := 117) (v := .ref (a 17)) hx hb hts inB0 hown hK.1 hP 2 wu2 rfl 8 (by decide) (hts _ wd_115) (fun _ h9 => h9) rfl dX0_takeFrom_117 ?_
  refine lv_iconst (v := 0) (pc := 120) hx hb dX0_takeFrom_120 (by decide) ?_
  refine lv_aload_n (pc := 121) hx hb dX0_takeFrom_121 rfl (lv_at hl 0 rfl) ?_
  refine va_get (pc := 122) (v := .ref (a 48)) hx hb hts inB0 hown hK.1 hP 30 wu30 rfl 8 (by decide) (hts _ wd_115) (fun _ h9 => h9) rfl dX0_takeFrom_122 ?_
  refine lv_iconst (v := 0) (pc := 125) hx hb dX0_takeFrom_125 (by decide) ?_
  refine lv_bipush (v := 36) (pc := 126) hx hb dX0_takeFrom_126 (by decide) ?_
  refine r_cpy (pc := 128) (𝓦 := Wu E a) C hP (dU hI _) hS hl.1 wd_528 wd_337 wd_336 wd_46 17 48 wu17 wu48 wu48s (by decide) (by decide) (by decide) (by decide) (by decide) dX0_takeFrom_128 (fun H locs S9 eS9 hP hS => ?_)
  have h := bd_y eS9 h
  refine lv_aload_n (pc := 131) hx hb dX0_takeFrom_131 rfl (lv_at hl 0 rfl) ?_
  refine lv_aload_n (pc := 132) hx hb dX0_takeFrom_132 rfl (lv_at hl 1 rfl) ?_
  refine va_get (pc := 133) (v := .int (S9 2 9)) hx hb hts inB0 hown hK.1 hP 2 wu2 rfl 9 (by decide) (hts _ wd_118) (fun _ h9 => h9) rfl dX0_takeFrom_133 ?_
  refine r_put (pc := 136) (𝓦 := Wu E a) hx hb hts hown hK inB0 tyX0 tyX0_ok nmX0 hP (dU hI _) hS 30 wu30 rfl 9 (by decide) wd_118 rfl (by decide +kernel) (Nat.le_of_ble_eq_true rfl) (wu30p9 _) dX0_takeFrom_136 (fun H locs S10 eS10 hP hS => ?_)
  have h := bd_y eS10 h
  refine lv_aload_n (pc := 139) hx hb dX0_takeFrom_139 rfl (lv_at hl 0 rfl) ?_
  refine lv_aload_n (pc := 140) hx hb dX0_takeFrom_140 rfl (lv_at hl 1 rfl) ?_
  refine va_get (pc := 141) (v := .int (S10 2 10)) hx hb hts inB0 hown hK.1 hP 2 wu2 rfl 10 (by decide) (hts _ wd_121) (fun _ h9 => h9) rfl dX0_takeFrom_141 ?_
  refine r_put (pc := 144) (𝓦 := Wu E a) hx hb hts hown hK inB0 tyX0 tyX0_ok nmX0 hP (dU hI _) hS 30 wu30 rfl 10 (by decide) wd_121 rfl (by decide +kernel) (Nat.le_of_ble_eq_true rfl) (wu30p10 _) dX0_takeFrom_144 (fun H locs S11 eS11 hP hS => ?_)
  have h := bd_y eS11 h
  exact r_retV (pc := 147) (𝓦 := Wu E a) C h hP hS dX0_takeFrom_147
theorem c_X0_takeFrom_30_2 {l : Launch} {D : va_G} {E : bE} {a : Nat → Nat} (hI : aI 49 a) {S : St} {SS : St} (h : f_X0_takeFrom_30_2 S = some SS) : cV l D E yX0_takeFrom cX0_takeFrom 2 1 26 (aA 49 a) (Wu E a S) (Wu E a SS) [.ref (a 30), .ref (a 2)] := cV_of (by decide) (Nat.le_of_ble_eq_true rfl) (fun p e s m args below meth c C => t_X0_takeFrom_30_2_0 hI C h)
/-! X4_image -/
def f_X4_image (x1 : Int32) (S : St) : Option (Int32 × St) :=
  bd (f_X4_within x1 0 1) fun r1 => if r1 = 0 then (some ((-2), S)) else (gd (ix x1 2) (if x1 = 0 then (bd (f_X0_takeFrom_29_2 S) fun S1 => gd (ix x1 2) (bd (some (sto S1 6 (Int32.toNatClampNeg x1) (vp_nar .boolean 1))) fun S2 => some (1, S2))) else (bd (f_X0_takeFrom_30_2 S) fun S3 => gd (ix x1 2) (bd (some (sto S3 6 (Int32.toNatClampNeg x1) (vp_nar .boolean 1))) fun S4 => some (1, S4)))))
theorem t_X4_image_0 {rr : Int32} {SS : St} (hI : aI 49 a) (C : bC D E RX4 cX4_image 2 (some .int) p s m args meth c) {x1 : Int32} {S : St} (h : f_X4_image x1 S = some (rr, SS)) : gU D (Wu E a) (aA 49 a) p l e (bRm 2 47) s m args below meth c 2 (qU D below (aA 49 a) (Wu E a SS) rr args s) 0 [(0, .ref (a 0)), (1, .int x1)] [] S := by
  obtain ⟨hx, hb, hml, hown, hts, hK, hr, hlocks⟩ := id C
  intro H locs hP hS ls hl
  unfold f_X4_image at h
  refine lv_iload_n (pc := 0) hx hb dX4_image_0 rfl (lv_at hl 1 rfl) ?_
  refine lv_iconst (v := 0) (pc := 1) hx hb dX4_image_1 (by decide) ?_
  refine lv_iconst (v := 1) (pc := 2) hx hb dX4_image_2 (by decide) ?_
  obtain ⟨r1, hr1, h⟩ := bd_some h
  refine r_callS (pc := 3) C (c_X4_within hr1) k_X4_within wd_244 ⟨Nat.le_of_ble_eq_true rfl, Nat.le_of_ble_eq_true rfl⟩ rfl hl.1 rfl (Nat.le_of_ble_eq_true rfl) dX4_image_3 ⟨Nat.zero_le _, Nat.zero_le _⟩ ?_
  refine lv_if_ne (tgt := 12) (pc := 6) hx hb dX4_image_6 (by decide) (fun hc => ?_) (fun hc => ?_)
  · have h := if_n hc h
    refine lv_aload_n (pc := 12) hx hb dX4_image_12 rfl (lv_at hl 0 rfl) ?_
    refine va_get (pc := 13) (v := .ref (a 5)) hx hb hts inB4 hown hK.1 hP 0 wu0 rfl 4 (by decide) (hts _ wd_221) (fun _ h9 => h9) rfl dX4_image_13 ?_
    refine lv_iload_n (pc := 16) hx hb dX4_image_16 rfl (lv_at hl 1 rfl) ?_
    obtain ⟨hin, h⟩ := gd_some h
    refine r_img (pc := 17) hx hb hK hP hin dX4_image_17 (fun hc => ?_) (fun hc => ?_)
    · have h := if_y hc h
      refine lv_aload_n (pc := 18) hx hb dX4_image_18 rfl (lv_at hl 0 rfl) ?_
      refine va_get (pc := 19) (v := .ref (a 2)) hx hb hts inB4 hown hK.1 hP 0 wu0 rfl 2 (by decide) (hts _ wd_219) (fun _ h9 => h9) rfl dX4_image_19 ?_
      obtain ⟨S1, hS1, h⟩ := bd_some h
      refine r_callV (pc := 22) C hP hS (c_X0_takeFrom_29_2 hI hS1) k_X0_takeFrom wd_524 (q0 := 29) wu29 rfl rfl ⟨Nat.le_of_ble_eq_true rfl, Nat.le_of_ble_eq_true rfl⟩ rfl hl.1 rfl (Nat.le_of_ble_eq_true rfl) dX4_image_22 ⟨Nat.zero_le _, Nat.zero_le _⟩ (fun H locs hP hS => ?_)
      refine lv_aload_n (pc := 25) hx hb dX4_image_25 rfl (lv_at hl 0 rfl) ?_
      refine va_get (pc := 26) (v := .ref (a 6)) hx hb hts inB4 hown hK.1 hP 0 wu0 rfl 5 (by decide) (hts _ wd_222) (fun _ h9 => h9) rfl dX4_image_26 ?_
      refine lv_iload_n (pc := 29) hx hb dX4_image_29 rfl (lv_at hl 1 rfl) ?_
      refine lv_iconst (v := 1) (pc := 30) hx hb dX4_image_30 (by decide) ?_
      obtain ⟨hin, h⟩ := gd_some h
      refine r_zst (pc := 31) (𝓦 := Wu E a) hx hb hK hP (dU hI _) hS 6 wu6 wu6s hin dX4_image_31 (fun H locs S2 eS2 hP hS => ?_)
      have h := bd_y eS2 h
      refine lv_iconst (v := 1) (pc := 32) hx hb dX4_image_32 (by decide) ?_
      exact r_retU (pc := 33) (𝓦 := Wu E a) C h hP hS dX4_image_33
    · have h := if_n hc h
      refine lv_aload_n (pc := 18) hx hb dX4_image_18 rfl (lv_at hl 0 rfl) ?_
      refine va_get (pc := 19) (v := .ref (a 2)) hx hb hts inB4 hown hK.1 hP 0 wu0 rfl 2 (by decide) (hts _ wd_219) (fun _ h9 => h9) rfl dX4_image_19 ?_
      obtain ⟨S3, hS3, h⟩ := bd_some h
      refine r_callV (pc := 22) C hP hS (c_X0_takeFrom_30_2 hI hS3) k_X0_takeFrom wd_524 (q0 := 30) wu30 rfl rfl ⟨Nat.le_of_ble_eq_true rfl, Nat.le_of_ble_eq_true rfl⟩ rfl hl.1 rfl (Nat.le_of_ble_eq_true rfl) dX4_image_22 ⟨Nat.zero_le _, Nat.zero_le _⟩ (fun H locs hP hS => ?_)
      refine lv_aload_n (pc := 25) hx hb dX4_image_25 rfl (lv_at hl 0 rfl) ?_
      refine va_get (pc := 26) (v := .ref (a 6)) hx hb hts inB4 hown hK.1 hP 0 wu0 rfl 5 (by decide) (hts _ wd_222) (fun _ h9 => h9) rfl dX4_image_26 ?_
      refine lv_iload_n (pc := 29) hx hb dX4_image_29 rfl (lv_at hl 1 rfl) ?_
      refine lv_iconst (v := 1) (pc := 30) hx hb dX4_image_30 (by decide) ?_
      obtain ⟨hin, h⟩ := gd_some h
      refine r_zst (pc := 31) (𝓦 := Wu E a) hx hb hK hP (dU hI _) hS 6 wu6 wu6s hin dX4_image_31 (fun H locs S4 eS4 hP hS => ?_)
      have h := bd_y eS4 h
      refine lv_iconst (v := 1) (pc := 32) hx hb dX4_image_32 (by decide) ?_
      exact r_retU (pc := 33) (𝓦 := Wu E a) C h hP hS dX4_image_33
  · have h := if_y hc h
    refine lv_bipush (v := (-2)) (pc := 9) hx hb dX4_image_9 (by decide) ?_
    exact r_retU (pc := 11) (𝓦 := Wu E a) C h hP hS dX4_image_11
theorem c_X4_image {l : Launch} {D : va_G} {E : bE} {a : Nat → Nat} (hI : aI 49 a) {rr : Int32} {S : St} {SS : St} {x1 : Int32} (h : f_X4_image x1 S = some (rr, SS)) : cU l D E yX4_image cX4_image 2 (some .int) 2 47 (aA 49 a) (Wu E a S) (Wu E a SS) [.ref (a 0), .int x1] rr := cU_of (by decide) (Nat.le_of_ble_eq_true rfl) (fun p e s m args below meth c C => t_X4_image_0 hI C h)
/-! X0_takeFrom_2_29 -/
def f_X0_takeFrom_2_29 (S : St) : Option (St) :=
  bd (some (str S 9 (va_cpy (S 31) (S 9) 0 0 (Int32.toNatClampNeg 5)))) fun S1 => bd (some (str S1 10 (va_cpy (S1 32) (S1 10) 0 0 (Int32.toNatClampNeg 5)))) fun S2 => bd (some (str S2 11 (va_cpy (S2 33) (S2 11) 0 0 (Int32.toNatClampNeg 5)))) fun S3 => bd (some (str S3 12 (va_cpy (S3 34) (S3 12) 0 0 (Int32.toNatClampNeg 5)))) fun S4 => bd (some (str S4 13 (va_cpy (S4 35) (S4 13) 0 0 (Int32.toNatClampNeg 6)))) fun S5 => bd (some (str S5 14 (va_cpy (S5 36) (S5 14) 0 0 (Int32.toNatClampNeg 6)))) fun S6 => bd (some (str S6 15 (va_cpy (S6 37) (S6 15) 0 0 (Int32.toNatClampNeg 6)))) fun S7 => bd (some (str S7 16 (va_cpy (S7 38) (S7 16) 0 0 (Int32.toNatClampNeg 6)))) fun S8 => bd (some (str S8 17 (va_cpy (S8 39) (S8 17) 0 0 (Int32.toNatClampNeg 36)))) fun S9 => bd (some (sto S9 2 9 (S9 29 9))) fun S10 => bd (some (sto S10 2 10 (S10 29 10))) fun S11 => some S11
theorem t_X0_takeFrom_2_29_0 {SS : St} (hI : aI 49 a) (C : bC D E RX0 cX0_takeFrom 2 none p s m args meth c) {S : St} (h : f_X0_takeFrom_2_29 S = some SS) : gU D (Wu E a) (aA 49 a) p l e (bRm 1 26) s m args below meth c 2 (qV D below (aA 49 a) (Wu E a SS) args s) 0 [(0, .ref (a 2)), (1, .ref (a 29))] [] S := by
  obtain ⟨hx, hb, hml, hown, hts, hK, hr, hlocks⟩ := id C
  intro H locs hP hS ls hl
  unfold f_X0_takeFrom_2_29 at h
  refine lv_aload_n (pc := 0) hx hb dX0_takeFrom_0 rfl (lv_at hl 1 rfl) ?_
  refine va_get (pc := 1) (v := .ref (a 31)) hx hb hts inB0 hown hK.1 hP 29 wu29 rfl 0 (by decide) (hts _ wd_96) (fun _ h9 => h9) rfl dX0_takeFrom_1 ?_
  refine lv_iconst (v := 0) (pc := 4) hx hb dX0_takeFrom_4 (by decide) ?_
  refine lv_aload_n (pc := 5) hx hb dX0_takeFrom_5 rfl (lv_at hl 0 rfl) ?_
  refine va_get (pc := 6) (v := .ref (a 9)) hx hb hts inB0 hown hK.1 hP 2 wu2 rfl 0 (by decide) (hts _ wd_96) (fun _ h9 => h9) rfl dX0_takeFrom_6 ?_
  refine lv_iconst (v := 0) (pc := 9) hx hb dX0_takeFrom_9 (by decide) ?_
  refine lv_iconst (v := 5) (pc := 10) hx hb dX0_takeFrom_10 (by decide) ?_
  refine r_cpy (pc := 11) (𝓦 := Wu E a) C hP (dU hI _) hS hl.1 wd_528 wd_337 wd_336 wd_46 31 9 wu31 wu9 wu9s (by decide) (by decide) (by decide) (by decide) (by decide) dX0_takeFrom_11 (fun H locs S1 eS1 hP hS => ?_)
  have h := bd_y eS1 h
  refine lv_aload_n (pc := 14) hx hb dX0_takeFrom_14 rfl (lv_at hl 1 rfl) ?_
  refine va_get (pc := 15) (v := .ref (a 32)) hx hb hts inB0 hown hK.1 hP 29 wu29 rfl 1 (by decide) (hts _ wd_99) (fun _ h9 => h9) rfl dX0_takeFrom_15 ?_
  refine lv_iconst (v := 0) (pc := 18) hx hb dX0_takeFrom_18 (by decide) ?_
  refine lv_aload_n (pc := 19) hx hb dX0_takeFrom_19 rfl (lv_at hl 0 rfl) ?_
  refine va_get (pc := 20) (v := .ref (a 10)) hx hb hts inB0 hown hK.1 hP 2 wu2 rfl 1 (by decide) (hts _ wd_99) (fun _ h9 => h9) rfl dX0_takeFrom_20 ?_
  refine lv_iconst (v := 0) (pc := 23) hx hb dX0_takeFrom_23 (by decide) ?_
  refine lv_iconst (v := 5) (pc := 24) hx hb dX0_takeFrom_24 (by decide) ?_
  refine r_cpy (pc := 25) (𝓦 := Wu E a) C hP (dU hI _) hS hl.1 wd_528 wd_337 wd_336 wd_46 32 10 wu32 wu10 wu10s (by decide) (by decide) (by decide) (by decide) (by decide) dX0_takeFrom_25 (fun H locs S2 eS2 hP hS => ?_)
  have h := bd_y eS2 h
  refine lv_aload_n (pc := 28) hx hb dX0_takeFrom_28 rfl (lv_at hl 1 rfl) ?_
  refine va_get (pc := 29) (v := .ref (a 33)) hx hb hts inB0 hown hK.1 hP 29 wu29 rfl 2 (by decide) (hts _ wd_102) (fun _ h9 => h9) rfl dX0_takeFrom_29 ?_
  refine lv_iconst (v := 0) (pc := 32) hx hb dX0_takeFrom_32 (by decide) ?_
  refine lv_aload_n (pc := 33) hx hb dX0_takeFrom_33 rfl (lv_at hl 0 rfl) ?_
  refine va_get (pc := 34) (v := .ref (a 11)) hx hb hts inB0 hown hK.1 hP 2 wu2 rfl 2 (by decide) (hts _ wd_102) (fun _ h9 => h9) rfl dX0_takeFrom_34 ?_
  refine lv_iconst (v := 0) (pc := 37) hx hb dX0_takeFrom_37 (by decide) ?_
  refine lv_iconst (v := 5) (pc := 38) hx hb dX0_takeFrom_38 (by decide) ?_
  refine r_cpy (pc := 39) (𝓦 := Wu E a) C hP (dU hI _) hS hl.1 wd_528 wd_337 wd_336 wd_46 33 11 wu33 wu11 wu11s (by decide) (by decide) (by decide) (by decide) (by decide) dX0_takeFrom_39 (fun H locs S3 eS3 hP hS => ?_)
  have h := bd_y eS3 h
  refine lv_aload_n (pc := 42) hx hb dX0_takeFrom_42 rfl (lv_at hl 1 rfl) ?_
  refine va_get (pc := 43) (v := .ref (a 34)) hx hb hts inB0 hown hK.1 hP 29 wu29 rfl 3 (by decide) (hts _ wd_105) (fun _ h9 => h9) rfl dX0_takeFrom_43 ?_
  refine lv_iconst (v := 0) (pc := 46) hx hb dX0_takeFrom_46 (by decide) ?_
  refine lv_aload_n (pc := 47) hx hb dX0_takeFrom_47 rfl (lv_at hl 0 rfl) ?_
  refine va_get (pc := 48) (v := .ref (a 12)) hx hb hts inB0 hown hK.1 hP 2 wu2 rfl 3 (by decide) (hts _ wd_105) (fun _ h9 => h9) rfl dX0_takeFrom_48 ?_
  refine lv_iconst (v := 0) (pc := 51) hx hb dX0_takeFrom_51 (by decide) ?_
  refine lv_iconst (v := 5) (pc := 52) hx hb dX0_takeFrom_52 (by decide) ?_
  refine r_cpy (pc := 53) (𝓦 := Wu E a) C hP (dU hI _) hS hl.1 wd_528 wd_337 wd_336 wd_46 34 12 wu34 wu12 wu12s (by decide) (by decide) (by decide) (by decide) (by decide) dX0_takeFrom_53 (fun H locs S4 eS4 hP hS => ?_)
  have h := bd_y eS4 h
  refine lv_aload_n (pc := 56) hx hb dX0_takeFrom_56 rfl (lv_at hl 1 rfl) ?_
  refine va_get (pc := 57) (v := .ref (a 35)) hx hb hts inB0 hown hK.1 hP 29 wu29 rfl 4 (by decide) (hts _ wd_107) (fun _ h9 => h9) rfl dX0_takeFrom_57 ?_
  refine lv_iconst (v := 0) (pc := 60) hx hb dX0_takeFrom_60 (by decide) ?_
  refine lv_aload_n (pc := 61) hx hb dX0_takeFrom_61 rfl (lv_at hl 0 rfl) ?_
  refine va_get (pc := 62) (v := .ref (a 13)) hx hb hts inB0 hown hK.1 hP 2 wu2 rfl 4 (by decide) (hts _ wd_107) (fun _ h9 => h9) rfl dX0_takeFrom_62 ?_
  refine lv_iconst (v := 0) (pc := 65) hx hb dX0_takeFrom_65 (by decide) ?_
  refine lv_bipush (v := 6) (pc := 66) hx hb dX0_takeFrom_66 (by decide) ?_
  refine r_cpy (pc := 68) (𝓦 := Wu E a) C hP (dU hI _) hS hl.1 wd_528 wd_337 wd_336 wd_46 35 13 wu35 wu13 wu13s (by decide) (by decide) (by decide) (by decide) (by decide) dX0_takeFrom_68 (fun H locs S5 eS5 hP hS => ?_)
  have h := bd_y eS5 h
  refine lv_aload_n (pc := 71) hx hb dX0_takeFrom_71 rfl (lv_at hl 1 rfl) ?_
  refine va_get (pc := 72) (v := .ref (a 36)) hx hb hts inB0 hown hK.1 hP 29 wu29 rfl 5 (by decide) (hts _ wd_109) (fun _ h9 => h9) rfl dX0_takeFrom_72 ?_
  refine lv_iconst (v := 0) (pc := 75) hx hb dX0_takeFrom_75 (by decide) ?_
  refine lv_aload_n (pc := 76) hx hb dX0_takeFrom_76 rfl (lv_at hl 0 rfl) ?_
  refine va_get (pc := 77) (v := .ref (a 14)) hx hb hts inB0 hown hK.1 hP 2 wu2 rfl 5 (by decide) (hts _ wd_109) (fun _ h9 => h9) rfl dX0_takeFrom_77 ?_
  refine lv_iconst (v := 0) (pc := 80) hx hb dX0_takeFrom_80 (by decide) ?_
  refine lv_bipush (v := 6) (pc := 81) hx hb dX0_takeFrom_81 (by decide) ?_
  refine r_cpy (pc := 83) (𝓦 := Wu E a) C hP (dU hI _) hS hl.1 wd_528 wd_337 wd_336 wd_46 36 14 wu36 wu14 wu14s (by decide) (by decide) (by decide) (by decide) (by decide) dX0_takeFrom_83 (fun H locs S6 eS6 hP hS => ?_)
  have h := bd_y eS6 h
  refine lv_aload_n (pc := 86) hx hb dX0_takeFrom_86 rfl (lv_at hl 1 rfl) ?_
  refine va_get (pc := 87) (v := .ref (a 37)) hx hb hts inB0 hown hK.1 hP 29 wu29 rfl 6 (by decide) (hts _ wd_111) (fun _ h9 => h9) rfl dX0_takeFrom_87 ?_
  refine lv_iconst (v := 0) (pc := 90) hx hb dX0_takeFrom_90 (by decide) ?_
  refine lv_aload_n (pc := 91) hx hb dX0_takeFrom_91 rfl (lv_at hl 0 rfl) ?_
  refine va_get (pc := 92) (v := .ref (a 15)) hx hb hts inB0 hown hK.1 hP 2 wu2 rfl 6 (by decide) (hts _ wd_111) (fun _ h9 => h9) rfl dX0_takeFrom_92 ?_
  refine lv_iconst (v := 0) (pc := 95) hx hb dX0_takeFrom_95 (by decide) ?_
  refine lv_bipush (v := 6) (pc := 96) hx hb dX0_takeFrom_96 (by decide) ?_
  refine r_cpy (pc := 98) (𝓦 := Wu E a) C hP (dU hI _) hS hl.1 wd_528 wd_337 wd_336 wd_46 37 15 wu37 wu15 wu15s (by decide) (by decide) (by decide) (by decide) (by decide) dX0_takeFrom_98 (fun H locs S7 eS7 hP hS => ?_)
  have h := bd_y eS7 h
  refine lv_aload_n (pc := 101) hx hb dX0_takeFrom_101 rfl (lv_at hl 1 rfl) ?_
  refine va_get (pc := 102) (v := .ref (a 38)) hx hb hts inB0 hown hK.1 hP 29 wu29 rfl 7 (by decide) (hts _ wd_113) (fun _ h9 => h9) rfl dX0_takeFrom_102 ?_
  refine lv_iconst (v := 0) (pc := 105) hx hb dX0_takeFrom_105 (by decide) ?_
  refine lv_aload_n (pc := 106) hx hb dX0_takeFrom_106 rfl (lv_at hl 0 rfl) ?_
  refine va_get (pc := 107) (v := .ref (a 16)) hx hb hts inB0 hown hK.1 hP 2 wu2 rfl 7 (by decide) (hts _ wd_113) (fun _ h9 => h9) rfl dX0_takeFrom_107 ?_
  refine lv_iconst (v := 0) (pc := 110) hx hb dX0_takeFrom_110 (by decide) ?_
  refine lv_bipush (v := 6) (pc := 111) hx hb dX0_takeFrom_111 (by decide) ?_
  refine r_cpy (pc := 113) (𝓦 := Wu E a) C hP (dU hI _) hS hl.1 wd_528 wd_337 wd_336 wd_46 38 16 wu38 wu16 wu16s (by decide) (by decide) (by decide) (by decide) (by decide) dX0_takeFrom_113 (fun H locs S8 eS8 hP hS => ?_)
  have h := bd_y eS8 h
  refine lv_aload_n (pc := 116) hx hb dX0_takeFrom_116 rfl (lv_at hl 1 rfl) ?_
  refine va_get (pc := 117) (v := .ref (a 39)) hx hb hts inB0 hown hK.1 hP 29 wu29 rfl 8 (by decide) (hts _ wd_115) (fun _ h9 => h9) rfl dX0_takeFrom_117 ?_
  refine lv_iconst (v := 0) (pc := 120) hx hb dX0_takeFrom_120 (by decide) ?_
  refine lv_aload_n (pc := 121) hx hb dX0_takeFrom_121 rfl (lv_at hl 0 rfl) ?_
  refine va_get (pc := 122) (v := .ref (a 17)) hx hb hts inB0 hown hK.1 hP 2 wu2 rfl 8 (by decide) (hts _ wd_115) (fun _ h9 => h9) rfl dX0_takeFrom_122 ?_
  refine lv_iconst (v := 0) (pc := 125) hx hb dX0_takeFrom_125 (by decide) ?_
  refine lv_bipush (v := 36) (pc := 126) hx hb dX0_takeFrom_126 (by decide) ?_
  refine r_cpy (pc := 128) (𝓦 := Wu E a) C hP (dU hI _) hS hl.1 wd_528 wd_337 wd_336 wd_46 39 17 wu39 wu17 wu17s (by decide) (by decide) (by decide) (by decide) (by decide) dX0_takeFrom_128 (fun H locs S9 eS9 hP hS => ?_)
  have h := bd_y eS9 h
  refine lv_aload_n (pc := 131) hx hb dX0_takeFrom_131 rfl (lv_at hl 0 rfl) ?_
  refine lv_aload_n (pc := 132) hx hb dX0_takeFrom_132 rfl (lv_at hl 1 rfl) ?_
  refine va_get (pc := 133) (v := .int (S9 29 9)) hx hb hts inB0 hown hK.1 hP 29 wu29 rfl 9 (by decide) (hts _ wd_118) (fun _ h9 => h9) rfl dX0_takeFrom_133 ?_
  refine r_put (pc := 136) (𝓦 := Wu E a) hx hb hts hown hK inB0 tyX0 tyX0_ok nmX0 hP (dU hI _) hS 2 wu2 rfl 9 (by decide) wd_118 rfl (by decide +kernel) (Nat.le_of_ble_eq_true rfl) (wu2p9 _) dX0_takeFrom_136 (fun H locs S10 eS10 hP hS => ?_)
  have h := bd_y eS10 h
  refine lv_aload_n (pc := 139) hx hb dX0_takeFrom_139 rfl (lv_at hl 0 rfl) ?_
  refine lv_aload_n (pc := 140) hx hb dX0_takeFrom_140 rfl (lv_at hl 1 rfl) ?_
  refine va_get (pc := 141) (v := .int (S10 29 10)) hx hb hts inB0 hown hK.1 hP 29 wu29 rfl 10 (by decide) (hts _ wd_121) (fun _ h9 => h9) rfl dX0_takeFrom_141 ?_
  refine r_put (pc := 144) (𝓦 := Wu E a) hx hb hts hown hK inB0 tyX0 tyX0_ok nmX0 hP (dU hI _) hS 2 wu2 rfl 10 (by decide) wd_121 rfl (by decide +kernel) (Nat.le_of_ble_eq_true rfl) (wu2p10 _) dX0_takeFrom_144 (fun H locs S11 eS11 hP hS => ?_)
  have h := bd_y eS11 h
  exact r_retV (pc := 147) (𝓦 := Wu E a) C h hP hS dX0_takeFrom_147
theorem c_X0_takeFrom_2_29 {l : Launch} {D : va_G} {E : bE} {a : Nat → Nat} (hI : aI 49 a) {S : St} {SS : St} (h : f_X0_takeFrom_2_29 S = some SS) : cV l D E yX0_takeFrom cX0_takeFrom 2 1 26 (aA 49 a) (Wu E a S) (Wu E a SS) [.ref (a 2), .ref (a 29)] := cV_of (by decide) (Nat.le_of_ble_eq_true rfl) (fun p e s m args below meth c C => t_X0_takeFrom_2_29_0 hI C h)
/-! X0_takeFrom_2_30 -/
def f_X0_takeFrom_2_30 (S : St) : Option (St) :=
  bd (some (str S 9 (va_cpy (S 40) (S 9) 0 0 (Int32.toNatClampNeg 5)))) fun S1 => bd (some (str S1 10 (va_cpy (S1 41) (S1 10) 0 0 (Int32.toNatClampNeg 5)))) fun S2 => bd (some (str S2 11 (va_cpy (S2 42) (S2 11) 0 0 (Int32.toNatClampNeg 5)))) fun S3 => bd (some (str S3 12 (va_cpy (S3 43) (S3 12) 0 0 (Int32.toNatClampNeg 5)))) fun S4 => bd (some (str S4 13 (va_cpy (S4 44) (S4 13) 0 0 (Int32.toNatClampNeg 6)))) fun S5 => bd (some (str S5 14 (va_cpy (S5 45) (S5 14) 0 0 (Int32.toNatClampNeg 6)))) fun S6 => bd (some (str S6 15 (va_cpy (S6 46) (S6 15) 0 0 (Int32.toNatClampNeg 6)))) fun S7 => bd (some (str S7 16 (va_cpy (S7 47) (S7 16) 0 0 (Int32.toNatClampNeg 6)))) fun S8 => bd (some (str S8 17 (va_cpy (S8 48) (S8 17) 0 0 (Int32.toNatClampNeg 36)))) fun S9 => bd (some (sto S9 2 9 (S9 30 9))) fun S10 => bd (some (sto S10 2 10 (S10 30 10))) fun S11 => some S11
theorem t_X0_takeFrom_2_30_0 {SS : St} (hI : aI 49 a) (C : bC D E RX0 cX0_takeFrom 2 none p s m args meth c) {S : St} (h : f_X0_takeFrom_2_30 S = some SS) : gU D (Wu E a) (aA 49 a) p l e (bRm 1 26) s m args below meth c 2 (qV D below (aA 49 a) (Wu E a SS) args s) 0 [(0, .ref (a 2)), (1, .ref (a 30))] [] S := by
  obtain ⟨hx, hb, hml, hown, hts, hK, hr, hlocks⟩ := id C
  intro H locs hP hS ls hl
  unfold f_X0_takeFrom_2_30 at h
  refine lv_aload_n (pc := 0) hx hb dX0_takeFrom_0 rfl (lv_at hl 1 rfl) ?_
  refine va_get (pc := 1) (v := .ref (a 40)) hx hb hts inB0 hown hK.1 hP 30 wu30 rfl 0 (by decide) (hts _ wd_96) (fun _ h9 => h9) rfl dX0_takeFrom_1 ?_
  refine lv_iconst (v := 0) (pc := 4) hx hb dX0_takeFrom_4 (by decide) ?_
  refine lv_aload_n (pc := 5) hx hb dX0_takeFrom_5 rfl (lv_at hl 0 rfl) ?_
  refine va_get (pc := 6) (v := .ref (a 9)) hx hb hts inB0 hown hK.1 hP 2 wu2 rfl 0 (by decide) (hts _ wd_96) (fun _ h9 => h9) rfl dX0_takeFrom_6 ?_
  refine lv_iconst (v := 0) (pc := 9) hx hb dX0_takeFrom_9 (by decide) ?_
  refine lv_iconst (v := 5) (pc := 10) hx hb dX0_takeFrom_10 (by decide) ?_
  refine r_cpy (pc := 11) (𝓦 := Wu E a) C hP (dU hI _) hS hl.1 wd_528 wd_337 wd_336 wd_46 40 9 wu40 wu9 wu9s (by decide) (by decide) (by decide) (by decide) (by decide) dX0_takeFrom_11 (fun H locs S1 eS1 hP hS => ?_)
  have h := bd_y eS1 h
  refine lv_aload_n (pc := 14) hx hb dX0_takeFrom_14 rfl (lv_at hl 1 rfl) ?_
  refine va_get (pc := 15) (v := .ref (a 41)) hx hb hts inB0 hown hK.1 hP 30 wu30 rfl 1 (by decide) (hts _ wd_99) (fun _ h9 => h9) rfl dX0_takeFrom_15 ?_
  refine lv_iconst (v := 0) (pc := 18) hx hb dX0_takeFrom_18 (by decide) ?_
  refine lv_aload_n (pc := 19) hx hb dX0_takeFrom_19 rfl (lv_at hl 0 rfl) ?_
  refine va_get (pc := 20) (v := .ref (a 10)) hx hb hts inB0 hown hK.1 hP 2 wu2 rfl 1 (by decide) (hts _ wd_99) (fun _ h9 => h9) rfl dX0_takeFrom_20 ?_
  refine lv_iconst (v := 0) (pc := 23) hx hb dX0_takeFrom_23 (by decide) ?_
  refine lv_iconst (v := 5) (pc := 24) hx hb dX0_takeFrom_24 (by decide) ?_
  refine r_cpy (pc := 25) (𝓦 := Wu E a) C hP (dU hI _) hS hl.1 wd_528 wd_337 wd_336 wd_46 41 10 wu41 wu10 wu10s (by decide) (by decide) (by decide) (by decide) (by decide) dX0_takeFrom_25 (fun H locs S2 eS2 hP hS => ?_)
  have h := bd_y eS2 h
  refine lv_aload_n (pc := 28) hx hb dX0_takeFrom_28 rfl (lv_at hl 1 rfl) ?_
  refine va_get (pc := 29) (v := .ref (a 42)) hx hb hts inB0 hown hK.1 hP 30 wu30 rfl 2 (by decide) (hts _ wd_102) (fun _ h9 => h9) rfl dX0_takeFrom_29 ?_
  refine lv_iconst (v := 0) (pc := 32) hx hb dX0_takeFrom_32 (by decide) ?_
  refine lv_aload_n (pc := 33) hx hb dX0_takeFrom_33 rfl (lv_at hl 0 rfl) ?_
  refine va_get (pc := 34) (v := .ref (a 11)) hx hb hts inB0 hown hK.1 hP 2 wu2 rfl 2 (by decide) (hts _ wd_102) (fun _ h9 => h9) rfl dX0_takeFrom_34 ?_
  refine lv_iconst (v := 0) (pc := 37) hx hb dX0_takeFrom_37 (by decide) ?_
  refine lv_iconst (v := 5) (pc := 38) hx hb dX0_takeFrom_38 (by decide) ?_
  refine r_cpy (pc := 39) (𝓦 := Wu E a) C hP (dU hI _) hS hl.1 wd_528 wd_337 wd_336 wd_46 42 11 wu42 wu11 wu11s (by decide) (by decide) (by decide) (by decide) (by decide) dX0_takeFrom_39 (fun H locs S3 eS3 hP hS => ?_)
  have h := bd_y eS3 h
  refine lv_aload_n (pc := 42) hx hb dX0_takeFrom_42 rfl (lv_at hl 1 rfl) ?_
  refine va_get (pc := 43) (v := .ref (a 43)) hx hb hts inB0 hown hK.1 hP 30 wu30 rfl 3 (by decide) (hts _ wd_105) (fun _ h9 => h9) rfl dX0_takeFrom_43 ?_
  refine lv_iconst (v := 0) (pc := 46) hx hb dX0_takeFrom_46 (by decide) ?_
  refine lv_aload_n (pc := 47) hx hb dX0_takeFrom_47 rfl (lv_at hl 0 rfl) ?_
  refine va_get (pc := 48) (v := .ref (a 12)) hx hb hts inB0 hown hK.1 hP 2 wu2 rfl 3 (by decide) (hts _ wd_105) (fun _ h9 => h9) rfl dX0_takeFrom_48 ?_
  refine lv_iconst (v := 0) (pc := 51) hx hb dX0_takeFrom_51 (by decide) ?_
  refine lv_iconst (v := 5) (pc := 52) hx hb dX0_takeFrom_52 (by decide) ?_
  refine r_cpy (pc := 53) (𝓦 := Wu E a) C hP (dU hI _) hS hl.1 wd_528 wd_337 wd_336 wd_46 43 12 wu43 wu12 wu12s (by decide) (by decide) (by decide) (by decide) (by decide) dX0_takeFrom_53 (fun H locs S4 eS4 hP hS => ?_)
  have h := bd_y eS4 h
  refine lv_aload_n (pc := 56) hx hb dX0_takeFrom_56 rfl (lv_at hl 1 rfl) ?_
  refine va_get (pc := 57) (v := .ref (a 44)) hx hb hts inB0 hown hK.1 hP 30 wu30 rfl 4 (by decide) (hts _ wd_107) (fun _ h9 => h9) rfl dX0_takeFrom_57 ?_
  refine lv_iconst (v := 0) (pc := 60) hx hb dX0_takeFrom_60 (by decide) ?_
  refine lv_aload_n (pc := 61) hx hb dX0_takeFrom_61 rfl (lv_at hl 0 rfl) ?_
  refine va_get (pc := 62) (v := .ref (a 13)) hx hb hts inB0 hown hK.1 hP 2 wu2 rfl 4 (by decide) (hts _ wd_107) (fun _ h9 => h9) rfl dX0_takeFrom_62 ?_
  refine lv_iconst (v := 0) (pc := 65) hx hb dX0_takeFrom_65 (by decide) ?_
  refine lv_bipush (v := 6) (pc := 66) hx hb dX0_takeFrom_66 (by decide) ?_
  refine r_cpy (pc := 68) (𝓦 := Wu E a) C hP (dU hI _) hS hl.1 wd_528 wd_337 wd_336 wd_46 44 13 wu44 wu13 wu13s (by decide) (by decide) (by decide) (by decide) (by decide) dX0_takeFrom_68 (fun H locs S5 eS5 hP hS => ?_)
  have h := bd_y eS5 h
  refine lv_aload_n (pc := 71) hx hb dX0_takeFrom_71 rfl (lv_at hl 1 rfl) ?_
  refine va_get (pc := 72) (v := .ref (a 45)) hx hb hts inB0 hown hK.1 hP 30 wu30 rfl 5 (by decide) (hts _ wd_109) (fun _ h9 => h9) rfl dX0_takeFrom_72 ?_
  refine lv_iconst (v := 0) (pc := 75) hx hb dX0_takeFrom_75 (by decide) ?_
  refine lv_aload_n (pc := 76) hx hb dX0_takeFrom_76 rfl (lv_at hl 0 rfl) ?_
  refine va_get (pc := 77) (v := .ref (a 14)) hx hb hts inB0 hown hK.1 hP 2 wu2 rfl 5 (by decide) (hts _ wd_109) (fun _ h9 => h9) rfl dX0_takeFrom_77 ?_
  refine lv_iconst (v := 0) (pc := 80) hx hb dX0_takeFrom_80 (by decide) ?_
  refine lv_bipush (v := 6) (pc := 81) hx hb dX0_takeFrom_81 (by decide) ?_
  refine r_cpy (pc := 83) (𝓦 := Wu E a) C hP (dU hI _) hS hl.1 wd_528 wd_337 wd_336 wd_46 45 14 wu45 wu14 wu14s (by decide) (by decide) (by decide) (by decide) (by decide) dX0_takeFrom_83 (fun H locs S6 eS6 hP hS => ?_)
  have h := bd_y eS6 h
  refine lv_aload_n (pc := 86) hx hb dX0_takeFrom_86 rfl (lv_at hl 1 rfl) ?_
  refine va_get (pc := 87) (v := .ref (a 46)) hx hb hts inB0 hown hK.1 hP 30 wu30 rfl 6 (by decide) (hts _ wd_111) (fun _ h9 => h9) rfl dX0_takeFrom_87 ?_
  refine lv_iconst (v := 0) (pc := 90) hx hb dX0_takeFrom_90 (by decide) ?_
  refine lv_aload_n (pc := 91) hx hb dX0_takeFrom_91 rfl (lv_at hl 0 rfl) ?_
  refine va_get (pc := 92) (v := .ref (a 15)) hx hb hts inB0 hown hK.1 hP 2 wu2 rfl 6 (by decide) (hts _ wd_111) (fun _ h9 => h9) rfl dX0_takeFrom_92 ?_
  refine lv_iconst (v := 0) (pc := 95) hx hb dX0_takeFrom_95 (by decide) ?_
  refine lv_bipush (v := 6) (pc := 96) hx hb dX0_takeFrom_96 (by decide) ?_
  refine r_cpy (pc := 98) (𝓦 := Wu E a) C hP (dU hI _) hS hl.1 wd_528 wd_337 wd_336 wd_46 46 15 wu46 wu15 wu15s (by decide) (by decide) (by decide) (by decide) (by decide) dX0_takeFrom_98 (fun H locs S7 eS7 hP hS => ?_)
  have h := bd_y eS7 h
  refine lv_aload_n (pc := 101) hx hb dX0_takeFrom_101 rfl (lv_at hl 1 rfl) ?_
  refine va_get (pc := 102) (v := .ref (a 47)) hx hb hts inB0 hown hK.1 hP 30 wu30 rfl 7 (by decide) (hts _ wd_113) (fun _ h9 => h9) rfl dX0_takeFrom_102 ?_
  refine lv_iconst (v := 0) (pc := 105) hx hb dX0_takeFrom_105 (by decide) ?_
  refine lv_aload_n (pc := 106) hx hb dX0_takeFrom_106 rfl (lv_at hl 0 rfl) ?_
  refine va_get (pc := 107) (v := .ref (a 16)) hx hb hts inB0 hown hK.1 hP 2 wu2 rfl 7 (by decide) (hts _ wd_113) (fun _ h9 => h9) rfl dX0_takeFrom_107 ?_
  refine lv_iconst (v := 0) (pc := 110) hx hb dX0_takeFrom_110 (by decide) ?_
  refine lv_bipush (v := 6) (pc := 111) hx hb dX0_takeFrom_111 (by decide) ?_
  refine r_cpy (pc := 113) (𝓦 := Wu E a) C hP (dU hI _) hS hl.1 wd_528 wd_337 wd_336 wd_46 47 16 wu47 wu16 wu16s (by decide) (by decide) (by decide) (by decide) (by decide) dX0_takeFrom_113 (fun H locs S8 eS8 hP hS => ?_)
  have h := bd_y eS8 h
  refine lv_aload_n (pc := 116) hx hb dX0_takeFrom_116 rfl (lv_at hl 1 rfl) ?_
  refine va_get (pc := 117) (v := .ref (a 48)) hx hb hts inB0 hown hK.1 hP 30 wu30 rfl 8 (by decide) (hts _ wd_115) (fun _ h9 => h9) rfl dX0_takeFrom_117 ?_
  refine lv_iconst (v := 0) (pc := 120) hx hb dX0_takeFrom_120 (by decide) ?_
  refine lv_aload_n (pc := 121) hx hb dX0_takeFrom_121 rfl (lv_at hl 0 rfl) ?_
  refine va_get (pc := 122) (v := .ref (a 17)) hx hb hts inB0 hown hK.1 hP 2 wu2 rfl 8 (by decide) (hts _ wd_115) (fun _ h9 => h9) rfl dX0_takeFrom_122 ?_
  refine lv_iconst (v := 0) (pc := 125) hx hb dX0_takeFrom_125 (by decide) ?_
  refine lv_bipush (v := 36) (pc := 126) hx hb dX0_takeFrom_126 (by decide) ?_
  refine r_cpy (pc := 128) (𝓦 := Wu E a) C hP (dU hI _) hS hl.1 wd_528 wd_337 wd_336 wd_46 48 17 wu48 wu17 wu17s (by decide) (by decide) (by decide) (by decide) (by decide) dX0_takeFrom_128 (fun H locs S9 eS9 hP hS => ?_)
  have h := bd_y eS9 h
  refine lv_aload_n (pc := 131) hx hb dX0_takeFrom_131 rfl (lv_at hl 0 rfl) ?_
  refine lv_aload_n (pc := 132) hx hb dX0_takeFrom_132 rfl (lv_at hl 1 rfl) ?_
  refine va_get (pc := 133) (v := .int (S9 30 9)) hx hb hts inB0 hown hK.1 hP 30 wu30 rfl 9 (by decide) (hts _ wd_118) (fun _ h9 => h9) rfl dX0_takeFrom_133 ?_
  refine r_put (pc := 136) (𝓦 := Wu E a) hx hb hts hown hK inB0 tyX0 tyX0_ok nmX0 hP (dU hI _) hS 2 wu2 rfl 9 (by decide) wd_118 rfl (by decide +kernel) (Nat.le_of_ble_eq_true rfl) (wu2p9 _) dX0_takeFrom_136 (fun H locs S10 eS10 hP hS => ?_)
  have h := bd_y eS10 h
  refine lv_aload_n (pc := 139) hx hb dX0_takeFrom_139 rfl (lv_at hl 0 rfl) ?_
  refine lv_aload_n (pc := 140) hx hb dX0_takeFrom_140 rfl (lv_at hl 1 rfl) ?_
  refine va_get (pc := 141) (v := .int (S10 30 10)) hx hb hts inB0 hown hK.1 hP 30 wu30 rfl 10 (by decide) (hts _ wd_121) (fun _ h9 => h9) rfl dX0_takeFrom_141 ?_
  refine r_put (pc := 144) (𝓦 := Wu E a) hx hb hts hown hK inB0 tyX0 tyX0_ok nmX0 hP (dU hI _) hS 2 wu2 rfl 10 (by decide) wd_121 rfl (by decide +kernel) (Nat.le_of_ble_eq_true rfl) (wu2p10 _) dX0_takeFrom_144 (fun H locs S11 eS11 hP hS => ?_)
  have h := bd_y eS11 h
  exact r_retV (pc := 147) (𝓦 := Wu E a) C h hP hS dX0_takeFrom_147
theorem c_X0_takeFrom_2_30 {l : Launch} {D : va_G} {E : bE} {a : Nat → Nat} (hI : aI 49 a) {S : St} {SS : St} (h : f_X0_takeFrom_2_30 S = some SS) : cV l D E yX0_takeFrom cX0_takeFrom 2 1 26 (aA 49 a) (Wu E a S) (Wu E a SS) [.ref (a 2), .ref (a 30)] := cV_of (by decide) (Nat.le_of_ble_eq_true rfl) (fun p e s m args below meth c C => t_X0_takeFrom_2_30_0 hI C h)
/-! X4_restore -/
def f_X4_restore (x1 : Int32) (S : St) : Option (Int32 × St) :=
  bd (f_X4_within x1 0 1) fun r1 => if r1 = 0 then (some ((-2), S)) else (gd (ix x1 2) (if (S 6 (Int32.toNatClampNeg x1)) = 0 then (some ((-3), S)) else (gd (ix x1 2) (if x1 = 0 then (bd (f_X0_takeFrom_2_29 S) fun S1 => some (1, S1)) else (bd (f_X0_takeFrom_2_30 S) fun S2 => some (1, S2))))))
theorem t_X4_restore_0 {rr : Int32} {SS : St} (hI : aI 49 a) (C : bC D E RX4 cX4_restore 2 (some .int) p s m args meth c) {x1 : Int32} {S : St} (h : f_X4_restore x1 S = some (rr, SS)) : gU D (Wu E a) (aA 49 a) p l e (bRm 2 47) s m args below meth c 2 (qU D below (aA 49 a) (Wu E a SS) rr args s) 0 [(0, .ref (a 0)), (1, .int x1)] [] S := by
  obtain ⟨hx, hb, hml, hown, hts, hK, hr, hlocks⟩ := id C
  intro H locs hP hS ls hl
  unfold f_X4_restore at h
  refine lv_iload_n (pc := 0) hx hb dX4_restore_0 rfl (lv_at hl 1 rfl) ?_
  refine lv_iconst (v := 0) (pc := 1) hx hb dX4_restore_1 (by decide) ?_
  refine lv_iconst (v := 1) (pc := 2) hx hb dX4_restore_2 (by decide) ?_
  obtain ⟨r1, hr1, h⟩ := bd_some h
  refine r_callS (pc := 3) C (c_X4_within hr1) k_X4_within wd_244 ⟨Nat.le_of_ble_eq_true rfl, Nat.le_of_ble_eq_true rfl⟩ rfl hl.1 rfl (Nat.le_of_ble_eq_true rfl) dX4_restore_3 ⟨Nat.zero_le _, Nat.zero_le _⟩ ?_
  refine lv_if_ne (tgt := 12) (pc := 6) hx hb dX4_restore_6 (by decide) (fun hc => ?_) (fun hc => ?_)
  · have h := if_n hc h
    refine lv_aload_n (pc := 12) hx hb dX4_restore_12 rfl (lv_at hl 0 rfl) ?_
    refine va_get (pc := 13) (v := .ref (a 6)) hx hb hts inB4 hown hK.1 hP 0 wu0 rfl 5 (by decide) (hts _ wd_222) (fun _ h9 => h9) rfl dX4_restore_13 ?_
    refine lv_iload_n (pc := 16) hx hb dX4_restore_16 rfl (lv_at hl 1 rfl) ?_
    obtain ⟨hin, h⟩ := gd_some h
    refine r_zld (pc := 17) hx hb hK hP 6 wu6 hin dX4_restore_17 ?_
    refine lv_if_ne (tgt := 24) (pc := 18) hx hb dX4_restore_18 (by decide) (fun hc => ?_) (fun hc => ?_)
    · have h := if_n hc h
      refine lv_aload_n (pc := 24) hx hb dX4_restore_24 rfl (lv_at hl 0 rfl) ?_
      refine va_get (pc := 25) (v := .ref (a 2)) hx hb hts inB4 hown hK.1 hP 0 wu0 rfl 2 (by decide) (hts _ wd_219) (fun _ h9 => h9) rfl dX4_restore_25 ?_
      refine lv_aload_n (pc := 28) hx hb dX4_restore_28 rfl (lv_at hl 0 rfl) ?_
      refine va_get (pc := 29) (v := .ref (a 5)) hx hb hts inB4 hown hK.1 hP 0 wu0 rfl 4 (by decide) (hts _ wd_221) (fun _ h9 => h9) rfl dX4_restore_29 ?_
      refine lv_iload_n (pc := 32) hx hb dX4_restore_32 rfl (lv_at hl 1 rfl) ?_
      obtain ⟨hin, h⟩ := gd_some h
      refine r_img (pc := 33) hx hb hK hP hin dX4_restore_33 (fun hc => ?_) (fun hc => ?_)
      · have h := if_y hc h
        obtain ⟨S1, hS1, h⟩ := bd_some h
        refine r_callV (pc := 34) C hP hS (c_X0_takeFrom_2_29 hI hS1) k_X0_takeFrom wd_524 (q0 := 2) wu2 rfl rfl ⟨Nat.le_of_ble_eq_true rfl, Nat.le_of_ble_eq_true rfl⟩ rfl hl.1 rfl (Nat.le_of_ble_eq_true rfl) dX4_restore_34 ⟨Nat.zero_le _, Nat.zero_le _⟩ (fun H locs hP hS => ?_)
        refine lv_iconst (v := 1) (pc := 37) hx hb dX4_restore_37 (by decide) ?_
        exact r_retU (pc := 38) (𝓦 := Wu E a) C h hP hS dX4_restore_38
      · have h := if_n hc h
        obtain ⟨S2, hS2, h⟩ := bd_some h
        refine r_callV (pc := 34) C hP hS (c_X0_takeFrom_2_30 hI hS2) k_X0_takeFrom wd_524 (q0 := 2) wu2 rfl rfl ⟨Nat.le_of_ble_eq_true rfl, Nat.le_of_ble_eq_true rfl⟩ rfl hl.1 rfl (Nat.le_of_ble_eq_true rfl) dX4_restore_34 ⟨Nat.zero_le _, Nat.zero_le _⟩ (fun H locs hP hS => ?_)
        refine lv_iconst (v := 1) (pc := 37) hx hb dX4_restore_37 (by decide) ?_
        exact r_retU (pc := 38) (𝓦 := Wu E a) C h hP hS dX4_restore_38
    · have h := if_y hc h
      refine lv_bipush (v := (-3)) (pc := 21) hx hb dX4_restore_21 (by decide) ?_
      exact r_retU (pc := 23) (𝓦 := Wu E a) C h hP hS dX4_restore_23
  · have h := if_y hc h
    refine lv_bipush (v := (-2)) (pc := 9) hx hb dX4_restore_9 (by decide) ?_
    exact r_retU (pc := 11) (𝓦 := Wu E a) C h hP hS dX4_restore_11
theorem c_X4_restore {l : Launch} {D : va_G} {E : bE} {a : Nat → Nat} (hI : aI 49 a) {rr : Int32} {S : St} {SS : St} {x1 : Int32} (h : f_X4_restore x1 S = some (rr, SS)) : cU l D E yX4_restore cX4_restore 2 (some .int) 2 47 (aA 49 a) (Wu E a S) (Wu E a SS) [.ref (a 0), .int x1] rr := cU_of (by decide) (Nat.le_of_ble_eq_true rfl) (fun p e s m args below meth c C => t_X4_restore_0 hI C h)
