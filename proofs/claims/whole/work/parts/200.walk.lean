variable {p : Program} {l : Launch} {e : Env} {s : State} {m : MethodId} {args : Array Value} {below : List Frame} {meth : Method} {c : Code} {D : va_G} {E : bE} {a : Nat → Nat}
/-! X4_within -/
def f_X4_within (x0 : Int32) (x1 : Int32) (x2 : Int32) : Option (Int32) :=
  if x0 < x1 then (some 0) else (if x2 < x0 then (some 0) else (some 1))
theorem t_X4_within_0 {rr : Int32} (C : bC D E RX4 cX4_within 3 (some .boolean) p s m args meth c) {x0 : Int32} {x1 : Int32} {x2 : Int32} (h : f_X4_within x0 x1 x2 = some rr) : gR p l e (bRm 0 0) s m args below meth c 3 (qS below rr args s) 0 [(0, .int x0), (1, .int x1), (2, .int x2)] [] := by
  obtain ⟨hx, hb, hml, hown, hts, hK, hr, hlocks⟩ := id C
  intro ls hl
  unfold f_X4_within at h
  refine lv_iload_n (pc := 0) hx hb dX4_within_0 rfl (lv_at hl 0 rfl) ?_
  refine lv_iload_n (pc := 1) hx hb dX4_within_1 rfl (lv_at hl 1 rfl) ?_
  refine lv_icmp_lt (tgt := 14) (pc := 2) hx hb dX4_within_2 (by decide) (fun hc => ?_) (fun hc => ?_)
  · have h := if_y hc h
    refine lv_iconst (v := 0) (pc := 14) hx hb dX4_within_14 (by decide) ?_
    exact r_retZ (pc := 15) C (gd_lit (by decide) h) dX4_within_15
  · have h := if_n hc h
    refine lv_iload_n (pc := 5) hx hb dX4_within_5 rfl (lv_at hl 0 rfl) ?_
    refine lv_iload_n (pc := 6) hx hb dX4_within_6 rfl (lv_at hl 2 rfl) ?_
    refine lv_icmp_gt (tgt := 14) (pc := 7) hx hb dX4_within_7 (by decide) (fun hc => ?_) (fun hc => ?_)
    · have h := if_y hc h
      refine lv_iconst (v := 0) (pc := 14) hx hb dX4_within_14 (by decide) ?_
      exact r_retZ (pc := 15) C (gd_lit (by decide) h) dX4_within_15
    · have h := if_n hc h
      refine lv_iconst (v := 1) (pc := 10) hx hb dX4_within_10 (by decide) ?_
      refine lv_goto (tgt := 15) (pc := 11) hx hb dX4_within_11 (by decide) ?_
      exact r_retZ (pc := 15) C (gd_lit (by decide) h) dX4_within_15
theorem c_X4_within {l : Launch} {D : va_G} {E : bE} {rr : Int32} {x0 : Int32} {x1 : Int32} {x2 : Int32} (h : f_X4_within x0 x1 x2 = some rr) : cS l D E yX4_within cX4_within 3 (some .boolean) 0 0 [.int x0, .int x1, .int x2] rr := cS_of (by decide) (Nat.le_of_ble_eq_true rfl) (fun p e s m args below meth c C => t_X4_within_0 C h)
/-! X2_put -/
def f_X2_put (x1 : Int32) (S : St) : Option (St) :=
  if 20 ≤ (S 1 1) then (some S) else (gd (ix (S 1 1) 20) (bd (some (sto S 8 (Int32.toNatClampNeg (S 1 1)) x1)) fun S1 => bd (some (sto S1 1 1 ((S1 1 1) + 1))) fun S2 => some S2))
theorem t_X2_put_0 {SS : St} (hI : aI 49 a) (C : bC D E RX2 cX2_put 2 none p s m args meth c) {x1 : Int32} {S : St} (h : f_X2_put x1 S = some SS) : gU D (Wu E a) (aA 49 a) p l e (bRm 0 0) s m args below meth c 2 (qV D below (aA 49 a) (Wu E a SS) args s) 0 [(0, .ref (a 1)), (1, .int x1)] [] S := by
  obtain ⟨hx, hb, hml, hown, hts, hK, hr, hlocks⟩ := id C
  intro H locs hP hS ls hl
  unfold f_X2_put at h
  refine lv_aload_n (pc := 0) hx hb dX2_put_0 rfl (lv_at hl 0 rfl) ?_
  refine va_get (pc := 1) (v := .int (S 1 1)) hx hb hts inB2 hown hK.1 hP 1 wu1 rfl 1 (by decide) (hts _ wd_64) (fun _ h9 => h9) rfl dX2_put_1 ?_
  refine lv_bipush (v := 20) (pc := 4) hx hb dX2_put_4 (by decide) ?_
  refine lv_icmp_ge (tgt := 29) (pc := 6) hx hb dX2_put_6 (by decide) (fun hc => ?_) (fun hc => ?_)
  · have h := if_y hc h
    exact r_retV (pc := 29) (𝓦 := Wu E a) C h hP hS dX2_put_29
  · have h := if_n hc h
    refine lv_aload_n (pc := 9) hx hb dX2_put_9 rfl (lv_at hl 0 rfl) ?_
    refine va_get (pc := 10) (v := .ref (a 8)) hx hb hts inB2 hown hK.1 hP 1 wu1 rfl 0 (by decide) (hts _ wd_63) (fun _ h9 => h9) rfl dX2_put_10 ?_
    refine lv_aload_n (pc := 13) hx hb dX2_put_13 rfl (lv_at hl 0 rfl) ?_
    refine va_get (pc := 14) (v := .int (S 1 1)) hx hb hts inB2 hown hK.1 hP 1 wu1 rfl 1 (by decide) (hts _ wd_64) (fun _ h9 => h9) rfl dX2_put_14 ?_
    refine lv_iload_n (pc := 17) hx hb dX2_put_17 rfl (lv_at hl 1 rfl) ?_
    obtain ⟨hin, h⟩ := gd_some h
    refine r_ast (pc := 18) (𝓦 := Wu E a) hx hb hK hP (dU hI _) hS 8 wu8 wu8s hin dX2_put_18 (fun H locs S1 eS1 hP hS => ?_)
    have h := bd_y eS1 h
    refine lv_aload_n (pc := 19) hx hb dX2_put_19 rfl (lv_at hl 0 rfl) ?_
    refine lv_dup (pc := 20) hx hb dX2_put_20 rfl ?_
    refine va_get (pc := 21) (v := .int (S1 1 1)) hx hb hts inB2 hown hK.1 hP 1 wu1 rfl 1 (by decide) (hts _ wd_64) (fun _ h9 => h9) rfl dX2_put_21 ?_
    refine lv_iconst (v := 1) (pc := 24) hx hb dX2_put_24 (by decide) ?_
    refine lv_iadd (pc := 25) hx hb dX2_put_25 ?_
    refine r_put (pc := 26) (𝓦 := Wu E a) hx hb hts hown hK inB2 tyX2 tyX2_ok nmX2 hP (dU hI _) hS 1 wu1 rfl 1 (by decide) wd_64 rfl (by decide +kernel) (Nat.le_of_ble_eq_true rfl) (wu1p1 _) dX2_put_26 (fun H locs S2 eS2 hP hS => ?_)
    have h := bd_y eS2 h
    exact r_retV (pc := 29) (𝓦 := Wu E a) C h hP hS dX2_put_29
theorem c_X2_put {l : Launch} {D : va_G} {E : bE} {a : Nat → Nat} (hI : aI 49 a) {S : St} {SS : St} {x1 : Int32} (h : f_X2_put x1 S = some SS) : cV l D E yX2_put cX2_put 2 0 0 (aA 49 a) (Wu E a S) (Wu E a SS) [.ref (a 1), .int x1] := cV_of (by decide) (Nat.le_of_ble_eq_true rfl) (fun p e s m args below meth c C => t_X2_put_0 hI C h)
/-! X4_say -/
def f_X4_say (x1 : Int32) (S : St) : Option (Int32 × St) :=
  bd (f_X4_within x1 33 126) fun r1 => if r1 = 0 then (some ((-2), S)) else (if (S 1 1) < 20 then (bd (f_X2_put x1 S) fun S1 => some ((S1 1 1), S1)) else (some ((-4), S)))
theorem t_X4_say_0 {rr : Int32} {SS : St} (hI : aI 49 a) (C : bC D E RX4 cX4_say 2 (some .int) p s m args meth c) {x1 : Int32} {S : St} (h : f_X4_say x1 S = some (rr, SS)) : gU D (Wu E a) (aA 49 a) p l e (bRm 1 22) s m args below meth c 2 (qU D below (aA 49 a) (Wu E a SS) rr args s) 0 [(0, .ref (a 0)), (1, .int x1)] [] S := by
  obtain ⟨hx, hb, hml, hown, hts, hK, hr, hlocks⟩ := id C
  intro H locs hP hS ls hl
  unfold f_X4_say at h
  refine lv_iload_n (pc := 0) hx hb dX4_say_0 rfl (lv_at hl 1 rfl) ?_
  refine lv_bipush (v := 33) (pc := 1) hx hb dX4_say_1 (by decide) ?_
  refine lv_bipush (v := 126) (pc := 3) hx hb dX4_say_3 (by decide) ?_
  obtain ⟨r1, hr1, h⟩ := bd_some h
  refine r_callS (pc := 5) C (c_X4_within hr1) k_X4_within wd_244 ⟨Nat.le_of_ble_eq_true rfl, Nat.le_of_ble_eq_true rfl⟩ rfl hl.1 rfl (Nat.le_of_ble_eq_true rfl) dX4_say_5 ⟨Nat.zero_le _, Nat.zero_le _⟩ ?_
  refine lv_if_ne (tgt := 14) (pc := 8) hx hb dX4_say_8 (by decide) (fun hc => ?_) (fun hc => ?_)
  · have h := if_n hc h
    refine lv_aload_n (pc := 14) hx hb dX4_say_14 rfl (lv_at hl 0 rfl) ?_
    refine va_get (pc := 15) (v := .ref (a 1)) hx hb hts inB4 hown hK.1 hP 0 wu0 rfl 0 (by decide) (hts _ wd_217) (fun _ h9 => h9) rfl dX4_say_15 ?_
    refine va_get (pc := 18) (v := .int (S 1 1)) hx hb hts inB2 hown hK.1 hP 1 wu1 rfl 1 (by decide) (hts _ wd_65) (fun _ h9 => h9) rfl dX4_say_18 ?_
    refine lv_bipush (v := 20) (pc := 21) hx hb dX4_say_21 (by decide) ?_
    refine lv_icmp_lt (tgt := 29) (pc := 23) hx hb dX4_say_23 (by decide) (fun hc => ?_) (fun hc => ?_)
    · have h := if_y hc h
      refine lv_aload_n (pc := 29) hx hb dX4_say_29 rfl (lv_at hl 0 rfl) ?_
      refine va_get (pc := 30) (v := .ref (a 1)) hx hb hts inB4 hown hK.1 hP 0 wu0 rfl 0 (by decide) (hts _ wd_217) (fun _ h9 => h9) rfl dX4_say_30 ?_
      refine lv_iload_n (pc := 33) hx hb dX4_say_33 rfl (lv_at hl 1 rfl) ?_
      obtain ⟨S1, hS1, h⟩ := bd_some h
      refine r_callV (pc := 34) C hP hS (c_X2_put hI hS1) k_X2_put wd_247 (q0 := 1) wu1 rfl rfl ⟨Nat.le_of_ble_eq_true rfl, Nat.le_of_ble_eq_true rfl⟩ rfl hl.1 rfl (Nat.le_of_ble_eq_true rfl) dX4_say_34 ⟨Nat.zero_le _, Nat.zero_le _⟩ (fun H locs hP hS => ?_)
      refine lv_aload_n (pc := 37) hx hb dX4_say_37 rfl (lv_at hl 0 rfl) ?_
      refine va_get (pc := 38) (v := .ref (a 1)) hx hb hts inB4 hown hK.1 hP 0 wu0 rfl 0 (by decide) (hts _ wd_217) (fun _ h9 => h9) rfl dX4_say_38 ?_
      refine va_get (pc := 41) (v := .int (S1 1 1)) hx hb hts inB2 hown hK.1 hP 1 wu1 rfl 1 (by decide) (hts _ wd_65) (fun _ h9 => h9) rfl dX4_say_41 ?_
      exact r_retU (pc := 44) (𝓦 := Wu E a) C h hP hS dX4_say_44
    · have h := if_n hc h
      refine lv_bipush (v := (-4)) (pc := 26) hx hb dX4_say_26 (by decide) ?_
      exact r_retU (pc := 28) (𝓦 := Wu E a) C h hP hS dX4_say_28
  · have h := if_y hc h
    refine lv_bipush (v := (-2)) (pc := 11) hx hb dX4_say_11 (by decide) ?_
    exact r_retU (pc := 13) (𝓦 := Wu E a) C h hP hS dX4_say_13
theorem c_X4_say {l : Launch} {D : va_G} {E : bE} {a : Nat → Nat} (hI : aI 49 a) {rr : Int32} {S : St} {SS : St} {x1 : Int32} (h : f_X4_say x1 S = some (rr, SS)) : cU l D E yX4_say cX4_say 2 (some .int) 1 22 (aA 49 a) (Wu E a S) (Wu E a SS) [.ref (a 0), .int x1] rr := cU_of (by decide) (Nat.le_of_ble_eq_true rfl) (fun p e s m args below meth c C => t_X4_say_0 hI C h)
/-! X4_wipe -/
def f_X4_wipe (S : St) : Option (Int32 × St) :=
  bd (some (S 1 1)) fun y1 => bd (some (sto S 1 1 0)) fun S1 => some (y1, S1)
theorem t_X4_wipe_0 {rr : Int32} {SS : St} (hI : aI 49 a) (C : bC D E RX4 cX4_wipe 2 (some .int) p s m args meth c) {S : St} (h : f_X4_wipe S = some (rr, SS)) : gU D (Wu E a) (aA 49 a) p l e (bRm 0 0) s m args below meth c 2 (qU D below (aA 49 a) (Wu E a SS) rr args s) 0 [(0, .ref (a 0))] [] S := by
  obtain ⟨hx, hb, hml, hown, hts, hK, hr, hlocks⟩ := id C
  intro H locs hP hS ls hl
  unfold f_X4_wipe at h
  refine lv_aload_n (pc := 0) hx hb dX4_wipe_0 rfl (lv_at hl 0 rfl) ?_
  refine va_get (pc := 1) (v := .ref (a 1)) hx hb hts inB4 hown hK.1 hP 0 wu0 rfl 0 (by decide) (hts _ wd_217) (fun _ h9 => h9) rfl dX4_wipe_1 ?_
  refine va_get (pc := 4) (v := .int (S 1 1)) hx hb hts inB2 hown hK.1 hP 1 wu1 rfl 1 (by decide) (hts _ wd_65) (fun _ h9 => h9) rfl dX4_wipe_4 ?_
  refine lv_topi (fun y1 ey1 => ?_)
  have h := bd_y ey1 h
  refine lv_istore_n (lv' := [(1, .int y1), (0, .ref (a 0))]) (pc := 7) hx hb dX4_wipe_7 rfl hl (by decide) rfl (fun ls hl => ?_)
  refine lv_aload_n (pc := 8) hx hb dX4_wipe_8 rfl (lv_at hl 1 rfl) ?_
  refine va_get (pc := 9) (v := .ref (a 1)) hx hb hts inB4 hown hK.1 hP 0 wu0 rfl 0 (by decide) (hts _ wd_217) (fun _ h9 => h9) rfl dX4_wipe_9 ?_
  refine lv_iconst (v := 0) (pc := 12) hx hb dX4_wipe_12 (by decide) ?_
  refine r_put (pc := 13) (𝓦 := Wu E a) hx hb hts hown hK inB2 tyX2 tyX2_ok nmX2 hP (dU hI _) hS 1 wu1 rfl 1 (by decide) wd_65 rfl (by decide +kernel) (Nat.le_of_ble_eq_true rfl) (wu1p1 _) dX4_wipe_13 (fun H locs S1 eS1 hP hS => ?_)
  have h := bd_y eS1 h
  refine lv_iload_n (pc := 16) hx hb dX4_wipe_16 rfl (lv_at hl 0 rfl) ?_
  exact r_retU (pc := 17) (𝓦 := Wu E a) C h hP hS dX4_wipe_17
theorem c_X4_wipe {l : Launch} {D : va_G} {E : bE} {a : Nat → Nat} (hI : aI 49 a) {rr : Int32} {S : St} {SS : St} (h : f_X4_wipe S = some (rr, SS)) : cU l D E yX4_wipe cX4_wipe 2 (some .int) 0 0 (aA 49 a) (Wu E a S) (Wu E a SS) [.ref (a 0)] rr := cU_of (by decide) (Nat.le_of_ble_eq_true rfl) (fun p e s m args below meth c C => t_X4_wipe_0 hI C h)
/-! X2_askOf -/
def f_X2_askOf (x0 : Int32) : Option (Int32) :=
  if x0 = 97 then (some 8) else (if x0 = 99 then (some 16) else (if x0 = 110 then (some 1) else (if x0 = 112 then (some 4) else (if x0 = 115 then (some 2) else (some 0)))))
theorem t_X2_askOf_0 {rr : Int32} (C : bC D E RX2 cX2_askOf 1 (some .int) p s m args meth c) {x0 : Int32} (h : f_X2_askOf x0 = some rr) : gR p l e (bRm 0 0) s m args below meth c 1 (qS below rr args s) 0 [(0, .int x0)] [] := by
  obtain ⟨hx, hb, hml, hown, hts, hK, hr, hlocks⟩ := id C
  intro ls hl
  unfold f_X2_askOf at h
  refine lv_iload_n (pc := 0) hx hb dX2_askOf_0 rfl (lv_at hl 0 rfl) ?_
  by_cases hc97 : x0 = 97
  · refine r_lookIn (pc := 1) (v := 97) (off := 57) (tgt := 58) hx hb dX2_askOf_1 (by decide +kernel) hc97 (by decide +kernel) (by decide) ?_
    have h := if_y hc97 h
    refine lv_bipush (v := 8) (pc := 58) hx hb dX2_askOf_58 (by decide) ?_
    exact r_retS (pc := 60) C h dX2_askOf_60
  have h := if_n hc97 h
  by_cases hc99 : x0 = 99
  · refine r_lookIn (pc := 1) (v := 99) (off := 60) (tgt := 61) hx hb dX2_askOf_1 (by decide +kernel) hc99 (by decide +kernel) (by decide) ?_
    have h := if_y hc99 h
    refine lv_bipush (v := 16) (pc := 61) hx hb dX2_askOf_61 (by decide) ?_
    exact r_retS (pc := 63) C h dX2_askOf_63
  have h := if_n hc99 h
  by_cases hc110 : x0 = 110
  · refine r_lookIn (pc := 1) (v := 110) (off := 51) (tgt := 52) hx hb dX2_askOf_1 (by decide +kernel) hc110 (by decide +kernel) (by decide) ?_
    have h := if_y hc110 h
    refine lv_iconst (v := 1) (pc := 52) hx hb dX2_askOf_52 (by decide) ?_
    exact r_retS (pc := 53) C h dX2_askOf_53
  have h := if_n hc110 h
  by_cases hc112 : x0 = 112
  · refine r_lookIn (pc := 1) (v := 112) (off := 55) (tgt := 56) hx hb dX2_askOf_1 (by decide +kernel) hc112 (by decide +kernel) (by decide) ?_
    have h := if_y hc112 h
    refine lv_iconst (v := 4) (pc := 56) hx hb dX2_askOf_56 (by decide) ?_
    exact r_retS (pc := 57) C h dX2_askOf_57
  have h := if_n hc112 h
  by_cases hc115 : x0 = 115
  · refine r_lookIn (pc := 1) (v := 115) (off := 53) (tgt := 54) hx hb dX2_askOf_1 (by decide +kernel) hc115 (by decide +kernel) (by decide) ?_
    have h := if_y hc115 h
    refine lv_iconst (v := 2) (pc := 54) hx hb dX2_askOf_54 (by decide) ?_
    exact r_retS (pc := 55) C h dX2_askOf_55
  have h := if_n hc115 h
  refine lv_lookup (pc := 1) (off := 63) (tgt := 64) hx hb dX2_askOf_1 (by decide +kernel) ((lv_osw (k := 97) hc97 (by decide)).trans ((lv_osw (k := 99) hc99 (by decide)).trans ((lv_osw (k := 110) hc110 (by decide)).trans ((lv_osw (k := 112) hc112 (by decide)).trans ((lv_osw (k := 115) hc115 (by decide)).trans (rfl)))))) (by decide) ?_
  refine lv_iconst (v := 0) (pc := 64) hx hb dX2_askOf_64 (by decide) ?_
  exact r_retS (pc := 65) C h dX2_askOf_65
theorem c_X2_askOf {l : Launch} {D : va_G} {E : bE} {rr : Int32} {x0 : Int32} (h : f_X2_askOf x0 = some rr) : cS l D E yX2_askOf cX2_askOf 1 (some .int) 0 0 [.int x0] rr := cS_of (by decide) (Nat.le_of_ble_eq_true rfl) (fun p e s m args below meth c C => t_X2_askOf_0 C h)
/-! X2_readAsks -/
def FB_X2_readAsks_7 (N : Nat) (k7 : Int32 × St → Option (Int32 × St)) (x1 : Int32) (S : St) : Option (Int32 × St) :=
  if (S 1 1) ≤ x1 then (some ((S 1 1), S)) else (gd (ix x1 20) (bd (f_X2_askOf (S 8 (Int32.toNatClampNeg x1))) fun r1 => if r1 = 0 then (some (x1, S)) else (if ((S 1 2) &&& r1) = 0 then (bd (some (sto S 1 2 ((S 1 2) ||| r1))) fun S1 => k7 ((x1 + 1), S1)) else (some (x1, S)))))
def F_X2_readAsks_7 (N : Nat) (k7 : Int32 × St → Option (Int32 × St)) (v : Int32 × St) : Option (Int32 × St) := FB_X2_readAsks_7 N k7 v.1 v.2
theorem s_X2_readAsks_7 {rr : Int32} {SS : St} (hI : aI 49 a) (N : Nat) (C : bC D E RX2 cX2_readAsks 3 (some .int) p s m args meth c) (k7 : Int32 × St → Option (Int32 × St)) (hk7 : ∀ (x1 : Int32) (S : St), k7 (x1, S) = some (rr, SS) → gU D (Wu E a) (aA 49 a) p l e (bRm 1 20) s m args below meth c 3 (qU D below (aA 49 a) (Wu E a SS) rr args s) 7 [(0, .ref (a 1)), (1, .int x1)] [] S) {x1 : Int32} {S : St} (h : FB_X2_readAsks_7 N k7 x1 S = some (rr, SS)) : gU D (Wu E a) (aA 49 a) p l e (bRm 1 20) s m args below meth c 3 (qU D below (aA 49 a) (Wu E a SS) rr args s) 7 [(0, .ref (a 1)), (1, .int x1)] [] S := by
  obtain ⟨hx, hb, hml, hown, hts, hK, hr, hlocks⟩ := id C
  intro H locs hP hS ls hl
  unfold FB_X2_readAsks_7 at h
  refine lv_iload_n (pc := 7) hx hb dX2_readAsks_7 rfl (lv_at hl 1 rfl) ?_
  refine lv_aload_n (pc := 8) hx hb dX2_readAsks_8 rfl (lv_at hl 0 rfl) ?_
  refine va_get (pc := 9) (v := .int (S 1 1)) hx hb hts inB2 hown hK.1 hP 1 wu1 rfl 1 (by decide) (hts _ wd_64) (fun _ h9 => h9) rfl dX2_readAsks_9 ?_
  refine lv_icmp_ge (tgt := 56) (pc := 12) hx hb dX2_readAsks_12 (by decide) (fun hc => ?_) (fun hc => ?_)
  · have h := if_y hc h
    refine lv_aload_n (pc := 56) hx hb dX2_readAsks_56 rfl (lv_at hl 0 rfl) ?_
    refine va_get (pc := 57) (v := .int (S 1 1)) hx hb hts inB2 hown hK.1 hP 1 wu1 rfl 1 (by decide) (hts _ wd_64) (fun _ h9 => h9) rfl dX2_readAsks_57 ?_
    exact r_retU (pc := 60) (𝓦 := Wu E a) C h hP hS dX2_readAsks_60
  · have h := if_n hc h
    refine lv_aload_n (pc := 15) hx hb dX2_readAsks_15 rfl (lv_at hl 0 rfl) ?_
    refine va_get (pc := 16) (v := .ref (a 8)) hx hb hts inB2 hown hK.1 hP 1 wu1 rfl 0 (by decide) (hts _ wd_63) (fun _ h9 => h9) rfl dX2_readAsks_16 ?_
    refine lv_iload_n (pc := 19) hx hb dX2_readAsks_19 rfl (lv_at hl 1 rfl) ?_
    obtain ⟨hin, h⟩ := gd_some h
    refine r_ald (pc := 20) hx hb hK hP 8 wu8 hin dX2_readAsks_20 ?_
    obtain ⟨r1, hr1, h⟩ := bd_some h
    refine r_callS (pc := 21) C (c_X2_askOf hr1) k_X2_askOf wd_267 ⟨Nat.le_of_ble_eq_true rfl, Nat.le_of_ble_eq_true rfl⟩ rfl hl.1 rfl (Nat.le_of_ble_eq_true rfl) dX2_readAsks_21 ⟨Nat.zero_le _, Nat.zero_le _⟩ ?_
    refine lv_istore_n (lv' := [(2, .int r1), (0, .ref (a 1)), (1, .int x1)]) (pc := 24) hx hb dX2_readAsks_24 rfl hl (by decide) rfl (fun ls hl => ?_)
    refine lv_iload_n (pc := 25) hx hb dX2_readAsks_25 rfl (lv_at hl 0 rfl) ?_
    refine lv_if_eq (tgt := 38) (pc := 26) hx hb dX2_readAsks_26 (by decide) (fun hc => ?_) (fun hc => ?_)
    · have h := if_y hc h
      refine lv_iload_n (pc := 38) hx hb dX2_readAsks_38 rfl (lv_at hl 2 rfl) ?_
      exact r_retU (pc := 39) (𝓦 := Wu E a) C h hP hS dX2_readAsks_39
    · have h := if_n hc h
      refine lv_aload_n (pc := 29) hx hb dX2_readAsks_29 rfl (lv_at hl 1 rfl) ?_
      refine va_get (pc := 30) (v := .int (S 1 2)) hx hb hts inB2 hown hK.1 hP 1 wu1 rfl 2 (by decide) (hts _ wd_66) (fun _ h9 => h9) rfl dX2_readAsks_30 ?_
      refine lv_iload_n (pc := 33) hx hb dX2_readAsks_33 rfl (lv_at hl 0 rfl) ?_
      refine lv_iand (pc := 34) hx hb dX2_readAsks_34 ?_
      refine lv_if_eq (tgt := 40) (pc := 35) hx hb dX2_readAsks_35 (by decide) (fun hc => ?_) (fun hc => ?_)
      · have h := if_y hc h
        refine lv_aload_n (pc := 40) hx hb dX2_readAsks_40 rfl (lv_at hl 1 rfl) ?_
        refine lv_dup (pc := 41) hx hb dX2_readAsks_41 rfl ?_
        refine va_get (pc := 42) (v := .int (S 1 2)) hx hb hts inB2 hown hK.1 hP 1 wu1 rfl 2 (by decide) (hts _ wd_66) (fun _ h9 => h9) rfl dX2_readAsks_42 ?_
        refine lv_iload_n (pc := 45) hx hb dX2_readAsks_45 rfl (lv_at hl 0 rfl) ?_
        refine lv_ior (pc := 46) hx hb dX2_readAsks_46 ?_
        refine r_put (pc := 47) (𝓦 := Wu E a) hx hb hts hown hK inB2 tyX2 tyX2_ok nmX2 hP (dU hI _) hS 1 wu1 rfl 2 (by decide) wd_66 rfl (by decide +kernel) (Nat.le_of_ble_eq_true rfl) (wu1p2 _) dX2_readAsks_47 (fun H locs S1 eS1 hP hS => ?_)
        have h := bd_y eS1 h
        refine lv_iinc (v := (x1 + 1)) (lv' := [(1, .int (x1 + 1)), (2, .int r1), (0, .ref (a 1))]) (pc := 50) hx hb dX2_readAsks_50 hl (k := 2) rfl (ii1 _) (by decide) rfl (fun ls hl => ?_)
        refine lv_goto (tgt := 7) (pc := 53) hx hb dX2_readAsks_53 (by decide) ?_
        exact hk7 _ _ h H locs hP hS ls (lv_sub hl [2, 0] rfl)
      · have h := if_n hc h
        refine lv_iload_n (pc := 38) hx hb dX2_readAsks_38 rfl (lv_at hl 2 rfl) ?_
        exact r_retU (pc := 39) (𝓦 := Wu E a) C h hP hS dX2_readAsks_39
theorem t_X2_readAsks_7 {rr : Int32} {SS : St} (hI : aI 49 a) (N : Nat) (C : bC D E RX2 cX2_readAsks 3 (some .int) p s m args meth c) {n : Nat} {x1 : Int32} {S : St} (h : lpI (F_X2_readAsks_7 N) n (x1, S) = some (rr, SS)) : gU D (Wu E a) (aA 49 a) p l e (bRm 1 20) s m args below meth c 3 (qU D below (aA 49 a) (Wu E a SS) rr args s) 7 [(0, .ref (a 1)), (1, .int x1)] [] S := by
  exact lpI_ind (P := fun v q => q = (rr, SS) → gU D (Wu E a) (aA 49 a) p l e (bRm 1 20) s m args below meth c 3 (qU D below (aA 49 a) (Wu E a SS) rr args s) 7 [(0, .ref (a 1)), (1, .int v.1)] [] v.2) (fun k hk v q h9 hq => s_X2_readAsks_7 hI N C k (fun x1 S h8 => hk (x1, S) _ h8 rfl) (h9.trans (congrArg some hq))) n (x1, S) _ h rfl
def f_X2_readAsks (N : Nat) (S : St) : Option (Int32 × St) :=
  bd (some (sto S 1 2 0)) fun S1 => lpI (F_X2_readAsks_7 N) N (0, S1)
theorem t_X2_readAsks_0 {rr : Int32} {SS : St} (hI : aI 49 a) (N : Nat) (C : bC D E RX2 cX2_readAsks 3 (some .int) p s m args meth c) {S : St} (h : f_X2_readAsks N S = some (rr, SS)) : gU D (Wu E a) (aA 49 a) p l e (bRm 1 20) s m args below meth c 3 (qU D below (aA 49 a) (Wu E a SS) rr args s) 0 [(0, .ref (a 1))] [] S := by
  obtain ⟨hx, hb, hml, hown, hts, hK, hr, hlocks⟩ := id C
  intro H locs hP hS ls hl
  unfold f_X2_readAsks at h
  refine lv_aload_n (pc := 0) hx hb dX2_readAsks_0 rfl (lv_at hl 0 rfl) ?_
  refine lv_iconst (v := 0) (pc := 1) hx hb dX2_readAsks_1 (by decide) ?_
  refine r_put (pc := 2) (𝓦 := Wu E a) hx hb hts hown hK inB2 tyX2 tyX2_ok nmX2 hP (dU hI _) hS 1 wu1 rfl 2 (by decide) wd_66 rfl (by decide +kernel) (Nat.le_of_ble_eq_true rfl) (wu1p2 _) dX2_readAsks_2 (fun H locs S1 eS1 hP hS => ?_)
  have h := bd_y eS1 h
  refine lv_iconst (v := 0) (pc := 5) hx hb dX2_readAsks_5 (by decide) ?_
  refine lv_istore_n (lv' := [(1, .int 0), (0, .ref (a 1))]) (pc := 6) hx hb dX2_readAsks_6 rfl hl (by decide) rfl (fun ls hl => ?_)
  exact t_X2_readAsks_7 hI N C h H locs hP hS ls (lv_sub hl [1, 0] rfl)
theorem c_X2_readAsks {l : Launch} {D : va_G} {E : bE} {a : Nat → Nat} (hI : aI 49 a) (N : Nat) {rr : Int32} {S : St} {SS : St} (h : f_X2_readAsks N S = some (rr, SS)) : cU l D E yX2_readAsks cX2_readAsks 3 (some .int) 1 20 (aA 49 a) (Wu E a S) (Wu E a SS) [.ref (a 1)] rr := cU_of (by decide) (Nat.le_of_ble_eq_true rfl) (fun p e s m args below meth c C => t_X2_readAsks_0 hI N C h)
/-! X4_isTerms -/
def f_X4_isTerms (x0 : Int32) : Option (Int32) :=
  bd (f_X4_within x0 0 4) fun r1 => gd (r1 &&& 1 = r1) (some r1)
theorem t_X4_isTerms_0 {rr : Int32} (C : bC D E RX4 cX4_isTerms 1 (some .boolean) p s m args meth c) {x0 : Int32} (h : f_X4_isTerms x0 = some rr) : gR p l e (bRm 1 22) s m args below meth c 1 (qS below rr args s) 0 [(0, .int x0)] [] := by
  obtain ⟨hx, hb, hml, hown, hts, hK, hr, hlocks⟩ := id C
  intro ls hl
  unfold f_X4_isTerms at h
  refine lv_iload_n (pc := 0) hx hb dX4_isTerms_0 rfl (lv_at hl 0 rfl) ?_
  refine lv_iconst (v := 0) (pc := 1) hx hb dX4_isTerms_1 (by decide) ?_
  refine lv_iconst (v := 4) (pc := 2) hx hb dX4_isTerms_2 (by decide) ?_
  obtain ⟨r1, hr1, h⟩ := bd_some h
  refine r_callS (pc := 3) C (c_X4_within hr1) k_X4_within wd_244 ⟨Nat.le_of_ble_eq_true rfl, Nat.le_of_ble_eq_true rfl⟩ rfl hl.1 rfl (Nat.le_of_ble_eq_true rfl) dX4_isTerms_3 ⟨Nat.zero_le _, Nat.zero_le _⟩ ?_
  exact r_retZ (pc := 6) C h dX4_isTerms_6
theorem c_X4_isTerms {l : Launch} {D : va_G} {E : bE} {rr : Int32} {x0 : Int32} (h : f_X4_isTerms x0 = some rr) : cS l D E yX4_isTerms cX4_isTerms 1 (some .boolean) 1 22 [.int x0] rr := cS_of (by decide) (Nat.le_of_ble_eq_true rfl) (fun p e s m args below meth c C => t_X4_isTerms_0 C h)
/-! X2_readGo -/
def FB_X2_readGo_7 (N : Nat) (k7 : Int32 × St → Option (Int32 × St)) (x2 : Int32) (S : St) : Option (Int32 × St) :=
  if (S 1 1) ≤ x2 then (if (S 1 4) = 0 then (some ((S 1 1), S)) else (some ((-6), S))) else (gd (ix x2 20) (bd (some ((S 8 (Int32.toNatClampNeg x2)) - 48)) fun y1 => bd (f_X4_isTerms y1) fun r2 => if r2 = 0 then (some (x2, S)) else (if ((S 1 4) >>> (y1 &&& 31)) = 0 then (bd (some (sto S 1 4 ((S 1 4) ||| (1 <<< (y1 &&& 31))))) fun S1 => k7 ((x2 + 1), S1)) else (some (x2, S)))))
def F_X2_readGo_7 (N : Nat) (k7 : Int32 × St → Option (Int32 × St)) (v : Int32 × St) : Option (Int32 × St) := FB_X2_readGo_7 N k7 v.1 v.2
theorem s_X2_readGo_7 {rr : Int32} {SS : St} (hI : aI 49 a) (N : Nat) (C : bC D E RX2 cX2_readGo 4 (some .int) p s m args meth c) (k7 : Int32 × St → Option (Int32 × St)) (hk7 : ∀ (x2 : Int32) (S : St), k7 (x2, S) = some (rr, SS) → gU D (Wu E a) (aA 49 a) p l e (bRm 2 42) s m args below meth c 4 (qU D below (aA 49 a) (Wu E a SS) rr args s) 7 [(0, .ref (a 1)), (2, .int x2)] [] S) {x2 : Int32} {S : St} (h : FB_X2_readGo_7 N k7 x2 S = some (rr, SS)) : gU D (Wu E a) (aA 49 a) p l e (bRm 2 42) s m args below meth c 4 (qU D below (aA 49 a) (Wu E a SS) rr args s) 7 [(0, .ref (a 1)), (2, .int x2)] [] S := by
  obtain ⟨hx, hb, hml, hown, hts, hK, hr, hlocks⟩ := id C
  intro H locs hP hS ls hl
  unfold FB_X2_readGo_7 at h
  refine lv_iload_n (pc := 7) hx hb dX2_readGo_7 rfl (lv_at hl 1 rfl) ?_
  refine lv_aload_n (pc := 8) hx hb dX2_readGo_8 rfl (lv_at hl 0 rfl) ?_
  refine va_get (pc := 9) (v := .int (S 1 1)) hx hb hts inB2 hown hK.1 hP 1 wu1 rfl 1 (by decide) (hts _ wd_64) (fun _ h9 => h9) rfl dX2_readGo_9 ?_
  refine lv_icmp_ge (tgt := 61) (pc := 12) hx hb dX2_readGo_12 (by decide) (fun hc => ?_) (fun hc => ?_)
  · have h := if_y hc h
    refine lv_aload_n (pc := 61) hx hb dX2_readGo_61 rfl (lv_at hl 0 rfl) ?_
    refine va_get (pc := 62) (v := .int (S 1 4)) hx hb hts inB2 hown hK.1 hP 1 wu1 rfl 4 (by decide) (hts _ wd_70) (fun _ h9 => h9) rfl dX2_readGo_62 ?_
    refine lv_if_ne (tgt := 75) (pc := 65) hx hb dX2_readGo_65 (by decide) (fun hc => ?_) (fun hc => ?_)
    · have h := if_n hc h
      refine lv_bipush (v := (-6)) (pc := 75) hx hb dX2_readGo_75 (by decide) ?_
      exact r_retU (pc := 77) (𝓦 := Wu E a) C h hP hS dX2_readGo_77
    · have h := if_y hc h
      refine lv_aload_n (pc := 68) hx hb dX2_readGo_68 rfl (lv_at hl 0 rfl) ?_
      refine va_get (pc := 69) (v := .int (S 1 1)) hx hb hts inB2 hown hK.1 hP 1 wu1 rfl 1 (by decide) (hts _ wd_64) (fun _ h9 => h9) rfl dX2_readGo_69 ?_
      refine lv_goto (tgt := 77) (pc := 72) hx hb dX2_readGo_72 (by decide) ?_
      exact r_retU (pc := 77) (𝓦 := Wu E a) C h hP hS dX2_readGo_77
  · have h := if_n hc h
    refine lv_aload_n (pc := 15) hx hb dX2_readGo_15 rfl (lv_at hl 0 rfl) ?_
    refine va_get (pc := 16) (v := .ref (a 8)) hx hb hts inB2 hown hK.1 hP 1 wu1 rfl 0 (by decide) (hts _ wd_63) (fun _ h9 => h9) rfl dX2_readGo_16 ?_
    refine lv_iload_n (pc := 19) hx hb dX2_readGo_19 rfl (lv_at hl 1 rfl) ?_
    obtain ⟨hin, h⟩ := gd_some h
    refine r_ald (pc := 20) hx hb hK hP 8 wu8 hin dX2_readGo_20 ?_
    refine lv_bipush (v := 48) (pc := 21) hx hb dX2_readGo_21 (by decide) ?_
    refine lv_isub (pc := 23) hx hb dX2_readGo_23 ?_
    refine lv_topi (fun y1 ey1 => ?_)
    have h := bd_y ey1 h
    refine lv_istore_n (lv' := [(3, .int y1), (0, .ref (a 1)), (2, .int x2)]) (pc := 24) hx hb dX2_readGo_24 rfl hl (by decide) rfl (fun ls hl => ?_)
    refine lv_iload_n (pc := 25) hx hb dX2_readGo_25 rfl (lv_at hl 0 rfl) ?_
    obtain ⟨r2, hr2, h⟩ := bd_some h
    refine r_callSN (pc := 26) (host := RX4) C (c_X4_isTerms hr2) k_X4_isTerms nst_4 ⟨Nat.le_of_ble_eq_true rfl, Nat.le_of_ble_eq_true rfl⟩ rfl hl.1 rfl (Nat.le_of_ble_eq_true rfl) dX2_readGo_26 ⟨Nat.zero_le _, Nat.zero_le _⟩ ?_
    refine lv_if_eq (tgt := 41) (pc := 29) hx hb dX2_readGo_29 (by decide) (fun hc => ?_) (fun hc => ?_)
    · have h := if_y hc h
      refine lv_iload_n (pc := 41) hx hb dX2_readGo_41 rfl (lv_at hl 2 rfl) ?_
      exact r_retU (pc := 42) (𝓦 := Wu E a) C h hP hS dX2_readGo_42
    · have h := if_n hc h
      refine lv_aload_n (pc := 32) hx hb dX2_readGo_32 rfl (lv_at hl 1 rfl) ?_
      refine va_get (pc := 33) (v := .int (S 1 4)) hx hb hts inB2 hown hK.1 hP 1 wu1 rfl 4 (by decide) (hts _ wd_70) (fun _ h9 => h9) rfl dX2_readGo_33 ?_
      refine lv_iload_n (pc := 36) hx hb dX2_readGo_36 rfl (lv_at hl 0 rfl) ?_
      refine lv_ishr (pc := 37) hx hb dX2_readGo_37 ?_
      refine lv_if_eq (tgt := 43) (pc := 38) hx hb dX2_readGo_38 (by decide) (fun hc => ?_) (fun hc => ?_)
      · have h := if_y hc h
        refine lv_aload_n (pc := 43) hx hb dX2_readGo_43 rfl (lv_at hl 1 rfl) ?_
        refine lv_dup (pc := 44) hx hb dX2_readGo_44 rfl ?_
        refine va_get (pc := 45) (v := .int (S 1 4)) hx hb hts inB2 hown hK.1 hP 1 wu1 rfl 4 (by decide) (hts _ wd_70) (fun _ h9 => h9) rfl dX2_readGo_45 ?_
        refine lv_iconst (v := 1) (pc := 48) hx hb dX2_readGo_48 (by decide) ?_
        refine lv_iload_n (pc := 49) hx hb dX2_readGo_49 rfl (lv_at hl 0 rfl) ?_
        refine lv_ishl (pc := 50) hx hb dX2_readGo_50 ?_
        refine lv_ior (pc := 51) hx hb dX2_readGo_51 ?_
        refine r_put (pc := 52) (𝓦 := Wu E a) hx hb hts hown hK inB2 tyX2 tyX2_ok nmX2 hP (dU hI _) hS 1 wu1 rfl 4 (by decide) wd_70 rfl (by decide +kernel) (Nat.le_of_ble_eq_true rfl) (wu1p4 _) dX2_readGo_52 (fun H locs S1 eS1 hP hS => ?_)
        have h := bd_y eS1 h
        refine lv_iinc (v := (x2 + 1)) (lv' := [(2, .int (x2 + 1)), (3, .int y1), (0, .ref (a 1))]) (pc := 55) hx hb dX2_readGo_55 hl (k := 2) rfl (ii1 _) (by decide) rfl (fun ls hl => ?_)
        refine lv_goto (tgt := 7) (pc := 58) hx hb dX2_readGo_58 (by decide) ?_
        exact hk7 _ _ h H locs hP hS ls (lv_sub hl [2, 0] rfl)
      · have h := if_n hc h
        refine lv_iload_n (pc := 41) hx hb dX2_readGo_41 rfl (lv_at hl 2 rfl) ?_
        exact r_retU (pc := 42) (𝓦 := Wu E a) C h hP hS dX2_readGo_42
theorem t_X2_readGo_7 {rr : Int32} {SS : St} (hI : aI 49 a) (N : Nat) (C : bC D E RX2 cX2_readGo 4 (some .int) p s m args meth c) {n : Nat} {x2 : Int32} {S : St} (h : lpI (F_X2_readGo_7 N) n (x2, S) = some (rr, SS)) : gU D (Wu E a) (aA 49 a) p l e (bRm 2 42) s m args below meth c 4 (qU D below (aA 49 a) (Wu E a SS) rr args s) 7 [(0, .ref (a 1)), (2, .int x2)] [] S := by
  exact lpI_ind (P := fun v q => q = (rr, SS) → gU D (Wu E a) (aA 49 a) p l e (bRm 2 42) s m args below meth c 4 (qU D below (aA 49 a) (Wu E a SS) rr args s) 7 [(0, .ref (a 1)), (2, .int v.1)] [] v.2) (fun k hk v q h9 hq => s_X2_readGo_7 hI N C k (fun x2 S h8 => hk (x2, S) _ h8 rfl) (h9.trans (congrArg some hq))) n (x2, S) _ h rfl
def f_X2_readGo (N : Nat) (x1 : Int32) (S : St) : Option (Int32 × St) :=
  bd (some (sto S 1 4 0)) fun S1 => lpI (F_X2_readGo_7 N) N (x1, S1)
theorem t_X2_readGo_0 {rr : Int32} {SS : St} (hI : aI 49 a) (N : Nat) (C : bC D E RX2 cX2_readGo 4 (some .int) p s m args meth c) {x1 : Int32} {S : St} (h : f_X2_readGo N x1 S = some (rr, SS)) : gU D (Wu E a) (aA 49 a) p l e (bRm 2 42) s m args below meth c 4 (qU D below (aA 49 a) (Wu E a SS) rr args s) 0 [(0, .ref (a 1)), (1, .int x1)] [] S := by
  obtain ⟨hx, hb, hml, hown, hts, hK, hr, hlocks⟩ := id C
  intro H locs hP hS ls hl
  unfold f_X2_readGo at h
  refine lv_aload_n (pc := 0) hx hb dX2_readGo_0 rfl (lv_at hl 0 rfl) ?_
  refine lv_iconst (v := 0) (pc := 1) hx hb dX2_readGo_1 (by decide) ?_
  refine r_put (pc := 2) (𝓦 := Wu E a) hx hb hts hown hK inB2 tyX2 tyX2_ok nmX2 hP (dU hI _) hS 1 wu1 rfl 4 (by decide) wd_70 rfl (by decide +kernel) (Nat.le_of_ble_eq_true rfl) (wu1p4 _) dX2_readGo_2 (fun H locs S1 eS1 hP hS => ?_)
  have h := bd_y eS1 h
  refine lv_iload_n (pc := 5) hx hb dX2_readGo_5 rfl (lv_at hl 1 rfl) ?_
  refine lv_istore_n (lv' := [(2, .int x1), (0, .ref (a 1)), (1, .int x1)]) (pc := 6) hx hb dX2_readGo_6 rfl hl (by decide) rfl (fun ls hl => ?_)
  exact t_X2_readGo_7 hI N C h H locs hP hS ls (lv_sub hl [1, 0] rfl)
theorem c_X2_readGo {l : Launch} {D : va_G} {E : bE} {a : Nat → Nat} (hI : aI 49 a) (N : Nat) {rr : Int32} {S : St} {SS : St} {x1 : Int32} (h : f_X2_readGo N x1 S = some (rr, SS)) : cU l D E yX2_readGo cX2_readGo 4 (some .int) 2 42 (aA 49 a) (Wu E a S) (Wu E a SS) [.ref (a 1), .int x1] rr := cU_of (by decide) (Nat.le_of_ble_eq_true rfl) (fun p e s m args below meth c C => t_X2_readGo_0 hI N C h)
/-! X2_read -/
def f_X2_read (N : Nat) (S : St) : Option (Int32 × St) :=
  bd2 (f_X2_readAsks N S) fun r1 S1 => if (S1 1 1) ≤ r1 then (some (r1, S1)) else (gd (ix r1 20) (bd (f_X4_within (S1 8 (Int32.toNatClampNeg r1)) 48 51) fun r2 => if r2 = 0 then (some (r1, S1)) else (gd (ix r1 20) (bd (some (sto S1 1 3 ((S1 8 (Int32.toNatClampNeg r1)) - 48))) fun S2 => if (r1 + 1) < (S2 1 1) then (gd (ix (r1 + 1) 20) (if (S2 8 (Int32.toNatClampNeg (r1 + 1))) = 58 then (bd2 (f_X2_readGo N ((r1 + 1) + 1) S2) fun r3 S3 => some (r3, S3)) else (some ((r1 + 1), S2)))) else (bd (some (sto S2 1 4 31)) fun S4 => some ((-6), S4))))))
theorem t_X2_read_0 {rr : Int32} {SS : St} (hI : aI 49 a) (N : Nat) (C : bC D E RX2 cX2_read 2 (some .int) p s m args meth c) {S : St} (h : f_X2_read N S = some (rr, SS)) : gU D (Wu E a) (aA 49 a) p l e (bRm 3 65) s m args below meth c 2 (qU D below (aA 49 a) (Wu E a SS) rr args s) 0 [(0, .ref (a 1))] [] S := by
  obtain ⟨hx, hb, hml, hown, hts, hK, hr, hlocks⟩ := id C
  intro H locs hP hS ls hl
  unfold f_X2_read at h
  refine lv_aload_n (pc := 0) hx hb dX2_read_0 rfl (lv_at hl 0 rfl) ?_
  obtain ⟨r1, S1, hr1, h⟩ := bd2_some h
  refine r_callU (pc := 1) C hP hS (c_X2_readAsks hI N hr1) k_X2_readAsks wd_263 (q0 := 1) wu1 rfl rfl ⟨Nat.le_of_ble_eq_true rfl, Nat.le_of_ble_eq_true rfl⟩ rfl hl.1 rfl (Nat.le_of_ble_eq_true rfl) dX2_read_1 ⟨Nat.zero_le _, Nat.zero_le _⟩ (fun H locs hP hS => ?_)
  refine lv_istore_n (lv' := [(1, .int r1), (0, .ref (a 1))]) (pc := 4) hx hb dX2_read_4 rfl hl (by decide) rfl (fun ls hl => ?_)
  refine lv_iload_n (pc := 5) hx hb dX2_read_5 rfl (lv_at hl 0 rfl) ?_
  refine lv_aload_n (pc := 6) hx hb dX2_read_6 rfl (lv_at hl 1 rfl) ?_
  refine va_get (pc := 7) (v := .int (S1 1 1)) hx hb hts inB2 hown hK.1 hP 1 wu1 rfl 1 (by decide) (hts _ wd_64) (fun _ h9 => h9) rfl dX2_read_7 ?_
  refine lv_icmp_ge (tgt := 29) (pc := 10) hx hb dX2_read_10 (by decide) (fun hc => ?_) (fun hc => ?_)
  · have h := if_y hc h
    refine lv_iload_n (pc := 29) hx hb dX2_read_29 rfl (lv_at hl 0 rfl) ?_
    exact r_retU (pc := 30) (𝓦 := Wu E a) C h hP hS dX2_read_30
  · have h := if_n hc h
    refine lv_aload_n (pc := 13) hx hb dX2_read_13 rfl (lv_at hl 1 rfl) ?_
    refine va_get (pc := 14) (v := .ref (a 8)) hx hb hts inB2 hown hK.1 hP 1 wu1 rfl 0 (by decide) (hts _ wd_63) (fun _ h9 => h9) rfl dX2_read_14 ?_
    refine lv_iload_n (pc := 17) hx hb dX2_read_17 rfl (lv_at hl 0 rfl) ?_
    obtain ⟨hin, h⟩ := gd_some h
    refine r_ald (pc := 18) hx hb hK hP 8 wu8 hin dX2_read_18 ?_
    refine lv_bipush (v := 48) (pc := 19) hx hb dX2_read_19 (by decide) ?_
    refine lv_bipush (v := 51) (pc := 21) hx hb dX2_read_21 (by decide) ?_
    obtain ⟨r2, hr2, h⟩ := bd_some h
    refine r_callSN (pc := 23) (host := RX4) C (c_X4_within hr2) k_X4_within nst_3 ⟨Nat.le_of_ble_eq_true rfl, Nat.le_of_ble_eq_true rfl⟩ rfl hl.1 rfl (Nat.le_of_ble_eq_true rfl) dX2_read_23 ⟨Nat.zero_le _, Nat.zero_le _⟩ ?_
    refine lv_if_ne (tgt := 31) (pc := 26) hx hb dX2_read_26 (by decide) (fun hc => ?_) (fun hc => ?_)
    · have h := if_n hc h
      refine lv_aload_n (pc := 31) hx hb dX2_read_31 rfl (lv_at hl 1 rfl) ?_
      refine lv_aload_n (pc := 32) hx hb dX2_read_32 rfl (lv_at hl 1 rfl) ?_
      refine va_get (pc := 33) (v := .ref (a 8)) hx hb hts inB2 hown hK.1 hP 1 wu1 rfl 0 (by decide) (hts _ wd_63) (fun _ h9 => h9) rfl dX2_read_33 ?_
      refine lv_iload_n (pc := 36) hx hb dX2_read_36 rfl (lv_at hl 0 rfl) ?_
      obtain ⟨hin, h⟩ := gd_some h
      refine r_ald (pc := 37) hx hb hK hP 8 wu8 hin dX2_read_37 ?_
      refine lv_bipush (v := 48) (pc := 38) hx hb dX2_read_38 (by decide) ?_
      refine lv_isub (pc := 40) hx hb dX2_read_40 ?_
      refine r_put (pc := 41) (𝓦 := Wu E a) hx hb hts hown hK inB2 tyX2 tyX2_ok nmX2 hP (dU hI _) hS 1 wu1 rfl 3 (by decide) wd_68 rfl (by decide +kernel) (Nat.le_of_ble_eq_true rfl) (wu1p3 _) dX2_read_41 (fun H locs S2 eS2 hP hS => ?_)
      have h := bd_y eS2 h
      refine lv_iinc (v := (r1 + 1)) (lv' := [(1, .int (r1 + 1)), (0, .ref (a 1))]) (pc := 44) hx hb dX2_read_44 hl (k := 0) rfl (ii1 _) (by decide) rfl (fun ls hl => ?_)
      refine lv_iload_n (pc := 47) hx hb dX2_read_47 rfl (lv_at hl 0 rfl) ?_
      refine lv_aload_n (pc := 48) hx hb dX2_read_48 rfl (lv_at hl 1 rfl) ?_
      refine va_get (pc := 49) (v := .int (S2 1 1)) hx hb hts inB2 hown hK.1 hP 1 wu1 rfl 1 (by decide) (hts _ wd_64) (fun _ h9 => h9) rfl dX2_read_49 ?_
      refine lv_icmp_lt (tgt := 64) (pc := 52) hx hb dX2_read_52 (by decide) (fun hc => ?_) (fun hc => ?_)
      · have h := if_y hc h
        refine lv_aload_n (pc := 64) hx hb dX2_read_64 rfl (lv_at hl 1 rfl) ?_
        refine va_get (pc := 65) (v := .ref (a 8)) hx hb hts inB2 hown hK.1 hP 1 wu1 rfl 0 (by decide) (hts _ wd_63) (fun _ h9 => h9) rfl dX2_read_65 ?_
        refine lv_iload_n (pc := 68) hx hb dX2_read_68 rfl (lv_at hl 0 rfl) ?_
        obtain ⟨hin, h⟩ := gd_some h
        refine r_ald (pc := 69) hx hb hK hP 8 wu8 hin dX2_read_69 ?_
        refine lv_bipush (v := 58) (pc := 70) hx hb dX2_read_70 (by decide) ?_
        refine lv_icmp_ne (tgt := 85) (pc := 72) hx hb dX2_read_72 (by decide) (fun hc => ?_) (fun hc => ?_)
        · have h := if_n hc h
          refine lv_iload_n (pc := 85) hx hb dX2_read_85 rfl (lv_at hl 0 rfl) ?_
          exact r_retU (pc := 86) (𝓦 := Wu E a) C h hP hS dX2_read_86
        · have h := if_y hc h
          refine lv_aload_n (pc := 75) hx hb dX2_read_75 rfl (lv_at hl 1 rfl) ?_
          refine lv_iload_n (pc := 76) hx hb dX2_read_76 rfl (lv_at hl 0 rfl) ?_
          refine lv_iconst (v := 1) (pc := 77) hx hb dX2_read_77 (by decide) ?_
          refine lv_iadd (pc := 78) hx hb dX2_read_78 ?_
          obtain ⟨r3, S3, hr3, h⟩ := bd2_some h
          refine r_callU (pc := 79) C hP hS (c_X2_readGo hI N hr3) k_X2_readGo wd_271 (q0 := 1) wu1 rfl rfl ⟨Nat.le_of_ble_eq_true rfl, Nat.le_of_ble_eq_true rfl⟩ rfl hl.1 rfl (Nat.le_of_ble_eq_true rfl) dX2_read_79 ⟨Nat.zero_le _, Nat.zero_le _⟩ (fun H locs hP hS => ?_)
          refine lv_goto (tgt := 86) (pc := 82) hx hb dX2_read_82 (by decide) ?_
          exact r_retU (pc := 86) (𝓦 := Wu E a) C h hP hS dX2_read_86
      · have h := if_n hc h
        refine lv_aload_n (pc := 55) hx hb dX2_read_55 rfl (lv_at hl 1 rfl) ?_
        refine lv_bipush (v := 31) (pc := 56) hx hb dX2_read_56 (by decide) ?_
        refine r_put (pc := 58) (𝓦 := Wu E a) hx hb hts hown hK inB2 tyX2 tyX2_ok nmX2 hP (dU hI _) hS 1 wu1 rfl 4 (by decide) wd_70 rfl (by decide +kernel) (Nat.le_of_ble_eq_true rfl) (wu1p4 _) dX2_read_58 (fun H locs S4 eS4 hP hS => ?_)
        have h := bd_y eS4 h
        refine lv_bipush (v := (-6)) (pc := 61) hx hb dX2_read_61 (by decide) ?_
        exact r_retU (pc := 63) (𝓦 := Wu E a) C h hP hS dX2_read_63
    · have h := if_y hc h
      refine lv_iload_n (pc := 29) hx hb dX2_read_29 rfl (lv_at hl 0 rfl) ?_
      exact r_retU (pc := 30) (𝓦 := Wu E a) C h hP hS dX2_read_30
theorem c_X2_read {l : Launch} {D : va_G} {E : bE} {a : Nat → Nat} (hI : aI 49 a) (N : Nat) {rr : Int32} {S : St} {SS : St} (h : f_X2_read N S = some (rr, SS)) : cU l D E yX2_read cX2_read 2 (some .int) 3 65 (aA 49 a) (Wu E a S) (Wu E a SS) [.ref (a 1)] rr := cU_of (by decide) (Nat.le_of_ble_eq_true rfl) (fun p e s m args below meth c C => t_X2_read_0 hI N C h)
/-! X4_fault -/
def f_X4_fault (N : Nat) (S : St) : Option (Int32 × St) :=
  bd2 (f_X2_read N S) fun r1 S1 => some (r1, S1)
theorem t_X4_fault_0 {rr : Int32} {SS : St} (hI : aI 49 a) (N : Nat) (C : bC D E RX4 cX4_fault 1 (some .int) p s m args meth c) {S : St} (h : f_X4_fault N S = some (rr, SS)) : gU D (Wu E a) (aA 49 a) p l e (bRm 4 86) s m args below meth c 1 (qU D below (aA 49 a) (Wu E a SS) rr args s) 0 [(0, .ref (a 0))] [] S := by
  obtain ⟨hx, hb, hml, hown, hts, hK, hr, hlocks⟩ := id C
  intro H locs hP hS ls hl
  unfold f_X4_fault at h
  refine lv_aload_n (pc := 0) hx hb dX4_fault_0 rfl (lv_at hl 0 rfl) ?_
  refine va_get (pc := 1) (v := .ref (a 1)) hx hb hts inB4 hown hK.1 hP 0 wu0 rfl 0 (by decide) (hts _ wd_217) (fun _ h9 => h9) rfl dX4_fault_1 ?_
  obtain ⟨r1, S1, hr1, h⟩ := bd2_some h
  refine r_callU (pc := 4) C hP hS (c_X2_read hI N hr1) k_X2_read wd_259 (q0 := 1) wu1 rfl rfl ⟨Nat.le_of_ble_eq_true rfl, Nat.le_of_ble_eq_true rfl⟩ rfl hl.1 rfl (Nat.le_of_ble_eq_true rfl) dX4_fault_4 ⟨Nat.zero_le _, Nat.zero_le _⟩ (fun H locs hP hS => ?_)
  exact r_retU (pc := 7) (𝓦 := Wu E a) C h hP hS dX4_fault_7
theorem c_X4_fault {l : Launch} {D : va_G} {E : bE} {a : Nat → Nat} (hI : aI 49 a) (N : Nat) {rr : Int32} {S : St} {SS : St} (h : f_X4_fault N S = some (rr, SS)) : cU l D E yX4_fault cX4_fault 1 (some .int) 4 86 (aA 49 a) (Wu E a S) (Wu E a SS) [.ref (a 0)] rr := cU_of (by decide) (Nat.le_of_ble_eq_true rfl) (fun p e s m args below meth c C => t_X4_fault_0 hI N C h)
/-! X4_terms -/
def f_X4_terms (N : Nat) (x1 : Int32) (S : St) : Option (Int32 × St) :=
  bd (f_X4_isTerms x1) fun r1 => if r1 = 0 then (some ((-1), S)) else (bd2 (f_X2_read N S) fun r2 S1 => if r2 = (-6) then (gd (ix x1 5) (bd (some (sto S1 9 (Int32.toNatClampNeg x1) (S1 1 2))) fun S2 => gd (ix x1 5) (bd (some (sto S2 10 (Int32.toNatClampNeg x1) (S2 1 3))) fun S3 => gd (ix x1 5) (bd (some (sto S3 11 (Int32.toNatClampNeg x1) (S3 1 4))) fun S4 => bd (some (sto S4 1 1 0)) fun S5 => gd (ix x1 5) (some ((S5 9 (Int32.toNatClampNeg x1)), S5)))))) else (some ((-5), S1)))
theorem t_X4_terms_0 {rr : Int32} {SS : St} (hI : aI 49 a) (N : Nat) (C : bC D E RX4 cX4_terms 2 (some .int) p s m args meth c) {x1 : Int32} {S : St} (h : f_X4_terms N x1 S = some (rr, SS)) : gU D (Wu E a) (aA 49 a) p l e (bRm 4 86) s m args below meth c 2 (qU D below (aA 49 a) (Wu E a SS) rr args s) 0 [(0, .ref (a 0)), (1, .int x1)] [] S := by
  obtain ⟨hx, hb, hml, hown, hts, hK, hr, hlocks⟩ := id C
  intro H locs hP hS ls hl
  unfold f_X4_terms at h
  refine lv_iload_n (pc := 0) hx hb dX4_terms_0 rfl (lv_at hl 1 rfl) ?_
  obtain ⟨r1, hr1, h⟩ := bd_some h
  refine r_callS (pc := 1) C (c_X4_isTerms hr1) k_X4_isTerms wd_282 ⟨Nat.le_of_ble_eq_true rfl, Nat.le_of_ble_eq_true rfl⟩ rfl hl.1 rfl (Nat.le_of_ble_eq_true rfl) dX4_terms_1 ⟨Nat.zero_le _, Nat.zero_le _⟩ ?_
  refine lv_if_ne (tgt := 9) (pc := 4) hx hb dX4_terms_4 (by decide) (fun hc => ?_) (fun hc => ?_)
  · have h := if_n hc h
    refine lv_aload_n (pc := 9) hx hb dX4_terms_9 rfl (lv_at hl 0 rfl) ?_
    refine va_get (pc := 10) (v := .ref (a 1)) hx hb hts inB4 hown hK.1 hP 0 wu0 rfl 0 (by decide) (hts _ wd_217) (fun _ h9 => h9) rfl dX4_terms_10 ?_
    obtain ⟨r2, S1, hr2, h⟩ := bd2_some h
    refine r_callU (pc := 13) C hP hS (c_X2_read hI N hr2) k_X2_read wd_259 (q0 := 1) wu1 rfl rfl ⟨Nat.le_of_ble_eq_true rfl, Nat.le_of_ble_eq_true rfl⟩ rfl hl.1 rfl (Nat.le_of_ble_eq_true rfl) dX4_terms_13 ⟨Nat.zero_le _, Nat.zero_le _⟩ (fun H locs hP hS => ?_)
    refine lv_bipush (v := (-6)) (pc := 16) hx hb dX4_terms_16 (by decide) ?_
    refine lv_icmp_eq (tgt := 24) (pc := 18) hx hb dX4_terms_18 (by decide) (fun hc => ?_) (fun hc => ?_)
    · have h := if_y hc h
      refine lv_aload_n (pc := 24) hx hb dX4_terms_24 rfl (lv_at hl 0 rfl) ?_
      refine va_get (pc := 25) (v := .ref (a 2)) hx hb hts inB4 hown hK.1 hP 0 wu0 rfl 2 (by decide) (hts _ wd_219) (fun _ h9 => h9) rfl dX4_terms_25 ?_
      refine va_get (pc := 28) (v := .ref (a 9)) hx hb hts inB0 hown hK.1 hP 2 wu2 rfl 0 (by decide) (hts _ wd_97) (fun _ h9 => h9) rfl dX4_terms_28 ?_
      refine lv_iload_n (pc := 31) hx hb dX4_terms_31 rfl (lv_at hl 1 rfl) ?_
      refine lv_aload_n (pc := 32) hx hb dX4_terms_32 rfl (lv_at hl 0 rfl) ?_
      refine va_get (pc := 33) (v := .ref (a 1)) hx hb hts inB4 hown hK.1 hP 0 wu0 rfl 0 (by decide) (hts _ wd_217) (fun _ h9 => h9) rfl dX4_terms_33 ?_
      refine va_get (pc := 36) (v := .int (S1 1 2)) hx hb hts inB2 hown hK.1 hP 1 wu1 rfl 2 (by decide) (hts _ wd_67) (fun _ h9 => h9) rfl dX4_terms_36 ?_
      obtain ⟨hin, h⟩ := gd_some h
      refine r_ast (pc := 39) (𝓦 := Wu E a) hx hb hK hP (dU hI _) hS 9 wu9 wu9s hin dX4_terms_39 (fun H locs S2 eS2 hP hS => ?_)
      have h := bd_y eS2 h
      refine lv_aload_n (pc := 40) hx hb dX4_terms_40 rfl (lv_at hl 0 rfl) ?_
      refine va_get (pc := 41) (v := .ref (a 2)) hx hb hts inB4 hown hK.1 hP 0 wu0 rfl 2 (by decide) (hts _ wd_219) (fun _ h9 => h9) rfl dX4_terms_41 ?_
      refine va_get (pc := 44) (v := .ref (a 10)) hx hb hts inB0 hown hK.1 hP 2 wu2 rfl 1 (by decide) (hts _ wd_100) (fun _ h9 => h9) rfl dX4_terms_44 ?_
      refine lv_iload_n (pc := 47) hx hb dX4_terms_47 rfl (lv_at hl 1 rfl) ?_
      refine lv_aload_n (pc := 48) hx hb dX4_terms_48 rfl (lv_at hl 0 rfl) ?_
      refine va_get (pc := 49) (v := .ref (a 1)) hx hb hts inB4 hown hK.1 hP 0 wu0 rfl 0 (by decide) (hts _ wd_217) (fun _ h9 => h9) rfl dX4_terms_49 ?_
      refine va_get (pc := 52) (v := .int (S2 1 3)) hx hb hts inB2 hown hK.1 hP 1 wu1 rfl 3 (by decide) (hts _ wd_69) (fun _ h9 => h9) rfl dX4_terms_52 ?_
      obtain ⟨hin, h⟩ := gd_some h
      refine r_ast (pc := 55) (𝓦 := Wu E a) hx hb hK hP (dU hI _) hS 10 wu10 wu10s hin dX4_terms_55 (fun H locs S3 eS3 hP hS => ?_)
      have h := bd_y eS3 h
      refine lv_aload_n (pc := 56) hx hb dX4_terms_56 rfl (lv_at hl 0 rfl) ?_
      refine va_get (pc := 57) (v := .ref (a 2)) hx hb hts inB4 hown hK.1 hP 0 wu0 rfl 2 (by decide) (hts _ wd_219) (fun _ h9 => h9) rfl dX4_terms_57 ?_
      refine va_get (pc := 60) (v := .ref (a 11)) hx hb hts inB0 hown hK.1 hP 2 wu2 rfl 2 (by decide) (hts _ wd_103) (fun _ h9 => h9) rfl dX4_terms_60 ?_
      refine lv_iload_n (pc := 63) hx hb dX4_terms_63 rfl (lv_at hl 1 rfl) ?_
      refine lv_aload_n (pc := 64) hx hb dX4_terms_64 rfl (lv_at hl 0 rfl) ?_
      refine va_get (pc := 65) (v := .ref (a 1)) hx hb hts inB4 hown hK.1 hP 0 wu0 rfl 0 (by decide) (hts _ wd_217) (fun _ h9 => h9) rfl dX4_terms_65 ?_
      refine va_get (pc := 68) (v := .int (S3 1 4)) hx hb hts inB2 hown hK.1 hP 1 wu1 rfl 4 (by decide) (hts _ wd_71) (fun _ h9 => h9) rfl dX4_terms_68 ?_
      obtain ⟨hin, h⟩ := gd_some h
      refine r_ast (pc := 71) (𝓦 := Wu E a) hx hb hK hP (dU hI _) hS 11 wu11 wu11s hin dX4_terms_71 (fun H locs S4 eS4 hP hS => ?_)
      have h := bd_y eS4 h
      refine lv_aload_n (pc := 72) hx hb dX4_terms_72 rfl (lv_at hl 0 rfl) ?_
      refine va_get (pc := 73) (v := .ref (a 1)) hx hb hts inB4 hown hK.1 hP 0 wu0 rfl 0 (by decide) (hts _ wd_217) (fun _ h9 => h9) rfl dX4_terms_73 ?_
      refine lv_iconst (v := 0) (pc := 76) hx hb dX4_terms_76 (by decide) ?_
      refine r_put (pc := 77) (𝓦 := Wu E a) hx hb hts hown hK inB2 tyX2 tyX2_ok nmX2 hP (dU hI _) hS 1 wu1 rfl 1 (by decide) wd_65 rfl (by decide +kernel) (Nat.le_of_ble_eq_true rfl) (wu1p1 _) dX4_terms_77 (fun H locs S5 eS5 hP hS => ?_)
      have h := bd_y eS5 h
      refine lv_aload_n (pc := 80) hx hb dX4_terms_80 rfl (lv_at hl 0 rfl) ?_
      refine va_get (pc := 81) (v := .ref (a 2)) hx hb hts inB4 hown hK.1 hP 0 wu0 rfl 2 (by decide) (hts _ wd_219) (fun _ h9 => h9) rfl dX4_terms_81 ?_
      refine va_get (pc := 84) (v := .ref (a 9)) hx hb hts inB0 hown hK.1 hP 2 wu2 rfl 0 (by decide) (hts _ wd_97) (fun _ h9 => h9) rfl dX4_terms_84 ?_
      refine lv_iload_n (pc := 87) hx hb dX4_terms_87 rfl (lv_at hl 1 rfl) ?_
      obtain ⟨hin, h⟩ := gd_some h
      refine r_ald (pc := 88) hx hb hK hP 9 wu9 hin dX4_terms_88 ?_
      exact r_retU (pc := 89) (𝓦 := Wu E a) C h hP hS dX4_terms_89
    · have h := if_n hc h
      refine lv_bipush (v := (-5)) (pc := 21) hx hb dX4_terms_21 (by decide) ?_
      exact r_retU (pc := 23) (𝓦 := Wu E a) C h hP hS dX4_terms_23
  · have h := if_y hc h
    refine lv_iconst (v := (-1)) (pc := 7) hx hb dX4_terms_7 (by decide) ?_
    exact r_retU (pc := 8) (𝓦 := Wu E a) C h hP hS dX4_terms_8
theorem c_X4_terms {l : Launch} {D : va_G} {E : bE} {a : Nat → Nat} (hI : aI 49 a) (N : Nat) {rr : Int32} {S : St} {SS : St} {x1 : Int32} (h : f_X4_terms N x1 S = some (rr, SS)) : cU l D E yX4_terms cX4_terms 2 (some .int) 4 86 (aA 49 a) (Wu E a S) (Wu E a SS) [.ref (a 0), .int x1] rr := cU_of (by decide) (Nat.le_of_ble_eq_true rfl) (fun p e s m args below meth c C => t_X4_terms_0 hI N C h)
/-! X4_about -/
def f_X4_about (x1 : Int32) (x2 : Int32) (S : St) : Option (Int32) :=
  bd (f_X4_isTerms x1) fun r1 => if r1 = 0 then (some (-1)) else (if x2 = 0 then (gd (ix x1 5) (some (S 9 (Int32.toNatClampNeg x1)))) else (if x2 = 1 then (gd (ix x1 5) (some (S 10 (Int32.toNatClampNeg x1)))) else (if x2 = 2 then (gd (ix x1 5) (some (S 11 (Int32.toNatClampNeg x1)))) else (if x2 = 3 then (gd (ix x1 5) (some (S 12 (Int32.toNatClampNeg x1)))) else (some (-2))))))
theorem t_X4_about_0 {rr : Int32} (hI : aI 49 a) (C : bC D E RX4 cX4_about 3 (some .int) p s m args meth c) {S : St} (hP : va_P D vwCl (Wu E a S) s.heap) {x1 : Int32} {x2 : Int32} (h : f_X4_about x1 x2 S = some rr) : gR p l e (bRm 2 42) s m args below meth c 3 (qS below rr args s) 0 [(0, .ref (a 0)), (1, .int x1), (2, .int x2)] [] := by
  obtain ⟨hx, hb, hml, hown, hts, hK, hr, hlocks⟩ := id C
  intro ls hl
  unfold f_X4_about at h
  refine lv_iload_n (pc := 0) hx hb dX4_about_0 rfl (lv_at hl 1 rfl) ?_
  obtain ⟨r1, hr1, h⟩ := bd_some h
  refine r_callS (pc := 1) C (c_X4_isTerms hr1) k_X4_isTerms wd_282 ⟨Nat.le_of_ble_eq_true rfl, Nat.le_of_ble_eq_true rfl⟩ rfl hl.1 rfl (Nat.le_of_ble_eq_true rfl) dX4_about_1 ⟨Nat.zero_le _, Nat.zero_le _⟩ ?_
  refine lv_if_ne (tgt := 9) (pc := 4) hx hb dX4_about_4 (by decide) (fun hc => ?_) (fun hc => ?_)
  · have h := if_n hc h
    refine lv_iload_n (pc := 9) hx hb dX4_about_9 rfl (lv_at hl 2 rfl) ?_
    by_cases hc0 : x2 = 0
    · refine r_tabIn (pc := 10) (v := 0) (off := 30) (tgt := 40) hx hb dX4_about_10 hc0 (by decide) (by decide) (by decide +kernel) (by decide) ?_
      have h := if_y hc0 h
      refine lv_aload_n (pc := 40) hx hb dX4_about_40 rfl (lv_at hl 0 rfl) ?_
      refine va_get (pc := 41) (v := .ref (a 2)) hx hb hts inB4 hown hK.1 hP 0 wu0 rfl 2 (by decide) (hts _ wd_219) (fun _ h9 => h9) rfl dX4_about_41 ?_
      refine va_get (pc := 44) (v := .ref (a 9)) hx hb hts inB0 hown hK.1 hP 2 wu2 rfl 0 (by decide) (hts _ wd_97) (fun _ h9 => h9) rfl dX4_about_44 ?_
      refine lv_iload_n (pc := 47) hx hb dX4_about_47 rfl (lv_at hl 1 rfl) ?_
      obtain ⟨hin, h⟩ := gd_some h
      refine r_ald (pc := 48) hx hb hK hP 9 wu9 hin dX4_about_48 ?_
      exact r_retS (pc := 49) C h dX4_about_49
    have h := if_n hc0 h
    by_cases hc1 : x2 = 1
    · refine r_tabIn (pc := 10) (v := 1) (off := 40) (tgt := 50) hx hb dX4_about_10 hc1 (by decide) (by decide) (by decide +kernel) (by decide) ?_
      have h := if_y hc1 h
      refine lv_aload_n (pc := 50) hx hb dX4_about_50 rfl (lv_at hl 0 rfl) ?_
      refine va_get (pc := 51) (v := .ref (a 2)) hx hb hts inB4 hown hK.1 hP 0 wu0 rfl 2 (by decide) (hts _ wd_219) (fun _ h9 => h9) rfl dX4_about_51 ?_
      refine va_get (pc := 54) (v := .ref (a 10)) hx hb hts inB0 hown hK.1 hP 2 wu2 rfl 1 (by decide) (hts _ wd_100) (fun _ h9 => h9) rfl dX4_about_54 ?_
      refine lv_iload_n (pc := 57) hx hb dX4_about_57 rfl (lv_at hl 1 rfl) ?_
      obtain ⟨hin, h⟩ := gd_some h
      refine r_ald (pc := 58) hx hb hK hP 10 wu10 hin dX4_about_58 ?_
      exact r_retS (pc := 59) C h dX4_about_59
    have h := if_n hc1 h
    by_cases hc2 : x2 = 2
    · refine r_tabIn (pc := 10) (v := 2) (off := 50) (tgt := 60) hx hb dX4_about_10 hc2 (by decide) (by decide) (by decide +kernel) (by decide) ?_
      have h := if_y hc2 h
      refine lv_aload_n (pc := 60) hx hb dX4_about_60 rfl (lv_at hl 0 rfl) ?_
      refine va_get (pc := 61) (v := .ref (a 2)) hx hb hts inB4 hown hK.1 hP 0 wu0 rfl 2 (by decide) (hts _ wd_219) (fun _ h9 => h9) rfl dX4_about_61 ?_
      refine va_get (pc := 64) (v := .ref (a 11)) hx hb hts inB0 hown hK.1 hP 2 wu2 rfl 2 (by decide) (hts _ wd_103) (fun _ h9 => h9) rfl dX4_about_64 ?_
      refine lv_iload_n (pc := 67) hx hb dX4_about_67 rfl (lv_at hl 1 rfl) ?_
      obtain ⟨hin, h⟩ := gd_some h
      refine r_ald (pc := 68) hx hb hK hP 11 wu11 hin dX4_about_68 ?_
      exact r_retS (pc := 69) C h dX4_about_69
    have h := if_n hc2 h
    by_cases hc3 : x2 = 3
    · refine r_tabIn (pc := 10) (v := 3) (off := 60) (tgt := 70) hx hb dX4_about_10 hc3 (by decide) (by decide) (by decide +kernel) (by decide) ?_
      have h := if_y hc3 h
      refine lv_aload_n (pc := 70) hx hb dX4_about_70 rfl (lv_at hl 0 rfl) ?_
      refine va_get (pc := 71) (v := .ref (a 2)) hx hb hts inB4 hown hK.1 hP 0 wu0 rfl 2 (by decide) (hts _ wd_219) (fun _ h9 => h9) rfl dX4_about_71 ?_
      refine va_get (pc := 74) (v := .ref (a 12)) hx hb hts inB0 hown hK.1 hP 2 wu2 rfl 3 (by decide) (hts _ wd_106) (fun _ h9 => h9) rfl dX4_about_74 ?_
      refine lv_iload_n (pc := 77) hx hb dX4_about_77 rfl (lv_at hl 1 rfl) ?_
      obtain ⟨hin, h⟩ := gd_some h
      refine r_ald (pc := 78) hx hb hK hP 12 wu12 hin dX4_about_78 ?_
      exact r_retS (pc := 79) C h dX4_about_79
    have h := if_n hc3 h
    refine lv_tableOut (pc := 10) (tgt := 80) hx hb dX4_about_10 (tabOut0_3 hc0 hc1 hc2 hc3) (by decide) ?_
    refine lv_bipush (v := (-2)) (pc := 80) hx hb dX4_about_80 (by decide) ?_
    exact r_retS (pc := 82) C h dX4_about_82
  · have h := if_y hc h
    refine lv_iconst (v := (-1)) (pc := 7) hx hb dX4_about_7 (by decide) ?_
    exact r_retS (pc := 8) C h dX4_about_8
theorem c_X4_about {l : Launch} {D : va_G} {E : bE} {a : Nat → Nat} (hI : aI 49 a) {rr : Int32} {S : St} {x1 : Int32} {x2 : Int32} (h : f_X4_about x1 x2 S = some rr) : cR l D E yX4_about cX4_about 3 (some .int) 2 42 (Wu E a S) [.ref (a 0), .int x1, .int x2] rr := cR_of (by decide) (Nat.le_of_ble_eq_true rfl) (fun p e s m args below meth c C hP => t_X4_about_0 hI C hP h)
/-! X4_later -/
def f_X4_later (x1 : Int32) (x2 : Int32) (S : St) : Option (Int32 × St) :=
  bd (f_X4_isTerms x1) fun r1 => if r1 = 0 then (some ((-1), S)) else (bd (f_X4_within x2 (-1) 4) fun r2 => if r2 = 0 then (some ((-2), S)) else (if x2 = x1 then (some ((-2), S)) else (gd (ix x1 5) (bd (some (S 12 (Int32.toNatClampNeg x1))) fun y3 => if x2 = (-1) then (gd (ix x1 5) (bd (some (sto S 12 (Int32.toNatClampNeg x1) (-6))) fun S2 => some (y3, S2))) else (gd (ix x1 5) (bd (some (sto S 12 (Int32.toNatClampNeg x1) x2)) fun S1 => some (y3, S1)))))))
theorem t_X4_later_0 {rr : Int32} {SS : St} (hI : aI 49 a) (C : bC D E RX4 cX4_later 4 (some .int) p s m args meth c) {x1 : Int32} {x2 : Int32} {S : St} (h : f_X4_later x1 x2 S = some (rr, SS)) : gU D (Wu E a) (aA 49 a) p l e (bRm 2 42) s m args below meth c 4 (qU D below (aA 49 a) (Wu E a SS) rr args s) 0 [(0, .ref (a 0)), (1, .int x1), (2, .int x2)] [] S := by
  obtain ⟨hx, hb, hml, hown, hts, hK, hr, hlocks⟩ := id C
  intro H locs hP hS ls hl
  unfold f_X4_later at h
  refine lv_iload_n (pc := 0) hx hb dX4_later_0 rfl (lv_at hl 1 rfl) ?_
  obtain ⟨r1, hr1, h⟩ := bd_some h
  refine r_callS (pc := 1) C (c_X4_isTerms hr1) k_X4_isTerms wd_282 ⟨Nat.le_of_ble_eq_true rfl, Nat.le_of_ble_eq_true rfl⟩ rfl hl.1 rfl (Nat.le_of_ble_eq_true rfl) dX4_later_1 ⟨Nat.zero_le _, Nat.zero_le _⟩ ?_
  refine lv_if_ne (tgt := 9) (pc := 4) hx hb dX4_later_4 (by decide) (fun hc => ?_) (fun hc => ?_)
  · have h := if_n hc h
    refine lv_iload_n (pc := 9) hx hb dX4_later_9 rfl (lv_at hl 2 rfl) ?_
    refine lv_iconst (v := (-1)) (pc := 10) hx hb dX4_later_10 (by decide) ?_
    refine lv_iconst (v := 4) (pc := 11) hx hb dX4_later_11 (by decide) ?_
    obtain ⟨r2, hr2, h⟩ := bd_some h
    refine r_callS (pc := 12) C (c_X4_within hr2) k_X4_within wd_244 ⟨Nat.le_of_ble_eq_true rfl, Nat.le_of_ble_eq_true rfl⟩ rfl hl.1 rfl (Nat.le_of_ble_eq_true rfl) dX4_later_12 ⟨Nat.zero_le _, Nat.zero_le _⟩ ?_
    refine lv_if_eq (tgt := 23) (pc := 15) hx hb dX4_later_15 (by decide) (fun hc => ?_) (fun hc => ?_)
    · have h := if_y hc h
      refine lv_bipush (v := (-2)) (pc := 23) hx hb dX4_later_23 (by decide) ?_
      exact r_retU (pc := 25) (𝓦 := Wu E a) C h hP hS dX4_later_25
    · have h := if_n hc h
      refine lv_iload_n (pc := 18) hx hb dX4_later_18 rfl (lv_at hl 2 rfl) ?_
      refine lv_iload_n (pc := 19) hx hb dX4_later_19 rfl (lv_at hl 1 rfl) ?_
      refine lv_icmp_ne (tgt := 26) (pc := 20) hx hb dX4_later_20 (by decide) (fun hc => ?_) (fun hc => ?_)
      · have h := if_n hc h
        refine lv_aload_n (pc := 26) hx hb dX4_later_26 rfl (lv_at hl 0 rfl) ?_
        refine va_get (pc := 27) (v := .ref (a 2)) hx hb hts inB4 hown hK.1 hP 0 wu0 rfl 2 (by decide) (hts _ wd_219) (fun _ h9 => h9) rfl dX4_later_27 ?_
        refine va_get (pc := 30) (v := .ref (a 12)) hx hb hts inB0 hown hK.1 hP 2 wu2 rfl 3 (by decide) (hts _ wd_106) (fun _ h9 => h9) rfl dX4_later_30 ?_
        refine lv_iload_n (pc := 33) hx hb dX4_later_33 rfl (lv_at hl 1 rfl) ?_
        obtain ⟨hin, h⟩ := gd_some h
        refine r_ald (pc := 34) hx hb hK hP 12 wu12 hin dX4_later_34 ?_
        refine lv_topi (fun y3 ey3 => ?_)
        have h := bd_y ey3 h
        refine lv_istore_n (lv' := [(3, .int y3), (0, .ref (a 0)), (1, .int x1), (2, .int x2)]) (pc := 35) hx hb dX4_later_35 rfl hl (by decide) rfl (fun ls hl => ?_)
        refine lv_aload_n (pc := 36) hx hb dX4_later_36 rfl (lv_at hl 1 rfl) ?_
        refine va_get (pc := 37) (v := .ref (a 2)) hx hb hts inB4 hown hK.1 hP 0 wu0 rfl 2 (by decide) (hts _ wd_219) (fun _ h9 => h9) rfl dX4_later_37 ?_
        refine va_get (pc := 40) (v := .ref (a 12)) hx hb hts inB0 hown hK.1 hP 2 wu2 rfl 3 (by decide) (hts _ wd_106) (fun _ h9 => h9) rfl dX4_later_40 ?_
        refine lv_iload_n (pc := 43) hx hb dX4_later_43 rfl (lv_at hl 2 rfl) ?_
        refine lv_iload_n (pc := 44) hx hb dX4_later_44 rfl (lv_at hl 3 rfl) ?_
        refine lv_iconst (v := (-1)) (pc := 45) hx hb dX4_later_45 (by decide) ?_
        refine lv_icmp_ne (tgt := 54) (pc := 46) hx hb dX4_later_46 (by decide) (fun hc => ?_) (fun hc => ?_)
        · have h := if_n hc h
          refine lv_iload_n (pc := 54) hx hb dX4_later_54 rfl (lv_at hl 3 rfl) ?_
          obtain ⟨hin, h⟩ := gd_some h
          refine r_ast (pc := 55) (𝓦 := Wu E a) hx hb hK hP (dU hI _) hS 12 wu12 wu12s hin dX4_later_55 (fun H locs S1 eS1 hP hS => ?_)
          have h := bd_y eS1 h
          refine lv_iload_n (pc := 56) hx hb dX4_later_56 rfl (lv_at hl 0 rfl) ?_
          exact r_retU (pc := 57) (𝓦 := Wu E a) C h hP hS dX4_later_57
        · have h := if_y hc h
          refine lv_bipush (v := (-6)) (pc := 49) hx hb dX4_later_49 (by decide) ?_
          refine lv_goto (tgt := 55) (pc := 51) hx hb dX4_later_51 (by decide) ?_
          obtain ⟨hin, h⟩ := gd_some h
          refine r_ast (pc := 55) (𝓦 := Wu E a) hx hb hK hP (dU hI _) hS 12 wu12 wu12s hin dX4_later_55 (fun H locs S2 eS2 hP hS => ?_)
          have h := bd_y eS2 h
          refine lv_iload_n (pc := 56) hx hb dX4_later_56 rfl (lv_at hl 0 rfl) ?_
          exact r_retU (pc := 57) (𝓦 := Wu E a) C h hP hS dX4_later_57
      · have h := if_y hc h
        refine lv_bipush (v := (-2)) (pc := 23) hx hb dX4_later_23 (by decide) ?_
        exact r_retU (pc := 25) (𝓦 := Wu E a) C h hP hS dX4_later_25
  · have h := if_y hc h
    refine lv_iconst (v := (-1)) (pc := 7) hx hb dX4_later_7 (by decide) ?_
    exact r_retU (pc := 8) (𝓦 := Wu E a) C h hP hS dX4_later_8
theorem c_X4_later {l : Launch} {D : va_G} {E : bE} {a : Nat → Nat} (hI : aI 49 a) {rr : Int32} {S : St} {SS : St} {x1 : Int32} {x2 : Int32} (h : f_X4_later x1 x2 S = some (rr, SS)) : cU l D E yX4_later cX4_later 4 (some .int) 2 42 (aA 49 a) (Wu E a S) (Wu E a SS) [.ref (a 0), .int x1, .int x2] rr := cU_of (by decide) (Nat.le_of_ble_eq_true rfl) (fun p e s m args below meth c C => t_X4_later_0 hI C h)
/-! X4_isPiece -/
def f_X4_isPiece (x0 : Int32) : Option (Int32) :=
  bd (f_X4_within x0 0 5) fun r1 => gd (r1 &&& 1 = r1) (some r1)
theorem t_X4_isPiece_0 {rr : Int32} (C : bC D E RX4 cX4_isPiece 1 (some .boolean) p s m args meth c) {x0 : Int32} (h : f_X4_isPiece x0 = some rr) : gR p l e (bRm 1 22) s m args below meth c 1 (qS below rr args s) 0 [(0, .int x0)] [] := by
  obtain ⟨hx, hb, hml, hown, hts, hK, hr, hlocks⟩ := id C
  intro ls hl
  unfold f_X4_isPiece at h
  refine lv_iload_n (pc := 0) hx hb dX4_isPiece_0 rfl (lv_at hl 0 rfl) ?_
  refine lv_iconst (v := 0) (pc := 1) hx hb dX4_isPiece_1 (by decide) ?_
  refine lv_iconst (v := 5) (pc := 2) hx hb dX4_isPiece_2 (by decide) ?_
  obtain ⟨r1, hr1, h⟩ := bd_some h
  refine r_callS (pc := 3) C (c_X4_within hr1) k_X4_within wd_244 ⟨Nat.le_of_ble_eq_true rfl, Nat.le_of_ble_eq_true rfl⟩ rfl hl.1 rfl (Nat.le_of_ble_eq_true rfl) dX4_isPiece_3 ⟨Nat.zero_le _, Nat.zero_le _⟩ ?_
  exact r_retZ (pc := 6) C h dX4_isPiece_6
theorem c_X4_isPiece {l : Launch} {D : va_G} {E : bE} {rr : Int32} {x0 : Int32} (h : f_X4_isPiece x0 = some rr) : cS l D E yX4_isPiece cX4_isPiece 1 (some .boolean) 1 22 [.int x0] rr := cS_of (by decide) (Nat.le_of_ble_eq_true rfl) (fun p e s m args below meth c C => t_X4_isPiece_0 C h)
/-! X4_swap_13 -/
def f_X4_swap_13 (x1 : Int32) (x2 : Int32) (S : St) : Option (Int32 × St) :=
  gd (ix x1 6) (bd (some (S 13 (Int32.toNatClampNeg x1))) fun y1 => gd (ix x1 6) (bd (some (sto S 13 (Int32.toNatClampNeg x1) x2)) fun S1 => some (y1, S1)))
theorem t_X4_swap_13_0 {rr : Int32} {SS : St} (hI : aI 49 a) (C : bC D E RX4 cX4_swap 4 (some .int) p s m args meth c) {x1 : Int32} {x2 : Int32} {S : St} (h : f_X4_swap_13 x1 x2 S = some (rr, SS)) : gU D (Wu E a) (aA 49 a) p l e (bRm 0 0) s m args below meth c 4 (qU D below (aA 49 a) (Wu E a SS) rr args s) 0 [(0, .ref (a 13)), (1, .int x1), (2, .int x2)] [] S := by
  obtain ⟨hx, hb, hml, hown, hts, hK, hr, hlocks⟩ := id C
  intro H locs hP hS ls hl
  unfold f_X4_swap_13 at h
  refine lv_aload_n (pc := 0) hx hb dX4_swap_0 rfl (lv_at hl 0 rfl) ?_
  refine lv_iload_n (pc := 1) hx hb dX4_swap_1 rfl (lv_at hl 1 rfl) ?_
  obtain ⟨hin, h⟩ := gd_some h
  refine r_ald (pc := 2) hx hb hK hP 13 wu13 hin dX4_swap_2 ?_
  refine lv_topi (fun y1 ey1 => ?_)
  have h := bd_y ey1 h
  refine lv_istore_n (lv' := [(3, .int y1), (0, .ref (a 13)), (1, .int x1), (2, .int x2)]) (pc := 3) hx hb dX4_swap_3 rfl hl (by decide) rfl (fun ls hl => ?_)
  refine lv_aload_n (pc := 4) hx hb dX4_swap_4 rfl (lv_at hl 1 rfl) ?_
  refine lv_iload_n (pc := 5) hx hb dX4_swap_5 rfl (lv_at hl 2 rfl) ?_
  refine lv_iload_n (pc := 6) hx hb dX4_swap_6 rfl (lv_at hl 3 rfl) ?_
  obtain ⟨hin, h⟩ := gd_some h
  refine r_ast (pc := 7) (𝓦 := Wu E a) hx hb hK hP (dU hI _) hS 13 wu13 wu13s hin dX4_swap_7 (fun H locs S1 eS1 hP hS => ?_)
  have h := bd_y eS1 h
  refine lv_iload_n (pc := 8) hx hb dX4_swap_8 rfl (lv_at hl 0 rfl) ?_
  exact r_retU (pc := 9) (𝓦 := Wu E a) C h hP hS dX4_swap_9
theorem c_X4_swap_13 {l : Launch} {D : va_G} {E : bE} {a : Nat → Nat} (hI : aI 49 a) {rr : Int32} {S : St} {SS : St} {x1 : Int32} {x2 : Int32} (h : f_X4_swap_13 x1 x2 S = some (rr, SS)) : cU l D E yX4_swap cX4_swap 4 (some .int) 0 0 (aA 49 a) (Wu E a S) (Wu E a SS) [.ref (a 13), .int x1, .int x2] rr := cU_of (by decide) (Nat.le_of_ble_eq_true rfl) (fun p e s m args below meth c C => t_X4_swap_13_0 hI C h)
