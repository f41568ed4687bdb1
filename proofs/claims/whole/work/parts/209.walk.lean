variable {p : Program} {l : Launch} {e : Env} {s : State} {m : MethodId} {args : Array Value} {below : List Frame} {meth : Method} {c : Code} {D : va_G} {E : bE} {a : Nat → Nat}
/-! X5_fault -/
def f_X5_fault (N : Nat) (S : St) : Option (Int32 × St) :=
  bd2 (f_X5_faultOf N S) fun r1 S1 => some (r1, S1)
theorem t_X5_fault_0 {rr : Int32} {SS : St} (hI : aI 18 a) (N : Nat) (C : bC D E RX5 cX5_fault 1 (some .int) p s m args meth c) {S : St} (h : f_X5_fault N S = some (rr, SS)) : gU D (Wm E a) (aA 18 a) p l e (bRm 2 46) s m args below meth c 1 (qU D below (aA 18 a) (Wm E a SS) rr args s) 0 [(0, .ref (a 0))] [] S := by
  obtain ⟨hx, hb, hml, hown, hts, hK, hr, hlocks⟩ := id C
  intro H locs hP hS ls hl
  unfold f_X5_fault at h
  refine lv_aload_n (pc := 0) hx hb dX5_fault_0 rfl (lv_at hl 0 rfl) ?_
  obtain ⟨r1, S1, hr1, h⟩ := bd2_some h
  refine r_callU (pc := 1) C hP hS (c_X5_faultOf hI N hr1) k_X5_faultOf wd_645 (q0 := 0) wm0 rfl rfl ⟨Nat.le_of_ble_eq_true rfl, Nat.le_of_ble_eq_true rfl⟩ rfl hl.1 rfl (Nat.le_of_ble_eq_true rfl) dX5_fault_1 ⟨Nat.zero_le _, Nat.zero_le _⟩ (fun H locs hP hS => ?_)
  exact r_retU (pc := 4) (𝓦 := Wm E a) C h hP hS dX5_fault_4
theorem c_X5_fault {l : Launch} {D : va_G} {E : bE} {a : Nat → Nat} (hI : aI 18 a) (N : Nat) {rr : Int32} {S : St} {SS : St} (h : f_X5_fault N S = some (rr, SS)) : cU l D E yX5_fault cX5_fault 1 (some .int) 2 46 (aA 18 a) (Wm E a S) (Wm E a SS) [.ref (a 0)] rr := cU_of (by decide) (Nat.le_of_ble_eq_true rfl) (fun p e s m args below meth c C => t_X5_fault_0 hI N C h)
/-! X5_terms -/
def f_X5_terms (N : Nat) (x1 : Int32) (S : St) : Option (Int32 × St) :=
  bd (f_X5_isTerms x1) fun r1 => if r1 = 0 then (some ((-1), S)) else (bd2 (f_X5_faultOf N S) fun r2 S1 => if r2 < 0 then (gd (ix x1 5) (bd (some (sto S1 2 (Int32.toNatClampNeg x1) (S1 0 10))) fun S2 => gd (ix x1 5) (bd (some (sto S2 3 (Int32.toNatClampNeg x1) (S2 0 11))) fun S3 => gd (ix x1 5) (bd (some (sto S3 4 (Int32.toNatClampNeg x1) (S3 0 12))) fun S4 => bd (some (sto S4 0 0 0)) fun S5 => gd (ix x1 5) (some ((S5 2 (Int32.toNatClampNeg x1)), S5)))))) else (some ((-5), S1)))
theorem t_X5_terms_0 {rr : Int32} {SS : St} (hI : aI 18 a) (N : Nat) (C : bC D E RX5 cX5_terms 2 (some .int) p s m args meth c) {x1 : Int32} {S : St} (h : f_X5_terms N x1 S = some (rr, SS)) : gU D (Wm E a) (aA 18 a) p l e (bRm 2 46) s m args below meth c 2 (qU D below (aA 18 a) (Wm E a SS) rr args s) 0 [(0, .ref (a 0)), (1, .int x1)] [] S := by
  obtain ⟨hx, hb, hml, hown, hts, hK, hr, hlocks⟩ := id C
  intro H locs hP hS ls hl
  unfold f_X5_terms at h
  refine lv_iload_n (pc := 0) hx hb dX5_terms_0 rfl (lv_at hl 1 rfl) ?_
  obtain ⟨r1, hr1, h⟩ := bd_some h
  refine r_callS (pc := 1) C (c_X5_isTerms hr1) k_X5_isTerms wd_656 ⟨Nat.le_of_ble_eq_true rfl, Nat.le_of_ble_eq_true rfl⟩ rfl hl.1 rfl (Nat.le_of_ble_eq_true rfl) dX5_terms_1 ⟨Nat.zero_le _, Nat.zero_le _⟩ ?_
  refine lv_if_ne (tgt := 9) (pc := 4) hx hb dX5_terms_4 (by decide) (fun hc => ?_) (fun hc => ?_)
  · have h := if_n hc h
    refine lv_aload_n (pc := 9) hx hb dX5_terms_9 rfl (lv_at hl 0 rfl) ?_
    obtain ⟨r2, S1, hr2, h⟩ := bd2_some h
    refine r_callU (pc := 10) C hP hS (c_X5_faultOf hI N hr2) k_X5_faultOf wd_645 (q0 := 0) wm0 rfl rfl ⟨Nat.le_of_ble_eq_true rfl, Nat.le_of_ble_eq_true rfl⟩ rfl hl.1 rfl (Nat.le_of_ble_eq_true rfl) dX5_terms_10 ⟨Nat.zero_le _, Nat.zero_le _⟩ (fun H locs hP hS => ?_)
    refine lv_if_lt (tgt := 19) (pc := 13) hx hb dX5_terms_13 (by decide) (fun hc => ?_) (fun hc => ?_)
    · have h := if_y hc h
      refine lv_aload_n (pc := 19) hx hb dX5_terms_19 rfl (lv_at hl 0 rfl) ?_
      refine va_get (pc := 20) (v := .ref (a 2)) hx hb hts inB5 hown hK.1 hP 0 wm0 rfl 2 (by decide) (hts _ wd_553) (fun _ h9 => h9) rfl dX5_terms_20 ?_
      refine lv_iload_n (pc := 23) hx hb dX5_terms_23 rfl (lv_at hl 1 rfl) ?_
      refine lv_aload_n (pc := 24) hx hb dX5_terms_24 rfl (lv_at hl 0 rfl) ?_
      refine va_get (pc := 25) (v := .int (S1 0 10)) hx hb hts inB5 hown hK.1 hP 0 wm0 rfl 10 (by decide) (hts _ wd_561) (fun _ h9 => h9) rfl dX5_terms_25 ?_
      obtain ⟨hin, h⟩ := gd_some h
      refine r_ast (pc := 28) (𝓦 := Wm E a) hx hb hK hP (dM hI _) hS 2 wm2 wm2s hin dX5_terms_28 (fun H locs S2 eS2 hP hS => ?_)
      have h := bd_y eS2 h
      refine lv_aload_n (pc := 29) hx hb dX5_terms_29 rfl (lv_at hl 0 rfl) ?_
      refine va_get (pc := 30) (v := .ref (a 3)) hx hb hts inB5 hown hK.1 hP 0 wm0 rfl 3 (by decide) (hts _ wd_554) (fun _ h9 => h9) rfl dX5_terms_30 ?_
      refine lv_iload_n (pc := 33) hx hb dX5_terms_33 rfl (lv_at hl 1 rfl) ?_
      refine lv_aload_n (pc := 34) hx hb dX5_terms_34 rfl (lv_at hl 0 rfl) ?_
      refine va_get (pc := 35) (v := .int (S2 0 11)) hx hb hts inB5 hown hK.1 hP 0 wm0 rfl 11 (by decide) (hts _ wd_562) (fun _ h9 => h9) rfl dX5_terms_35 ?_
      obtain ⟨hin, h⟩ := gd_some h
      refine r_ast (pc := 38) (𝓦 := Wm E a) hx hb hK hP (dM hI _) hS 3 wm3 wm3s hin dX5_terms_38 (fun H locs S3 eS3 hP hS => ?_)
      have h := bd_y eS3 h
      refine lv_aload_n (pc := 39) hx hb dX5_terms_39 rfl (lv_at hl 0 rfl) ?_
      refine va_get (pc := 40) (v := .ref (a 4)) hx hb hts inB5 hown hK.1 hP 0 wm0 rfl 4 (by decide) (hts _ wd_555) (fun _ h9 => h9) rfl dX5_terms_40 ?_
      refine lv_iload_n (pc := 43) hx hb dX5_terms_43 rfl (lv_at hl 1 rfl) ?_
      refine lv_aload_n (pc := 44) hx hb dX5_terms_44 rfl (lv_at hl 0 rfl) ?_
      refine va_get (pc := 45) (v := .int (S3 0 12)) hx hb hts inB5 hown hK.1 hP 0 wm0 rfl 12 (by decide) (hts _ wd_563) (fun _ h9 => h9) rfl dX5_terms_45 ?_
      obtain ⟨hin, h⟩ := gd_some h
      refine r_ast (pc := 48) (𝓦 := Wm E a) hx hb hK hP (dM hI _) hS 4 wm4 wm4s hin dX5_terms_48 (fun H locs S4 eS4 hP hS => ?_)
      have h := bd_y eS4 h
      refine lv_aload_n (pc := 49) hx hb dX5_terms_49 rfl (lv_at hl 0 rfl) ?_
      refine lv_iconst (v := 0) (pc := 50) hx hb dX5_terms_50 (by decide) ?_
      refine r_put (pc := 51) (𝓦 := Wm E a) hx hb hts hown hK inB5 tyX5 tyX5_ok nmX5 hP (dM hI _) hS 0 wm0 rfl 0 (by decide) wd_551 rfl (by decide +kernel) (Nat.le_of_ble_eq_true rfl) (wm0p0 _) dX5_terms_51 (fun H locs S5 eS5 hP hS => ?_)
      have h := bd_y eS5 h
      refine lv_aload_n (pc := 54) hx hb dX5_terms_54 rfl (lv_at hl 0 rfl) ?_
      refine va_get (pc := 55) (v := .ref (a 2)) hx hb hts inB5 hown hK.1 hP 0 wm0 rfl 2 (by decide) (hts _ wd_553) (fun _ h9 => h9) rfl dX5_terms_55 ?_
      refine lv_iload_n (pc := 58) hx hb dX5_terms_58 rfl (lv_at hl 1 rfl) ?_
      obtain ⟨hin, h⟩ := gd_some h
      refine r_ald (pc := 59) hx hb hK hP 2 wm2 hin dX5_terms_59 ?_
      exact r_retU (pc := 60) (𝓦 := Wm E a) C h hP hS dX5_terms_60
    · have h := if_n hc h
      refine lv_bipush (v := (-5)) (pc := 16) hx hb dX5_terms_16 (by decide) ?_
      exact r_retU (pc := 18) (𝓦 := Wm E a) C h hP hS dX5_terms_18
  · have h := if_y hc h
    refine lv_iconst (v := (-1)) (pc := 7) hx hb dX5_terms_7 (by decide) ?_
    exact r_retU (pc := 8) (𝓦 := Wm E a) C h hP hS dX5_terms_8
theorem c_X5_terms {l : Launch} {D : va_G} {E : bE} {a : Nat → Nat} (hI : aI 18 a) (N : Nat) {rr : Int32} {S : St} {SS : St} {x1 : Int32} (h : f_X5_terms N x1 S = some (rr, SS)) : cU l D E yX5_terms cX5_terms 2 (some .int) 2 46 (aA 18 a) (Wm E a S) (Wm E a SS) [.ref (a 0), .int x1] rr := cU_of (by decide) (Nat.le_of_ble_eq_true rfl) (fun p e s m args below meth c C => t_X5_terms_0 hI N C h)
/-! X5_about -/
def f_X5_about (x1 : Int32) (x2 : Int32) (S : St) : Option (Int32) :=
  bd (f_X5_isTerms x1) fun r1 => if r1 = 0 then (some (-1)) else (if x2 = 0 then (gd (ix x1 5) (some (S 2 (Int32.toNatClampNeg x1)))) else (if x2 = 1 then (gd (ix x1 5) (some (S 3 (Int32.toNatClampNeg x1)))) else (if x2 = 2 then (gd (ix x1 5) (some (S 4 (Int32.toNatClampNeg x1)))) else (if x2 = 3 then (gd (ix x1 5) (some (S 5 (Int32.toNatClampNeg x1)))) else (some (-2))))))
theorem t_X5_about_0 {rr : Int32} (hI : aI 18 a) (C : bC D E RX5 cX5_about 3 (some .int) p s m args meth c) {S : St} (hP : va_P D vwCl (Wm E a S) s.heap) {x1 : Int32} {x2 : Int32} (h : f_X5_about x1 x2 S = some rr) : gR p l e (bRm 2 42) s m args below meth c 3 (qS below rr args s) 0 [(0, .ref (a 0)), (1, .int x1), (2, .int x2)] [] := by
  obtain ⟨hx, hb, hml, hown, hts, hK, hr, hlocks⟩ := id C
  intro ls hl
  unfold f_X5_about at h
  refine lv_iload_n (pc := 0) hx hb dX5_about_0 rfl (lv_at hl 1 rfl) ?_
  obtain ⟨r1, hr1, h⟩ := bd_some h
  refine r_callS (pc := 1) C (c_X5_isTerms hr1) k_X5_isTerms wd_656 ⟨Nat.le_of_ble_eq_true rfl, Nat.le_of_ble_eq_true rfl⟩ rfl hl.1 rfl (Nat.le_of_ble_eq_true rfl) dX5_about_1 ⟨Nat.zero_le _, Nat.zero_le _⟩ ?_
  refine lv_if_ne (tgt := 9) (pc := 4) hx hb dX5_about_4 (by decide) (fun hc => ?_) (fun hc => ?_)
  · have h := if_n hc h
    refine lv_iload_n (pc := 9) hx hb dX5_about_9 rfl (lv_at hl 2 rfl) ?_
    refine lv_if_ne (tgt := 22) (pc := 10) hx hb dX5_about_10 (by decide) (fun hc => ?_) (fun hc => ?_)
    · have h := if_n hc h
      refine lv_iload_n (pc := 22) hx hb dX5_about_22 rfl (lv_at hl 2 rfl) ?_
      refine lv_iconst (v := 1) (pc := 23) hx hb dX5_about_23 (by decide) ?_
      refine lv_icmp_ne (tgt := 36) (pc := 24) hx hb dX5_about_24 (by decide) (fun hc => ?_) (fun hc => ?_)
      · have h := if_n hc h
        refine lv_iload_n (pc := 36) hx hb dX5_about_36 rfl (lv_at hl 2 rfl) ?_
        refine lv_iconst (v := 2) (pc := 37) hx hb dX5_about_37 (by decide) ?_
        refine lv_icmp_ne (tgt := 50) (pc := 38) hx hb dX5_about_38 (by decide) (fun hc => ?_) (fun hc => ?_)
        · have h := if_n hc h
          refine lv_iload_n (pc := 50) hx hb dX5_about_50 rfl (lv_at hl 2 rfl) ?_
          refine lv_iconst (v := 3) (pc := 51) hx hb dX5_about_51 (by decide) ?_
          refine lv_icmp_ne (tgt := 64) (pc := 52) hx hb dX5_about_52 (by decide) (fun hc => ?_) (fun hc => ?_)
          · have h := if_n hc h
            refine lv_bipush (v := (-2)) (pc := 64) hx hb dX5_about_64 (by decide) ?_
            exact r_retS (pc := 66) C h dX5_about_66
          · have h := if_y hc h
            refine lv_aload_n (pc := 55) hx hb dX5_about_55 rfl (lv_at hl 0 rfl) ?_
            refine va_get (pc := 56) (v := .ref (a 5)) hx hb hts inB5 hown hK.1 hP 0 wm0 rfl 5 (by decide) (hts _ wd_556) (fun _ h9 => h9) rfl dX5_about_56 ?_
            refine lv_iload_n (pc := 59) hx hb dX5_about_59 rfl (lv_at hl 1 rfl) ?_
            obtain ⟨hin, h⟩ := gd_some h
            refine r_ald (pc := 60) hx hb hK hP 5 wm5 hin dX5_about_60 ?_
            refine lv_goto (tgt := 66) (pc := 61) hx hb dX5_about_61 (by decide) ?_
            exact r_retS (pc := 66) C h dX5_about_66
        · have h := if_y hc h
          refine lv_aload_n (pc := 41) hx hb dX5_about_41 rfl (lv_at hl 0 rfl) ?_
          refine va_get (pc := 42) (v := .ref (a 4)) hx hb hts inB5 hown hK.1 hP 0 wm0 rfl 4 (by decide) (hts _ wd_555) (fun _ h9 => h9) rfl dX5_about_42 ?_
          refine lv_iload_n (pc := 45) hx hb dX5_about_45 rfl (lv_at hl 1 rfl) ?_
          obtain ⟨hin, h⟩ := gd_some h
          refine r_ald (pc := 46) hx hb hK hP 4 wm4 hin dX5_about_46 ?_
          refine lv_goto (tgt := 66) (pc := 47) hx hb dX5_about_47 (by decide) ?_
          exact r_retS (pc := 66) C h dX5_about_66
      · have h := if_y hc h
        refine lv_aload_n (pc := 27) hx hb dX5_about_27 rfl (lv_at hl 0 rfl) ?_
        refine va_get (pc := 28) (v := .ref (a 3)) hx hb hts inB5 hown hK.1 hP 0 wm0 rfl 3 (by decide) (hts _ wd_554) (fun _ h9 => h9) rfl dX5_about_28 ?_
        refine lv_iload_n (pc := 31) hx hb dX5_about_31 rfl (lv_at hl 1 rfl) ?_
        obtain ⟨hin, h⟩ := gd_some h
        refine r_ald (pc := 32) hx hb hK hP 3 wm3 hin dX5_about_32 ?_
        refine lv_goto (tgt := 66) (pc := 33) hx hb dX5_about_33 (by decide) ?_
        exact r_retS (pc := 66) C h dX5_about_66
    · have h := if_y hc h
      refine lv_aload_n (pc := 13) hx hb dX5_about_13 rfl (lv_at hl 0 rfl) ?_
      refine va_get (pc := 14) (v := .ref (a 2)) hx hb hts inB5 hown hK.1 hP 0 wm0 rfl 2 (by decide) (hts _ wd_553) (fun _ h9 => h9) rfl dX5_about_14 ?_
      refine lv_iload_n (pc := 17) hx hb dX5_about_17 rfl (lv_at hl 1 rfl) ?_
      obtain ⟨hin, h⟩ := gd_some h
      refine r_ald (pc := 18) hx hb hK hP 2 wm2 hin dX5_about_18 ?_
      refine lv_goto (tgt := 66) (pc := 19) hx hb dX5_about_19 (by decide) ?_
      exact r_retS (pc := 66) C h dX5_about_66
  · have h := if_y hc h
    refine lv_iconst (v := (-1)) (pc := 7) hx hb dX5_about_7 (by decide) ?_
    exact r_retS (pc := 8) C h dX5_about_8
theorem c_X5_about {l : Launch} {D : va_G} {E : bE} {a : Nat → Nat} (hI : aI 18 a) {rr : Int32} {S : St} {x1 : Int32} {x2 : Int32} (h : f_X5_about x1 x2 S = some rr) : cR l D E yX5_about cX5_about 3 (some .int) 2 42 (Wm E a S) [.ref (a 0), .int x1, .int x2] rr := cR_of (by decide) (Nat.le_of_ble_eq_true rfl) (fun p e s m args below meth c C hP => t_X5_about_0 hI C hP h)
/-! X5_later -/
def f_X5_later (x1 : Int32) (x2 : Int32) (S : St) : Option (Int32 × St) :=
  bd (f_X5_isTerms x1) fun r1 => if r1 = 0 then (some ((-1), S)) else (bd (f_X5_in x2 (-1) 4) fun r2 => if r2 = 0 then (some ((-2), S)) else (if x2 = x1 then (some ((-2), S)) else (gd (ix x1 5) (bd (some (S 5 (Int32.toNatClampNeg x1))) fun y3 => if 0 ≤ x2 then (gd (ix x1 5) (bd (some (sto S 5 (Int32.toNatClampNeg x1) x2)) fun S1 => some (y3, S1))) else (gd (ix x1 5) (bd (some (sto S 5 (Int32.toNatClampNeg x1) (-6))) fun S2 => some (y3, S2)))))))
theorem t_X5_later_0 {rr : Int32} {SS : St} (hI : aI 18 a) (C : bC D E RX5 cX5_later 4 (some .int) p s m args meth c) {x1 : Int32} {x2 : Int32} {S : St} (h : f_X5_later x1 x2 S = some (rr, SS)) : gU D (Wm E a) (aA 18 a) p l e (bRm 2 42) s m args below meth c 4 (qU D below (aA 18 a) (Wm E a SS) rr args s) 0 [(0, .ref (a 0)), (1, .int x1), (2, .int x2)] [] S := by
  obtain ⟨hx, hb, hml, hown, hts, hK, hr, hlocks⟩ := id C
  intro H locs hP hS ls hl
  unfold f_X5_later at h
  refine lv_iload_n (pc := 0) hx hb dX5_later_0 rfl (lv_at hl 1 rfl) ?_
  obtain ⟨r1, hr1, h⟩ := bd_some h
  refine r_callS (pc := 1) C (c_X5_isTerms hr1) k_X5_isTerms wd_656 ⟨Nat.le_of_ble_eq_true rfl, Nat.le_of_ble_eq_true rfl⟩ rfl hl.1 rfl (Nat.le_of_ble_eq_true rfl) dX5_later_1 ⟨Nat.zero_le _, Nat.zero_le _⟩ ?_
  refine lv_if_ne (tgt := 9) (pc := 4) hx hb dX5_later_4 (by decide) (fun hc => ?_) (fun hc => ?_)
  · have h := if_n hc h
    refine lv_iload_n (pc := 9) hx hb dX5_later_9 rfl (lv_at hl 2 rfl) ?_
    refine lv_iconst (v := (-1)) (pc := 10) hx hb dX5_later_10 (by decide) ?_
    refine lv_iconst (v := 4) (pc := 11) hx hb dX5_later_11 (by decide) ?_
    obtain ⟨r2, hr2, h⟩ := bd_some h
    refine r_callS (pc := 12) C (c_X5_in hr2) k_X5_in wd_634 ⟨Nat.le_of_ble_eq_true rfl, Nat.le_of_ble_eq_true rfl⟩ rfl hl.1 rfl (Nat.le_of_ble_eq_true rfl) dX5_later_12 ⟨Nat.zero_le _, Nat.zero_le _⟩ ?_
    refine lv_if_eq (tgt := 23) (pc := 15) hx hb dX5_later_15 (by decide) (fun hc => ?_) (fun hc => ?_)
    · have h := if_y hc h
      refine lv_bipush (v := (-2)) (pc := 23) hx hb dX5_later_23 (by decide) ?_
      exact r_retU (pc := 25) (𝓦 := Wm E a) C h hP hS dX5_later_25
    · have h := if_n hc h
      refine lv_iload_n (pc := 18) hx hb dX5_later_18 rfl (lv_at hl 2 rfl) ?_
      refine lv_iload_n (pc := 19) hx hb dX5_later_19 rfl (lv_at hl 1 rfl) ?_
      refine lv_icmp_ne (tgt := 26) (pc := 20) hx hb dX5_later_20 (by decide) (fun hc => ?_) (fun hc => ?_)
      · have h := if_n hc h
        refine lv_aload_n (pc := 26) hx hb dX5_later_26 rfl (lv_at hl 0 rfl) ?_
        refine va_get (pc := 27) (v := .ref (a 5)) hx hb hts inB5 hown hK.1 hP 0 wm0 rfl 5 (by decide) (hts _ wd_556) (fun _ h9 => h9) rfl dX5_later_27 ?_
        refine lv_iload_n (pc := 30) hx hb dX5_later_30 rfl (lv_at hl 1 rfl) ?_
        obtain ⟨hin, h⟩ := gd_some h
        refine r_ald (pc := 31) hx hb hK hP 5 wm5 hin dX5_later_31 ?_
        refine lv_topi (fun y3 ey3 => ?_)
        have h := bd_y ey3 h
        refine lv_istore_n (lv' := [(3, .int y3), (0, .ref (a 0)), (1, .int x1), (2, .int x2)]) (pc := 32) hx hb dX5_later_32 rfl hl (by decide) rfl (fun ls hl => ?_)
        refine lv_aload_n (pc := 33) hx hb dX5_later_33 rfl (lv_at hl 1 rfl) ?_
        refine va_get (pc := 34) (v := .ref (a 5)) hx hb hts inB5 hown hK.1 hP 0 wm0 rfl 5 (by decide) (hts _ wd_556) (fun _ h9 => h9) rfl dX5_later_34 ?_
        refine lv_iload_n (pc := 37) hx hb dX5_later_37 rfl (lv_at hl 2 rfl) ?_
        refine lv_iload_n (pc := 38) hx hb dX5_later_38 rfl (lv_at hl 3 rfl) ?_
        refine lv_if_ge (tgt := 47) (pc := 39) hx hb dX5_later_39 (by decide) (fun hc => ?_) (fun hc => ?_)
        · have h := if_y hc h
          refine lv_iload_n (pc := 47) hx hb dX5_later_47 rfl (lv_at hl 3 rfl) ?_
          obtain ⟨hin, h⟩ := gd_some h
          refine r_ast (pc := 48) (𝓦 := Wm E a) hx hb hK hP (dM hI _) hS 5 wm5 wm5s hin dX5_later_48 (fun H locs S1 eS1 hP hS => ?_)
          have h := bd_y eS1 h
          refine lv_iload_n (pc := 49) hx hb dX5_later_49 rfl (lv_at hl 0 rfl) ?_
          exact r_retU (pc := 50) (𝓦 := Wm E a) C h hP hS dX5_later_50
        · have h := if_n hc h
          refine lv_bipush (v := (-6)) (pc := 42) hx hb dX5_later_42 (by decide) ?_
          refine lv_goto (tgt := 48) (pc := 44) hx hb dX5_later_44 (by decide) ?_
          obtain ⟨hin, h⟩ := gd_some h
          refine r_ast (pc := 48) (𝓦 := Wm E a) hx hb hK hP (dM hI _) hS 5 wm5 wm5s hin dX5_later_48 (fun H locs S2 eS2 hP hS => ?_)
          have h := bd_y eS2 h
          refine lv_iload_n (pc := 49) hx hb dX5_later_49 rfl (lv_at hl 0 rfl) ?_
          exact r_retU (pc := 50) (𝓦 := Wm E a) C h hP hS dX5_later_50
      · have h := if_y hc h
        refine lv_bipush (v := (-2)) (pc := 23) hx hb dX5_later_23 (by decide) ?_
        exact r_retU (pc := 25) (𝓦 := Wm E a) C h hP hS dX5_later_25
  · have h := if_y hc h
    refine lv_iconst (v := (-1)) (pc := 7) hx hb dX5_later_7 (by decide) ?_
    exact r_retU (pc := 8) (𝓦 := Wm E a) C h hP hS dX5_later_8
theorem c_X5_later {l : Launch} {D : va_G} {E : bE} {a : Nat → Nat} (hI : aI 18 a) {rr : Int32} {S : St} {SS : St} {x1 : Int32} {x2 : Int32} (h : f_X5_later x1 x2 S = some (rr, SS)) : cU l D E yX5_later cX5_later 4 (some .int) 2 42 (aA 18 a) (Wm E a S) (Wm E a SS) [.ref (a 0), .int x1, .int x2] rr := cU_of (by decide) (Nat.le_of_ble_eq_true rfl) (fun p e s m args below meth c C => t_X5_later_0 hI C h)
/-! X5_mostOf -/
def f_X5_mostOf (x0 : Int32) : Option (Int32) :=
  if x0 = 0 then (some 31) else (if x0 = 1 then (some 1) else (if x0 = 2 then (some 63) else (some 999)))
theorem t_X5_mostOf_0 {rr : Int32} (C : bC D E RX5 cX5_mostOf 1 (some .int) p s m args meth c) {x0 : Int32} (h : f_X5_mostOf x0 = some rr) : gR p l e (bRm 0 0) s m args below meth c 1 (qS below rr args s) 0 [(0, .int x0)] [] := by
  obtain ⟨hx, hb, hml, hown, hts, hK, hr, hlocks⟩ := id C
  intro ls hl
  unfold f_X5_mostOf at h
  refine lv_iload_n (pc := 0) hx hb dX5_mostOf_0 rfl (lv_at hl 0 rfl) ?_
  refine lv_if_ne (tgt := 9) (pc := 1) hx hb dX5_mostOf_1 (by decide) (fun hc => ?_) (fun hc => ?_)
  · have h := if_n hc h
    refine lv_iload_n (pc := 9) hx hb dX5_mostOf_9 rfl (lv_at hl 0 rfl) ?_
    refine lv_iconst (v := 1) (pc := 10) hx hb dX5_mostOf_10 (by decide) ?_
    refine lv_icmp_ne (tgt := 18) (pc := 11) hx hb dX5_mostOf_11 (by decide) (fun hc => ?_) (fun hc => ?_)
    · have h := if_n hc h
      refine lv_iload_n (pc := 18) hx hb dX5_mostOf_18 rfl (lv_at hl 0 rfl) ?_
      refine lv_iconst (v := 2) (pc := 19) hx hb dX5_mostOf_19 (by decide) ?_
      refine lv_icmp_ne (tgt := 28) (pc := 20) hx hb dX5_mostOf_20 (by decide) (fun hc => ?_) (fun hc => ?_)
      · have h := if_n hc h
        refine lv_sipush (v := 999) (pc := 28) hx hb dX5_mostOf_28 (by decide) ?_
        exact r_retS (pc := 31) C h dX5_mostOf_31
      · have h := if_y hc h
        refine lv_bipush (v := 63) (pc := 23) hx hb dX5_mostOf_23 (by decide) ?_
        refine lv_goto (tgt := 31) (pc := 25) hx hb dX5_mostOf_25 (by decide) ?_
        exact r_retS (pc := 31) C h dX5_mostOf_31
    · have h := if_y hc h
      refine lv_iconst (v := 1) (pc := 14) hx hb dX5_mostOf_14 (by decide) ?_
      refine lv_goto (tgt := 31) (pc := 15) hx hb dX5_mostOf_15 (by decide) ?_
      exact r_retS (pc := 31) C h dX5_mostOf_31
  · have h := if_y hc h
    refine lv_bipush (v := 31) (pc := 4) hx hb dX5_mostOf_4 (by decide) ?_
    refine lv_goto (tgt := 31) (pc := 6) hx hb dX5_mostOf_6 (by decide) ?_
    exact r_retS (pc := 31) C h dX5_mostOf_31
theorem c_X5_mostOf {l : Launch} {D : va_G} {E : bE} {rr : Int32} {x0 : Int32} (h : f_X5_mostOf x0 = some rr) : cS l D E yX5_mostOf cX5_mostOf 1 (some .int) 0 0 [.int x0] rr := cS_of (by decide) (Nat.le_of_ble_eq_true rfl) (fun p e s m args below meth c C => t_X5_mostOf_0 C h)
/-! X5_piece -/
def B_X5_piece_28 (x1 : Int32) (x2 : Int32) (x3 : Int32) (z0 : Int32) (z1 : Int32) (S : St) : Option (Int32 × St) :=
  bd (f_X5_mostOf x2) fun r1 => bd (f_X5_in z1 z0 r1) fun r2 => if r2 = 0 then (some ((-2), S)) else (gd (ix ((4 * x1) + x2) 24) (bd (some (S 6 (Int32.toNatClampNeg ((4 * x1) + x2)))) fun y3 => gd (ix ((4 * x1) + x2) 24) (bd (some (sto S 6 (Int32.toNatClampNeg ((4 * x1) + x2)) x3)) fun S1 => some (y3, S1))))
theorem t_X5_piece_28 {rr : Int32} {SS : St} (hI : aI 18 a) (C : bC D E RX5 cX5_piece 5 (some .int) p s m args meth c) {x1 : Int32} {x2 : Int32} {x3 : Int32} {z0 : Int32} {z1 : Int32} {S : St} (h : B_X5_piece_28 x1 x2 x3 z0 z1 S = some (rr, SS)) : gU D (Wm E a) (aA 18 a) p l e (bRm 2 42) s m args below meth c 5 (qU D below (aA 18 a) (Wm E a SS) rr args s) 28 [(0, .ref (a 0)), (1, .int x1), (2, .int x2), (3, .int x3)] [.int z0, .int z1] S := by
  obtain ⟨hx, hb, hml, hown, hts, hK, hr, hlocks⟩ := id C
  intro H locs hP hS ls hl
  unfold B_X5_piece_28 at h
  refine lv_iload_n (pc := 28) hx hb dX5_piece_28 rfl (lv_at hl 2 rfl) ?_
  obtain ⟨r1, hr1, h⟩ := bd_some h
  refine r_callS (pc := 29) C (c_X5_mostOf hr1) k_X5_mostOf wd_674 ⟨Nat.le_of_ble_eq_true rfl, Nat.le_of_ble_eq_true rfl⟩ rfl hl.1 rfl (Nat.le_of_ble_eq_true rfl) dX5_piece_29 ⟨Nat.zero_le _, Nat.zero_le _⟩ ?_
  obtain ⟨r2, hr2, h⟩ := bd_some h
  refine r_callS (pc := 32) C (c_X5_in hr2) k_X5_in wd_634 ⟨Nat.le_of_ble_eq_true rfl, Nat.le_of_ble_eq_true rfl⟩ rfl hl.1 rfl (Nat.le_of_ble_eq_true rfl) dX5_piece_32 ⟨Nat.zero_le _, Nat.zero_le _⟩ ?_
  refine lv_if_ne (tgt := 41) (pc := 35) hx hb dX5_piece_35 (by decide) (fun hc => ?_) (fun hc => ?_)
  · have h := if_n hc h
    refine lv_aload_n (pc := 41) hx hb dX5_piece_41 rfl (lv_at hl 0 rfl) ?_
    refine va_get (pc := 42) (v := .ref (a 6)) hx hb hts inB5 hown hK.1 hP 0 wm0 rfl 6 (by decide) (hts _ wd_557) (fun _ h9 => h9) rfl dX5_piece_42 ?_
    refine lv_iconst (v := 4) (pc := 45) hx hb dX5_piece_45 (by decide) ?_
    refine lv_iload_n (pc := 46) hx hb dX5_piece_46 rfl (lv_at hl 1 rfl) ?_
    refine lv_imul (pc := 47) hx hb dX5_piece_47 ?_
    refine lv_iload_n (pc := 48) hx hb dX5_piece_48 rfl (lv_at hl 2 rfl) ?_
    refine lv_iadd (pc := 49) hx hb dX5_piece_49 ?_
    obtain ⟨hin, h⟩ := gd_some h
    refine r_ald (pc := 50) hx hb hK hP 6 wm6 hin dX5_piece_50 ?_
    refine lv_topi (fun y3 ey3 => ?_)
    have h := bd_y ey3 h
    refine lv_istore (lv' := [(4, .int y3), (0, .ref (a 0)), (1, .int x1), (2, .int x2), (3, .int x3)]) (pc := 51) hx hb dX5_piece_51 hl (by decide) rfl (fun ls hl => ?_)
    refine lv_aload_n (pc := 53) hx hb dX5_piece_53 rfl (lv_at hl 1 rfl) ?_
    refine va_get (pc := 54) (v := .ref (a 6)) hx hb hts inB5 hown hK.1 hP 0 wm0 rfl 6 (by decide) (hts _ wd_557) (fun _ h9 => h9) rfl dX5_piece_54 ?_
    refine lv_iconst (v := 4) (pc := 57) hx hb dX5_piece_57 (by decide) ?_
    refine lv_iload_n (pc := 58) hx hb dX5_piece_58 rfl (lv_at hl 2 rfl) ?_
    refine lv_imul (pc := 59) hx hb dX5_piece_59 ?_
    refine lv_iload_n (pc := 60) hx hb dX5_piece_60 rfl (lv_at hl 3 rfl) ?_
    refine lv_iadd (pc := 61) hx hb dX5_piece_61 ?_
    refine lv_iload_n (pc := 62) hx hb dX5_piece_62 rfl (lv_at hl 4 rfl) ?_
    obtain ⟨hin, h⟩ := gd_some h
    refine r_ast (pc := 63) (𝓦 := Wm E a) hx hb hK hP (dM hI _) hS 6 wm6 wm6s hin dX5_piece_63 (fun H locs S1 eS1 hP hS => ?_)
    have h := bd_y eS1 h
    refine lv_iload (pc := 64) hx hb dX5_piece_64 (lv_at hl 0 rfl) ?_
    exact r_retU (pc := 66) (𝓦 := Wm E a) C h hP hS dX5_piece_66
  · have h := if_y hc h
    refine lv_bipush (v := (-2)) (pc := 38) hx hb dX5_piece_38 (by decide) ?_
    exact r_retU (pc := 40) (𝓦 := Wm E a) C h hP hS dX5_piece_40
def f_X5_piece (x1 : Int32) (x2 : Int32) (x3 : Int32) (S : St) : Option (Int32 × St) :=
  bd (f_X5_isPiece x1) fun r1 => if r1 = 0 then (some ((-1), S)) else (bd (f_X5_in x2 0 3) fun r2 => if r2 = 0 then (some ((-2), S)) else (if x2 = 0 then (B_X5_piece_28 x1 x2 x3 1 x3 S) else (B_X5_piece_28 x1 x2 x3 0 x3 S)))
theorem t_X5_piece_0 {rr : Int32} {SS : St} (hI : aI 18 a) (C : bC D E RX5 cX5_piece 5 (some .int) p s m args meth c) {x1 : Int32} {x2 : Int32} {x3 : Int32} {S : St} (h : f_X5_piece x1 x2 x3 S = some (rr, SS)) : gU D (Wm E a) (aA 18 a) p l e (bRm 2 42) s m args below meth c 5 (qU D below (aA 18 a) (Wm E a SS) rr args s) 0 [(0, .ref (a 0)), (1, .int x1), (2, .int x2), (3, .int x3)] [] S := by
  obtain ⟨hx, hb, hml, hown, hts, hK, hr, hlocks⟩ := id C
  intro H locs hP hS ls hl
  unfold f_X5_piece at h
  refine lv_iload_n (pc := 0) hx hb dX5_piece_0 rfl (lv_at hl 1 rfl) ?_
  obtain ⟨r1, hr1, h⟩ := bd_some h
  refine r_callS (pc := 1) C (c_X5_isPiece hr1) k_X5_isPiece wd_671 ⟨Nat.le_of_ble_eq_true rfl, Nat.le_of_ble_eq_true rfl⟩ rfl hl.1 rfl (Nat.le_of_ble_eq_true rfl) dX5_piece_1 ⟨Nat.zero_le _, Nat.zero_le _⟩ ?_
  refine lv_if_ne (tgt := 9) (pc := 4) hx hb dX5_piece_4 (by decide) (fun hc => ?_) (fun hc => ?_)
  · have h := if_n hc h
    refine lv_iload_n (pc := 9) hx hb dX5_piece_9 rfl (lv_at hl 2 rfl) ?_
    refine lv_iconst (v := 0) (pc := 10) hx hb dX5_piece_10 (by decide) ?_
    refine lv_iconst (v := 3) (pc := 11) hx hb dX5_piece_11 (by decide) ?_
    obtain ⟨r2, hr2, h⟩ := bd_some h
    refine r_callS (pc := 12) C (c_X5_in hr2) k_X5_in wd_634 ⟨Nat.le_of_ble_eq_true rfl, Nat.le_of_ble_eq_true rfl⟩ rfl hl.1 rfl (Nat.le_of_ble_eq_true rfl) dX5_piece_12 ⟨Nat.zero_le _, Nat.zero_le _⟩ ?_
    refine lv_if_eq (tgt := 38) (pc := 15) hx hb dX5_piece_15 (by decide) (fun hc => ?_) (fun hc => ?_)
    · have h := if_y hc h
      refine lv_bipush (v := (-2)) (pc := 38) hx hb dX5_piece_38 (by decide) ?_
      exact r_retU (pc := 40) (𝓦 := Wm E a) C h hP hS dX5_piece_40
    · have h := if_n hc h
      refine lv_iload_n (pc := 18) hx hb dX5_piece_18 rfl (lv_at hl 3 rfl) ?_
      refine lv_iload_n (pc := 19) hx hb dX5_piece_19 rfl (lv_at hl 2 rfl) ?_
      refine lv_if_ne (tgt := 27) (pc := 20) hx hb dX5_piece_20 (by decide) (fun hc => ?_) (fun hc => ?_)
      · have h := if_n hc h
        refine lv_iconst (v := 0) (pc := 27) hx hb dX5_piece_27 (by decide) ?_
        exact t_X5_piece_28 hI C h H locs hP hS ls (lv_sub hl [0, 1, 2, 3] rfl)
      · have h := if_y hc h
        refine lv_iconst (v := 1) (pc := 23) hx hb dX5_piece_23 (by decide) ?_
        refine lv_goto (tgt := 28) (pc := 24) hx hb dX5_piece_24 (by decide) ?_
        exact t_X5_piece_28 hI C h H locs hP hS ls (lv_sub hl [0, 1, 2, 3] rfl)
  · have h := if_y hc h
    refine lv_iconst (v := (-1)) (pc := 7) hx hb dX5_piece_7 (by decide) ?_
    exact r_retU (pc := 8) (𝓦 := Wm E a) C h hP hS dX5_piece_8
theorem c_X5_piece {l : Launch} {D : va_G} {E : bE} {a : Nat → Nat} (hI : aI 18 a) {rr : Int32} {S : St} {SS : St} {x1 : Int32} {x2 : Int32} {x3 : Int32} (h : f_X5_piece x1 x2 x3 S = some (rr, SS)) : cU l D E yX5_piece cX5_piece 5 (some .int) 2 42 (aA 18 a) (Wm E a S) (Wm E a SS) [.ref (a 0), .int x1, .int x2, .int x3] rr := cU_of (by decide) (Nat.le_of_ble_eq_true rfl) (fun p e s m args below meth c C => t_X5_piece_0 hI C h)
/-! X5_uses -/
def f_X5_uses (x1 : Int32) (x2 : Int32) (x3 : Int32) (S : St) : Option (Int32 × St) :=
  bd (f_X5_isPiece x1) fun r1 => if r1 = 0 then (some ((-1), S)) else (bd (f_X5_isPiece x2) fun r2 => if r2 = 0 then (some ((-1), S)) else (if x2 < x1 then (bd (f_X5_in x3 (-1) 3) fun r3 => if r3 = 0 then (some ((-2), S)) else (gd (ix ((6 * x1) + x2) 36) (bd (some (S 7 (Int32.toNatClampNeg ((6 * x1) + x2)))) fun y4 => if 0 ≤ x3 then (gd (ix ((6 * x1) + x2) 36) (bd (some (sto S 7 (Int32.toNatClampNeg ((6 * x1) + x2)) x3)) fun S1 => some (y4, S1))) else (gd (ix ((6 * x1) + x2) 36) (bd (some (sto S 7 (Int32.toNatClampNeg ((6 * x1) + x2)) (-6))) fun S2 => some (y4, S2)))))) else (some ((-1), S))))
theorem t_X5_uses_0 {rr : Int32} {SS : St} (hI : aI 18 a) (C : bC D E RX5 cX5_uses 5 (some .int) p s m args meth c) {x1 : Int32} {x2 : Int32} {x3 : Int32} {S : St} (h : f_X5_uses x1 x2 x3 S = some (rr, SS)) : gU D (Wm E a) (aA 18 a) p l e (bRm 2 42) s m args below meth c 5 (qU D below (aA 18 a) (Wm E a SS) rr args s) 0 [(0, .ref (a 0)), (1, .int x1), (2, .int x2), (3, .int x3)] [] S := by
  obtain ⟨hx, hb, hml, hown, hts, hK, hr, hlocks⟩ := id C
  intro H locs hP hS ls hl
  unfold f_X5_uses at h
  refine lv_iload_n (pc := 0) hx hb dX5_uses_0 rfl (lv_at hl 1 rfl) ?_
  obtain ⟨r1, hr1, h⟩ := bd_some h
  refine r_callS (pc := 1) C (c_X5_isPiece hr1) k_X5_isPiece wd_671 ⟨Nat.le_of_ble_eq_true rfl, Nat.le_of_ble_eq_true rfl⟩ rfl hl.1 rfl (Nat.le_of_ble_eq_true rfl) dX5_uses_1 ⟨Nat.zero_le _, Nat.zero_le _⟩ ?_
  refine lv_if_eq (tgt := 19) (pc := 4) hx hb dX5_uses_4 (by decide) (fun hc => ?_) (fun hc => ?_)
  · have h := if_y hc h
    refine lv_iconst (v := (-1)) (pc := 19) hx hb dX5_uses_19 (by decide) ?_
    exact r_retU (pc := 20) (𝓦 := Wm E a) C h hP hS dX5_uses_20
  · have h := if_n hc h
    refine lv_iload_n (pc := 7) hx hb dX5_uses_7 rfl (lv_at hl 2 rfl) ?_
    obtain ⟨r2, hr2, h⟩ := bd_some h
    refine r_callS (pc := 8) C (c_X5_isPiece hr2) k_X5_isPiece wd_671 ⟨Nat.le_of_ble_eq_true rfl, Nat.le_of_ble_eq_true rfl⟩ rfl hl.1 rfl (Nat.le_of_ble_eq_true rfl) dX5_uses_8 ⟨Nat.zero_le _, Nat.zero_le _⟩ ?_
    refine lv_if_eq (tgt := 19) (pc := 11) hx hb dX5_uses_11 (by decide) (fun hc => ?_) (fun hc => ?_)
    · have h := if_y hc h
      refine lv_iconst (v := (-1)) (pc := 19) hx hb dX5_uses_19 (by decide) ?_
      exact r_retU (pc := 20) (𝓦 := Wm E a) C h hP hS dX5_uses_20
    · have h := if_n hc h
      refine lv_iload_n (pc := 14) hx hb dX5_uses_14 rfl (lv_at hl 2 rfl) ?_
      refine lv_iload_n (pc := 15) hx hb dX5_uses_15 rfl (lv_at hl 1 rfl) ?_
      refine lv_icmp_lt (tgt := 21) (pc := 16) hx hb dX5_uses_16 (by decide) (fun hc => ?_) (fun hc => ?_)
      · have h := if_y hc h
        refine lv_iload_n (pc := 21) hx hb dX5_uses_21 rfl (lv_at hl 3 rfl) ?_
        refine lv_iconst (v := (-1)) (pc := 22) hx hb dX5_uses_22 (by decide) ?_
        refine lv_iconst (v := 3) (pc := 23) hx hb dX5_uses_23 (by decide) ?_
        obtain ⟨r3, hr3, h⟩ := bd_some h
        refine r_callS (pc := 24) C (c_X5_in hr3) k_X5_in wd_634 ⟨Nat.le_of_ble_eq_true rfl, Nat.le_of_ble_eq_true rfl⟩ rfl hl.1 rfl (Nat.le_of_ble_eq_true rfl) dX5_uses_24 ⟨Nat.zero_le _, Nat.zero_le _⟩ ?_
        refine lv_if_ne (tgt := 33) (pc := 27) hx hb dX5_uses_27 (by decide) (fun hc => ?_) (fun hc => ?_)
        · have h := if_n hc h
          refine lv_aload_n (pc := 33) hx hb dX5_uses_33 rfl (lv_at hl 0 rfl) ?_
          refine va_get (pc := 34) (v := .ref (a 7)) hx hb hts inB5 hown hK.1 hP 0 wm0 rfl 7 (by decide) (hts _ wd_558) (fun _ h9 => h9) rfl dX5_uses_34 ?_
          refine lv_bipush (v := 6) (pc := 37) hx hb dX5_uses_37 (by decide) ?_
          refine lv_iload_n (pc := 39) hx hb dX5_uses_39 rfl (lv_at hl 1 rfl) ?_
          refine lv_imul (pc := 40) hx hb dX5_uses_40 ?_
          refine lv_iload_n (pc := 41) hx hb dX5_uses_41 rfl (lv_at hl 2 rfl) ?_
          refine lv_iadd (pc := 42) hx hb dX5_uses_42 ?_
          obtain ⟨hin, h⟩ := gd_some h
          refine r_ald (pc := 43) hx hb hK hP 7 wm7 hin dX5_uses_43 ?_
          refine lv_topi (fun y4 ey4 => ?_)
          have h := bd_y ey4 h
          refine lv_istore (lv' := [(4, .int y4), (0, .ref (a 0)), (1, .int x1), (2, .int x2), (3, .int x3)]) (pc := 44) hx hb dX5_uses_44 hl (by decide) rfl (fun ls hl => ?_)
          refine lv_aload_n (pc := 46) hx hb dX5_uses_46 rfl (lv_at hl 1 rfl) ?_
          refine va_get (pc := 47) (v := .ref (a 7)) hx hb hts inB5 hown hK.1 hP 0 wm0 rfl 7 (by decide) (hts _ wd_558) (fun _ h9 => h9) rfl dX5_uses_47 ?_
          refine lv_bipush (v := 6) (pc := 50) hx hb dX5_uses_50 (by decide) ?_
          refine lv_iload_n (pc := 52) hx hb dX5_uses_52 rfl (lv_at hl 2 rfl) ?_
          refine lv_imul (pc := 53) hx hb dX5_uses_53 ?_
          refine lv_iload_n (pc := 54) hx hb dX5_uses_54 rfl (lv_at hl 3 rfl) ?_
          refine lv_iadd (pc := 55) hx hb dX5_uses_55 ?_
          refine lv_iload_n (pc := 56) hx hb dX5_uses_56 rfl (lv_at hl 4 rfl) ?_
          refine lv_if_ge (tgt := 65) (pc := 57) hx hb dX5_uses_57 (by decide) (fun hc => ?_) (fun hc => ?_)
          · have h := if_y hc h
            refine lv_iload_n (pc := 65) hx hb dX5_uses_65 rfl (lv_at hl 4 rfl) ?_
            obtain ⟨hin, h⟩ := gd_some h
            refine r_ast (pc := 66) (𝓦 := Wm E a) hx hb hK hP (dM hI _) hS 7 wm7 wm7s hin dX5_uses_66 (fun H locs S1 eS1 hP hS => ?_)
            have h := bd_y eS1 h
            refine lv_iload (pc := 67) hx hb dX5_uses_67 (lv_at hl 0 rfl) ?_
            exact r_retU (pc := 69) (𝓦 := Wm E a) C h hP hS dX5_uses_69
          · have h := if_n hc h
            refine lv_bipush (v := (-6)) (pc := 60) hx hb dX5_uses_60 (by decide) ?_
            refine lv_goto (tgt := 66) (pc := 62) hx hb dX5_uses_62 (by decide) ?_
            obtain ⟨hin, h⟩ := gd_some h
            refine r_ast (pc := 66) (𝓦 := Wm E a) hx hb hK hP (dM hI _) hS 7 wm7 wm7s hin dX5_uses_66 (fun H locs S2 eS2 hP hS => ?_)
            have h := bd_y eS2 h
            refine lv_iload (pc := 67) hx hb dX5_uses_67 (lv_at hl 0 rfl) ?_
            exact r_retU (pc := 69) (𝓦 := Wm E a) C h hP hS dX5_uses_69
        · have h := if_y hc h
          refine lv_bipush (v := (-2)) (pc := 30) hx hb dX5_uses_30 (by decide) ?_
          exact r_retU (pc := 32) (𝓦 := Wm E a) C h hP hS dX5_uses_32
      · have h := if_n hc h
        refine lv_iconst (v := (-1)) (pc := 19) hx hb dX5_uses_19 (by decide) ?_
        exact r_retU (pc := 20) (𝓦 := Wm E a) C h hP hS dX5_uses_20
theorem c_X5_uses {l : Launch} {D : va_G} {E : bE} {a : Nat → Nat} (hI : aI 18 a) {rr : Int32} {S : St} {SS : St} {x1 : Int32} {x2 : Int32} {x3 : Int32} (h : f_X5_uses x1 x2 x3 S = some (rr, SS)) : cU l D E yX5_uses cX5_uses 5 (some .int) 2 42 (aA 18 a) (Wm E a S) (Wm E a SS) [.ref (a 0), .int x1, .int x2, .int x3] rr := cU_of (by decide) (Nat.le_of_ble_eq_true rfl) (fun p e s m args below meth c C => t_X5_uses_0 hI C h)
/-! X5_choicesOf -/
def FB_X5_choicesOf_33 (N : Nat) (k11 : Int32 × Int32 × Int32 → Option (Int32)) (S : St) (k33 : Int32 × Int32 × Int32 × Int32 → Option (Int32)) (x1 : Int32) (x2 : Int32) (x3 : Int32) (x4 : Int32) : Option (Int32) :=
  if 5 ≤ x4 then (k11 (x1, x2, (x3 + 1))) else (bd (f_X5_has x2 x4) fun r1 => if r1 = 0 then (bd (some (x2 ||| 0)) fun y2 => k33 (x1, y2, x3, (x4 + 1))) else (gd (ix x4 5) (if (S 5 (Int32.toNatClampNeg x4)) < 0 then (bd (some (x2 ||| 0)) fun y3 => k33 (x1, y3, x3, (x4 + 1))) else (gd (ix x4 5) (bd (some (x2 ||| (1 <<< ((S 5 (Int32.toNatClampNeg x4)) &&& 31)))) fun y4 => k33 (x1, y4, x3, (x4 + 1)))))))
def F_X5_choicesOf_33 (N : Nat) (k11 : Int32 × Int32 × Int32 → Option (Int32)) (S : St) (k33 : Int32 × Int32 × Int32 × Int32 → Option (Int32)) (v : Int32 × Int32 × Int32 × Int32) : Option (Int32) := FB_X5_choicesOf_33 N k11 S k33 v.1 v.2.1 v.2.2.1 v.2.2.2
theorem s_X5_choicesOf_33 {rr : Int32} (hI : aI 18 a) (N : Nat) (C : bC D E RX5 cX5_choicesOf 5 (some .int) p s m args meth c) {S : St} (hP : va_P D vwCl (Wm E a S) s.heap) (k11 : Int32 × Int32 × Int32 → Option (Int32)) (hk11 : ∀ (x1 : Int32) (x2 : Int32) (x3 : Int32), k11 (x1, x2, x3) = some rr → gR p l e (bRm 1 21) s m args below meth c 5 (qS below rr args s) 11 [(0, .ref (a 0)), (1, .int x1), (2, .int x2), (3, .int x3)] []) (k33 : Int32 × Int32 × Int32 × Int32 → Option (Int32)) (hk33 : ∀ (x1 : Int32) (x2 : Int32) (x3 : Int32) (x4 : Int32), k33 (x1, x2, x3, x4) = some rr → gR p l e (bRm 1 21) s m args below meth c 5 (qS below rr args s) 33 [(0, .ref (a 0)), (1, .int x1), (2, .int x2), (3, .int x3), (4, .int x4)] []) {x1 : Int32} {x2 : Int32} {x3 : Int32} {x4 : Int32} (h : FB_X5_choicesOf_33 N k11 S k33 x1 x2 x3 x4 = some rr) : gR p l e (bRm 1 21) s m args below meth c 5 (qS below rr args s) 33 [(0, .ref (a 0)), (1, .int x1), (2, .int x2), (3, .int x3), (4, .int x4)] [] := by
  obtain ⟨hx, hb, hml, hown, hts, hK, hr, hlocks⟩ := id C
  intro ls hl
  unfold FB_X5_choicesOf_33 at h
  refine lv_iload (pc := 33) hx hb dX5_choicesOf_33 (lv_at hl 4 rfl) ?_
  refine lv_iconst (v := 5) (pc := 35) hx hb dX5_choicesOf_35 (by decide) ?_
  refine lv_icmp_ge (tgt := 80) (pc := 36) hx hb dX5_choicesOf_36 (by decide) (fun hc => ?_) (fun hc => ?_)
  · have h := if_y hc h
    refine lv_iinc (v := (x3 + 1)) (lv' := [(3, .int (x3 + 1)), (0, .ref (a 0)), (1, .int x1), (2, .int x2), (4, .int x4)]) (pc := 80) hx hb dX5_choicesOf_80 hl (k := 3) rfl (ii1 _) (by decide) rfl (fun ls hl => ?_)
    refine lv_goto (tgt := 11) (pc := 83) hx hb dX5_choicesOf_83 (by decide) ?_
    exact hk11 _ _ _ h ls (lv_sub hl [1, 2, 3, 0] rfl)
  · have h := if_n hc h
    refine lv_iload_n (pc := 39) hx hb dX5_choicesOf_39 rfl (lv_at hl 2 rfl) ?_
    refine lv_iload_n (pc := 40) hx hb dX5_choicesOf_40 rfl (lv_at hl 2 rfl) ?_
    refine lv_iload (pc := 41) hx hb dX5_choicesOf_41 (lv_at hl 4 rfl) ?_
    obtain ⟨r1, hr1, h⟩ := bd_some h
    refine r_callS (pc := 43) C (c_X5_has hr1) k_X5_has wd_689 ⟨Nat.le_of_ble_eq_true rfl, Nat.le_of_ble_eq_true rfl⟩ rfl hl.1 rfl (Nat.le_of_ble_eq_true rfl) dX5_choicesOf_43 ⟨Nat.zero_le _, Nat.zero_le _⟩ ?_
    refine lv_if_eq (tgt := 71) (pc := 46) hx hb dX5_choicesOf_46 (by decide) (fun hc => ?_) (fun hc => ?_)
    · have h := if_y hc h
      refine lv_iconst (v := 0) (pc := 71) hx hb dX5_choicesOf_71 (by decide) ?_
      refine lv_ior (pc := 72) hx hb dX5_choicesOf_72 ?_
      refine lv_topi (fun y2 ey2 => ?_)
      have h := bd_y ey2 h
      refine lv_istore_n (lv' := [(2, .int y2), (0, .ref (a 0)), (1, .int x1), (3, .int x3), (4, .int x4)]) (pc := 73) hx hb dX5_choicesOf_73 rfl hl (by decide) rfl (fun ls hl => ?_)
      refine lv_iinc (v := (x4 + 1)) (lv' := [(4, .int (x4 + 1)), (2, .int y2), (0, .ref (a 0)), (1, .int x1), (3, .int x3)]) (pc := 74) hx hb dX5_choicesOf_74 hl (k := 4) rfl (ii1 _) (by decide) rfl (fun ls hl => ?_)
      refine lv_goto (tgt := 33) (pc := 77) hx hb dX5_choicesOf_77 (by decide) ?_
      exact hk33 _ _ _ _ h ls (lv_sub hl [2, 3, 1, 4, 0] rfl)
    · have h := if_n hc h
      refine lv_aload_n (pc := 49) hx hb dX5_choicesOf_49 rfl (lv_at hl 0 rfl) ?_
      refine va_get (pc := 50) (v := .ref (a 5)) hx hb hts inB5 hown hK.1 hP 0 wm0 rfl 5 (by decide) (hts _ wd_556) (fun _ h9 => h9) rfl dX5_choicesOf_50 ?_
      refine lv_iload (pc := 53) hx hb dX5_choicesOf_53 (lv_at hl 4 rfl) ?_
      obtain ⟨hin, h⟩ := gd_some h
      refine r_ald (pc := 55) hx hb hK hP 5 wm5 hin dX5_choicesOf_55 ?_
      refine lv_if_lt (tgt := 71) (pc := 56) hx hb dX5_choicesOf_56 (by decide) (fun hc => ?_) (fun hc => ?_)
      · have h := if_y hc h
        refine lv_iconst (v := 0) (pc := 71) hx hb dX5_choicesOf_71 (by decide) ?_
        refine lv_ior (pc := 72) hx hb dX5_choicesOf_72 ?_
        refine lv_topi (fun y3 ey3 => ?_)
        have h := bd_y ey3 h
        refine lv_istore_n (lv' := [(2, .int y3), (0, .ref (a 0)), (1, .int x1), (3, .int x3), (4, .int x4)]) (pc := 73) hx hb dX5_choicesOf_73 rfl hl (by decide) rfl (fun ls hl => ?_)
        refine lv_iinc (v := (x4 + 1)) (lv' := [(4, .int (x4 + 1)), (2, .int y3), (0, .ref (a 0)), (1, .int x1), (3, .int x3)]) (pc := 74) hx hb dX5_choicesOf_74 hl (k := 4) rfl (ii1 _) (by decide) rfl (fun ls hl => ?_)
        refine lv_goto (tgt := 33) (pc := 77) hx hb dX5_choicesOf_77 (by decide) ?_
        exact hk33 _ _ _ _ h ls (lv_sub hl [2, 3, 1, 4, 0] rfl)
      · have h := if_n hc h
        refine lv_iconst (v := 1) (pc := 59) hx hb dX5_choicesOf_59 (by decide) ?_
        refine lv_aload_n (pc := 60) hx hb dX5_choicesOf_60 rfl (lv_at hl 0 rfl) ?_
        refine va_get (pc := 61) (v := .ref (a 5)) hx hb hts inB5 hown hK.1 hP 0 wm0 rfl 5 (by decide) (hts _ wd_556) (fun _ h9 => h9) rfl dX5_choicesOf_61 ?_
        refine lv_iload (pc := 64) hx hb dX5_choicesOf_64 (lv_at hl 4 rfl) ?_
        obtain ⟨hin, h⟩ := gd_some h
        refine r_ald (pc := 66) hx hb hK hP 5 wm5 hin dX5_choicesOf_66 ?_
        refine lv_ishl (pc := 67) hx hb dX5_choicesOf_67 ?_
        refine lv_goto (tgt := 72) (pc := 68) hx hb dX5_choicesOf_68 (by decide) ?_
        refine lv_ior (pc := 72) hx hb dX5_choicesOf_72 ?_
        refine lv_topi (fun y4 ey4 => ?_)
        have h := bd_y ey4 h
        refine lv_istore_n (lv' := [(2, .int y4), (0, .ref (a 0)), (1, .int x1), (3, .int x3), (4, .int x4)]) (pc := 73) hx hb dX5_choicesOf_73 rfl hl (by decide) rfl (fun ls hl => ?_)
        refine lv_iinc (v := (x4 + 1)) (lv' := [(4, .int (x4 + 1)), (2, .int y4), (0, .ref (a 0)), (1, .int x1), (3, .int x3)]) (pc := 74) hx hb dX5_choicesOf_74 hl (k := 4) rfl (ii1 _) (by decide) rfl (fun ls hl => ?_)
        refine lv_goto (tgt := 33) (pc := 77) hx hb dX5_choicesOf_77 (by decide) ?_
        exact hk33 _ _ _ _ h ls (lv_sub hl [2, 3, 1, 4, 0] rfl)
theorem t_X5_choicesOf_33 {rr : Int32} (hI : aI 18 a) (N : Nat) (C : bC D E RX5 cX5_choicesOf 5 (some .int) p s m args meth c) {S : St} (hP : va_P D vwCl (Wm E a S) s.heap) (k11 : Int32 × Int32 × Int32 → Option (Int32)) (hk11 : ∀ (x1 : Int32) (x2 : Int32) (x3 : Int32), k11 (x1, x2, x3) = some rr → gR p l e (bRm 1 21) s m args below meth c 5 (qS below rr args s) 11 [(0, .ref (a 0)), (1, .int x1), (2, .int x2), (3, .int x3)] []) {n : Nat} {x1 : Int32} {x2 : Int32} {x3 : Int32} {x4 : Int32} (h : lpI (F_X5_choicesOf_33 N k11 S) n (x1, x2, x3, x4) = some rr) : gR p l e (bRm 1 21) s m args below meth c 5 (qS below rr args s) 33 [(0, .ref (a 0)), (1, .int x1), (2, .int x2), (3, .int x3), (4, .int x4)] [] := by
  exact lpI_ind (P := fun v q => q = rr → gR p l e (bRm 1 21) s m args below meth c 5 (qS below rr args s) 33 [(0, .ref (a 0)), (1, .int v.1), (2, .int v.2.1), (3, .int v.2.2.1), (4, .int v.2.2.2)] []) (fun k hk v q h9 hq => s_X5_choicesOf_33 hI N C hP k11 hk11 k (fun x1 x2 x3 x4 h8 => hk (x1, x2, x3, x4) _ h8 rfl) (h9.trans (congrArg some hq))) n (x1, x2, x3, x4) _ h rfl
def FB_X5_choicesOf_11 (N : Nat) (S : St) (k11 : Int32 × Int32 × Int32 → Option (Int32)) (x1 : Int32) (x2 : Int32) (x3 : Int32) : Option (Int32) :=
  if 5 ≤ x3 then (some x2) else (gd (ix ((4 * x1) + 1) 24) (if (S 6 (Int32.toNatClampNeg ((4 * x1) + 1))) = 1 then (lpI (F_X5_choicesOf_33 N k11 S) N (x1, x2, x3, 0)) else (some x2)))
def F_X5_choicesOf_11 (N : Nat) (S : St) (k11 : Int32 × Int32 × Int32 → Option (Int32)) (v : Int32 × Int32 × Int32) : Option (Int32) := FB_X5_choicesOf_11 N S k11 v.1 v.2.1 v.2.2
theorem s_X5_choicesOf_11 {rr : Int32} (hI : aI 18 a) (N : Nat) (C : bC D E RX5 cX5_choicesOf 5 (some .int) p s m args meth c) {S : St} (hP : va_P D vwCl (Wm E a S) s.heap) (k11 : Int32 × Int32 × Int32 → Option (Int32)) (hk11 : ∀ (x1 : Int32) (x2 : Int32) (x3 : Int32), k11 (x1, x2, x3) = some rr → gR p l e (bRm 1 21) s m args below meth c 5 (qS below rr args s) 11 [(0, .ref (a 0)), (1, .int x1), (2, .int x2), (3, .int x3)] []) {x1 : Int32} {x2 : Int32} {x3 : Int32} (h : FB_X5_choicesOf_11 N S k11 x1 x2 x3 = some rr) : gR p l e (bRm 1 21) s m args below meth c 5 (qS below rr args s) 11 [(0, .ref (a 0)), (1, .int x1), (2, .int x2), (3, .int x3)] [] := by
  obtain ⟨hx, hb, hml, hown, hts, hK, hr, hlocks⟩ := id C
  intro ls hl
  unfold FB_X5_choicesOf_11 at h
  refine lv_iload_n (pc := 11) hx hb dX5_choicesOf_11 rfl (lv_at hl 3 rfl) ?_
  refine lv_iconst (v := 5) (pc := 12) hx hb dX5_choicesOf_12 (by decide) ?_
  refine lv_icmp_ge (tgt := 86) (pc := 13) hx hb dX5_choicesOf_13 (by decide) (fun hc => ?_) (fun hc => ?_)
  · have h := if_y hc h
    refine lv_iload_n (pc := 86) hx hb dX5_choicesOf_86 rfl (lv_at hl 2 rfl) ?_
    exact r_retS (pc := 87) C h dX5_choicesOf_87
  · have h := if_n hc h
    refine lv_aload_n (pc := 16) hx hb dX5_choicesOf_16 rfl (lv_at hl 0 rfl) ?_
    refine va_get (pc := 17) (v := .ref (a 6)) hx hb hts inB5 hown hK.1 hP 0 wm0 rfl 6 (by decide) (hts _ wd_557) (fun _ h9 => h9) rfl dX5_choicesOf_17 ?_
    refine lv_iconst (v := 4) (pc := 20) hx hb dX5_choicesOf_20 (by decide) ?_
    refine lv_iload_n (pc := 21) hx hb dX5_choicesOf_21 rfl (lv_at hl 1 rfl) ?_
    refine lv_imul (pc := 22) hx hb dX5_choicesOf_22 ?_
    refine lv_iconst (v := 1) (pc := 23) hx hb dX5_choicesOf_23 (by decide) ?_
    refine lv_iadd (pc := 24) hx hb dX5_choicesOf_24 ?_
    obtain ⟨hin, h⟩ := gd_some h
    refine r_ald (pc := 25) hx hb hK hP 6 wm6 hin dX5_choicesOf_25 ?_
    refine lv_iconst (v := 1) (pc := 26) hx hb dX5_choicesOf_26 (by decide) ?_
    refine lv_icmp_ne (tgt := 86) (pc := 27) hx hb dX5_choicesOf_27 (by decide) (fun hc => ?_) (fun hc => ?_)
    · have h := if_n hc h
      refine lv_iload_n (pc := 86) hx hb dX5_choicesOf_86 rfl (lv_at hl 2 rfl) ?_
      exact r_retS (pc := 87) C h dX5_choicesOf_87
    · have h := if_y hc h
      refine lv_iconst (v := 0) (pc := 30) hx hb dX5_choicesOf_30 (by decide) ?_
      refine lv_istore (lv' := [(4, .int 0), (0, .ref (a 0)), (1, .int x1), (2, .int x2), (3, .int x3)]) (pc := 31) hx hb dX5_choicesOf_31 hl (by decide) rfl (fun ls hl => ?_)
      exact t_X5_choicesOf_33 hI N C hP k11 hk11 h ls (lv_sub hl [1, 2, 3, 4, 0] rfl)
theorem t_X5_choicesOf_11 {rr : Int32} (hI : aI 18 a) (N : Nat) (C : bC D E RX5 cX5_choicesOf 5 (some .int) p s m args meth c) {S : St} (hP : va_P D vwCl (Wm E a S) s.heap) {n : Nat} {x1 : Int32} {x2 : Int32} {x3 : Int32} (h : lpI (F_X5_choicesOf_11 N S) n (x1, x2, x3) = some rr) : gR p l e (bRm 1 21) s m args below meth c 5 (qS below rr args s) 11 [(0, .ref (a 0)), (1, .int x1), (2, .int x2), (3, .int x3)] [] := by
  exact lpI_ind (P := fun v q => q = rr → gR p l e (bRm 1 21) s m args below meth c 5 (qS below rr args s) 11 [(0, .ref (a 0)), (1, .int v.1), (2, .int v.2.1), (3, .int v.2.2)] []) (fun k hk v q h9 hq => s_X5_choicesOf_11 hI N C hP k (fun x1 x2 x3 h8 => hk (x1, x2, x3) _ h8 rfl) (h9.trans (congrArg some hq))) n (x1, x2, x3) _ h rfl
def f_X5_choicesOf (N : Nat) (x1 : Int32) (S : St) : Option (Int32) :=
  gd (ix (4 * x1) 24) (bd (some (S 6 (Int32.toNatClampNeg (4 * x1)))) fun y1 => lpI (F_X5_choicesOf_11 N S) N (x1, y1, 0))
theorem t_X5_choicesOf_0 {rr : Int32} (hI : aI 18 a) (N : Nat) (C : bC D E RX5 cX5_choicesOf 5 (some .int) p s m args meth c) {S : St} (hP : va_P D vwCl (Wm E a S) s.heap) {x1 : Int32} (h : f_X5_choicesOf N x1 S = some rr) : gR p l e (bRm 1 21) s m args below meth c 5 (qS below rr args s) 0 [(0, .ref (a 0)), (1, .int x1)] [] := by
  obtain ⟨hx, hb, hml, hown, hts, hK, hr, hlocks⟩ := id C
  intro ls hl
  unfold f_X5_choicesOf at h
  refine lv_aload_n (pc := 0) hx hb dX5_choicesOf_0 rfl (lv_at hl 0 rfl) ?_
  refine va_get (pc := 1) (v := .ref (a 6)) hx hb hts inB5 hown hK.1 hP 0 wm0 rfl 6 (by decide) (hts _ wd_557) (fun _ h9 => h9) rfl dX5_choicesOf_1 ?_
  refine lv_iconst (v := 4) (pc := 4) hx hb dX5_choicesOf_4 (by decide) ?_
  refine lv_iload_n (pc := 5) hx hb dX5_choicesOf_5 rfl (lv_at hl 1 rfl) ?_
  refine lv_imul (pc := 6) hx hb dX5_choicesOf_6 ?_
  obtain ⟨hin, h⟩ := gd_some h
  refine r_ald (pc := 7) hx hb hK hP 6 wm6 hin dX5_choicesOf_7 ?_
  refine lv_topi (fun y1 ey1 => ?_)
  have h := bd_y ey1 h
  refine lv_istore_n (lv' := [(2, .int y1), (0, .ref (a 0)), (1, .int x1)]) (pc := 8) hx hb dX5_choicesOf_8 rfl hl (by decide) rfl (fun ls hl => ?_)
  refine lv_iconst (v := 0) (pc := 9) hx hb dX5_choicesOf_9 (by decide) ?_
  refine lv_istore_n (lv' := [(3, .int 0), (2, .int y1), (0, .ref (a 0)), (1, .int x1)]) (pc := 10) hx hb dX5_choicesOf_10 rfl hl (by decide) rfl (fun ls hl => ?_)
  exact t_X5_choicesOf_11 hI N C hP h ls (lv_sub hl [2, 3, 1, 0] rfl)
theorem c_X5_choicesOf {l : Launch} {D : va_G} {E : bE} {a : Nat → Nat} (hI : aI 18 a) (N : Nat) {rr : Int32} {S : St} {x1 : Int32} (h : f_X5_choicesOf N x1 S = some rr) : cR l D E yX5_choicesOf cX5_choicesOf 5 (some .int) 1 21 (Wm E a S) [.ref (a 0), .int x1] rr := cR_of (by decide) (Nat.le_of_ble_eq_true rfl) (fun p e s m args below meth c C hP => t_X5_choicesOf_0 hI N C hP h)
/-! X5_choices -/
def f_X5_choices (N : Nat) (x1 : Int32) (S : St) : Option (Int32) :=
  bd (f_X5_isPiece x1) fun r1 => if r1 = 0 then (some (-1)) else (bd (f_X5_choicesOf N x1 S) fun r2 => some r2)
theorem t_X5_choices_0 {rr : Int32} (hI : aI 18 a) (N : Nat) (C : bC D E RX5 cX5_choices 2 (some .int) p s m args meth c) {S : St} (hP : va_P D vwCl (Wm E a S) s.heap) {x1 : Int32} (h : f_X5_choices N x1 S = some rr) : gR p l e (bRm 2 45) s m args below meth c 2 (qS below rr args s) 0 [(0, .ref (a 0)), (1, .int x1)] [] := by
  obtain ⟨hx, hb, hml, hown, hts, hK, hr, hlocks⟩ := id C
  intro ls hl
  unfold f_X5_choices at h
  refine lv_iload_n (pc := 0) hx hb dX5_choices_0 rfl (lv_at hl 1 rfl) ?_
  obtain ⟨r1, hr1, h⟩ := bd_some h
  refine r_callS (pc := 1) C (c_X5_isPiece hr1) k_X5_isPiece wd_671 ⟨Nat.le_of_ble_eq_true rfl, Nat.le_of_ble_eq_true rfl⟩ rfl hl.1 rfl (Nat.le_of_ble_eq_true rfl) dX5_choices_1 ⟨Nat.zero_le _, Nat.zero_le _⟩ ?_
  refine lv_if_eq (tgt := 15) (pc := 4) hx hb dX5_choices_4 (by decide) (fun hc => ?_) (fun hc => ?_)
  · have h := if_y hc h
    refine lv_iconst (v := (-1)) (pc := 15) hx hb dX5_choices_15 (by decide) ?_
    exact r_retS (pc := 16) C h dX5_choices_16
  · have h := if_n hc h
    refine lv_aload_n (pc := 7) hx hb dX5_choices_7 rfl (lv_at hl 0 rfl) ?_
    refine lv_iload_n (pc := 8) hx hb dX5_choices_8 rfl (lv_at hl 1 rfl) ?_
    obtain ⟨r2, hr2, h⟩ := bd_some h
    refine r_callR (pc := 9) C hP (c_X5_choicesOf hI N hr2) k_X5_choicesOf wd_685 (q0 := 0) wm0 rfl rfl ⟨Nat.le_of_ble_eq_true rfl, Nat.le_of_ble_eq_true rfl⟩ rfl hl.1 rfl (Nat.le_of_ble_eq_true rfl) dX5_choices_9 ⟨Nat.zero_le _, Nat.zero_le _⟩ ?_
    refine lv_goto (tgt := 16) (pc := 12) hx hb dX5_choices_12 (by decide) ?_
    exact r_retS (pc := 16) C h dX5_choices_16
theorem c_X5_choices {l : Launch} {D : va_G} {E : bE} {a : Nat → Nat} (hI : aI 18 a) (N : Nat) {rr : Int32} {S : St} {x1 : Int32} (h : f_X5_choices N x1 S = some rr) : cR l D E yX5_choices cX5_choices 2 (some .int) 2 45 (Wm E a S) [.ref (a 0), .int x1] rr := cR_of (by decide) (Nat.le_of_ble_eq_true rfl) (fun p e s m args below meth c C hP => t_X5_choices_0 hI N C hP h)
/-! X5_whole -/
def f_X5_whole (x1 : Int32) (S : St) : Option (Int32 × St) :=
  bd (f_X5_isPiece x1) fun r1 => if r1 = 0 then (some ((-1), S)) else (bd (some (S 0 8)) fun y2 => bd (some (sto S 0 8 x1)) fun S1 => some (y2, S1))
theorem t_X5_whole_0 {rr : Int32} {SS : St} (hI : aI 18 a) (C : bC D E RX5 cX5_whole 3 (some .int) p s m args meth c) {x1 : Int32} {S : St} (h : f_X5_whole x1 S = some (rr, SS)) : gU D (Wm E a) (aA 18 a) p l e (bRm 2 42) s m args below meth c 3 (qU D below (aA 18 a) (Wm E a SS) rr args s) 0 [(0, .ref (a 0)), (1, .int x1)] [] S := by
  obtain ⟨hx, hb, hml, hown, hts, hK, hr, hlocks⟩ := id C
  intro H locs hP hS ls hl
  unfold f_X5_whole at h
  refine lv_iload_n (pc := 0) hx hb dX5_whole_0 rfl (lv_at hl 1 rfl) ?_
  obtain ⟨r1, hr1, h⟩ := bd_some h
  refine r_callS (pc := 1) C (c_X5_isPiece hr1) k_X5_isPiece wd_671 ⟨Nat.le_of_ble_eq_true rfl, Nat.le_of_ble_eq_true rfl⟩ rfl hl.1 rfl (Nat.le_of_ble_eq_true rfl) dX5_whole_1 ⟨Nat.zero_le _, Nat.zero_le _⟩ ?_
  refine lv_if_ne (tgt := 9) (pc := 4) hx hb dX5_whole_4 (by decide) (fun hc => ?_) (fun hc => ?_)
  · have h := if_n hc h
    refine lv_aload_n (pc := 9) hx hb dX5_whole_9 rfl (lv_at hl 0 rfl) ?_
    refine va_get (pc := 10) (v := .int (S 0 8)) hx hb hts inB5 hown hK.1 hP 0 wm0 rfl 8 (by decide) (hts _ wd_559) (fun _ h9 => h9) rfl dX5_whole_10 ?_
    refine lv_topi (fun y2 ey2 => ?_)
    have h := bd_y ey2 h
    refine lv_istore_n (lv' := [(2, .int y2), (0, .ref (a 0)), (1, .int x1)]) (pc := 13) hx hb dX5_whole_13 rfl hl (by decide) rfl (fun ls hl => ?_)
    refine lv_aload_n (pc := 14) hx hb dX5_whole_14 rfl (lv_at hl 1 rfl) ?_
    refine lv_iload_n (pc := 15) hx hb dX5_whole_15 rfl (lv_at hl 2 rfl) ?_
    refine r_put (pc := 16) (𝓦 := Wm E a) hx hb hts hown hK inB5 tyX5 tyX5_ok nmX5 hP (dM hI _) hS 0 wm0 rfl 8 (by decide) wd_559 rfl (by decide +kernel) (Nat.le_of_ble_eq_true rfl) (wm0p8 _) dX5_whole_16 (fun H locs S1 eS1 hP hS => ?_)
    have h := bd_y eS1 h
    refine lv_iload_n (pc := 19) hx hb dX5_whole_19 rfl (lv_at hl 0 rfl) ?_
    exact r_retU (pc := 20) (𝓦 := Wm E a) C h hP hS dX5_whole_20
  · have h := if_y hc h
    refine lv_iconst (v := (-1)) (pc := 7) hx hb dX5_whole_7 (by decide) ?_
    exact r_retU (pc := 8) (𝓦 := Wm E a) C h hP hS dX5_whole_8
theorem c_X5_whole {l : Launch} {D : va_G} {E : bE} {a : Nat → Nat} (hI : aI 18 a) {rr : Int32} {S : St} {SS : St} {x1 : Int32} (h : f_X5_whole x1 S = some (rr, SS)) : cU l D E yX5_whole cX5_whole 3 (some .int) 2 42 (aA 18 a) (Wm E a S) (Wm E a SS) [.ref (a 0), .int x1] rr := cU_of (by decide) (Nat.le_of_ble_eq_true rfl) (fun p e s m args below meth c C => t_X5_whole_0 hI C h)
/-! X5_coin -/
def f_X5_coin (x1 : Int32) (S : St) : Option (Int32 × St) :=
  bd (f_X5_in x1 0 99) fun r1 => if r1 = 0 then (some ((-2), S)) else (bd (some (S 0 9)) fun y2 => bd (some (sto S 0 9 x1)) fun S1 => some (y2, S1))
theorem t_X5_coin_0 {rr : Int32} {SS : St} (hI : aI 18 a) (C : bC D E RX5 cX5_coin 3 (some .int) p s m args meth c) {x1 : Int32} {S : St} (h : f_X5_coin x1 S = some (rr, SS)) : gU D (Wm E a) (aA 18 a) p l e (bRm 1 22) s m args below meth c 3 (qU D below (aA 18 a) (Wm E a SS) rr args s) 0 [(0, .ref (a 0)), (1, .int x1)] [] S := by
  obtain ⟨hx, hb, hml, hown, hts, hK, hr, hlocks⟩ := id C
  intro H locs hP hS ls hl
  unfold f_X5_coin at h
  refine lv_iload_n (pc := 0) hx hb dX5_coin_0 rfl (lv_at hl 1 rfl) ?_
  refine lv_iconst (v := 0) (pc := 1) hx hb dX5_coin_1 (by decide) ?_
  refine lv_bipush (v := 99) (pc := 2) hx hb dX5_coin_2 (by decide) ?_
  obtain ⟨r1, hr1, h⟩ := bd_some h
  refine r_callS (pc := 4) C (c_X5_in hr1) k_X5_in wd_634 ⟨Nat.le_of_ble_eq_true rfl, Nat.le_of_ble_eq_true rfl⟩ rfl hl.1 rfl (Nat.le_of_ble_eq_true rfl) dX5_coin_4 ⟨Nat.zero_le _, Nat.zero_le _⟩ ?_
  refine lv_if_ne (tgt := 13) (pc := 7) hx hb dX5_coin_7 (by decide) (fun hc => ?_) (fun hc => ?_)
  · have h := if_n hc h
    refine lv_aload_n (pc := 13) hx hb dX5_coin_13 rfl (lv_at hl 0 rfl) ?_
    refine va_get (pc := 14) (v := .int (S 0 9)) hx hb hts inB5 hown hK.1 hP 0 wm0 rfl 9 (by decide) (hts _ wd_560) (fun _ h9 => h9) rfl dX5_coin_14 ?_
    refine lv_topi (fun y2 ey2 => ?_)
    have h := bd_y ey2 h
    refine lv_istore_n (lv' := [(2, .int y2), (0, .ref (a 0)), (1, .int x1)]) (pc := 17) hx hb dX5_coin_17 rfl hl (by decide) rfl (fun ls hl => ?_)
    refine lv_aload_n (pc := 18) hx hb dX5_coin_18 rfl (lv_at hl 1 rfl) ?_
    refine lv_iload_n (pc := 19) hx hb dX5_coin_19 rfl (lv_at hl 2 rfl) ?_
    refine r_put (pc := 20) (𝓦 := Wm E a) hx hb hts hown hK inB5 tyX5 tyX5_ok nmX5 hP (dM hI _) hS 0 wm0 rfl 9 (by decide) wd_560 rfl (by decide +kernel) (Nat.le_of_ble_eq_true rfl) (wm0p9 _) dX5_coin_20 (fun H locs S1 eS1 hP hS => ?_)
    have h := bd_y eS1 h
    refine lv_iload_n (pc := 23) hx hb dX5_coin_23 rfl (lv_at hl 0 rfl) ?_
    exact r_retU (pc := 24) (𝓦 := Wm E a) C h hP hS dX5_coin_24
  · have h := if_y hc h
    refine lv_bipush (v := (-2)) (pc := 10) hx hb dX5_coin_10 (by decide) ?_
    exact r_retU (pc := 12) (𝓦 := Wm E a) C h hP hS dX5_coin_12
theorem c_X5_coin {l : Launch} {D : va_G} {E : bE} {a : Nat → Nat} (hI : aI 18 a) {rr : Int32} {S : St} {SS : St} {x1 : Int32} (h : f_X5_coin x1 S = some (rr, SS)) : cU l D E yX5_coin cX5_coin 3 (some .int) 1 22 (aA 18 a) (Wm E a S) (Wm E a SS) [.ref (a 0), .int x1] rr := cU_of (by decide) (Nat.le_of_ble_eq_true rfl) (fun p e s m args below meth c C => t_X5_coin_0 hI C h)
/-! X5_lay -/
def FB_X5_lay_98 (N : Nat) (k98 : Int32 × St → Option (St)) (x1 : Int32) (S : St) : Option (St) :=
  if 6 ≤ x1 then (bd (some (sto S 0 15 0)) fun S1 => some S1) else (bd (f_X5_choicesOf N x1 S) fun r1 => gd (ix x1 6) (bd (some (sto S 9 (Int32.toNatClampNeg x1) r1)) fun S2 => k98 ((x1 + 1), S2)))
def F_X5_lay_98 (N : Nat) (k98 : Int32 × St → Option (St)) (v : Int32 × St) : Option (St) := FB_X5_lay_98 N k98 v.1 v.2
theorem s_X5_lay_98 {SS : St} (hI : aI 18 a) (N : Nat) (C : bC D E RX5 cX5_lay 5 none p s m args meth c) (k98 : Int32 × St → Option (St)) (hk98 : ∀ (x1 : Int32) (S : St), k98 (x1, S) = some SS → gU D (Wm E a) (aA 18 a) p l e (bRm 2 45) s m args below meth c 5 (qV D below (aA 18 a) (Wm E a SS) args s) 98 [(0, .ref (a 0)), (1, .int x1)] [] S) {x1 : Int32} {S : St} (h : FB_X5_lay_98 N k98 x1 S = some SS) : gU D (Wm E a) (aA 18 a) p l e (bRm 2 45) s m args below meth c 5 (qV D below (aA 18 a) (Wm E a SS) args s) 98 [(0, .ref (a 0)), (1, .int x1)] [] S := by
  obtain ⟨hx, hb, hml, hown, hts, hK, hr, hlocks⟩ := id C
  intro H locs hP hS ls hl
  unfold FB_X5_lay_98 at h
  refine lv_iload_n (pc := 98) hx hb dX5_lay_98 rfl (lv_at hl 1 rfl) ?_
  refine lv_bipush (v := 6) (pc := 99) hx hb dX5_lay_99 (by decide) ?_
  refine lv_icmp_ge (tgt := 121) (pc := 101) hx hb dX5_lay_101 (by decide) (fun hc => ?_) (fun hc => ?_)
  · have h := if_y hc h
    refine lv_aload_n (pc := 121) hx hb dX5_lay_121 rfl (lv_at hl 0 rfl) ?_
    refine lv_iconst (v := 0) (pc := 122) hx hb dX5_lay_122 (by decide) ?_
    refine r_put (pc := 123) (𝓦 := Wm E a) hx hb hts hown hK inB5 tyX5 tyX5_ok nmX5 hP (dM hI _) hS 0 wm0 rfl 15 (by decide) wd_566 rfl (by decide +kernel) (Nat.le_of_ble_eq_true rfl) (wm0p15 _) dX5_lay_123 (fun H locs S1 eS1 hP hS => ?_)
    have h := bd_y eS1 h
    exact r_retV (pc := 126) (𝓦 := Wm E a) C h hP hS dX5_lay_126
  · have h := if_n hc h
    refine lv_aload_n (pc := 104) hx hb dX5_lay_104 rfl (lv_at hl 0 rfl) ?_
    refine va_get (pc := 105) (v := .ref (a 9)) hx hb hts inB5 hown hK.1 hP 0 wm0 rfl 14 (by decide) (hts _ wd_565) (fun _ h9 => h9) rfl dX5_lay_105 ?_
    refine lv_iload_n (pc := 108) hx hb dX5_lay_108 rfl (lv_at hl 1 rfl) ?_
    refine lv_aload_n (pc := 109) hx hb dX5_lay_109 rfl (lv_at hl 0 rfl) ?_
    refine lv_iload_n (pc := 110) hx hb dX5_lay_110 rfl (lv_at hl 1 rfl) ?_
    obtain ⟨r1, hr1, h⟩ := bd_some h
    refine r_callR (pc := 111) C hP (c_X5_choicesOf hI N hr1) k_X5_choicesOf wd_685 (q0 := 0) wm0 rfl rfl ⟨Nat.le_of_ble_eq_true rfl, Nat.le_of_ble_eq_true rfl⟩ rfl hl.1 rfl (Nat.le_of_ble_eq_true rfl) dX5_lay_111 ⟨Nat.zero_le _, Nat.zero_le _⟩ ?_
    obtain ⟨hin, h⟩ := gd_some h
    refine r_ast (pc := 114) (𝓦 := Wm E a) hx hb hK hP (dM hI _) hS 9 wm9 wm9s hin dX5_lay_114 (fun H locs S2 eS2 hP hS => ?_)
    have h := bd_y eS2 h
    refine lv_iinc (v := (x1 + 1)) (lv' := [(1, .int (x1 + 1)), (0, .ref (a 0))]) (pc := 115) hx hb dX5_lay_115 hl (k := 1) rfl (ii1 _) (by decide) rfl (fun ls hl => ?_)
    refine lv_goto (tgt := 98) (pc := 118) hx hb dX5_lay_118 (by decide) ?_
    exact hk98 _ _ h H locs hP hS ls (lv_sub hl [1, 0] rfl)
theorem t_X5_lay_98 {SS : St} (hI : aI 18 a) (N : Nat) (C : bC D E RX5 cX5_lay 5 none p s m args meth c) {n : Nat} {x1 : Int32} {S : St} (h : lpI (F_X5_lay_98 N) n (x1, S) = some SS) : gU D (Wm E a) (aA 18 a) p l e (bRm 2 45) s m args below meth c 5 (qV D below (aA 18 a) (Wm E a SS) args s) 98 [(0, .ref (a 0)), (1, .int x1)] [] S := by
  exact lpI_ind (P := fun v q => q = SS → gU D (Wm E a) (aA 18 a) p l e (bRm 2 45) s m args below meth c 5 (qV D below (aA 18 a) (Wm E a SS) args s) 98 [(0, .ref (a 0)), (1, .int v.1)] [] v.2) (fun k hk v q h9 hq => s_X5_lay_98 hI N C k (fun x1 S h8 => hk (x1, S) _ h8 rfl) (h9.trans (congrArg some hq))) n (x1, S) _ h rfl
def FB_X5_lay_26 (N : Nat) (k2 : Int32 × St → Option (St)) (k19 : Int32 × Int32 × Int32 × St → Option (St)) (k26 : Int32 × Int32 × Int32 × Int32 × St → Option (St)) (x1 : Int32) (x2 : Int32) (x3 : Int32) (x4 : Int32) (S : St) : Option (St) :=
  if x3 ≤ x4 then (k19 (x1, x2, (x3 + (-1)), S)) else (bd (f_X5_has x2 x3) fun r1 => if r1 = 0 then (k19 (x1, x2, (x3 + (-1)), S)) else (gd (ix ((6 * x3) + x4) 36) (bd (f_X5_in (S 7 (Int32.toNatClampNeg ((6 * x3) + x4))) 0 x1) fun r2 => if r2 = 0 then (bd (some (x2 ||| 0)) fun y3 => k26 (x1, y3, x3, (x4 + 1), S)) else (bd (some (x2 ||| (1 <<< (x4 &&& 31)))) fun y4 => k26 (x1, y4, x3, (x4 + 1), S)))))
def F_X5_lay_26 (N : Nat) (k2 : Int32 × St → Option (St)) (k19 : Int32 × Int32 × Int32 × St → Option (St)) (k26 : Int32 × Int32 × Int32 × Int32 × St → Option (St)) (v : Int32 × Int32 × Int32 × Int32 × St) : Option (St) := FB_X5_lay_26 N k2 k19 k26 v.1 v.2.1 v.2.2.1 v.2.2.2.1 v.2.2.2.2
theorem s_X5_lay_26 {SS : St} (hI : aI 18 a) (N : Nat) (C : bC D E RX5 cX5_lay 5 none p s m args meth c) (k2 : Int32 × St → Option (St)) (hk2 : ∀ (x1 : Int32) (S : St), k2 (x1, S) = some SS → gU D (Wm E a) (aA 18 a) p l e (bRm 2 45) s m args below meth c 5 (qV D below (aA 18 a) (Wm E a SS) args s) 2 [(0, .ref (a 0)), (1, .int x1)] [] S) (k19 : Int32 × Int32 × Int32 × St → Option (St)) (hk19 : ∀ (x1 : Int32) (x2 : Int32) (x3 : Int32) (S : St), k19 (x1, x2, x3, S) = some SS → gU D (Wm E a) (aA 18 a) p l e (bRm 2 45) s m args below meth c 5 (qV D below (aA 18 a) (Wm E a SS) args s) 19 [(0, .ref (a 0)), (1, .int x1), (2, .int x2), (3, .int x3)] [] S) (k26 : Int32 × Int32 × Int32 × Int32 × St → Option (St)) (hk26 : ∀ (x1 : Int32) (x2 : Int32) (x3 : Int32) (x4 : Int32) (S : St), k26 (x1, x2, x3, x4, S) = some SS → gU D (Wm E a) (aA 18 a) p l e (bRm 2 45) s m args below meth c 5 (qV D below (aA 18 a) (Wm E a SS) args s) 26 [(0, .ref (a 0)), (1, .int x1), (2, .int x2), (3, .int x3), (4, .int x4)] [] S) {x1 : Int32} {x2 : Int32} {x3 : Int32} {x4 : Int32} {S : St} (h : FB_X5_lay_26 N k2 k19 k26 x1 x2 x3 x4 S = some SS) : gU D (Wm E a) (aA 18 a) p l e (bRm 2 45) s m args below meth c 5 (qV D below (aA 18 a) (Wm E a SS) args s) 26 [(0, .ref (a 0)), (1, .int x1), (2, .int x2), (3, .int x3), (4, .int x4)] [] S := by
  obtain ⟨hx, hb, hml, hown, hts, hK, hr, hlocks⟩ := id C
  intro H locs hP hS ls hl
  unfold FB_X5_lay_26 at h
  refine lv_iload (pc := 26) hx hb dX5_lay_26 (lv_at hl 4 rfl) ?_
  refine lv_iload_n (pc := 28) hx hb dX5_lay_28 rfl (lv_at hl 3 rfl) ?_
  refine lv_icmp_ge (tgt := 77) (pc := 29) hx hb dX5_lay_29 (by decide) (fun hc => ?_) (fun hc => ?_)
  · have h := if_y hc h
    refine lv_iinc (v := (x3 + (-1))) (lv' := [(3, .int (x3 + (-1))), (0, .ref (a 0)), (1, .int x1), (2, .int x2), (4, .int x4)]) (pc := 77) hx hb dX5_lay_77 hl (k := 3) rfl (iim1 _) (by decide) rfl (fun ls hl => ?_)
    refine lv_goto (tgt := 19) (pc := 80) hx hb dX5_lay_80 (by decide) ?_
    exact hk19 _ _ _ _ h H locs hP hS ls (lv_sub hl [1, 2, 3, 0] rfl)
  · have h := if_n hc h
    refine lv_iload_n (pc := 32) hx hb dX5_lay_32 rfl (lv_at hl 2 rfl) ?_
    refine lv_iload_n (pc := 33) hx hb dX5_lay_33 rfl (lv_at hl 3 rfl) ?_
    obtain ⟨r1, hr1, h⟩ := bd_some h
    refine r_callS (pc := 34) C (c_X5_has hr1) k_X5_has wd_689 ⟨Nat.le_of_ble_eq_true rfl, Nat.le_of_ble_eq_true rfl⟩ rfl hl.1 rfl (Nat.le_of_ble_eq_true rfl) dX5_lay_34 ⟨Nat.zero_le _, Nat.zero_le _⟩ ?_
    refine lv_if_eq (tgt := 77) (pc := 37) hx hb dX5_lay_37 (by decide) (fun hc => ?_) (fun hc => ?_)
    · have h := if_y hc h
      refine lv_iinc (v := (x3 + (-1))) (lv' := [(3, .int (x3 + (-1))), (0, .ref (a 0)), (1, .int x1), (2, .int x2), (4, .int x4)]) (pc := 77) hx hb dX5_lay_77 hl (k := 3) rfl (iim1 _) (by decide) rfl (fun ls hl => ?_)
      refine lv_goto (tgt := 19) (pc := 80) hx hb dX5_lay_80 (by decide) ?_
      exact hk19 _ _ _ _ h H locs hP hS ls (lv_sub hl [1, 2, 3, 0] rfl)
    · have h := if_n hc h
      refine lv_iload_n (pc := 40) hx hb dX5_lay_40 rfl (lv_at hl 2 rfl) ?_
      refine lv_aload_n (pc := 41) hx hb dX5_lay_41 rfl (lv_at hl 0 rfl) ?_
      refine va_get (pc := 42) (v := .ref (a 7)) hx hb hts inB5 hown hK.1 hP 0 wm0 rfl 7 (by decide) (hts _ wd_558) (fun _ h9 => h9) rfl dX5_lay_42 ?_
      refine lv_bipush (v := 6) (pc := 45) hx hb dX5_lay_45 (by decide) ?_
      refine lv_iload_n (pc := 47) hx hb dX5_lay_47 rfl (lv_at hl 3 rfl) ?_
      refine lv_imul (pc := 48) hx hb dX5_lay_48 ?_
      refine lv_iload (pc := 49) hx hb dX5_lay_49 (lv_at hl 4 rfl) ?_
      refine lv_iadd (pc := 51) hx hb dX5_lay_51 ?_
      obtain ⟨hin, h⟩ := gd_some h
      refine r_ald (pc := 52) hx hb hK hP 7 wm7 hin dX5_lay_52 ?_
      refine lv_iconst (v := 0) (pc := 53) hx hb dX5_lay_53 (by decide) ?_
      refine lv_iload_n (pc := 54) hx hb dX5_lay_54 rfl (lv_at hl 1 rfl) ?_
      obtain ⟨r2, hr2, h⟩ := bd_some h
      refine r_callS (pc := 55) C (c_X5_in hr2) k_X5_in wd_634 ⟨Nat.le_of_ble_eq_true rfl, Nat.le_of_ble_eq_true rfl⟩ rfl hl.1 rfl (Nat.le_of_ble_eq_true rfl) dX5_lay_55 ⟨Nat.zero_le _, Nat.zero_le _⟩ ?_
      refine lv_if_eq (tgt := 68) (pc := 58) hx hb dX5_lay_58 (by decide) (fun hc => ?_) (fun hc => ?_)
      · have h := if_y hc h
        refine lv_iconst (v := 0) (pc := 68) hx hb dX5_lay_68 (by decide) ?_
        refine lv_ior (pc := 69) hx hb dX5_lay_69 ?_
        refine lv_topi (fun y3 ey3 => ?_)
        have h := bd_y ey3 h
        refine lv_istore_n (lv' := [(2, .int y3), (0, .ref (a 0)), (1, .int x1), (3, .int x3), (4, .int x4)]) (pc := 70) hx hb dX5_lay_70 rfl hl (by decide) rfl (fun ls hl => ?_)
        refine lv_iinc (v := (x4 + 1)) (lv' := [(4, .int (x4 + 1)), (2, .int y3), (0, .ref (a 0)), (1, .int x1), (3, .int x3)]) (pc := 71) hx hb dX5_lay_71 hl (k := 4) rfl (ii1 _) (by decide) rfl (fun ls hl => ?_)
        refine lv_goto (tgt := 26) (pc := 74) hx hb dX5_lay_74 (by decide) ?_
        exact hk26 _ _ _ _ _ h H locs hP hS ls (lv_sub hl [2, 3, 1, 4, 0] rfl)
      · have h := if_n hc h
        refine lv_iconst (v := 1) (pc := 61) hx hb dX5_lay_61 (by decide) ?_
        refine lv_iload (pc := 62) hx hb dX5_lay_62 (lv_at hl 4 rfl) ?_
        refine lv_ishl (pc := 64) hx hb dX5_lay_64 ?_
        refine lv_goto (tgt := 69) (pc := 65) hx hb dX5_lay_65 (by decide) ?_
        refine lv_ior (pc := 69) hx hb dX5_lay_69 ?_
        refine lv_topi (fun y4 ey4 => ?_)
        have h := bd_y ey4 h
        refine lv_istore_n (lv' := [(2, .int y4), (0, .ref (a 0)), (1, .int x1), (3, .int x3), (4, .int x4)]) (pc := 70) hx hb dX5_lay_70 rfl hl (by decide) rfl (fun ls hl => ?_)
        refine lv_iinc (v := (x4 + 1)) (lv' := [(4, .int (x4 + 1)), (2, .int y4), (0, .ref (a 0)), (1, .int x1), (3, .int x3)]) (pc := 71) hx hb dX5_lay_71 hl (k := 4) rfl (ii1 _) (by decide) rfl (fun ls hl => ?_)
        refine lv_goto (tgt := 26) (pc := 74) hx hb dX5_lay_74 (by decide) ?_
        exact hk26 _ _ _ _ _ h H locs hP hS ls (lv_sub hl [2, 3, 1, 4, 0] rfl)
theorem t_X5_lay_26 {SS : St} (hI : aI 18 a) (N : Nat) (C : bC D E RX5 cX5_lay 5 none p s m args meth c) (k2 : Int32 × St → Option (St)) (hk2 : ∀ (x1 : Int32) (S : St), k2 (x1, S) = some SS → gU D (Wm E a) (aA 18 a) p l e (bRm 2 45) s m args below meth c 5 (qV D below (aA 18 a) (Wm E a SS) args s) 2 [(0, .ref (a 0)), (1, .int x1)] [] S) (k19 : Int32 × Int32 × Int32 × St → Option (St)) (hk19 : ∀ (x1 : Int32) (x2 : Int32) (x3 : Int32) (S : St), k19 (x1, x2, x3, S) = some SS → gU D (Wm E a) (aA 18 a) p l e (bRm 2 45) s m args below meth c 5 (qV D below (aA 18 a) (Wm E a SS) args s) 19 [(0, .ref (a 0)), (1, .int x1), (2, .int x2), (3, .int x3)] [] S) {n : Nat} {x1 : Int32} {x2 : Int32} {x3 : Int32} {x4 : Int32} {S : St} (h : lpI (F_X5_lay_26 N k2 k19) n (x1, x2, x3, x4, S) = some SS) : gU D (Wm E a) (aA 18 a) p l e (bRm 2 45) s m args below meth c 5 (qV D below (aA 18 a) (Wm E a SS) args s) 26 [(0, .ref (a 0)), (1, .int x1), (2, .int x2), (3, .int x3), (4, .int x4)] [] S := by
  exact lpI_ind (P := fun v q => q = SS → gU D (Wm E a) (aA 18 a) p l e (bRm 2 45) s m args below meth c 5 (qV D below (aA 18 a) (Wm E a SS) args s) 26 [(0, .ref (a 0)), (1, .int v.1), (2, .int v.2.1), (3, .int v.2.2.1), (4, .int v.2.2.2.1)] [] v.2.2.2.2) (fun k hk v q h9 hq => s_X5_lay_26 hI N C k2 hk2 k19 hk19 k (fun x1 x2 x3 x4 S h8 => hk (x1, x2, x3, x4, S) _ h8 rfl) (h9.trans (congrArg some hq))) n (x1, x2, x3, x4, S) _ h rfl
def FB_X5_lay_19 (N : Nat) (k2 : Int32 × St → Option (St)) (k19 : Int32 × Int32 × Int32 × St → Option (St)) (x1 : Int32) (x2 : Int32) (x3 : Int32) (S : St) : Option (St) :=
  if x3 ≤ 0 then (gd (ix x1 4) (bd (some (sto S 8 (Int32.toNatClampNeg x1) x2)) fun S1 => k2 ((x1 + 1), S1))) else (lpI (F_X5_lay_26 N k2 k19) N (x1, x2, x3, 0, S))
def F_X5_lay_19 (N : Nat) (k2 : Int32 × St → Option (St)) (k19 : Int32 × Int32 × Int32 × St → Option (St)) (v : Int32 × Int32 × Int32 × St) : Option (St) := FB_X5_lay_19 N k2 k19 v.1 v.2.1 v.2.2.1 v.2.2.2
theorem s_X5_lay_19 {SS : St} (hI : aI 18 a) (N : Nat) (C : bC D E RX5 cX5_lay 5 none p s m args meth c) (k2 : Int32 × St → Option (St)) (hk2 : ∀ (x1 : Int32) (S : St), k2 (x1, S) = some SS → gU D (Wm E a) (aA 18 a) p l e (bRm 2 45) s m args below meth c 5 (qV D below (aA 18 a) (Wm E a SS) args s) 2 [(0, .ref (a 0)), (1, .int x1)] [] S) (k19 : Int32 × Int32 × Int32 × St → Option (St)) (hk19 : ∀ (x1 : Int32) (x2 : Int32) (x3 : Int32) (S : St), k19 (x1, x2, x3, S) = some SS → gU D (Wm E a) (aA 18 a) p l e (bRm 2 45) s m args below meth c 5 (qV D below (aA 18 a) (Wm E a SS) args s) 19 [(0, .ref (a 0)), (1, .int x1), (2, .int x2), (3, .int x3)] [] S) {x1 : Int32} {x2 : Int32} {x3 : Int32} {S : St} (h : FB_X5_lay_19 N k2 k19 x1 x2 x3 S = some SS) : gU D (Wm E a) (aA 18 a) p l e (bRm 2 45) s m args below meth c 5 (qV D below (aA 18 a) (Wm E a SS) args s) 19 [(0, .ref (a 0)), (1, .int x1), (2, .int x2), (3, .int x3)] [] S := by
  obtain ⟨hx, hb, hml, hown, hts, hK, hr, hlocks⟩ := id C
  intro H locs hP hS ls hl
  unfold FB_X5_lay_19 at h
  refine lv_iload_n (pc := 19) hx hb dX5_lay_19 rfl (lv_at hl 3 rfl) ?_
  refine lv_if_le (tgt := 83) (pc := 20) hx hb dX5_lay_20 (by decide) (fun hc => ?_) (fun hc => ?_)
  · have h := if_y hc h
    refine lv_aload_n (pc := 83) hx hb dX5_lay_83 rfl (lv_at hl 0 rfl) ?_
    refine va_get (pc := 84) (v := .ref (a 8)) hx hb hts inB5 hown hK.1 hP 0 wm0 rfl 13 (by decide) (hts _ wd_564) (fun _ h9 => h9) rfl dX5_lay_84 ?_
    refine lv_iload_n (pc := 87) hx hb dX5_lay_87 rfl (lv_at hl 1 rfl) ?_
    refine lv_iload_n (pc := 88) hx hb dX5_lay_88 rfl (lv_at hl 2 rfl) ?_
    obtain ⟨hin, h⟩ := gd_some h
    refine r_ast (pc := 89) (𝓦 := Wm E a) hx hb hK hP (dM hI _) hS 8 wm8 wm8s hin dX5_lay_89 (fun H locs S1 eS1 hP hS => ?_)
    have h := bd_y eS1 h
    refine lv_iinc (v := (x1 + 1)) (lv' := [(1, .int (x1 + 1)), (0, .ref (a 0)), (2, .int x2), (3, .int x3)]) (pc := 90) hx hb dX5_lay_90 hl (k := 1) rfl (ii1 _) (by decide) rfl (fun ls hl => ?_)
    refine lv_goto (tgt := 2) (pc := 93) hx hb dX5_lay_93 (by decide) ?_
    exact hk2 _ _ h H locs hP hS ls (lv_sub hl [1, 0] rfl)
  · have h := if_n hc h
    refine lv_iconst (v := 0) (pc := 23) hx hb dX5_lay_23 (by decide) ?_
    refine lv_istore (lv' := [(4, .int 0), (0, .ref (a 0)), (1, .int x1), (2, .int x2), (3, .int x3)]) (pc := 24) hx hb dX5_lay_24 hl (by decide) rfl (fun ls hl => ?_)
    exact t_X5_lay_26 hI N C k2 hk2 k19 hk19 h H locs hP hS ls (lv_sub hl [1, 2, 3, 4, 0] rfl)
theorem t_X5_lay_19 {SS : St} (hI : aI 18 a) (N : Nat) (C : bC D E RX5 cX5_lay 5 none p s m args meth c) (k2 : Int32 × St → Option (St)) (hk2 : ∀ (x1 : Int32) (S : St), k2 (x1, S) = some SS → gU D (Wm E a) (aA 18 a) p l e (bRm 2 45) s m args below meth c 5 (qV D below (aA 18 a) (Wm E a SS) args s) 2 [(0, .ref (a 0)), (1, .int x1)] [] S) {n : Nat} {x1 : Int32} {x2 : Int32} {x3 : Int32} {S : St} (h : lpI (F_X5_lay_19 N k2) n (x1, x2, x3, S) = some SS) : gU D (Wm E a) (aA 18 a) p l e (bRm 2 45) s m args below meth c 5 (qV D below (aA 18 a) (Wm E a SS) args s) 19 [(0, .ref (a 0)), (1, .int x1), (2, .int x2), (3, .int x3)] [] S := by
  exact lpI_ind (P := fun v q => q = SS → gU D (Wm E a) (aA 18 a) p l e (bRm 2 45) s m args below meth c 5 (qV D below (aA 18 a) (Wm E a SS) args s) 19 [(0, .ref (a 0)), (1, .int v.1), (2, .int v.2.1), (3, .int v.2.2.1)] [] v.2.2.2) (fun k hk v q h9 hq => s_X5_lay_19 hI N C k2 hk2 k (fun x1 x2 x3 S h8 => hk (x1, x2, x3, S) _ h8 rfl) (h9.trans (congrArg some hq))) n (x1, x2, x3, S) _ h rfl
def FB_X5_lay_2 (N : Nat) (k2 : Int32 × St → Option (St)) (x1 : Int32) (S : St) : Option (St) :=
  if 4 ≤ x1 then (lpI (F_X5_lay_98 N) N (0, S)) else (bd (some (1 <<< ((S 0 8) &&& 31))) fun y1 => bd (some (S 0 8)) fun y2 => lpI (F_X5_lay_19 N k2) N (x1, y1, y2, S))
def F_X5_lay_2 (N : Nat) (k2 : Int32 × St → Option (St)) (v : Int32 × St) : Option (St) := FB_X5_lay_2 N k2 v.1 v.2
theorem s_X5_lay_2 {SS : St} (hI : aI 18 a) (N : Nat) (C : bC D E RX5 cX5_lay 5 none p s m args meth c) (k2 : Int32 × St → Option (St)) (hk2 : ∀ (x1 : Int32) (S : St), k2 (x1, S) = some SS → gU D (Wm E a) (aA 18 a) p l e (bRm 2 45) s m args below meth c 5 (qV D below (aA 18 a) (Wm E a SS) args s) 2 [(0, .ref (a 0)), (1, .int x1)] [] S) {x1 : Int32} {S : St} (h : FB_X5_lay_2 N k2 x1 S = some SS) : gU D (Wm E a) (aA 18 a) p l e (bRm 2 45) s m args below meth c 5 (qV D below (aA 18 a) (Wm E a SS) args s) 2 [(0, .ref (a 0)), (1, .int x1)] [] S := by
  obtain ⟨hx, hb, hml, hown, hts, hK, hr, hlocks⟩ := id C
  intro H locs hP hS ls hl
  unfold FB_X5_lay_2 at h
  refine lv_iload_n (pc := 2) hx hb dX5_lay_2 rfl (lv_at hl 1 rfl) ?_
  refine lv_iconst (v := 4) (pc := 3) hx hb dX5_lay_3 (by decide) ?_
  refine lv_icmp_ge (tgt := 96) (pc := 4) hx hb dX5_lay_4 (by decide) (fun hc => ?_) (fun hc => ?_)
  · have h := if_y hc h
    refine lv_iconst (v := 0) (pc := 96) hx hb dX5_lay_96 (by decide) ?_
    refine lv_istore_n (lv' := [(1, .int 0), (0, .ref (a 0))]) (pc := 97) hx hb dX5_lay_97 rfl hl (by decide) rfl (fun ls hl => ?_)
    exact t_X5_lay_98 hI N C h H locs hP hS ls (lv_sub hl [1, 0] rfl)
  · have h := if_n hc h
    refine lv_iconst (v := 1) (pc := 7) hx hb dX5_lay_7 (by decide) ?_
    refine lv_aload_n (pc := 8) hx hb dX5_lay_8 rfl (lv_at hl 0 rfl) ?_
    refine va_get (pc := 9) (v := .int (S 0 8)) hx hb hts inB5 hown hK.1 hP 0 wm0 rfl 8 (by decide) (hts _ wd_559) (fun _ h9 => h9) rfl dX5_lay_9 ?_
    refine lv_ishl (pc := 12) hx hb dX5_lay_12 ?_
    refine lv_topi (fun y1 ey1 => ?_)
    have h := bd_y ey1 h
    refine lv_istore_n (lv' := [(2, .int y1), (0, .ref (a 0)), (1, .int x1)]) (pc := 13) hx hb dX5_lay_13 rfl hl (by decide) rfl (fun ls hl => ?_)
    refine lv_aload_n (pc := 14) hx hb dX5_lay_14 rfl (lv_at hl 1 rfl) ?_
    refine va_get (pc := 15) (v := .int (S 0 8)) hx hb hts inB5 hown hK.1 hP 0 wm0 rfl 8 (by decide) (hts _ wd_559) (fun _ h9 => h9) rfl dX5_lay_15 ?_
    refine lv_topi (fun y2 ey2 => ?_)
    have h := bd_y ey2 h
    refine lv_istore_n (lv' := [(3, .int y2), (2, .int y1), (0, .ref (a 0)), (1, .int x1)]) (pc := 18) hx hb dX5_lay_18 rfl hl (by decide) rfl (fun ls hl => ?_)
    exact t_X5_lay_19 hI N C k2 hk2 h H locs hP hS ls (lv_sub hl [2, 3, 1, 0] rfl)
theorem t_X5_lay_2 {SS : St} (hI : aI 18 a) (N : Nat) (C : bC D E RX5 cX5_lay 5 none p s m args meth c) {n : Nat} {x1 : Int32} {S : St} (h : lpI (F_X5_lay_2 N) n (x1, S) = some SS) : gU D (Wm E a) (aA 18 a) p l e (bRm 2 45) s m args below meth c 5 (qV D below (aA 18 a) (Wm E a SS) args s) 2 [(0, .ref (a 0)), (1, .int x1)] [] S := by
  exact lpI_ind (P := fun v q => q = SS → gU D (Wm E a) (aA 18 a) p l e (bRm 2 45) s m args below meth c 5 (qV D below (aA 18 a) (Wm E a SS) args s) 2 [(0, .ref (a 0)), (1, .int v.1)] [] v.2) (fun k hk v q h9 hq => s_X5_lay_2 hI N C k (fun x1 S h8 => hk (x1, S) _ h8 rfl) (h9.trans (congrArg some hq))) n (x1, S) _ h rfl
def f_X5_lay (N : Nat) (S : St) : Option (St) :=
  lpI (F_X5_lay_2 N) N (0, S)
theorem t_X5_lay_0 {SS : St} (hI : aI 18 a) (N : Nat) (C : bC D E RX5 cX5_lay 5 none p s m args meth c) {S : St} (h : f_X5_lay N S = some SS) : gU D (Wm E a) (aA 18 a) p l e (bRm 2 45) s m args below meth c 5 (qV D below (aA 18 a) (Wm E a SS) args s) 0 [(0, .ref (a 0))] [] S := by
  obtain ⟨hx, hb, hml, hown, hts, hK, hr, hlocks⟩ := id C
  intro H locs hP hS ls hl
  unfold f_X5_lay at h
  refine lv_iconst (v := 0) (pc := 0) hx hb dX5_lay_0 (by decide) ?_
  refine lv_istore_n (lv' := [(1, .int 0), (0, .ref (a 0))]) (pc := 1) hx hb dX5_lay_1 rfl hl (by decide) rfl (fun ls hl => ?_)
  exact t_X5_lay_2 hI N C h H locs hP hS ls (lv_sub hl [1, 0] rfl)
theorem c_X5_lay {l : Launch} {D : va_G} {E : bE} {a : Nat → Nat} (hI : aI 18 a) (N : Nat) {S : St} {SS : St} (h : f_X5_lay N S = some SS) : cV l D E yX5_lay cX5_lay 5 2 45 (aA 18 a) (Wm E a S) (Wm E a SS) [.ref (a 0)] := cV_of (by decide) (Nat.le_of_ble_eq_true rfl) (fun p e s m args below meth c C => t_X5_lay_0 hI N C h)
