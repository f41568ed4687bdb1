variable {p : Program} {l : Launch} {e : Env} {s : State} {m : MethodId} {args : Array Value} {below : List Frame} {meth : Method} {c : Code} {D : va_G} {E : bE} {a : Nat → Nat}
/-! X4_isCheaper -/
def f_X4_isCheaper (N : Nat) (x1 : Int32) (x2 : Int32) (S : St) : Option (Int32) :=
  bd (f_X4_costOf N x1 S) fun r1 => bd (f_X4_costOf N x2 S) fun r2 => if r1 = r2 then (bd (f_J6_bitCount_0f7a4 x1) fun r3 => bd (f_J6_bitCount_0f7a4 x2) fun r4 => if r4 ≤ r3 then (some 0) else (some 1)) else (if r2 ≤ r1 then (some 0) else (some 1))
theorem t_X4_isCheaper_0 {rr : Int32} (hI : aI 49 a) (N : Nat) (C : bC D E RX4 cX4_isCheaper 5 (some .boolean) p s m args meth c) {S : St} (hP : va_P D vwCl (Wu E a S) s.heap) {x1 : Int32} {x2 : Int32} (h : f_X4_isCheaper N x1 x2 S = some rr) : gR p l e (bRm 2 44) s m args below meth c 5 (qS below rr args s) 0 [(0, .ref (a 0)), (1, .int x1), (2, .int x2)] [] := by
  obtain ⟨hx, hb, hml, hown, hts, hK, hr, hlocks⟩ := id C
  intro ls hl
  unfold f_X4_isCheaper at h
  refine lv_aload_n (pc := 0) hx hb dX4_isCheaper_0 rfl (lv_at hl 0 rfl) ?_
  refine lv_iload_n (pc := 1) hx hb dX4_isCheaper_1 rfl (lv_at hl 1 rfl) ?_
  obtain ⟨r1, hr1, h⟩ := bd_some h
  refine r_callR (pc := 2) C hP (c_X4_costOf hI N hr1) k_X4_costOf wd_461 (q0 := 0) wu0 rfl rfl ⟨Nat.le_of_ble_eq_true rfl, Nat.le_of_ble_eq_true rfl⟩ rfl hl.1 rfl (Nat.le_of_ble_eq_true rfl) dX4_isCheaper_2 ⟨Nat.zero_le _, Nat.zero_le _⟩ ?_
  refine lv_istore_n (lv' := [(3, .int r1), (0, .ref (a 0)), (1, .int x1), (2, .int x2)]) (pc := 5) hx hb dX4_isCheaper_5 rfl hl (by decide) rfl (fun ls hl => ?_)
  refine lv_aload_n (pc := 6) hx hb dX4_isCheaper_6 rfl (lv_at hl 1 rfl) ?_
  refine lv_iload_n (pc := 7) hx hb dX4_isCheaper_7 rfl (lv_at hl 3 rfl) ?_
  obtain ⟨r2, hr2, h⟩ := bd_some h
  refine r_callR (pc := 8) C hP (c_X4_costOf hI N hr2) k_X4_costOf wd_461 (q0 := 0) wu0 rfl rfl ⟨Nat.le_of_ble_eq_true rfl, Nat.le_of_ble_eq_true rfl⟩ rfl hl.1 rfl (Nat.le_of_ble_eq_true rfl) dX4_isCheaper_8 ⟨Nat.zero_le _, Nat.zero_le _⟩ ?_
  refine lv_istore (lv' := [(4, .int r2), (3, .int r1), (0, .ref (a 0)), (1, .int x1), (2, .int x2)]) (pc := 11) hx hb dX4_isCheaper_11 hl (by decide) rfl (fun ls hl => ?_)
  refine lv_iload_n (pc := 13) hx hb dX4_isCheaper_13 rfl (lv_at hl 1 rfl) ?_
  refine lv_iload (pc := 14) hx hb dX4_isCheaper_14 (lv_at hl 0 rfl) ?_
  refine lv_icmp_eq (tgt := 31) (pc := 16) hx hb dX4_isCheaper_16 (by decide) (fun hc => ?_) (fun hc => ?_)
  · have h := if_y hc h
    refine lv_iload_n (pc := 31) hx hb dX4_isCheaper_31 rfl (lv_at hl 3 rfl) ?_
    obtain ⟨r3, hr3, h⟩ := bd_some h
    refine r_callS (pc := 32) C (c_J6_bitCount_0f7a4 hr3) k_J6_bitCount_0f7a4 wd_447 ⟨Nat.le_of_ble_eq_true rfl, Nat.le_of_ble_eq_true rfl⟩ rfl hl.1 rfl (Nat.le_of_ble_eq_true rfl) dX4_isCheaper_32 ⟨Nat.zero_le _, Nat.zero_le _⟩ ?_
    refine lv_iload_n (pc := 35) hx hb dX4_isCheaper_35 rfl (lv_at hl 4 rfl) ?_
    obtain ⟨r4, hr4, h⟩ := bd_some h
    refine r_callS (pc := 36) C (c_J6_bitCount_0f7a4 hr4) k_J6_bitCount_0f7a4 wd_447 ⟨Nat.le_of_ble_eq_true rfl, Nat.le_of_ble_eq_true rfl⟩ rfl hl.1 rfl (Nat.le_of_ble_eq_true rfl) dX4_isCheaper_36 ⟨Nat.zero_le _, Nat.zero_le _⟩ ?_
    refine lv_icmp_ge (tgt := 46) (pc := 39) hx hb dX4_isCheaper_39 (by decide) (fun hc => ?_) (fun hc => ?_)
    · have h := if_y hc h
      refine lv_iconst (v := 0) (pc := 46) hx hb dX4_isCheaper_46 (by decide) ?_
      exact r_retZ (pc := 47) C (gd_lit (by decide) h) dX4_isCheaper_47
    · have h := if_n hc h
      refine lv_iconst (v := 1) (pc := 42) hx hb dX4_isCheaper_42 (by decide) ?_
      refine lv_goto (tgt := 47) (pc := 43) hx hb dX4_isCheaper_43 (by decide) ?_
      exact r_retZ (pc := 47) C (gd_lit (by decide) h) dX4_isCheaper_47
  · have h := if_n hc h
    refine lv_iload_n (pc := 19) hx hb dX4_isCheaper_19 rfl (lv_at hl 1 rfl) ?_
    refine lv_iload (pc := 20) hx hb dX4_isCheaper_20 (lv_at hl 0 rfl) ?_
    refine lv_icmp_ge (tgt := 29) (pc := 22) hx hb dX4_isCheaper_22 (by decide) (fun hc => ?_) (fun hc => ?_)
    · have h := if_y hc h
      refine lv_iconst (v := 0) (pc := 29) hx hb dX4_isCheaper_29 (by decide) ?_
      exact r_retZ (pc := 30) C (gd_lit (by decide) h) dX4_isCheaper_30
    · have h := if_n hc h
      refine lv_iconst (v := 1) (pc := 25) hx hb dX4_isCheaper_25 (by decide) ?_
      refine lv_goto (tgt := 30) (pc := 26) hx hb dX4_isCheaper_26 (by decide) ?_
      exact r_retZ (pc := 30) C (gd_lit (by decide) h) dX4_isCheaper_30
theorem c_X4_isCheaper {l : Launch} {D : va_G} {E : bE} {a : Nat → Nat} (hI : aI 49 a) (N : Nat) {rr : Int32} {S : St} {x1 : Int32} {x2 : Int32} (h : f_X4_isCheaper N x1 x2 S = some rr) : cR l D E yX4_isCheaper cX4_isCheaper 5 (some .boolean) 2 44 (Wu E a S) [.ref (a 0), .int x1, .int x2] rr := cR_of (by decide) (Nat.le_of_ble_eq_true rfl) (fun p e s m args below meth c C hP => t_X4_isCheaper_0 hI N C hP h)
/-! X4_cheapestAnew -/
def FB_X4_cheapestAnew_10 (N : Nat) (k10 : Int32 × Int32 × St → Option (Int32 × St)) (x1 : Int32) (x2 : Int32) (S : St) : Option (Int32 × St) :=
  if 63 < x2 then (some (x1, S)) else (bd (f_X4_isPartOf x2 (S 3 5)) fun r1 => if r1 = 0 then (k10 (x1, (x2 + 1), S)) else (bd (f_X4_isCheaper N x2 x1 S) fun r2 => if r2 = 0 then (k10 (x1, (x2 + 1), S)) else (bd2 (f_X3_someGoodWith N ((S 3 5) &&& (x2 ^^^ (-1))) S) fun r3 S1 => if r3 = 0 then (k10 (x1, (x2 + 1), S1)) else (k10 (x2, (x2 + 1), S1)))))
def F_X4_cheapestAnew_10 (N : Nat) (k10 : Int32 × Int32 × St → Option (Int32 × St)) (v : Int32 × Int32 × St) : Option (Int32 × St) := FB_X4_cheapestAnew_10 N k10 v.1 v.2.1 v.2.2
theorem s_X4_cheapestAnew_10 {rr : Int32} {SS : St} (hI : aI 49 a) (N : Nat) (C : bC D E RX4 cX4_cheapestAnew 3 (some .int) p s m args meth c) (k10 : Int32 × Int32 × St → Option (Int32 × St)) (hk10 : ∀ (x1 : Int32) (x2 : Int32) (S : St), k10 (x1, x2, S) = some (rr, SS) → gU D (Wu E a) (aA 49 a) p l e (bRm 5 112) s m args below meth c 3 (qU D below (aA 49 a) (Wu E a SS) rr args s) 10 [(0, .ref (a 0)), (1, .int x1), (2, .int x2)] [] S) {x1 : Int32} {x2 : Int32} {S : St} (h : FB_X4_cheapestAnew_10 N k10 x1 x2 S = some (rr, SS)) : gU D (Wu E a) (aA 49 a) p l e (bRm 5 112) s m args below meth c 3 (qU D below (aA 49 a) (Wu E a SS) rr args s) 10 [(0, .ref (a 0)), (1, .int x1), (2, .int x2)] [] S := by
  obtain ⟨hx, hb, hml, hown, hts, hK, hr, hlocks⟩ := id C
  intro H locs hP hS ls hl
  unfold FB_X4_cheapestAnew_10 at h
  refine lv_iload_n (pc := 10) hx hb dX4_cheapestAnew_10 rfl (lv_at hl 2 rfl) ?_
  refine lv_bipush (v := 63) (pc := 11) hx hb dX4_cheapestAnew_11 (by decide) ?_
  refine lv_icmp_gt (tgt := 68) (pc := 13) hx hb dX4_cheapestAnew_13 (by decide) (fun hc => ?_) (fun hc => ?_)
  · have h := if_y hc h
    refine lv_iload_n (pc := 68) hx hb dX4_cheapestAnew_68 rfl (lv_at hl 1 rfl) ?_
    exact r_retU (pc := 69) (𝓦 := Wu E a) C h hP hS dX4_cheapestAnew_69
  · have h := if_n hc h
    refine lv_iload_n (pc := 16) hx hb dX4_cheapestAnew_16 rfl (lv_at hl 2 rfl) ?_
    refine lv_aload_n (pc := 17) hx hb dX4_cheapestAnew_17 rfl (lv_at hl 0 rfl) ?_
    refine va_get (pc := 18) (v := .ref (a 3)) hx hb hts inB4 hown hK.1 hP 0 wu0 rfl 1 (by decide) (hts _ wd_218) (fun _ h9 => h9) rfl dX4_cheapestAnew_18 ?_
    refine va_get (pc := 21) (v := .int (S 3 5)) hx hb hts inB3 hown hK.1 hP 3 wu3 rfl 5 (by decide) (hts _ wd_157) (fun _ h9 => h9) rfl dX4_cheapestAnew_21 ?_
    obtain ⟨r1, hr1, h⟩ := bd_some h
    refine r_callS (pc := 24) C (c_X4_isPartOf hr1) k_X4_isPartOf wd_448 ⟨Nat.le_of_ble_eq_true rfl, Nat.le_of_ble_eq_true rfl⟩ rfl hl.1 rfl (Nat.le_of_ble_eq_true rfl) dX4_cheapestAnew_24 ⟨Nat.zero_le _, Nat.zero_le _⟩ ?_
    refine lv_if_eq (tgt := 62) (pc := 27) hx hb dX4_cheapestAnew_27 (by decide) (fun hc => ?_) (fun hc => ?_)
    · have h := if_y hc h
      refine lv_iinc (v := (x2 + 1)) (lv' := [(2, .int (x2 + 1)), (0, .ref (a 0)), (1, .int x1)]) (pc := 62) hx hb dX4_cheapestAnew_62 hl (k := 2) rfl (ii1 _) (by decide) rfl (fun ls hl => ?_)
      refine lv_goto (tgt := 10) (pc := 65) hx hb dX4_cheapestAnew_65 (by decide) ?_
      exact hk10 _ _ _ h H locs hP hS ls (lv_sub hl [1, 2, 0] rfl)
    · have h := if_n hc h
      refine lv_aload_n (pc := 30) hx hb dX4_cheapestAnew_30 rfl (lv_at hl 0 rfl) ?_
      refine lv_iload_n (pc := 31) hx hb dX4_cheapestAnew_31 rfl (lv_at hl 2 rfl) ?_
      refine lv_iload_n (pc := 32) hx hb dX4_cheapestAnew_32 rfl (lv_at hl 1 rfl) ?_
      obtain ⟨r2, hr2, h⟩ := bd_some h
      refine r_callR (pc := 33) C hP (c_X4_isCheaper hI N hr2) k_X4_isCheaper wd_457 (q0 := 0) wu0 rfl rfl ⟨Nat.le_of_ble_eq_true rfl, Nat.le_of_ble_eq_true rfl⟩ rfl hl.1 rfl (Nat.le_of_ble_eq_true rfl) dX4_cheapestAnew_33 ⟨Nat.zero_le _, Nat.zero_le _⟩ ?_
      refine lv_if_eq (tgt := 62) (pc := 36) hx hb dX4_cheapestAnew_36 (by decide) (fun hc => ?_) (fun hc => ?_)
      · have h := if_y hc h
        refine lv_iinc (v := (x2 + 1)) (lv' := [(2, .int (x2 + 1)), (0, .ref (a 0)), (1, .int x1)]) (pc := 62) hx hb dX4_cheapestAnew_62 hl (k := 2) rfl (ii1 _) (by decide) rfl (fun ls hl => ?_)
        refine lv_goto (tgt := 10) (pc := 65) hx hb dX4_cheapestAnew_65 (by decide) ?_
        exact hk10 _ _ _ h H locs hP hS ls (lv_sub hl [1, 2, 0] rfl)
      · have h := if_n hc h
        refine lv_aload_n (pc := 39) hx hb dX4_cheapestAnew_39 rfl (lv_at hl 0 rfl) ?_
        refine va_get (pc := 40) (v := .ref (a 3)) hx hb hts inB4 hown hK.1 hP 0 wu0 rfl 1 (by decide) (hts _ wd_218) (fun _ h9 => h9) rfl dX4_cheapestAnew_40 ?_
        refine lv_aload_n (pc := 43) hx hb dX4_cheapestAnew_43 rfl (lv_at hl 0 rfl) ?_
        refine va_get (pc := 44) (v := .ref (a 3)) hx hb hts inB4 hown hK.1 hP 0 wu0 rfl 1 (by decide) (hts _ wd_218) (fun _ h9 => h9) rfl dX4_cheapestAnew_44 ?_
        refine va_get (pc := 47) (v := .int (S 3 5)) hx hb hts inB3 hown hK.1 hP 3 wu3 rfl 5 (by decide) (hts _ wd_157) (fun _ h9 => h9) rfl dX4_cheapestAnew_47 ?_
        refine lv_iload_n (pc := 50) hx hb dX4_cheapestAnew_50 rfl (lv_at hl 2 rfl) ?_
        refine lv_iconst (v := (-1)) (pc := 51) hx hb dX4_cheapestAnew_51 (by decide) ?_
        refine lv_ixor (pc := 52) hx hb dX4_cheapestAnew_52 ?_
        refine lv_iand (pc := 53) hx hb dX4_cheapestAnew_53 ?_
        obtain ⟨r3, S1, hr3, h⟩ := bd2_some h
        refine r_callU (pc := 54) C hP hS (c_X3_someGoodWith hI N hr3) k_X3_someGoodWith wd_439 (q0 := 3) wu3 rfl rfl ⟨Nat.le_of_ble_eq_true rfl, Nat.le_of_ble_eq_true rfl⟩ rfl hl.1 rfl (Nat.le_of_ble_eq_true rfl) dX4_cheapestAnew_54 ⟨Nat.zero_le _, Nat.zero_le _⟩ (fun H locs hP hS => ?_)
        refine lv_if_eq (tgt := 62) (pc := 57) hx hb dX4_cheapestAnew_57 (by decide) (fun hc => ?_) (fun hc => ?_)
        · have h := if_y hc h
          refine lv_iinc (v := (x2 + 1)) (lv' := [(2, .int (x2 + 1)), (0, .ref (a 0)), (1, .int x1)]) (pc := 62) hx hb dX4_cheapestAnew_62 hl (k := 2) rfl (ii1 _) (by decide) rfl (fun ls hl => ?_)
          refine lv_goto (tgt := 10) (pc := 65) hx hb dX4_cheapestAnew_65 (by decide) ?_
          exact hk10 _ _ _ h H locs hP hS ls (lv_sub hl [1, 2, 0] rfl)
        · have h := if_n hc h
          refine lv_iload_n (pc := 60) hx hb dX4_cheapestAnew_60 rfl (lv_at hl 2 rfl) ?_
          refine lv_istore_n (lv' := [(1, .int x2), (0, .ref (a 0)), (2, .int x2)]) (pc := 61) hx hb dX4_cheapestAnew_61 rfl hl (by decide) rfl (fun ls hl => ?_)
          refine lv_iinc (v := (x2 + 1)) (lv' := [(2, .int (x2 + 1)), (1, .int x2), (0, .ref (a 0))]) (pc := 62) hx hb dX4_cheapestAnew_62 hl (k := 2) rfl (ii1 _) (by decide) rfl (fun ls hl => ?_)
          refine lv_goto (tgt := 10) (pc := 65) hx hb dX4_cheapestAnew_65 (by decide) ?_
          exact hk10 _ _ _ h H locs hP hS ls (lv_sub hl [2, 1, 0] rfl)
theorem t_X4_cheapestAnew_10 {rr : Int32} {SS : St} (hI : aI 49 a) (N : Nat) (C : bC D E RX4 cX4_cheapestAnew 3 (some .int) p s m args meth c) {n : Nat} {x1 : Int32} {x2 : Int32} {S : St} (h : lpI (F_X4_cheapestAnew_10 N) n (x1, x2, S) = some (rr, SS)) : gU D (Wu E a) (aA 49 a) p l e (bRm 5 112) s m args below meth c 3 (qU D below (aA 49 a) (Wu E a SS) rr args s) 10 [(0, .ref (a 0)), (1, .int x1), (2, .int x2)] [] S := by
  exact lpI_ind (P := fun v q => q = (rr, SS) → gU D (Wu E a) (aA 49 a) p l e (bRm 5 112) s m args below meth c 3 (qU D below (aA 49 a) (Wu E a SS) rr args s) 10 [(0, .ref (a 0)), (1, .int v.1), (2, .int v.2.1)] [] v.2.2) (fun k hk v q h9 hq => s_X4_cheapestAnew_10 hI N C k (fun x1 x2 S h8 => hk (x1, x2, S) _ h8 rfl) (h9.trans (congrArg some hq))) n (x1, x2, S) _ h rfl
def f_X4_cheapestAnew (N : Nat) (S : St) : Option (Int32 × St) :=
  bd (some (S 3 5)) fun y1 => lpI (F_X4_cheapestAnew_10 N) N (y1, 0, S)
theorem t_X4_cheapestAnew_0 {rr : Int32} {SS : St} (hI : aI 49 a) (N : Nat) (C : bC D E RX4 cX4_cheapestAnew 3 (some .int) p s m args meth c) {S : St} (h : f_X4_cheapestAnew N S = some (rr, SS)) : gU D (Wu E a) (aA 49 a) p l e (bRm 5 112) s m args below meth c 3 (qU D below (aA 49 a) (Wu E a SS) rr args s) 0 [(0, .ref (a 0))] [] S := by
  obtain ⟨hx, hb, hml, hown, hts, hK, hr, hlocks⟩ := id C
  intro H locs hP hS ls hl
  unfold f_X4_cheapestAnew at h
  refine lv_aload_n (pc := 0) hx hb dX4_cheapestAnew_0 rfl (lv_at hl 0 rfl) ?_
  refine va_get (pc := 1) (v := .ref (a 3)) hx hb hts inB4 hown hK.1 hP 0 wu0 rfl 1 (by decide) (hts _ wd_218) (fun _ h9 => h9) rfl dX4_cheapestAnew_1 ?_
  refine va_get (pc := 4) (v := .int (S 3 5)) hx hb hts inB3 hown hK.1 hP 3 wu3 rfl 5 (by decide) (hts _ wd_157) (fun _ h9 => h9) rfl dX4_cheapestAnew_4 ?_
  refine lv_topi (fun y1 ey1 => ?_)
  have h := bd_y ey1 h
  refine lv_istore_n (lv' := [(1, .int y1), (0, .ref (a 0))]) (pc := 7) hx hb dX4_cheapestAnew_7 rfl hl (by decide) rfl (fun ls hl => ?_)
  refine lv_iconst (v := 0) (pc := 8) hx hb dX4_cheapestAnew_8 (by decide) ?_
  refine lv_istore_n (lv' := [(2, .int 0), (1, .int y1), (0, .ref (a 0))]) (pc := 9) hx hb dX4_cheapestAnew_9 rfl hl (by decide) rfl (fun ls hl => ?_)
  exact t_X4_cheapestAnew_10 hI N C h H locs hP hS ls (lv_sub hl [2, 1, 0] rfl)
theorem c_X4_cheapestAnew {l : Launch} {D : va_G} {E : bE} {a : Nat → Nat} (hI : aI 49 a) (N : Nat) {rr : Int32} {S : St} {SS : St} (h : f_X4_cheapestAnew N S = some (rr, SS)) : cU l D E yX4_cheapestAnew cX4_cheapestAnew 3 (some .int) 5 112 (aA 49 a) (Wu E a S) (Wu E a SS) [.ref (a 0)] rr := cU_of (by decide) (Nat.le_of_ble_eq_true rfl) (fun p e s m args below meth c C => t_X4_cheapestAnew_0 hI N C h)
/-! X4_anew -/
def f_X4_anew (N : Nat) (x1 : Int32) (S : St) : Option (Int32 × St) :=
  bd (f_X4_within x1 0 1) fun r1 => if r1 = 0 then (some ((-2), S)) else (bd (f_X3_spin N S) fun S1 => bd2 (f_X4_cheapestAnew N S1) fun r2 S2 => if x1 = 0 then (some (r2, S2)) else (bd (f_X4_costOf N r2 S2) fun r3 => some (r3, S2)))
theorem t_X4_anew_0 {rr : Int32} {SS : St} (hI : aI 49 a) (N : Nat) (C : bC D E RX4 cX4_anew 3 (some .int) p s m args meth c) {x1 : Int32} {S : St} (h : f_X4_anew N x1 S = some (rr, SS)) : gU D (Wu E a) (aA 49 a) p l e (bRm 6 134) s m args below meth c 3 (qU D below (aA 49 a) (Wu E a SS) rr args s) 0 [(0, .ref (a 0)), (1, .int x1)] [] S := by
  obtain ⟨hx, hb, hml, hown, hts, hK, hr, hlocks⟩ := id C
  intro H locs hP hS ls hl
  unfold f_X4_anew at h
  refine lv_iload_n (pc := 0) hx hb dX4_anew_0 rfl (lv_at hl 1 rfl) ?_
  refine lv_iconst (v := 0) (pc := 1) hx hb dX4_anew_1 (by decide) ?_
  refine lv_iconst (v := 1) (pc := 2) hx hb dX4_anew_2 (by decide) ?_
  obtain ⟨r1, hr1, h⟩ := bd_some h
  refine r_callS (pc := 3) C (c_X4_within hr1) k_X4_within wd_244 ⟨Nat.le_of_ble_eq_true rfl, Nat.le_of_ble_eq_true rfl⟩ rfl hl.1 rfl (Nat.le_of_ble_eq_true rfl) dX4_anew_3 ⟨Nat.zero_le _, Nat.zero_le _⟩ ?_
  refine lv_if_ne (tgt := 12) (pc := 6) hx hb dX4_anew_6 (by decide) (fun hc => ?_) (fun hc => ?_)
  · have h := if_n hc h
    refine lv_aload_n (pc := 12) hx hb dX4_anew_12 rfl (lv_at hl 0 rfl) ?_
    refine va_get (pc := 13) (v := .ref (a 3)) hx hb hts inB4 hown hK.1 hP 0 wu0 rfl 1 (by decide) (hts _ wd_218) (fun _ h9 => h9) rfl dX4_anew_13 ?_
    obtain ⟨S1, hS1, h⟩ := bd_some h
    refine r_callV (pc := 16) C hP hS (c_X3_spin hI N hS1) k_X3_spin wd_331 (q0 := 3) wu3 rfl rfl ⟨Nat.le_of_ble_eq_true rfl, Nat.le_of_ble_eq_true rfl⟩ rfl hl.1 rfl (Nat.le_of_ble_eq_true rfl) dX4_anew_16 ⟨Nat.zero_le _, Nat.zero_le _⟩ (fun H locs hP hS => ?_)
    refine lv_aload_n (pc := 19) hx hb dX4_anew_19 rfl (lv_at hl 0 rfl) ?_
    obtain ⟨r2, S2, hr2, h⟩ := bd2_some h
    refine r_callU (pc := 20) C hP hS (c_X4_cheapestAnew hI N hr2) k_X4_cheapestAnew wd_453 (q0 := 0) wu0 rfl rfl ⟨Nat.le_of_ble_eq_true rfl, Nat.le_of_ble_eq_true rfl⟩ rfl hl.1 rfl (Nat.le_of_ble_eq_true rfl) dX4_anew_20 ⟨Nat.zero_le _, Nat.zero_le _⟩ (fun H locs hP hS => ?_)
    refine lv_istore_n (lv' := [(2, .int r2), (0, .ref (a 0)), (1, .int x1)]) (pc := 23) hx hb dX4_anew_23 rfl hl (by decide) rfl (fun ls hl => ?_)
    refine lv_iload_n (pc := 24) hx hb dX4_anew_24 rfl (lv_at hl 2 rfl) ?_
    refine lv_if_ne (tgt := 32) (pc := 25) hx hb dX4_anew_25 (by decide) (fun hc => ?_) (fun hc => ?_)
    · have h := if_n hc h
      refine lv_aload_n (pc := 32) hx hb dX4_anew_32 rfl (lv_at hl 1 rfl) ?_
      refine lv_iload_n (pc := 33) hx hb dX4_anew_33 rfl (lv_at hl 0 rfl) ?_
      obtain ⟨r3, hr3, h⟩ := bd_some h
      refine r_callR (pc := 34) C hP (c_X4_costOf hI N hr3) k_X4_costOf wd_461 (q0 := 0) wu0 rfl rfl ⟨Nat.le_of_ble_eq_true rfl, Nat.le_of_ble_eq_true rfl⟩ rfl hl.1 rfl (Nat.le_of_ble_eq_true rfl) dX4_anew_34 ⟨Nat.zero_le _, Nat.zero_le _⟩ ?_
      exact r_retU (pc := 37) (𝓦 := Wu E a) C h hP hS dX4_anew_37
    · have h := if_y hc h
      refine lv_iload_n (pc := 28) hx hb dX4_anew_28 rfl (lv_at hl 0 rfl) ?_
      refine lv_goto (tgt := 37) (pc := 29) hx hb dX4_anew_29 (by decide) ?_
      exact r_retU (pc := 37) (𝓦 := Wu E a) C h hP hS dX4_anew_37
  · have h := if_y hc h
    refine lv_bipush (v := (-2)) (pc := 9) hx hb dX4_anew_9 (by decide) ?_
    exact r_retU (pc := 11) (𝓦 := Wu E a) C h hP hS dX4_anew_11
theorem c_X4_anew {l : Launch} {D : va_G} {E : bE} {a : Nat → Nat} (hI : aI 49 a) (N : Nat) {rr : Int32} {S : St} {SS : St} {x1 : Int32} (h : f_X4_anew N x1 S = some (rr, SS)) : cU l D E yX4_anew cX4_anew 3 (some .int) 6 134 (aA 49 a) (Wu E a S) (Wu E a SS) [.ref (a 0), .int x1] rr := cU_of (by decide) (Nat.le_of_ble_eq_true rfl) (fun p e s m args below meth c C => t_X4_anew_0 hI N C h)
/-! X3_loosen -/
def FB_X3_loosen_15 (N : Nat) (k5 : Int32 × Int32 × Int32 × Int32 × St → Option (Int32 × St)) (k15 : Int32 × Int32 × Int32 × Int32 × Int32 × St → Option (Int32 × St)) (x1 : Int32) (x2 : Int32) (x3 : Int32) (x4 : Int32) (x5 : Int32) (S : St) : Option (Int32 × St) :=
  if x4 ≤ x5 then (k5 (x1, x2, x3, (x4 + 1), S)) else (bd (f_X4_has (S 3 4) x4) fun r1 => if r1 = 0 then (k15 (x1, x2, x3, x4, (x5 + 1), S)) else (bd (f_X4_use x4 x5) fun r2 => gd (ix r2 36) (if (S 21 (Int32.toNatClampNeg r2)) = x1 then (bd (f_X4_use x4 x5) fun r3 => gd (ix r3 36) (bd (some (sto S 21 (Int32.toNatClampNeg r3) x2)) fun S1 => k15 (x1, x2, (x3 + 1), x4, (x5 + 1), S1))) else (k15 (x1, x2, x3, x4, (x5 + 1), S)))))
def F_X3_loosen_15 (N : Nat) (k5 : Int32 × Int32 × Int32 × Int32 × St → Option (Int32 × St)) (k15 : Int32 × Int32 × Int32 × Int32 × Int32 × St → Option (Int32 × St)) (v : Int32 × Int32 × Int32 × Int32 × Int32 × St) : Option (Int32 × St) := FB_X3_loosen_15 N k5 k15 v.1 v.2.1 v.2.2.1 v.2.2.2.1 v.2.2.2.2.1 v.2.2.2.2.2
theorem s_X3_loosen_15 {rr : Int32} {SS : St} (hI : aI 49 a) (N : Nat) (C : bC D E RX3 cX3_loosen 6 (some .int) p s m args meth c) (k5 : Int32 × Int32 × Int32 × Int32 × St → Option (Int32 × St)) (hk5 : ∀ (x1 : Int32) (x2 : Int32) (x3 : Int32) (x4 : Int32) (S : St), k5 (x1, x2, x3, x4, S) = some (rr, SS) → gU D (Wu E a) (aA 49 a) p l e (bRm 3 69) s m args below meth c 6 (qU D below (aA 49 a) (Wu E a SS) rr args s) 5 [(0, .ref (a 3)), (1, .int x1), (2, .int x2), (3, .int x3), (4, .int x4)] [] S) (k15 : Int32 × Int32 × Int32 × Int32 × Int32 × St → Option (Int32 × St)) (hk15 : ∀ (x1 : Int32) (x2 : Int32) (x3 : Int32) (x4 : Int32) (x5 : Int32) (S : St), k15 (x1, x2, x3, x4, x5, S) = some (rr, SS) → gU D (Wu E a) (aA 49 a) p l e (bRm 3 69) s m args below meth c 6 (qU D below (aA 49 a) (Wu E a SS) rr args s) 15 [(0, .ref (a 3)), (1, .int x1), (2, .int x2), (3, .int x3), (4, .int x4), (5, .int x5)] [] S) {x1 : Int32} {x2 : Int32} {x3 : Int32} {x4 : Int32} {x5 : Int32} {S : St} (h : FB_X3_loosen_15 N k5 k15 x1 x2 x3 x4 x5 S = some (rr, SS)) : gU D (Wu E a) (aA 49 a) p l e (bRm 3 69) s m args below meth c 6 (qU D below (aA 49 a) (Wu E a SS) rr args s) 15 [(0, .ref (a 3)), (1, .int x1), (2, .int x2), (3, .int x3), (4, .int x4), (5, .int x5)] [] S := by
  obtain ⟨hx, hb, hml, hown, hts, hK, hr, hlocks⟩ := id C
  intro H locs hP hS ls hl
  unfold FB_X3_loosen_15 at h
  refine lv_iload (pc := 15) hx hb dX3_loosen_15 (lv_at hl 5 rfl) ?_
  refine lv_iload (pc := 17) hx hb dX3_loosen_17 (lv_at hl 4 rfl) ?_
  refine lv_icmp_ge (tgt := 72) (pc := 19) hx hb dX3_loosen_19 (by decide) (fun hc => ?_) (fun hc => ?_)
  · have h := if_y hc h
    refine lv_iinc (v := (x4 + 1)) (lv' := [(4, .int (x4 + 1)), (0, .ref (a 3)), (1, .int x1), (2, .int x2), (3, .int x3), (5, .int x5)]) (pc := 72) hx hb dX3_loosen_72 hl (k := 4) rfl (ii1 _) (by decide) rfl (fun ls hl => ?_)
    refine lv_goto (tgt := 5) (pc := 75) hx hb dX3_loosen_75 (by decide) ?_
    exact hk5 _ _ _ _ _ h H locs hP hS ls (lv_sub hl [1, 2, 3, 4, 0] rfl)
  · have h := if_n hc h
    refine lv_aload_n (pc := 22) hx hb dX3_loosen_22 rfl (lv_at hl 0 rfl) ?_
    refine va_get (pc := 23) (v := .int (S 3 4)) hx hb hts inB3 hown hK.1 hP 3 wu3 rfl 4 (by decide) (hts _ wd_154) (fun _ h9 => h9) rfl dX3_loosen_23 ?_
    refine lv_iload (pc := 26) hx hb dX3_loosen_26 (lv_at hl 4 rfl) ?_
    obtain ⟨r1, hr1, h⟩ := bd_some h
    refine r_callSN (pc := 28) (host := RX4) C (c_X4_has hr1) k_X4_has nst_6 ⟨Nat.le_of_ble_eq_true rfl, Nat.le_of_ble_eq_true rfl⟩ rfl hl.1 rfl (Nat.le_of_ble_eq_true rfl) dX3_loosen_28 ⟨Nat.zero_le _, Nat.zero_le _⟩ ?_
    refine lv_if_eq (tgt := 66) (pc := 31) hx hb dX3_loosen_31 (by decide) (fun hc => ?_) (fun hc => ?_)
    · have h := if_y hc h
      refine lv_iinc (v := (x5 + 1)) (lv' := [(5, .int (x5 + 1)), (0, .ref (a 3)), (1, .int x1), (2, .int x2), (3, .int x3), (4, .int x4)]) (pc := 66) hx hb dX3_loosen_66 hl (k := 5) rfl (ii1 _) (by decide) rfl (fun ls hl => ?_)
      refine lv_goto (tgt := 15) (pc := 69) hx hb dX3_loosen_69 (by decide) ?_
      exact hk15 _ _ _ _ _ _ h H locs hP hS ls (lv_sub hl [1, 2, 3, 4, 5, 0] rfl)
    · have h := if_n hc h
      refine lv_aload_n (pc := 34) hx hb dX3_loosen_34 rfl (lv_at hl 0 rfl) ?_
      refine va_get (pc := 35) (v := .ref (a 21)) hx hb hts inB3 hown hK.1 hP 3 wu3 rfl 6 (by decide) (hts _ wd_158) (fun _ h9 => h9) rfl dX3_loosen_35 ?_
      refine lv_iload (pc := 38) hx hb dX3_loosen_38 (lv_at hl 4 rfl) ?_
      refine lv_iload (pc := 40) hx hb dX3_loosen_40 (lv_at hl 5 rfl) ?_
      obtain ⟨r2, hr2, h⟩ := bd_some h
      refine r_callSN (pc := 42) (host := RX4) C (c_X4_use hr2) k_X4_use nst_7 ⟨Nat.le_of_ble_eq_true rfl, Nat.le_of_ble_eq_true rfl⟩ rfl hl.1 rfl (Nat.le_of_ble_eq_true rfl) dX3_loosen_42 ⟨Nat.zero_le _, Nat.zero_le _⟩ ?_
      obtain ⟨hin, h⟩ := gd_some h
      refine r_ald (pc := 45) hx hb hK hP 21 wu21 hin dX3_loosen_45 ?_
      refine lv_iload_n (pc := 46) hx hb dX3_loosen_46 rfl (lv_at hl 1 rfl) ?_
      refine lv_icmp_ne (tgt := 66) (pc := 47) hx hb dX3_loosen_47 (by decide) (fun hc => ?_) (fun hc => ?_)
      · have h := if_n hc h
        refine lv_iinc (v := (x5 + 1)) (lv' := [(5, .int (x5 + 1)), (0, .ref (a 3)), (1, .int x1), (2, .int x2), (3, .int x3), (4, .int x4)]) (pc := 66) hx hb dX3_loosen_66 hl (k := 5) rfl (ii1 _) (by decide) rfl (fun ls hl => ?_)
        refine lv_goto (tgt := 15) (pc := 69) hx hb dX3_loosen_69 (by decide) ?_
        exact hk15 _ _ _ _ _ _ h H locs hP hS ls (lv_sub hl [1, 2, 3, 4, 5, 0] rfl)
      · have h := if_y hc h
        refine lv_aload_n (pc := 50) hx hb dX3_loosen_50 rfl (lv_at hl 0 rfl) ?_
        refine va_get (pc := 51) (v := .ref (a 21)) hx hb hts inB3 hown hK.1 hP 3 wu3 rfl 6 (by decide) (hts _ wd_158) (fun _ h9 => h9) rfl dX3_loosen_51 ?_
        refine lv_iload (pc := 54) hx hb dX3_loosen_54 (lv_at hl 4 rfl) ?_
        refine lv_iload (pc := 56) hx hb dX3_loosen_56 (lv_at hl 5 rfl) ?_
        obtain ⟨r3, hr3, h⟩ := bd_some h
        refine r_callSN (pc := 58) (host := RX4) C (c_X4_use hr3) k_X4_use nst_7 ⟨Nat.le_of_ble_eq_true rfl, Nat.le_of_ble_eq_true rfl⟩ rfl hl.1 rfl (Nat.le_of_ble_eq_true rfl) dX3_loosen_58 ⟨Nat.zero_le _, Nat.zero_le _⟩ ?_
        refine lv_iload_n (pc := 61) hx hb dX3_loosen_61 rfl (lv_at hl 2 rfl) ?_
        obtain ⟨hin, h⟩ := gd_some h
        refine r_ast (pc := 62) (𝓦 := Wu E a) hx hb hK hP (dU hI _) hS 21 wu21 wu21s hin dX3_loosen_62 (fun H locs S1 eS1 hP hS => ?_)
        have h := bd_y eS1 h
        refine lv_iinc (v := (x3 + 1)) (lv' := [(3, .int (x3 + 1)), (0, .ref (a 3)), (1, .int x1), (2, .int x2), (4, .int x4), (5, .int x5)]) (pc := 63) hx hb dX3_loosen_63 hl (k := 3) rfl (ii1 _) (by decide) rfl (fun ls hl => ?_)
        refine lv_iinc (v := (x5 + 1)) (lv' := [(5, .int (x5 + 1)), (3, .int (x3 + 1)), (0, .ref (a 3)), (1, .int x1), (2, .int x2), (4, .int x4)]) (pc := 66) hx hb dX3_loosen_66 hl (k := 5) rfl (ii1 _) (by decide) rfl (fun ls hl => ?_)
        refine lv_goto (tgt := 15) (pc := 69) hx hb dX3_loosen_69 (by decide) ?_
        exact hk15 _ _ _ _ _ _ h H locs hP hS ls (lv_sub hl [2, 3, 4, 1, 5, 0] rfl)
theorem t_X3_loosen_15 {rr : Int32} {SS : St} (hI : aI 49 a) (N : Nat) (C : bC D E RX3 cX3_loosen 6 (some .int) p s m args meth c) (k5 : Int32 × Int32 × Int32 × Int32 × St → Option (Int32 × St)) (hk5 : ∀ (x1 : Int32) (x2 : Int32) (x3 : Int32) (x4 : Int32) (S : St), k5 (x1, x2, x3, x4, S) = some (rr, SS) → gU D (Wu E a) (aA 49 a) p l e (bRm 3 69) s m args below meth c 6 (qU D below (aA 49 a) (Wu E a SS) rr args s) 5 [(0, .ref (a 3)), (1, .int x1), (2, .int x2), (3, .int x3), (4, .int x4)] [] S) {n : Nat} {x1 : Int32} {x2 : Int32} {x3 : Int32} {x4 : Int32} {x5 : Int32} {S : St} (h : lpI (F_X3_loosen_15 N k5) n (x1, x2, x3, x4, x5, S) = some (rr, SS)) : gU D (Wu E a) (aA 49 a) p l e (bRm 3 69) s m args below meth c 6 (qU D below (aA 49 a) (Wu E a SS) rr args s) 15 [(0, .ref (a 3)), (1, .int x1), (2, .int x2), (3, .int x3), (4, .int x4), (5, .int x5)] [] S := by
  exact lpI_ind (P := fun v q => q = (rr, SS) → gU D (Wu E a) (aA 49 a) p l e (bRm 3 69) s m args below meth c 6 (qU D below (aA 49 a) (Wu E a SS) rr args s) 15 [(0, .ref (a 3)), (1, .int v.1), (2, .int v.2.1), (3, .int v.2.2.1), (4, .int v.2.2.2.1), (5, .int v.2.2.2.2.1)] [] v.2.2.2.2.2) (fun k hk v q h9 hq => s_X3_loosen_15 hI N C k5 hk5 k (fun x1 x2 x3 x4 x5 S h8 => hk (x1, x2, x3, x4, x5, S) _ h8 rfl) (h9.trans (congrArg some hq))) n (x1, x2, x3, x4, x5, S) _ h rfl
def FB_X3_loosen_5 (N : Nat) (k5 : Int32 × Int32 × Int32 × Int32 × St → Option (Int32 × St)) (x1 : Int32) (x2 : Int32) (x3 : Int32) (x4 : Int32) (S : St) : Option (Int32 × St) :=
  if 6 ≤ x4 then (bd (f_X3_spread N S) fun S1 => some (x3, S1)) else (lpI (F_X3_loosen_15 N k5) N (x1, x2, x3, x4, 0, S))
def F_X3_loosen_5 (N : Nat) (k5 : Int32 × Int32 × Int32 × Int32 × St → Option (Int32 × St)) (v : Int32 × Int32 × Int32 × Int32 × St) : Option (Int32 × St) := FB_X3_loosen_5 N k5 v.1 v.2.1 v.2.2.1 v.2.2.2.1 v.2.2.2.2
theorem s_X3_loosen_5 {rr : Int32} {SS : St} (hI : aI 49 a) (N : Nat) (C : bC D E RX3 cX3_loosen 6 (some .int) p s m args meth c) (k5 : Int32 × Int32 × Int32 × Int32 × St → Option (Int32 × St)) (hk5 : ∀ (x1 : Int32) (x2 : Int32) (x3 : Int32) (x4 : Int32) (S : St), k5 (x1, x2, x3, x4, S) = some (rr, SS) → gU D (Wu E a) (aA 49 a) p l e (bRm 3 69) s m args below meth c 6 (qU D below (aA 49 a) (Wu E a SS) rr args s) 5 [(0, .ref (a 3)), (1, .int x1), (2, .int x2), (3, .int x3), (4, .int x4)] [] S) {x1 : Int32} {x2 : Int32} {x3 : Int32} {x4 : Int32} {S : St} (h : FB_X3_loosen_5 N k5 x1 x2 x3 x4 S = some (rr, SS)) : gU D (Wu E a) (aA 49 a) p l e (bRm 3 69) s m args below meth c 6 (qU D below (aA 49 a) (Wu E a SS) rr args s) 5 [(0, .ref (a 3)), (1, .int x1), (2, .int x2), (3, .int x3), (4, .int x4)] [] S := by
  obtain ⟨hx, hb, hml, hown, hts, hK, hr, hlocks⟩ := id C
  intro H locs hP hS ls hl
  unfold FB_X3_loosen_5 at h
  refine lv_iload (pc := 5) hx hb dX3_loosen_5 (lv_at hl 4 rfl) ?_
  refine lv_bipush (v := 6) (pc := 7) hx hb dX3_loosen_7 (by decide) ?_
  refine lv_icmp_ge (tgt := 78) (pc := 9) hx hb dX3_loosen_9 (by decide) (fun hc => ?_) (fun hc => ?_)
  · have h := if_y hc h
    refine lv_aload_n (pc := 78) hx hb dX3_loosen_78 rfl (lv_at hl 0 rfl) ?_
    obtain ⟨S1, hS1, h⟩ := bd_some h
    refine r_callV (pc := 79) C hP hS (c_X3_spread hI N hS1) k_X3_spread wd_339 (q0 := 3) wu3 rfl rfl ⟨Nat.le_of_ble_eq_true rfl, Nat.le_of_ble_eq_true rfl⟩ rfl hl.1 rfl (Nat.le_of_ble_eq_true rfl) dX3_loosen_79 ⟨Nat.zero_le _, Nat.zero_le _⟩ (fun H locs hP hS => ?_)
    refine lv_iload_n (pc := 82) hx hb dX3_loosen_82 rfl (lv_at hl 3 rfl) ?_
    exact r_retU (pc := 83) (𝓦 := Wu E a) C h hP hS dX3_loosen_83
  · have h := if_n hc h
    refine lv_iconst (v := 0) (pc := 12) hx hb dX3_loosen_12 (by decide) ?_
    refine lv_istore (lv' := [(5, .int 0), (0, .ref (a 3)), (1, .int x1), (2, .int x2), (3, .int x3), (4, .int x4)]) (pc := 13) hx hb dX3_loosen_13 hl (by decide) rfl (fun ls hl => ?_)
    exact t_X3_loosen_15 hI N C k5 hk5 h H locs hP hS ls (lv_sub hl [1, 2, 3, 4, 5, 0] rfl)
theorem t_X3_loosen_5 {rr : Int32} {SS : St} (hI : aI 49 a) (N : Nat) (C : bC D E RX3 cX3_loosen 6 (some .int) p s m args meth c) {n : Nat} {x1 : Int32} {x2 : Int32} {x3 : Int32} {x4 : Int32} {S : St} (h : lpI (F_X3_loosen_5 N) n (x1, x2, x3, x4, S) = some (rr, SS)) : gU D (Wu E a) (aA 49 a) p l e (bRm 3 69) s m args below meth c 6 (qU D below (aA 49 a) (Wu E a SS) rr args s) 5 [(0, .ref (a 3)), (1, .int x1), (2, .int x2), (3, .int x3), (4, .int x4)] [] S := by
  exact lpI_ind (P := fun v q => q = (rr, SS) → gU D (Wu E a) (aA 49 a) p l e (bRm 3 69) s m args below meth c 6 (qU D below (aA 49 a) (Wu E a SS) rr args s) 5 [(0, .ref (a 3)), (1, .int v.1), (2, .int v.2.1), (3, .int v.2.2.1), (4, .int v.2.2.2.1)] [] v.2.2.2.2) (fun k hk v q h9 hq => s_X3_loosen_5 hI N C k (fun x1 x2 x3 x4 S h8 => hk (x1, x2, x3, x4, S) _ h8 rfl) (h9.trans (congrArg some hq))) n (x1, x2, x3, x4, S) _ h rfl
def f_X3_loosen (N : Nat) (x1 : Int32) (x2 : Int32) (S : St) : Option (Int32 × St) :=
  lpI (F_X3_loosen_5 N) N (x1, x2, 0, 0, S)
theorem t_X3_loosen_0 {rr : Int32} {SS : St} (hI : aI 49 a) (N : Nat) (C : bC D E RX3 cX3_loosen 6 (some .int) p s m args meth c) {x1 : Int32} {x2 : Int32} {S : St} (h : f_X3_loosen N x1 x2 S = some (rr, SS)) : gU D (Wu E a) (aA 49 a) p l e (bRm 3 69) s m args below meth c 6 (qU D below (aA 49 a) (Wu E a SS) rr args s) 0 [(0, .ref (a 3)), (1, .int x1), (2, .int x2)] [] S := by
  obtain ⟨hx, hb, hml, hown, hts, hK, hr, hlocks⟩ := id C
  intro H locs hP hS ls hl
  unfold f_X3_loosen at h
  refine lv_iconst (v := 0) (pc := 0) hx hb dX3_loosen_0 (by decide) ?_
  refine lv_istore_n (lv' := [(3, .int 0), (0, .ref (a 3)), (1, .int x1), (2, .int x2)]) (pc := 1) hx hb dX3_loosen_1 rfl hl (by decide) rfl (fun ls hl => ?_)
  refine lv_iconst (v := 0) (pc := 2) hx hb dX3_loosen_2 (by decide) ?_
  refine lv_istore (lv' := [(4, .int 0), (3, .int 0), (0, .ref (a 3)), (1, .int x1), (2, .int x2)]) (pc := 3) hx hb dX3_loosen_3 hl (by decide) rfl (fun ls hl => ?_)
  exact t_X3_loosen_5 hI N C h H locs hP hS ls (lv_sub hl [2, 3, 4, 1, 0] rfl)
theorem c_X3_loosen {l : Launch} {D : va_G} {E : bE} {a : Nat → Nat} (hI : aI 49 a) (N : Nat) {rr : Int32} {S : St} {SS : St} {x1 : Int32} {x2 : Int32} (h : f_X3_loosen N x1 x2 S = some (rr, SS)) : cU l D E yX3_loosen cX3_loosen 6 (some .int) 3 69 (aA 49 a) (Wu E a S) (Wu E a SS) [.ref (a 3), .int x1, .int x2] rr := cU_of (by decide) (Nat.le_of_ble_eq_true rfl) (fun p e s m args below meth c C => t_X3_loosen_0 hI N C h)
/-! X4_cheapestLooser -/
def B_X4_cheapestLooser_77 (N : Nat) (k9 : Int32 × Int32 × Int32 × Int32 × St → Option (Int32 × St)) (k21 : Int32 × Int32 × Int32 × Int32 × Int32 × St → Option (Int32 × St)) (x1 : Int32) (x2 : Int32) (x3 : Int32) (x4 : Int32) (x5 : Int32) (x7 : Int32) (S : St) : Option (Int32 × St) :=
  bd2 (f_X3_someGoodWith N (S 3 5) S) fun r1 S1 => if r1 = 0 then (k21 (x1, x2, x3, x4, (x5 + 1), S1)) else (bd (some ((10 * x4) + x5)) fun y2 => k21 (x1, y2, x7, x4, (x5 + 1), S1))
theorem t_X4_cheapestLooser_77 {rr : Int32} {SS : St} (hI : aI 49 a) (N : Nat) (C : bC D E RX4 cX4_cheapestLooser 8 (some .int) p s m args meth c) (k9 : Int32 × Int32 × Int32 × Int32 × St → Option (Int32 × St)) (hk9 : ∀ (x1 : Int32) (x2 : Int32) (x3 : Int32) (x4 : Int32) (S : St), k9 (x1, x2, x3, x4, S) = some (rr, SS) → gU D (Wu E a) (aA 49 a) p l e (bRm 5 112) s m args below meth c 8 (qU D below (aA 49 a) (Wu E a SS) rr args s) 9 [(0, .ref (a 0)), (1, .int x1), (2, .int x2), (3, .int x3), (4, .int x4)] [] S) (k21 : Int32 × Int32 × Int32 × Int32 × Int32 × St → Option (Int32 × St)) (hk21 : ∀ (x1 : Int32) (x2 : Int32) (x3 : Int32) (x4 : Int32) (x5 : Int32) (S : St), k21 (x1, x2, x3, x4, x5, S) = some (rr, SS) → gU D (Wu E a) (aA 49 a) p l e (bRm 5 112) s m args below meth c 8 (qU D below (aA 49 a) (Wu E a SS) rr args s) 21 [(0, .ref (a 0)), (1, .int x1), (2, .int x2), (3, .int x3), (4, .int x4), (5, .int x5)] [] S) {x1 : Int32} {x2 : Int32} {x3 : Int32} {x4 : Int32} {x5 : Int32} {x7 : Int32} {S : St} (h : B_X4_cheapestLooser_77 N k9 k21 x1 x2 x3 x4 x5 x7 S = some (rr, SS)) : gU D (Wu E a) (aA 49 a) p l e (bRm 5 112) s m args below meth c 8 (qU D below (aA 49 a) (Wu E a SS) rr args s) 77 [(0, .ref (a 0)), (1, .int x1), (2, .int x2), (3, .int x3), (4, .int x4), (5, .int x5), (7, .int x7)] [] S := by
  obtain ⟨hx, hb, hml, hown, hts, hK, hr, hlocks⟩ := id C
  intro H locs hP hS ls hl
  unfold B_X4_cheapestLooser_77 at h
  refine lv_aload_n (pc := 77) hx hb dX4_cheapestLooser_77 rfl (lv_at hl 0 rfl) ?_
  refine va_get (pc := 78) (v := .ref (a 3)) hx hb hts inB4 hown hK.1 hP 0 wu0 rfl 1 (by decide) (hts _ wd_218) (fun _ h9 => h9) rfl dX4_cheapestLooser_78 ?_
  refine lv_aload_n (pc := 81) hx hb dX4_cheapestLooser_81 rfl (lv_at hl 0 rfl) ?_
  refine va_get (pc := 82) (v := .ref (a 3)) hx hb hts inB4 hown hK.1 hP 0 wu0 rfl 1 (by decide) (hts _ wd_218) (fun _ h9 => h9) rfl dX4_cheapestLooser_82 ?_
  refine va_get (pc := 85) (v := .int (S 3 5)) hx hb hts inB3 hown hK.1 hP 3 wu3 rfl 5 (by decide) (hts _ wd_157) (fun _ h9 => h9) rfl dX4_cheapestLooser_85 ?_
  obtain ⟨r1, S1, hr1, h⟩ := bd2_some h
  refine r_callU (pc := 88) C hP hS (c_X3_someGoodWith hI N hr1) k_X3_someGoodWith wd_439 (q0 := 3) wu3 rfl rfl ⟨Nat.le_of_ble_eq_true rfl, Nat.le_of_ble_eq_true rfl⟩ rfl hl.1 rfl (Nat.le_of_ble_eq_true rfl) dX4_cheapestLooser_88 ⟨Nat.zero_le _, Nat.zero_le _⟩ (fun H locs hP hS => ?_)
  refine lv_if_eq (tgt := 106) (pc := 91) hx hb dX4_cheapestLooser_91 (by decide) (fun hc => ?_) (fun hc => ?_)
  · have h := if_y hc h
    refine lv_iinc (v := (x5 + 1)) (lv' := [(5, .int (x5 + 1)), (0, .ref (a 0)), (1, .int x1), (2, .int x2), (3, .int x3), (4, .int x4), (7, .int x7)]) (pc := 106) hx hb dX4_cheapestLooser_106 hl (k := 5) rfl (ii1 _) (by decide) rfl (fun ls hl => ?_)
    refine lv_goto (tgt := 21) (pc := 109) hx hb dX4_cheapestLooser_109 (by decide) ?_
    exact hk21 _ _ _ _ _ _ h H locs hP hS ls (lv_sub hl [1, 2, 3, 4, 5, 0] rfl)
  · have h := if_n hc h
    refine lv_iload (pc := 94) hx hb dX4_cheapestLooser_94 (lv_at hl 6 rfl) ?_
    refine lv_istore_n (lv' := [(3, .int x7), (0, .ref (a 0)), (1, .int x1), (2, .int x2), (4, .int x4), (5, .int x5), (7, .int x7)]) (pc := 96) hx hb dX4_cheapestLooser_96 rfl hl (by decide) rfl (fun ls hl => ?_)
    refine lv_bipush (v := 10) (pc := 97) hx hb dX4_cheapestLooser_97 (by decide) ?_
    refine lv_iload (pc := 99) hx hb dX4_cheapestLooser_99 (lv_at hl 4 rfl) ?_
    refine lv_imul (pc := 101) hx hb dX4_cheapestLooser_101 ?_
    refine lv_iload (pc := 102) hx hb dX4_cheapestLooser_102 (lv_at hl 5 rfl) ?_
    refine lv_iadd (pc := 104) hx hb dX4_cheapestLooser_104 ?_
    refine lv_topi (fun y2 ey2 => ?_)
    have h := bd_y ey2 h
    refine lv_istore_n (lv' := [(2, .int y2), (3, .int x7), (0, .ref (a 0)), (1, .int x1), (4, .int x4), (5, .int x5), (7, .int x7)]) (pc := 105) hx hb dX4_cheapestLooser_105 rfl hl (by decide) rfl (fun ls hl => ?_)
    refine lv_iinc (v := (x5 + 1)) (lv' := [(5, .int (x5 + 1)), (2, .int y2), (3, .int x7), (0, .ref (a 0)), (1, .int x1), (4, .int x4), (7, .int x7)]) (pc := 106) hx hb dX4_cheapestLooser_106 hl (k := 5) rfl (ii1 _) (by decide) rfl (fun ls hl => ?_)
    refine lv_goto (tgt := 21) (pc := 109) hx hb dX4_cheapestLooser_109 (by decide) ?_
    exact hk21 _ _ _ _ _ _ h H locs hP hS ls (lv_sub hl [3, 4, 1, 2, 5, 0] rfl)
def FB_X4_cheapestLooser_21 (N : Nat) (k9 : Int32 × Int32 × Int32 × Int32 × St → Option (Int32 × St)) (k21 : Int32 × Int32 × Int32 × Int32 × Int32 × St → Option (Int32 × St)) (x1 : Int32) (x2 : Int32) (x3 : Int32) (x4 : Int32) (x5 : Int32) (S : St) : Option (Int32 × St) :=
  if 3 < x5 then (k9 (x1, x2, x3, (x4 + 1), S)) else (bd (f_X3_spin N S) fun S1 => bd2 (f_X3_loosen N x4 x5 S1) fun r1 S2 => bd (some (((x5 - x4) * (S2 2 10)) * r1)) fun y2 => if x3 = (-6) then (B_X4_cheapestLooser_77 N k9 k21 x1 x2 x3 x4 x5 y2 S2) else (if x3 ≤ y2 then (k21 (x1, x2, x3, x4, (x5 + 1), S2)) else (B_X4_cheapestLooser_77 N k9 k21 x1 x2 x3 x4 x5 y2 S2)))
def F_X4_cheapestLooser_21 (N : Nat) (k9 : Int32 × Int32 × Int32 × Int32 × St → Option (Int32 × St)) (k21 : Int32 × Int32 × Int32 × Int32 × Int32 × St → Option (Int32 × St)) (v : Int32 × Int32 × Int32 × Int32 × Int32 × St) : Option (Int32 × St) := FB_X4_cheapestLooser_21 N k9 k21 v.1 v.2.1 v.2.2.1 v.2.2.2.1 v.2.2.2.2.1 v.2.2.2.2.2
theorem s_X4_cheapestLooser_21 {rr : Int32} {SS : St} (hI : aI 49 a) (N : Nat) (C : bC D E RX4 cX4_cheapestLooser 8 (some .int) p s m args meth c) (k9 : Int32 × Int32 × Int32 × Int32 × St → Option (Int32 × St)) (hk9 : ∀ (x1 : Int32) (x2 : Int32) (x3 : Int32) (x4 : Int32) (S : St), k9 (x1, x2, x3, x4, S) = some (rr, SS) → gU D (Wu E a) (aA 49 a) p l e (bRm 5 112) s m args below meth c 8 (qU D below (aA 49 a) (Wu E a SS) rr args s) 9 [(0, .ref (a 0)), (1, .int x1), (2, .int x2), (3, .int x3), (4, .int x4)] [] S) (k21 : Int32 × Int32 × Int32 × Int32 × Int32 × St → Option (Int32 × St)) (hk21 : ∀ (x1 : Int32) (x2 : Int32) (x3 : Int32) (x4 : Int32) (x5 : Int32) (S : St), k21 (x1, x2, x3, x4, x5, S) = some (rr, SS) → gU D (Wu E a) (aA 49 a) p l e (bRm 5 112) s m args below meth c 8 (qU D below (aA 49 a) (Wu E a SS) rr args s) 21 [(0, .ref (a 0)), (1, .int x1), (2, .int x2), (3, .int x3), (4, .int x4), (5, .int x5)] [] S) {x1 : Int32} {x2 : Int32} {x3 : Int32} {x4 : Int32} {x5 : Int32} {S : St} (h : FB_X4_cheapestLooser_21 N k9 k21 x1 x2 x3 x4 x5 S = some (rr, SS)) : gU D (Wu E a) (aA 49 a) p l e (bRm 5 112) s m args below meth c 8 (qU D below (aA 49 a) (Wu E a SS) rr args s) 21 [(0, .ref (a 0)), (1, .int x1), (2, .int x2), (3, .int x3), (4, .int x4), (5, .int x5)] [] S := by
  obtain ⟨hx, hb, hml, hown, hts, hK, hr, hlocks⟩ := id C
  intro H locs hP hS ls hl
  unfold FB_X4_cheapestLooser_21 at h
  refine lv_iload (pc := 21) hx hb dX4_cheapestLooser_21 (lv_at hl 5 rfl) ?_
  refine lv_iconst (v := 3) (pc := 23) hx hb dX4_cheapestLooser_23 (by decide) ?_
  refine lv_icmp_gt (tgt := 112) (pc := 24) hx hb dX4_cheapestLooser_24 (by decide) (fun hc => ?_) (fun hc => ?_)
  · have h := if_y hc h
    refine lv_iinc (v := (x4 + 1)) (lv' := [(4, .int (x4 + 1)), (0, .ref (a 0)), (1, .int x1), (2, .int x2), (3, .int x3), (5, .int x5)]) (pc := 112) hx hb dX4_cheapestLooser_112 hl (k := 4) rfl (ii1 _) (by decide) rfl (fun ls hl => ?_)
    refine lv_goto (tgt := 9) (pc := 115) hx hb dX4_cheapestLooser_115 (by decide) ?_
    exact hk9 _ _ _ _ _ h H locs hP hS ls (lv_sub hl [1, 2, 3, 4, 0] rfl)
  · have h := if_n hc h
    refine lv_aload_n (pc := 27) hx hb dX4_cheapestLooser_27 rfl (lv_at hl 0 rfl) ?_
    refine va_get (pc := 28) (v := .ref (a 3)) hx hb hts inB4 hown hK.1 hP 0 wu0 rfl 1 (by decide) (hts _ wd_218) (fun _ h9 => h9) rfl dX4_cheapestLooser_28 ?_
    obtain ⟨S1, hS1, h⟩ := bd_some h
    refine r_callV (pc := 31) C hP hS (c_X3_spin hI N hS1) k_X3_spin wd_331 (q0 := 3) wu3 rfl rfl ⟨Nat.le_of_ble_eq_true rfl, Nat.le_of_ble_eq_true rfl⟩ rfl hl.1 rfl (Nat.le_of_ble_eq_true rfl) dX4_cheapestLooser_31 ⟨Nat.zero_le _, Nat.zero_le _⟩ (fun H locs hP hS => ?_)
    refine lv_aload_n (pc := 34) hx hb dX4_cheapestLooser_34 rfl (lv_at hl 0 rfl) ?_
    refine va_get (pc := 35) (v := .ref (a 3)) hx hb hts inB4 hown hK.1 hP 0 wu0 rfl 1 (by decide) (hts _ wd_218) (fun _ h9 => h9) rfl dX4_cheapestLooser_35 ?_
    refine lv_iload (pc := 38) hx hb dX4_cheapestLooser_38 (lv_at hl 4 rfl) ?_
    refine lv_iload (pc := 40) hx hb dX4_cheapestLooser_40 (lv_at hl 5 rfl) ?_
    obtain ⟨r1, S2, hr1, h⟩ := bd2_some h
    refine r_callU (pc := 42) C hP hS (c_X3_loosen hI N hr1) k_X3_loosen wd_473 (q0 := 3) wu3 rfl rfl ⟨Nat.le_of_ble_eq_true rfl, Nat.le_of_ble_eq_true rfl⟩ rfl hl.1 rfl (Nat.le_of_ble_eq_true rfl) dX4_cheapestLooser_42 ⟨Nat.zero_le _, Nat.zero_le _⟩ (fun H locs hP hS => ?_)
    refine lv_istore (lv' := [(6, .int r1), (0, .ref (a 0)), (1, .int x1), (2, .int x2), (3, .int x3), (4, .int x4), (5, .int x5)]) (pc := 45) hx hb dX4_cheapestLooser_45 hl (by decide) rfl (fun ls hl => ?_)
    refine lv_iload (pc := 47) hx hb dX4_cheapestLooser_47 (lv_at hl 6 rfl) ?_
    refine lv_iload (pc := 49) hx hb dX4_cheapestLooser_49 (lv_at hl 5 rfl) ?_
    refine lv_isub (pc := 51) hx hb dX4_cheapestLooser_51 ?_
    refine lv_aload_n (pc := 52) hx hb dX4_cheapestLooser_52 rfl (lv_at hl 1 rfl) ?_
    refine va_get (pc := 53) (v := .ref (a 2)) hx hb hts inB4 hown hK.1 hP 0 wu0 rfl 2 (by decide) (hts _ wd_219) (fun _ h9 => h9) rfl dX4_cheapestLooser_53 ?_
    refine va_get (pc := 56) (v := .int (S2 2 10)) hx hb hts inB0 hown hK.1 hP 2 wu2 rfl 10 (by decide) (hts _ wd_122) (fun _ h9 => h9) rfl dX4_cheapestLooser_56 ?_
    refine lv_imul (pc := 59) hx hb dX4_cheapestLooser_59 ?_
    refine lv_iload (pc := 60) hx hb dX4_cheapestLooser_60 (lv_at hl 0 rfl) ?_
    refine lv_imul (pc := 62) hx hb dX4_cheapestLooser_62 ?_
    refine lv_topi (fun y2 ey2 => ?_)
    have h := bd_y ey2 h
    refine lv_istore (lv' := [(7, .int y2), (6, .int r1), (0, .ref (a 0)), (1, .int x1), (2, .int x2), (3, .int x3), (4, .int x4), (5, .int x5)]) (pc := 63) hx hb dX4_cheapestLooser_63 hl (by decide) rfl (fun ls hl => ?_)
    refine lv_iload_n (pc := 65) hx hb dX4_cheapestLooser_65 rfl (lv_at hl 5 rfl) ?_
    refine lv_bipush (v := (-6)) (pc := 66) hx hb dX4_cheapestLooser_66 (by decide) ?_
    refine lv_icmp_eq (tgt := 77) (pc := 68) hx hb dX4_cheapestLooser_68 (by decide) (fun hc => ?_) (fun hc => ?_)
    · have h := if_y hc h
      exact t_X4_cheapestLooser_77 hI N C k9 hk9 k21 hk21 h H locs hP hS ls (lv_sub hl [2, 3, 4, 5, 6, 7, 0] rfl)
    · have h := if_n hc h
      refine lv_iload (pc := 71) hx hb dX4_cheapestLooser_71 (lv_at hl 0 rfl) ?_
      refine lv_iload_n (pc := 73) hx hb dX4_cheapestLooser_73 rfl (lv_at hl 5 rfl) ?_
      refine lv_icmp_ge (tgt := 106) (pc := 74) hx hb dX4_cheapestLooser_74 (by decide) (fun hc => ?_) (fun hc => ?_)
      · have h := if_y hc h
        refine lv_iinc (v := (x5 + 1)) (lv' := [(5, .int (x5 + 1)), (7, .int y2), (6, .int r1), (0, .ref (a 0)), (1, .int x1), (2, .int x2), (3, .int x3), (4, .int x4)]) (pc := 106) hx hb dX4_cheapestLooser_106 hl (k := 7) rfl (ii1 _) (by decide) rfl (fun ls hl => ?_)
        refine lv_goto (tgt := 21) (pc := 109) hx hb dX4_cheapestLooser_109 (by decide) ?_
        exact hk21 _ _ _ _ _ _ h H locs hP hS ls (lv_sub hl [3, 4, 5, 6, 7, 0] rfl)
      · have h := if_n hc h
        exact t_X4_cheapestLooser_77 hI N C k9 hk9 k21 hk21 h H locs hP hS ls (lv_sub hl [2, 3, 4, 5, 6, 7, 0] rfl)
theorem t_X4_cheapestLooser_21 {rr : Int32} {SS : St} (hI : aI 49 a) (N : Nat) (C : bC D E RX4 cX4_cheapestLooser 8 (some .int) p s m args meth c) (k9 : Int32 × Int32 × Int32 × Int32 × St → Option (Int32 × St)) (hk9 : ∀ (x1 : Int32) (x2 : Int32) (x3 : Int32) (x4 : Int32) (S : St), k9 (x1, x2, x3, x4, S) = some (rr, SS) → gU D (Wu E a) (aA 49 a) p l e (bRm 5 112) s m args below meth c 8 (qU D below (aA 49 a) (Wu E a SS) rr args s) 9 [(0, .ref (a 0)), (1, .int x1), (2, .int x2), (3, .int x3), (4, .int x4)] [] S) {n : Nat} {x1 : Int32} {x2 : Int32} {x3 : Int32} {x4 : Int32} {x5 : Int32} {S : St} (h : lpI (F_X4_cheapestLooser_21 N k9) n (x1, x2, x3, x4, x5, S) = some (rr, SS)) : gU D (Wu E a) (aA 49 a) p l e (bRm 5 112) s m args below meth c 8 (qU D below (aA 49 a) (Wu E a SS) rr args s) 21 [(0, .ref (a 0)), (1, .int x1), (2, .int x2), (3, .int x3), (4, .int x4), (5, .int x5)] [] S := by
  exact lpI_ind (P := fun v q => q = (rr, SS) → gU D (Wu E a) (aA 49 a) p l e (bRm 5 112) s m args below meth c 8 (qU D below (aA 49 a) (Wu E a SS) rr args s) 21 [(0, .ref (a 0)), (1, .int v.1), (2, .int v.2.1), (3, .int v.2.2.1), (4, .int v.2.2.2.1), (5, .int v.2.2.2.2.1)] [] v.2.2.2.2.2) (fun k hk v q h9 hq => s_X4_cheapestLooser_21 hI N C k9 hk9 k (fun x1 x2 x3 x4 x5 S h8 => hk (x1, x2, x3, x4, x5, S) _ h8 rfl) (h9.trans (congrArg some hq))) n (x1, x2, x3, x4, x5, S) _ h rfl
def FB_X4_cheapestLooser_9 (N : Nat) (k9 : Int32 × Int32 × Int32 × Int32 × St → Option (Int32 × St)) (x1 : Int32) (x2 : Int32) (x3 : Int32) (x4 : Int32) (S : St) : Option (Int32 × St) :=
  if 3 ≤ x4 then (if x1 = 0 then (some (x2, S)) else (some (x3, S))) else (bd (some (x4 + 1)) fun y1 => lpI (F_X4_cheapestLooser_21 N k9) N (x1, x2, x3, x4, y1, S))
def F_X4_cheapestLooser_9 (N : Nat) (k9 : Int32 × Int32 × Int32 × Int32 × St → Option (Int32 × St)) (v : Int32 × Int32 × Int32 × Int32 × St) : Option (Int32 × St) := FB_X4_cheapestLooser_9 N k9 v.1 v.2.1 v.2.2.1 v.2.2.2.1 v.2.2.2.2
theorem s_X4_cheapestLooser_9 {rr : Int32} {SS : St} (hI : aI 49 a) (N : Nat) (C : bC D E RX4 cX4_cheapestLooser 8 (some .int) p s m args meth c) (k9 : Int32 × Int32 × Int32 × Int32 × St → Option (Int32 × St)) (hk9 : ∀ (x1 : Int32) (x2 : Int32) (x3 : Int32) (x4 : Int32) (S : St), k9 (x1, x2, x3, x4, S) = some (rr, SS) → gU D (Wu E a) (aA 49 a) p l e (bRm 5 112) s m args below meth c 8 (qU D below (aA 49 a) (Wu E a SS) rr args s) 9 [(0, .ref (a 0)), (1, .int x1), (2, .int x2), (3, .int x3), (4, .int x4)] [] S) {x1 : Int32} {x2 : Int32} {x3 : Int32} {x4 : Int32} {S : St} (h : FB_X4_cheapestLooser_9 N k9 x1 x2 x3 x4 S = some (rr, SS)) : gU D (Wu E a) (aA 49 a) p l e (bRm 5 112) s m args below meth c 8 (qU D below (aA 49 a) (Wu E a SS) rr args s) 9 [(0, .ref (a 0)), (1, .int x1), (2, .int x2), (3, .int x3), (4, .int x4)] [] S := by
  obtain ⟨hx, hb, hml, hown, hts, hK, hr, hlocks⟩ := id C
  intro H locs hP hS ls hl
  unfold FB_X4_cheapestLooser_9 at h
  refine lv_iload (pc := 9) hx hb dX4_cheapestLooser_9 (lv_at hl 4 rfl) ?_
  refine lv_iconst (v := 3) (pc := 11) hx hb dX4_cheapestLooser_11 (by decide) ?_
  refine lv_icmp_ge (tgt := 118) (pc := 12) hx hb dX4_cheapestLooser_12 (by decide) (fun hc => ?_) (fun hc => ?_)
  · have h := if_y hc h
    refine lv_iload_n (pc := 118) hx hb dX4_cheapestLooser_118 rfl (lv_at hl 1 rfl) ?_
    refine lv_if_ne (tgt := 126) (pc := 119) hx hb dX4_cheapestLooser_119 (by decide) (fun hc => ?_) (fun hc => ?_)
    · have h := if_n hc h
      refine lv_iload_n (pc := 126) hx hb dX4_cheapestLooser_126 rfl (lv_at hl 3 rfl) ?_
      exact r_retU (pc := 127) (𝓦 := Wu E a) C h hP hS dX4_cheapestLooser_127
    · have h := if_y hc h
      refine lv_iload_n (pc := 122) hx hb dX4_cheapestLooser_122 rfl (lv_at hl 2 rfl) ?_
      refine lv_goto (tgt := 127) (pc := 123) hx hb dX4_cheapestLooser_123 (by decide) ?_
      exact r_retU (pc := 127) (𝓦 := Wu E a) C h hP hS dX4_cheapestLooser_127
  · have h := if_n hc h
    refine lv_iload (pc := 15) hx hb dX4_cheapestLooser_15 (lv_at hl 4 rfl) ?_
    refine lv_iconst (v := 1) (pc := 17) hx hb dX4_cheapestLooser_17 (by decide) ?_
    refine lv_iadd (pc := 18) hx hb dX4_cheapestLooser_18 ?_
    refine lv_topi (fun y1 ey1 => ?_)
    have h := bd_y ey1 h
    refine lv_istore (lv' := [(5, .int y1), (0, .ref (a 0)), (1, .int x1), (2, .int x2), (3, .int x3), (4, .int x4)]) (pc := 19) hx hb dX4_cheapestLooser_19 hl (by decide) rfl (fun ls hl => ?_)
    exact t_X4_cheapestLooser_21 hI N C k9 hk9 h H locs hP hS ls (lv_sub hl [1, 2, 3, 4, 5, 0] rfl)
theorem t_X4_cheapestLooser_9 {rr : Int32} {SS : St} (hI : aI 49 a) (N : Nat) (C : bC D E RX4 cX4_cheapestLooser 8 (some .int) p s m args meth c) {n : Nat} {x1 : Int32} {x2 : Int32} {x3 : Int32} {x4 : Int32} {S : St} (h : lpI (F_X4_cheapestLooser_9 N) n (x1, x2, x3, x4, S) = some (rr, SS)) : gU D (Wu E a) (aA 49 a) p l e (bRm 5 112) s m args below meth c 8 (qU D below (aA 49 a) (Wu E a SS) rr args s) 9 [(0, .ref (a 0)), (1, .int x1), (2, .int x2), (3, .int x3), (4, .int x4)] [] S := by
  exact lpI_ind (P := fun v q => q = (rr, SS) → gU D (Wu E a) (aA 49 a) p l e (bRm 5 112) s m args below meth c 8 (qU D below (aA 49 a) (Wu E a SS) rr args s) 9 [(0, .ref (a 0)), (1, .int v.1), (2, .int v.2.1), (3, .int v.2.2.1), (4, .int v.2.2.2.1)] [] v.2.2.2.2) (fun k hk v q h9 hq => s_X4_cheapestLooser_9 hI N C k (fun x1 x2 x3 x4 S h8 => hk (x1, x2, x3, x4, S) _ h8 rfl) (h9.trans (congrArg some hq))) n (x1, x2, x3, x4, S) _ h rfl
def f_X4_cheapestLooser (N : Nat) (x1 : Int32) (S : St) : Option (Int32 × St) :=
  lpI (F_X4_cheapestLooser_9 N) N (x1, (-6), (-6), 0, S)
theorem t_X4_cheapestLooser_0 {rr : Int32} {SS : St} (hI : aI 49 a) (N : Nat) (C : bC D E RX4 cX4_cheapestLooser 8 (some .int) p s m args meth c) {x1 : Int32} {S : St} (h : f_X4_cheapestLooser N x1 S = some (rr, SS)) : gU D (Wu E a) (aA 49 a) p l e (bRm 5 112) s m args below meth c 8 (qU D below (aA 49 a) (Wu E a SS) rr args s) 0 [(0, .ref (a 0)), (1, .int x1)] [] S := by
  obtain ⟨hx, hb, hml, hown, hts, hK, hr, hlocks⟩ := id C
  intro H locs hP hS ls hl
  unfold f_X4_cheapestLooser at h
  refine lv_bipush (v := (-6)) (pc := 0) hx hb dX4_cheapestLooser_0 (by decide) ?_
  refine lv_istore_n (lv' := [(2, .int (-6)), (0, .ref (a 0)), (1, .int x1)]) (pc := 2) hx hb dX4_cheapestLooser_2 rfl hl (by decide) rfl (fun ls hl => ?_)
  refine lv_bipush (v := (-6)) (pc := 3) hx hb dX4_cheapestLooser_3 (by decide) ?_
  refine lv_istore_n (lv' := [(3, .int (-6)), (2, .int (-6)), (0, .ref (a 0)), (1, .int x1)]) (pc := 5) hx hb dX4_cheapestLooser_5 rfl hl (by decide) rfl (fun ls hl => ?_)
  refine lv_iconst (v := 0) (pc := 6) hx hb dX4_cheapestLooser_6 (by decide) ?_
  refine lv_istore (lv' := [(4, .int 0), (3, .int (-6)), (2, .int (-6)), (0, .ref (a 0)), (1, .int x1)]) (pc := 7) hx hb dX4_cheapestLooser_7 hl (by decide) rfl (fun ls hl => ?_)
  exact t_X4_cheapestLooser_9 hI N C h H locs hP hS ls (lv_sub hl [3, 4, 2, 1, 0] rfl)
theorem c_X4_cheapestLooser {l : Launch} {D : va_G} {E : bE} {a : Nat → Nat} (hI : aI 49 a) (N : Nat) {rr : Int32} {S : St} {SS : St} {x1 : Int32} (h : f_X4_cheapestLooser N x1 S = some (rr, SS)) : cU l D E yX4_cheapestLooser cX4_cheapestLooser 8 (some .int) 5 112 (aA 49 a) (Wu E a S) (Wu E a SS) [.ref (a 0), .int x1] rr := cU_of (by decide) (Nat.le_of_ble_eq_true rfl) (fun p e s m args below meth c C => t_X4_cheapestLooser_0 hI N C h)
/-! X4_looser -/
def f_X4_looser (N : Nat) (x1 : Int32) (S : St) : Option (Int32 × St) :=
  bd (f_X4_within x1 0 1) fun r1 => if r1 = 0 then (some ((-2), S)) else (bd (f_X3_spin N S) fun S1 => bd2 (f_X3_someGoodWith N (S1 3 5) S1) fun r2 S2 => if r2 = 0 then (bd2 (f_X4_cheapestLooser N x1 S2) fun r3 S3 => some (r3, S3)) else (some (0, S2)))
theorem t_X4_looser_0 {rr : Int32} {SS : St} (hI : aI 49 a) (N : Nat) (C : bC D E RX4 cX4_looser 2 (some .int) p s m args meth c) {x1 : Int32} {S : St} (h : f_X4_looser N x1 S = some (rr, SS)) : gU D (Wu E a) (aA 49 a) p l e (bRm 6 139) s m args below meth c 2 (qU D below (aA 49 a) (Wu E a SS) rr args s) 0 [(0, .ref (a 0)), (1, .int x1)] [] S := by
  obtain ⟨hx, hb, hml, hown, hts, hK, hr, hlocks⟩ := id C
  intro H locs hP hS ls hl
  unfold f_X4_looser at h
  refine lv_iload_n (pc := 0) hx hb dX4_looser_0 rfl (lv_at hl 1 rfl) ?_
  refine lv_iconst (v := 0) (pc := 1) hx hb dX4_looser_1 (by decide) ?_
  refine lv_iconst (v := 1) (pc := 2) hx hb dX4_looser_2 (by decide) ?_
  obtain ⟨r1, hr1, h⟩ := bd_some h
  refine r_callS (pc := 3) C (c_X4_within hr1) k_X4_within wd_244 ⟨Nat.le_of_ble_eq_true rfl, Nat.le_of_ble_eq_true rfl⟩ rfl hl.1 rfl (Nat.le_of_ble_eq_true rfl) dX4_looser_3 ⟨Nat.zero_le _, Nat.zero_le _⟩ ?_
  refine lv_if_ne (tgt := 12) (pc := 6) hx hb dX4_looser_6 (by decide) (fun hc => ?_) (fun hc => ?_)
  · have h := if_n hc h
    refine lv_aload_n (pc := 12) hx hb dX4_looser_12 rfl (lv_at hl 0 rfl) ?_
    refine va_get (pc := 13) (v := .ref (a 3)) hx hb hts inB4 hown hK.1 hP 0 wu0 rfl 1 (by decide) (hts _ wd_218) (fun _ h9 => h9) rfl dX4_looser_13 ?_
    obtain ⟨S1, hS1, h⟩ := bd_some h
    refine r_callV (pc := 16) C hP hS (c_X3_spin hI N hS1) k_X3_spin wd_331 (q0 := 3) wu3 rfl rfl ⟨Nat.le_of_ble_eq_true rfl, Nat.le_of_ble_eq_true rfl⟩ rfl hl.1 rfl (Nat.le_of_ble_eq_true rfl) dX4_looser_16 ⟨Nat.zero_le _, Nat.zero_le _⟩ (fun H locs hP hS => ?_)
    refine lv_aload_n (pc := 19) hx hb dX4_looser_19 rfl (lv_at hl 0 rfl) ?_
    refine va_get (pc := 20) (v := .ref (a 3)) hx hb hts inB4 hown hK.1 hP 0 wu0 rfl 1 (by decide) (hts _ wd_218) (fun _ h9 => h9) rfl dX4_looser_20 ?_
    refine lv_aload_n (pc := 23) hx hb dX4_looser_23 rfl (lv_at hl 0 rfl) ?_
    refine va_get (pc := 24) (v := .ref (a 3)) hx hb hts inB4 hown hK.1 hP 0 wu0 rfl 1 (by decide) (hts _ wd_218) (fun _ h9 => h9) rfl dX4_looser_24 ?_
    refine va_get (pc := 27) (v := .int (S1 3 5)) hx hb hts inB3 hown hK.1 hP 3 wu3 rfl 5 (by decide) (hts _ wd_157) (fun _ h9 => h9) rfl dX4_looser_27 ?_
    obtain ⟨r2, S2, hr2, h⟩ := bd2_some h
    refine r_callU (pc := 30) C hP hS (c_X3_someGoodWith hI N hr2) k_X3_someGoodWith wd_439 (q0 := 3) wu3 rfl rfl ⟨Nat.le_of_ble_eq_true rfl, Nat.le_of_ble_eq_true rfl⟩ rfl hl.1 rfl (Nat.le_of_ble_eq_true rfl) dX4_looser_30 ⟨Nat.zero_le _, Nat.zero_le _⟩ (fun H locs hP hS => ?_)
    refine lv_if_eq (tgt := 38) (pc := 33) hx hb dX4_looser_33 (by decide) (fun hc => ?_) (fun hc => ?_)
    · have h := if_y hc h
      refine lv_aload_n (pc := 38) hx hb dX4_looser_38 rfl (lv_at hl 0 rfl) ?_
      refine lv_iload_n (pc := 39) hx hb dX4_looser_39 rfl (lv_at hl 1 rfl) ?_
      obtain ⟨r3, S3, hr3, h⟩ := bd2_some h
      refine r_callU (pc := 40) C hP hS (c_X4_cheapestLooser hI N hr3) k_X4_cheapestLooser wd_469 (q0 := 0) wu0 rfl rfl ⟨Nat.le_of_ble_eq_true rfl, Nat.le_of_ble_eq_true rfl⟩ rfl hl.1 rfl (Nat.le_of_ble_eq_true rfl) dX4_looser_40 ⟨Nat.zero_le _, Nat.zero_le _⟩ (fun H locs hP hS => ?_)
      exact r_retU (pc := 43) (𝓦 := Wu E a) C h hP hS dX4_looser_43
    · have h := if_n hc h
      refine lv_iconst (v := 0) (pc := 36) hx hb dX4_looser_36 (by decide) ?_
      exact r_retU (pc := 37) (𝓦 := Wu E a) C h hP hS dX4_looser_37
  · have h := if_y hc h
    refine lv_bipush (v := (-2)) (pc := 9) hx hb dX4_looser_9 (by decide) ?_
    exact r_retU (pc := 11) (𝓦 := Wu E a) C h hP hS dX4_looser_11
theorem c_X4_looser {l : Launch} {D : va_G} {E : bE} {a : Nat → Nat} (hI : aI 49 a) (N : Nat) {rr : Int32} {S : St} {SS : St} {x1 : Int32} (h : f_X4_looser N x1 S = some (rr, SS)) : cU l D E yX4_looser cX4_looser 2 (some .int) 6 139 (aA 49 a) (Wu E a S) (Wu E a SS) [.ref (a 0), .int x1] rr := cU_of (by decide) (Nat.le_of_ble_eq_true rfl) (fun p e s m args below meth c C => t_X4_looser_0 hI N C h)
/-! X4_agree -/
def FB_X4_agree_47 (N : Nat) (k47 : Int32 × Int32 × Int32 × Int32 × St → Option (Int32 × St)) (x1 : Int32) (x3 : Int32) (x4 : Int32) (x5 : Int32) (S : St) : Option (Int32 × St) :=
  if 6 ≤ x5 then (some (x4, S)) else (bd (f_X4_has x3 x5) fun r1 => if r1 = 0 then (k47 (x1, x3, x4, (x5 + 1), S)) else (gd (ix x5 6) (bd (f_X4_has (S 18 (Int32.toNatClampNeg x5)) x1) fun r2 => if r2 = 0 then (gd (ix x5 6) (bd (some (x4 ||| (S 15 (Int32.toNatClampNeg x5)))) fun y3 => k47 (x1, x3, y3, (x5 + 1), S))) else (k47 (x1, x3, x4, (x5 + 1), S)))))
def F_X4_agree_47 (N : Nat) (k47 : Int32 × Int32 × Int32 × Int32 × St → Option (Int32 × St)) (v : Int32 × Int32 × Int32 × Int32 × St) : Option (Int32 × St) := FB_X4_agree_47 N k47 v.1 v.2.1 v.2.2.1 v.2.2.2.1 v.2.2.2.2
theorem s_X4_agree_47 {rr : Int32} {SS : St} (hI : aI 49 a) (N : Nat) (C : bC D E RX4 cX4_agree 6 (some .int) p s m args meth c) (k47 : Int32 × Int32 × Int32 × Int32 × St → Option (Int32 × St)) (hk47 : ∀ (x1 : Int32) (x3 : Int32) (x4 : Int32) (x5 : Int32) (S : St), k47 (x1, x3, x4, x5, S) = some (rr, SS) → gU D (Wu E a) (aA 49 a) p l e (bRm 4 90) s m args below meth c 6 (qU D below (aA 49 a) (Wu E a SS) rr args s) 47 [(0, .ref (a 0)), (1, .int x1), (3, .int x3), (4, .int x4), (5, .int x5)] [] S) {x1 : Int32} {x3 : Int32} {x4 : Int32} {x5 : Int32} {S : St} (h : FB_X4_agree_47 N k47 x1 x3 x4 x5 S = some (rr, SS)) : gU D (Wu E a) (aA 49 a) p l e (bRm 4 90) s m args below meth c 6 (qU D below (aA 49 a) (Wu E a SS) rr args s) 47 [(0, .ref (a 0)), (1, .int x1), (3, .int x3), (4, .int x4), (5, .int x5)] [] S := by
  obtain ⟨hx, hb, hml, hown, hts, hK, hr, hlocks⟩ := id C
  intro H locs hP hS ls hl
  unfold FB_X4_agree_47 at h
  refine lv_iload (pc := 47) hx hb dX4_agree_47 (lv_at hl 4 rfl) ?_
  refine lv_bipush (v := 6) (pc := 49) hx hb dX4_agree_49 (by decide) ?_
  refine lv_icmp_ge (tgt := 101) (pc := 51) hx hb dX4_agree_51 (by decide) (fun hc => ?_) (fun hc => ?_)
  · have h := if_y hc h
    refine lv_iload (pc := 101) hx hb dX4_agree_101 (lv_at hl 3 rfl) ?_
    exact r_retU (pc := 103) (𝓦 := Wu E a) C h hP hS dX4_agree_103
  · have h := if_n hc h
    refine lv_iload_n (pc := 54) hx hb dX4_agree_54 rfl (lv_at hl 2 rfl) ?_
    refine lv_iload (pc := 55) hx hb dX4_agree_55 (lv_at hl 4 rfl) ?_
    obtain ⟨r1, hr1, h⟩ := bd_some h
    refine r_callS (pc := 57) C (c_X4_has hr1) k_X4_has wd_366 ⟨Nat.le_of_ble_eq_true rfl, Nat.le_of_ble_eq_true rfl⟩ rfl hl.1 rfl (Nat.le_of_ble_eq_true rfl) dX4_agree_57 ⟨Nat.zero_le _, Nat.zero_le _⟩ ?_
    refine lv_if_eq (tgt := 95) (pc := 60) hx hb dX4_agree_60 (by decide) (fun hc => ?_) (fun hc => ?_)
    · have h := if_y hc h
      refine lv_iinc (v := (x5 + 1)) (lv' := [(5, .int (x5 + 1)), (0, .ref (a 0)), (1, .int x1), (3, .int x3), (4, .int x4)]) (pc := 95) hx hb dX4_agree_95 hl (k := 4) rfl (ii1 _) (by decide) rfl (fun ls hl => ?_)
      refine lv_goto (tgt := 47) (pc := 98) hx hb dX4_agree_98 (by decide) ?_
      exact hk47 _ _ _ _ _ h H locs hP hS ls (lv_sub hl [1, 2, 3, 4, 0] rfl)
    · have h := if_n hc h
      refine lv_aload_n (pc := 63) hx hb dX4_agree_63 rfl (lv_at hl 0 rfl) ?_
      refine va_get (pc := 64) (v := .ref (a 3)) hx hb hts inB4 hown hK.1 hP 0 wu0 rfl 1 (by decide) (hts _ wd_218) (fun _ h9 => h9) rfl dX4_agree_64 ?_
      refine va_get (pc := 67) (v := .ref (a 18)) hx hb hts inB3 hown hK.1 hP 3 wu3 rfl 1 (by decide) (hts _ wd_149) (fun _ h9 => h9) rfl dX4_agree_67 ?_
      refine lv_iload (pc := 70) hx hb dX4_agree_70 (lv_at hl 4 rfl) ?_
      obtain ⟨hin, h⟩ := gd_some h
      refine r_ald (pc := 72) hx hb hK hP 18 wu18 hin dX4_agree_72 ?_
      refine lv_iload_n (pc := 73) hx hb dX4_agree_73 rfl (lv_at hl 1 rfl) ?_
      obtain ⟨r2, hr2, h⟩ := bd_some h
      refine r_callS (pc := 74) C (c_X4_has hr2) k_X4_has wd_366 ⟨Nat.le_of_ble_eq_true rfl, Nat.le_of_ble_eq_true rfl⟩ rfl hl.1 rfl (Nat.le_of_ble_eq_true rfl) dX4_agree_74 ⟨Nat.zero_le _, Nat.zero_le _⟩ ?_
      refine lv_if_ne (tgt := 95) (pc := 77) hx hb dX4_agree_77 (by decide) (fun hc => ?_) (fun hc => ?_)
      · have h := if_n hc h
        refine lv_iinc (v := (x5 + 1)) (lv' := [(5, .int (x5 + 1)), (0, .ref (a 0)), (1, .int x1), (3, .int x3), (4, .int x4)]) (pc := 95) hx hb dX4_agree_95 hl (k := 4) rfl (ii1 _) (by decide) rfl (fun ls hl => ?_)
        refine lv_goto (tgt := 47) (pc := 98) hx hb dX4_agree_98 (by decide) ?_
        exact hk47 _ _ _ _ _ h H locs hP hS ls (lv_sub hl [1, 2, 3, 4, 0] rfl)
      · have h := if_y hc h
        refine lv_iload (pc := 80) hx hb dX4_agree_80 (lv_at hl 3 rfl) ?_
        refine lv_aload_n (pc := 82) hx hb dX4_agree_82 rfl (lv_at hl 0 rfl) ?_
        refine va_get (pc := 83) (v := .ref (a 2)) hx hb hts inB4 hown hK.1 hP 0 wu0 rfl 2 (by decide) (hts _ wd_219) (fun _ h9 => h9) rfl dX4_agree_83 ?_
        refine va_get (pc := 86) (v := .ref (a 15)) hx hb hts inB0 hown hK.1 hP 2 wu2 rfl 6 (by decide) (hts _ wd_112) (fun _ h9 => h9) rfl dX4_agree_86 ?_
        refine lv_iload (pc := 89) hx hb dX4_agree_89 (lv_at hl 4 rfl) ?_
        obtain ⟨hin, h⟩ := gd_some h
        refine r_ald (pc := 91) hx hb hK hP 15 wu15 hin dX4_agree_91 ?_
        refine lv_ior (pc := 92) hx hb dX4_agree_92 ?_
        refine lv_topi (fun y3 ey3 => ?_)
        have h := bd_y ey3 h
        refine lv_istore (lv' := [(4, .int y3), (0, .ref (a 0)), (1, .int x1), (3, .int x3), (5, .int x5)]) (pc := 93) hx hb dX4_agree_93 hl (by decide) rfl (fun ls hl => ?_)
        refine lv_iinc (v := (x5 + 1)) (lv' := [(5, .int (x5 + 1)), (4, .int y3), (0, .ref (a 0)), (1, .int x1), (3, .int x3)]) (pc := 95) hx hb dX4_agree_95 hl (k := 4) rfl (ii1 _) (by decide) rfl (fun ls hl => ?_)
        refine lv_goto (tgt := 47) (pc := 98) hx hb dX4_agree_98 (by decide) ?_
        exact hk47 _ _ _ _ _ h H locs hP hS ls (lv_sub hl [2, 3, 4, 1, 0] rfl)
theorem t_X4_agree_47 {rr : Int32} {SS : St} (hI : aI 49 a) (N : Nat) (C : bC D E RX4 cX4_agree 6 (some .int) p s m args meth c) {n : Nat} {x1 : Int32} {x3 : Int32} {x4 : Int32} {x5 : Int32} {S : St} (h : lpI (F_X4_agree_47 N) n (x1, x3, x4, x5, S) = some (rr, SS)) : gU D (Wu E a) (aA 49 a) p l e (bRm 4 90) s m args below meth c 6 (qU D below (aA 49 a) (Wu E a SS) rr args s) 47 [(0, .ref (a 0)), (1, .int x1), (3, .int x3), (4, .int x4), (5, .int x5)] [] S := by
  exact lpI_ind (P := fun v q => q = (rr, SS) → gU D (Wu E a) (aA 49 a) p l e (bRm 4 90) s m args below meth c 6 (qU D below (aA 49 a) (Wu E a SS) rr args s) 47 [(0, .ref (a 0)), (1, .int v.1), (3, .int v.2.1), (4, .int v.2.2.1), (5, .int v.2.2.2.1)] [] v.2.2.2.2) (fun k hk v q h9 hq => s_X4_agree_47 hI N C k (fun x1 x3 x4 x5 S h8 => hk (x1, x3, x4, x5, S) _ h8 rfl) (h9.trans (congrArg some hq))) n (x1, x3, x4, x5, S) _ h rfl
def f_X4_agree (N : Nat) (x1 : Int32) (x2 : Int32) (S : St) : Option (Int32 × St) :=
  bd (f_X4_isTerms x1) fun r1 => if r1 = 0 then (some ((-1), S)) else (bd (f_X4_within x2 0 63) fun r2 => if r2 = 0 then (some ((-2), S)) else (bd (f_X3_spin N S) fun S1 => bd (some ((S1 3 4) &&& (x2 ^^^ (-1)))) fun y3 => lpI (F_X4_agree_47 N) N (x1, y3, 0, 0, S1)))
theorem t_X4_agree_0 {rr : Int32} {SS : St} (hI : aI 49 a) (N : Nat) (C : bC D E RX4 cX4_agree 6 (some .int) p s m args meth c) {x1 : Int32} {x2 : Int32} {S : St} (h : f_X4_agree N x1 x2 S = some (rr, SS)) : gU D (Wu E a) (aA 49 a) p l e (bRm 4 90) s m args below meth c 6 (qU D below (aA 49 a) (Wu E a SS) rr args s) 0 [(0, .ref (a 0)), (1, .int x1), (2, .int x2)] [] S := by
  obtain ⟨hx, hb, hml, hown, hts, hK, hr, hlocks⟩ := id C
  intro H locs hP hS ls hl
  unfold f_X4_agree at h
  refine lv_iload_n (pc := 0) hx hb dX4_agree_0 rfl (lv_at hl 1 rfl) ?_
  obtain ⟨r1, hr1, h⟩ := bd_some h
  refine r_callS (pc := 1) C (c_X4_isTerms hr1) k_X4_isTerms wd_282 ⟨Nat.le_of_ble_eq_true rfl, Nat.le_of_ble_eq_true rfl⟩ rfl hl.1 rfl (Nat.le_of_ble_eq_true rfl) dX4_agree_1 ⟨Nat.zero_le _, Nat.zero_le _⟩ ?_
  refine lv_if_ne (tgt := 9) (pc := 4) hx hb dX4_agree_4 (by decide) (fun hc => ?_) (fun hc => ?_)
  · have h := if_n hc h
    refine lv_iload_n (pc := 9) hx hb dX4_agree_9 rfl (lv_at hl 2 rfl) ?_
    refine lv_iconst (v := 0) (pc := 10) hx hb dX4_agree_10 (by decide) ?_
    refine lv_bipush (v := 63) (pc := 11) hx hb dX4_agree_11 (by decide) ?_
    obtain ⟨r2, hr2, h⟩ := bd_some h
    refine r_callS (pc := 13) C (c_X4_within hr2) k_X4_within wd_244 ⟨Nat.le_of_ble_eq_true rfl, Nat.le_of_ble_eq_true rfl⟩ rfl hl.1 rfl (Nat.le_of_ble_eq_true rfl) dX4_agree_13 ⟨Nat.zero_le _, Nat.zero_le _⟩ ?_
    refine lv_if_ne (tgt := 22) (pc := 16) hx hb dX4_agree_16 (by decide) (fun hc => ?_) (fun hc => ?_)
    · have h := if_n hc h
      refine lv_aload_n (pc := 22) hx hb dX4_agree_22 rfl (lv_at hl 0 rfl) ?_
      refine va_get (pc := 23) (v := .ref (a 3)) hx hb hts inB4 hown hK.1 hP 0 wu0 rfl 1 (by decide) (hts _ wd_218) (fun _ h9 => h9) rfl dX4_agree_23 ?_
      obtain ⟨S1, hS1, h⟩ := bd_some h
      refine r_callV (pc := 26) C hP hS (c_X3_spin hI N hS1) k_X3_spin wd_331 (q0 := 3) wu3 rfl rfl ⟨Nat.le_of_ble_eq_true rfl, Nat.le_of_ble_eq_true rfl⟩ rfl hl.1 rfl (Nat.le_of_ble_eq_true rfl) dX4_agree_26 ⟨Nat.zero_le _, Nat.zero_le _⟩ (fun H locs hP hS => ?_)
      refine lv_aload_n (pc := 29) hx hb dX4_agree_29 rfl (lv_at hl 0 rfl) ?_
      refine va_get (pc := 30) (v := .ref (a 3)) hx hb hts inB4 hown hK.1 hP 0 wu0 rfl 1 (by decide) (hts _ wd_218) (fun _ h9 => h9) rfl dX4_agree_30 ?_
      refine va_get (pc := 33) (v := .int (S1 3 4)) hx hb hts inB3 hown hK.1 hP 3 wu3 rfl 4 (by decide) (hts _ wd_155) (fun _ h9 => h9) rfl dX4_agree_33 ?_
      refine lv_iload_n (pc := 36) hx hb dX4_agree_36 rfl (lv_at hl 2 rfl) ?_
      refine lv_iconst (v := (-1)) (pc := 37) hx hb dX4_agree_37 (by decide) ?_
      refine lv_ixor (pc := 38) hx hb dX4_agree_38 ?_
      refine lv_iand (pc := 39) hx hb dX4_agree_39 ?_
      refine lv_topi (fun y3 ey3 => ?_)
      have h := bd_y ey3 h
      refine lv_istore_n (lv' := [(3, .int y3), (0, .ref (a 0)), (1, .int x1), (2, .int x2)]) (pc := 40) hx hb dX4_agree_40 rfl hl (by decide) rfl (fun ls hl => ?_)
      refine lv_iconst (v := 0) (pc := 41) hx hb dX4_agree_41 (by decide) ?_
      refine lv_istore (lv' := [(4, .int 0), (3, .int y3), (0, .ref (a 0)), (1, .int x1), (2, .int x2)]) (pc := 42) hx hb dX4_agree_42 hl (by decide) rfl (fun ls hl => ?_)
      refine lv_iconst (v := 0) (pc := 44) hx hb dX4_agree_44 (by decide) ?_
      refine lv_istore (lv' := [(5, .int 0), (4, .int 0), (3, .int y3), (0, .ref (a 0)), (1, .int x1), (2, .int x2)]) (pc := 45) hx hb dX4_agree_45 hl (by decide) rfl (fun ls hl => ?_)
      exact t_X4_agree_47 hI N C h H locs hP hS ls (lv_sub hl [3, 4, 2, 1, 0] rfl)
    · have h := if_y hc h
      refine lv_bipush (v := (-2)) (pc := 19) hx hb dX4_agree_19 (by decide) ?_
      exact r_retU (pc := 21) (𝓦 := Wu E a) C h hP hS dX4_agree_21
  · have h := if_y hc h
    refine lv_iconst (v := (-1)) (pc := 7) hx hb dX4_agree_7 (by decide) ?_
    exact r_retU (pc := 8) (𝓦 := Wu E a) C h hP hS dX4_agree_8
theorem c_X4_agree {l : Launch} {D : va_G} {E : bE} {a : Nat → Nat} (hI : aI 49 a) (N : Nat) {rr : Int32} {S : St} {SS : St} {x1 : Int32} {x2 : Int32} (h : f_X4_agree N x1 x2 S = some (rr, SS)) : cU l D E yX4_agree cX4_agree 6 (some .int) 4 90 (aA 49 a) (Wu E a S) (Wu E a SS) [.ref (a 0), .int x1, .int x2] rr := cU_of (by decide) (Nat.le_of_ble_eq_true rfl) (fun p e s m args below meth c C => t_X4_agree_0 hI N C h)
