variable {p : Program} {l : Launch} {e : Env} {s : State} {m : MethodId} {args : Array Value} {below : List Frame} {meth : Method} {c : Code} {D : va_G} {E : bE} {a : Nat → Nat}
/-! X5_pieces -/
def f_X5_pieces (N : Nat) (S : St) : Option (Int32 × St) :=
  bd (f_X5_lay N S) fun S1 => gd (ix 3 4) (some ((S1 8 (Int32.toNatClampNeg 3)), S1))
theorem t_X5_pieces_0 {rr : Int32} {SS : St} (hI : aI 18 a) (N : Nat) (C : bC D E RX5 cX5_pieces 1 (some .int) p s m args meth c) {S : St} (h : f_X5_pieces N S = some (rr, SS)) : gU D (Wm E a) (aA 18 a) p l e (bRm 3 69) s m args below meth c 1 (qU D below (aA 18 a) (Wm E a SS) rr args s) 0 [(0, .ref (a 0))] [] S := by
  obtain ⟨hx, hb, hml, hown, hts, hK, hr, hlocks⟩ := id C
  intro H locs hP hS ls hl
  unfold f_X5_pieces at h
  refine lv_aload_n (pc := 0) hx hb dX5_pieces_0 rfl (lv_at hl 0 rfl) ?_
  obtain ⟨S1, hS1, h⟩ := bd_some h
  refine r_callV (pc := 1) C hP hS (c_X5_lay hI N hS1) k_X5_lay wd_704 (q0 := 0) wm0 rfl rfl ⟨Nat.le_of_ble_eq_true rfl, Nat.le_of_ble_eq_true rfl⟩ rfl hl.1 rfl (Nat.le_of_ble_eq_true rfl) dX5_pieces_1 ⟨Nat.zero_le _, Nat.zero_le _⟩ (fun H locs hP hS => ?_)
  refine lv_aload_n (pc := 4) hx hb dX5_pieces_4 rfl (lv_at hl 0 rfl) ?_
  refine va_get (pc := 5) (v := .ref (a 8)) hx hb hts inB5 hown hK.1 hP 0 wm0 rfl 13 (by decide) (hts _ wd_564) (fun _ h9 => h9) rfl dX5_pieces_5 ?_
  refine lv_iconst (v := 3) (pc := 8) hx hb dX5_pieces_8 (by decide) ?_
  obtain ⟨hin, h⟩ := gd_some h
  refine r_ald (pc := 9) hx hb hK hP 8 wm8 hin dX5_pieces_9 ?_
  exact r_retU (pc := 10) (𝓦 := Wm E a) C h hP hS dX5_pieces_10
theorem c_X5_pieces {l : Launch} {D : va_G} {E : bE} {a : Nat → Nat} (hI : aI 18 a) (N : Nat) {rr : Int32} {S : St} {SS : St} (h : f_X5_pieces N S = some (rr, SS)) : cU l D E yX5_pieces cX5_pieces 1 (some .int) 3 69 (aA 18 a) (Wm E a S) (Wm E a SS) [.ref (a 0)] rr := cU_of (by decide) (Nat.le_of_ble_eq_true rfl) (fun p e s m args below meth c C => t_X5_pieces_0 hI N C h)
/-! X5_isChosen -/
def f_X5_isChosen (x1 : Int32) (S : St) : Option (Int32) :=
  if x1 = (S 0 8) then (some 0) else (gd (ix 3 4) (bd (f_X5_has (S 8 (Int32.toNatClampNeg 3)) x1) fun r1 => if r1 = 0 then (some 0) else (some 1)))
theorem t_X5_isChosen_0 {rr : Int32} (hI : aI 18 a) (C : bC D E RX5 cX5_isChosen 2 (some .boolean) p s m args meth c) {S : St} (hP : va_P D vwCl (Wm E a S) s.heap) {x1 : Int32} (h : f_X5_isChosen x1 S = some rr) : gR p l e (bRm 1 21) s m args below meth c 2 (qS below rr args s) 0 [(0, .ref (a 0)), (1, .int x1)] [] := by
  obtain ⟨hx, hb, hml, hown, hts, hK, hr, hlocks⟩ := id C
  intro ls hl
  unfold f_X5_isChosen at h
  refine lv_iload_n (pc := 0) hx hb dX5_isChosen_0 rfl (lv_at hl 1 rfl) ?_
  refine lv_aload_n (pc := 1) hx hb dX5_isChosen_1 rfl (lv_at hl 0 rfl) ?_
  refine va_get (pc := 2) (v := .int (S 0 8)) hx hb hts inB5 hown hK.1 hP 0 wm0 rfl 8 (by decide) (hts _ wd_559) (fun _ h9 => h9) rfl dX5_isChosen_2 ?_
  refine lv_icmp_eq (tgt := 25) (pc := 5) hx hb dX5_isChosen_5 (by decide) (fun hc => ?_) (fun hc => ?_)
  · have h := if_y hc h
    refine lv_iconst (v := 0) (pc := 25) hx hb dX5_isChosen_25 (by decide) ?_
    exact r_retZ (pc := 26) C (gd_lit (by decide) h) dX5_isChosen_26
  · have h := if_n hc h
    refine lv_aload_n (pc := 8) hx hb dX5_isChosen_8 rfl (lv_at hl 0 rfl) ?_
    refine va_get (pc := 9) (v := .ref (a 8)) hx hb hts inB5 hown hK.1 hP 0 wm0 rfl 13 (by decide) (hts _ wd_564) (fun _ h9 => h9) rfl dX5_isChosen_9 ?_
    refine lv_iconst (v := 3) (pc := 12) hx hb dX5_isChosen_12 (by decide) ?_
    obtain ⟨hin, h⟩ := gd_some h
    refine r_ald (pc := 13) hx hb hK hP 8 wm8 hin dX5_isChosen_13 ?_
    refine lv_iload_n (pc := 14) hx hb dX5_isChosen_14 rfl (lv_at hl 1 rfl) ?_
    obtain ⟨r1, hr1, h⟩ := bd_some h
    refine r_callS (pc := 15) C (c_X5_has hr1) k_X5_has wd_689 ⟨Nat.le_of_ble_eq_true rfl, Nat.le_of_ble_eq_true rfl⟩ rfl hl.1 rfl (Nat.le_of_ble_eq_true rfl) dX5_isChosen_15 ⟨Nat.zero_le _, Nat.zero_le _⟩ ?_
    refine lv_if_eq (tgt := 25) (pc := 18) hx hb dX5_isChosen_18 (by decide) (fun hc => ?_) (fun hc => ?_)
    · have h := if_y hc h
      refine lv_iconst (v := 0) (pc := 25) hx hb dX5_isChosen_25 (by decide) ?_
      exact r_retZ (pc := 26) C (gd_lit (by decide) h) dX5_isChosen_26
    · have h := if_n hc h
      refine lv_iconst (v := 1) (pc := 21) hx hb dX5_isChosen_21 (by decide) ?_
      refine lv_goto (tgt := 26) (pc := 22) hx hb dX5_isChosen_22 (by decide) ?_
      exact r_retZ (pc := 26) C (gd_lit (by decide) h) dX5_isChosen_26
theorem c_X5_isChosen {l : Launch} {D : va_G} {E : bE} {a : Nat → Nat} (hI : aI 18 a) {rr : Int32} {S : St} {x1 : Int32} (h : f_X5_isChosen x1 S = some rr) : cR l D E yX5_isChosen cX5_isChosen 2 (some .boolean) 1 21 (Wm E a S) [.ref (a 0), .int x1] rr := cR_of (by decide) (Nat.le_of_ble_eq_true rfl) (fun p e s m args below meth c C hP => t_X5_isChosen_0 hI C hP h)
/-! X5_reaches -/
def f_X5_reaches (x1 : Int32) (S : St) : Option (Int32) :=
  bd (f_X5_isChosen x1 S) fun r1 => if r1 = 0 then (some 0) else (bd (f_X5_has (S 0 15) x1) fun r2 => if r2 = 0 then (gd (ix x1 6) (gd (ix (S 10 (Int32.toNatClampNeg x1)) 5) (gd (ix (S 3 (Int32.toNatClampNeg (S 10 (Int32.toNatClampNeg x1)))) 4) (bd (f_X5_has (S 8 (Int32.toNatClampNeg (S 3 (Int32.toNatClampNeg (S 10 (Int32.toNatClampNeg x1)))))) x1) fun r3 => if r3 = 0 then (some 0) else (some 1))))) else (some 0))
theorem t_X5_reaches_0 {rr : Int32} (hI : aI 18 a) (C : bC D E RX5 cX5_reaches 2 (some .boolean) p s m args meth c) {S : St} (hP : va_P D vwCl (Wm E a S) s.heap) {x1 : Int32} (h : f_X5_reaches x1 S = some rr) : gR p l e (bRm 2 42) s m args below meth c 2 (qS below rr args s) 0 [(0, .ref (a 0)), (1, .int x1)] [] := by
  obtain ⟨hx, hb, hml, hown, hts, hK, hr, hlocks⟩ := id C
  intro ls hl
  unfold f_X5_reaches at h
  refine lv_aload_n (pc := 0) hx hb dX5_reaches_0 rfl (lv_at hl 0 rfl) ?_
  refine lv_iload_n (pc := 1) hx hb dX5_reaches_1 rfl (lv_at hl 1 rfl) ?_
  obtain ⟨r1, hr1, h⟩ := bd_some h
  refine r_callR (pc := 2) C hP (c_X5_isChosen hI hr1) k_X5_isChosen wd_712 (q0 := 0) wm0 rfl rfl ⟨Nat.le_of_ble_eq_true rfl, Nat.le_of_ble_eq_true rfl⟩ rfl hl.1 rfl (Nat.le_of_ble_eq_true rfl) dX5_reaches_2 ⟨Nat.zero_le _, Nat.zero_le _⟩ ?_
  refine lv_if_eq (tgt := 46) (pc := 5) hx hb dX5_reaches_5 (by decide) (fun hc => ?_) (fun hc => ?_)
  · have h := if_y hc h
    refine lv_iconst (v := 0) (pc := 46) hx hb dX5_reaches_46 (by decide) ?_
    exact r_retZ (pc := 47) C (gd_lit (by decide) h) dX5_reaches_47
  · have h := if_n hc h
    refine lv_aload_n (pc := 8) hx hb dX5_reaches_8 rfl (lv_at hl 0 rfl) ?_
    refine va_get (pc := 9) (v := .int (S 0 15)) hx hb hts inB5 hown hK.1 hP 0 wm0 rfl 15 (by decide) (hts _ wd_566) (fun _ h9 => h9) rfl dX5_reaches_9 ?_
    refine lv_iload_n (pc := 12) hx hb dX5_reaches_12 rfl (lv_at hl 1 rfl) ?_
    obtain ⟨r2, hr2, h⟩ := bd_some h
    refine r_callS (pc := 13) C (c_X5_has hr2) k_X5_has wd_689 ⟨Nat.le_of_ble_eq_true rfl, Nat.le_of_ble_eq_true rfl⟩ rfl hl.1 rfl (Nat.le_of_ble_eq_true rfl) dX5_reaches_13 ⟨Nat.zero_le _, Nat.zero_le _⟩ ?_
    refine lv_if_ne (tgt := 46) (pc := 16) hx hb dX5_reaches_16 (by decide) (fun hc => ?_) (fun hc => ?_)
    · have h := if_n hc h
      refine lv_iconst (v := 0) (pc := 46) hx hb dX5_reaches_46 (by decide) ?_
      exact r_retZ (pc := 47) C (gd_lit (by decide) h) dX5_reaches_47
    · have h := if_y hc h
      refine lv_aload_n (pc := 19) hx hb dX5_reaches_19 rfl (lv_at hl 0 rfl) ?_
      refine va_get (pc := 20) (v := .ref (a 8)) hx hb hts inB5 hown hK.1 hP 0 wm0 rfl 13 (by decide) (hts _ wd_564) (fun _ h9 => h9) rfl dX5_reaches_20 ?_
      refine lv_aload_n (pc := 23) hx hb dX5_reaches_23 rfl (lv_at hl 0 rfl) ?_
      refine va_get (pc := 24) (v := .ref (a 3)) hx hb hts inB5 hown hK.1 hP 0 wm0 rfl 3 (by decide) (hts _ wd_554) (fun _ h9 => h9) rfl dX5_reaches_24 ?_
      refine lv_aload_n (pc := 27) hx hb dX5_reaches_27 rfl (lv_at hl 0 rfl) ?_
      refine va_get (pc := 28) (v := .ref (a 10)) hx hb hts inB5 hown hK.1 hP 0 wm0 rfl 16 (by decide) (hts _ wd_567) (fun _ h9 => h9) rfl dX5_reaches_28 ?_
      refine lv_iload_n (pc := 31) hx hb dX5_reaches_31 rfl (lv_at hl 1 rfl) ?_
      obtain ⟨hin, h⟩ := gd_some h
      refine r_ald (pc := 32) hx hb hK hP 10 wm10 hin dX5_reaches_32 ?_
      obtain ⟨hin, h⟩ := gd_some h
      refine r_ald (pc := 33) hx hb hK hP 3 wm3 hin dX5_reaches_33 ?_
      obtain ⟨hin, h⟩ := gd_some h
      refine r_ald (pc := 34) hx hb hK hP 8 wm8 hin dX5_reaches_34 ?_
      refine lv_iload_n (pc := 35) hx hb dX5_reaches_35 rfl (lv_at hl 1 rfl) ?_
      obtain ⟨r3, hr3, h⟩ := bd_some h
      refine r_callS (pc := 36) C (c_X5_has hr3) k_X5_has wd_689 ⟨Nat.le_of_ble_eq_true rfl, Nat.le_of_ble_eq_true rfl⟩ rfl hl.1 rfl (Nat.le_of_ble_eq_true rfl) dX5_reaches_36 ⟨Nat.zero_le _, Nat.zero_le _⟩ ?_
      refine lv_if_eq (tgt := 46) (pc := 39) hx hb dX5_reaches_39 (by decide) (fun hc => ?_) (fun hc => ?_)
      · have h := if_y hc h
        refine lv_iconst (v := 0) (pc := 46) hx hb dX5_reaches_46 (by decide) ?_
        exact r_retZ (pc := 47) C (gd_lit (by decide) h) dX5_reaches_47
      · have h := if_n hc h
        refine lv_iconst (v := 1) (pc := 42) hx hb dX5_reaches_42 (by decide) ?_
        refine lv_goto (tgt := 47) (pc := 43) hx hb dX5_reaches_43 (by decide) ?_
        exact r_retZ (pc := 47) C (gd_lit (by decide) h) dX5_reaches_47
theorem c_X5_reaches {l : Launch} {D : va_G} {E : bE} {a : Nat → Nat} (hI : aI 18 a) {rr : Int32} {S : St} {x1 : Int32} (h : f_X5_reaches x1 S = some rr) : cR l D E yX5_reaches cX5_reaches 2 (some .boolean) 2 42 (Wm E a S) [.ref (a 0), .int x1] rr := cR_of (by decide) (Nat.le_of_ble_eq_true rfl) (fun p e s m args below meth c C hP => t_X5_reaches_0 hI C hP h)
/-! X5_byWay -/
def f_X5_byWay (x0 : Int32) (x1 : Int32) : Option (Int32) :=
  if x1 = 0 then (some x0) else (if x1 = 1 then (some (x0 &&& 22)) else (some (x0 &&& 4)))
theorem t_X5_byWay_0 {rr : Int32} (C : bC D E RX5 cX5_byWay 2 (some .int) p s m args meth c) {x0 : Int32} {x1 : Int32} (h : f_X5_byWay x0 x1 = some rr) : gR p l e (bRm 0 0) s m args below meth c 2 (qS below rr args s) 0 [(0, .int x0), (1, .int x1)] [] := by
  obtain ⟨hx, hb, hml, hown, hts, hK, hr, hlocks⟩ := id C
  intro ls hl
  unfold f_X5_byWay at h
  refine lv_iload_n (pc := 0) hx hb dX5_byWay_0 rfl (lv_at hl 1 rfl) ?_
  refine lv_if_ne (tgt := 8) (pc := 1) hx hb dX5_byWay_1 (by decide) (fun hc => ?_) (fun hc => ?_)
  · have h := if_n hc h
    refine lv_iload_n (pc := 8) hx hb dX5_byWay_8 rfl (lv_at hl 1 rfl) ?_
    refine lv_iconst (v := 1) (pc := 9) hx hb dX5_byWay_9 (by decide) ?_
    refine lv_icmp_ne (tgt := 20) (pc := 10) hx hb dX5_byWay_10 (by decide) (fun hc => ?_) (fun hc => ?_)
    · have h := if_n hc h
      refine lv_iload_n (pc := 20) hx hb dX5_byWay_20 rfl (lv_at hl 0 rfl) ?_
      refine lv_iconst (v := 4) (pc := 21) hx hb dX5_byWay_21 (by decide) ?_
      refine lv_iand (pc := 22) hx hb dX5_byWay_22 ?_
      exact r_retS (pc := 23) C h dX5_byWay_23
    · have h := if_y hc h
      refine lv_iload_n (pc := 13) hx hb dX5_byWay_13 rfl (lv_at hl 0 rfl) ?_
      refine lv_bipush (v := 22) (pc := 14) hx hb dX5_byWay_14 (by decide) ?_
      refine lv_iand (pc := 16) hx hb dX5_byWay_16 ?_
      refine lv_goto (tgt := 23) (pc := 17) hx hb dX5_byWay_17 (by decide) ?_
      exact r_retS (pc := 23) C h dX5_byWay_23
  · have h := if_y hc h
    refine lv_iload_n (pc := 4) hx hb dX5_byWay_4 rfl (lv_at hl 0 rfl) ?_
    refine lv_goto (tgt := 23) (pc := 5) hx hb dX5_byWay_5 (by decide) ?_
    exact r_retS (pc := 23) C h dX5_byWay_23
theorem c_X5_byWay {l : Launch} {D : va_G} {E : bE} {rr : Int32} {x0 : Int32} {x1 : Int32} (h : f_X5_byWay x0 x1 = some rr) : cS l D E yX5_byWay cX5_byWay 2 (some .int) 0 0 [.int x0, .int x1] rr := cS_of (by decide) (Nat.le_of_ble_eq_true rfl) (fun p e s m args below meth c C => t_X5_byWay_0 C h)
/-! X5_musts -/
def FB_X5_musts_4 (N : Nat) (S : St) (k4 : Int32 × Int32 → Option (Int32)) (x1 : Int32) (x2 : Int32) : Option (Int32) :=
  if 6 ≤ x2 then (some x1) else (bd (f_X5_reaches x2 S) fun r1 => if r1 = 0 then (bd (some (x1 ||| 0)) fun y2 => k4 (y2, (x2 + 1))) else (gd (ix x2 6) (gd (ix (S 10 (Int32.toNatClampNeg x2)) 5) (bd (some (x1 ||| (S 2 (Int32.toNatClampNeg (S 10 (Int32.toNatClampNeg x2)))))) fun y3 => k4 (y3, (x2 + 1))))))
def F_X5_musts_4 (N : Nat) (S : St) (k4 : Int32 × Int32 → Option (Int32)) (v : Int32 × Int32) : Option (Int32) := FB_X5_musts_4 N S k4 v.1 v.2
theorem s_X5_musts_4 {rr : Int32} (hI : aI 18 a) (N : Nat) (C : bC D E RX5 cX5_musts 3 (some .int) p s m args meth c) {S : St} (hP : va_P D vwCl (Wm E a S) s.heap) (k4 : Int32 × Int32 → Option (Int32)) (hk4 : ∀ (x1 : Int32) (x2 : Int32), k4 (x1, x2) = some rr → gR p l e (bRm 3 63) s m args below meth c 3 (qS below rr args s) 4 [(0, .ref (a 0)), (1, .int x1), (2, .int x2)] []) {x1 : Int32} {x2 : Int32} (h : FB_X5_musts_4 N S k4 x1 x2 = some rr) : gR p l e (bRm 3 63) s m args below meth c 3 (qS below rr args s) 4 [(0, .ref (a 0)), (1, .int x1), (2, .int x2)] [] := by
  obtain ⟨hx, hb, hml, hown, hts, hK, hr, hlocks⟩ := id C
  intro ls hl
  unfold FB_X5_musts_4 at h
  refine lv_iload_n (pc := 4) hx hb dX5_musts_4 rfl (lv_at hl 2 rfl) ?_
  refine lv_bipush (v := 6) (pc := 5) hx hb dX5_musts_5 (by decide) ?_
  refine lv_icmp_ge (tgt := 42) (pc := 7) hx hb dX5_musts_7 (by decide) (fun hc => ?_) (fun hc => ?_)
  · have h := if_y hc h
    refine lv_iload_n (pc := 42) hx hb dX5_musts_42 rfl (lv_at hl 1 rfl) ?_
    exact r_retS (pc := 43) C h dX5_musts_43
  · have h := if_n hc h
    refine lv_iload_n (pc := 10) hx hb dX5_musts_10 rfl (lv_at hl 1 rfl) ?_
    refine lv_aload_n (pc := 11) hx hb dX5_musts_11 rfl (lv_at hl 0 rfl) ?_
    refine lv_iload_n (pc := 12) hx hb dX5_musts_12 rfl (lv_at hl 2 rfl) ?_
    obtain ⟨r1, hr1, h⟩ := bd_some h
    refine r_callR (pc := 13) C hP (c_X5_reaches hI hr1) k_X5_reaches wd_720 (q0 := 0) wm0 rfl rfl ⟨Nat.le_of_ble_eq_true rfl, Nat.le_of_ble_eq_true rfl⟩ rfl hl.1 rfl (Nat.le_of_ble_eq_true rfl) dX5_musts_13 ⟨Nat.zero_le _, Nat.zero_le _⟩ ?_
    refine lv_if_eq (tgt := 33) (pc := 16) hx hb dX5_musts_16 (by decide) (fun hc => ?_) (fun hc => ?_)
    · have h := if_y hc h
      refine lv_iconst (v := 0) (pc := 33) hx hb dX5_musts_33 (by decide) ?_
      refine lv_ior (pc := 34) hx hb dX5_musts_34 ?_
      refine lv_topi (fun y2 ey2 => ?_)
      have h := bd_y ey2 h
      refine lv_istore_n (lv' := [(1, .int y2), (0, .ref (a 0)), (2, .int x2)]) (pc := 35) hx hb dX5_musts_35 rfl hl (by decide) rfl (fun ls hl => ?_)
      refine lv_iinc (v := (x2 + 1)) (lv' := [(2, .int (x2 + 1)), (1, .int y2), (0, .ref (a 0))]) (pc := 36) hx hb dX5_musts_36 hl (k := 2) rfl (ii1 _) (by decide) rfl (fun ls hl => ?_)
      refine lv_goto (tgt := 4) (pc := 39) hx hb dX5_musts_39 (by decide) ?_
      exact hk4 _ _ h ls (lv_sub hl [2, 1, 0] rfl)
    · have h := if_n hc h
      refine lv_aload_n (pc := 19) hx hb dX5_musts_19 rfl (lv_at hl 0 rfl) ?_
      refine va_get (pc := 20) (v := .ref (a 2)) hx hb hts inB5 hown hK.1 hP 0 wm0 rfl 2 (by decide) (hts _ wd_553) (fun _ h9 => h9) rfl dX5_musts_20 ?_
      refine lv_aload_n (pc := 23) hx hb dX5_musts_23 rfl (lv_at hl 0 rfl) ?_
      refine va_get (pc := 24) (v := .ref (a 10)) hx hb hts inB5 hown hK.1 hP 0 wm0 rfl 16 (by decide) (hts _ wd_567) (fun _ h9 => h9) rfl dX5_musts_24 ?_
      refine lv_iload_n (pc := 27) hx hb dX5_musts_27 rfl (lv_at hl 2 rfl) ?_
      obtain ⟨hin, h⟩ := gd_some h
      refine r_ald (pc := 28) hx hb hK hP 10 wm10 hin dX5_musts_28 ?_
      obtain ⟨hin, h⟩ := gd_some h
      refine r_ald (pc := 29) hx hb hK hP 2 wm2 hin dX5_musts_29 ?_
      refine lv_goto (tgt := 34) (pc := 30) hx hb dX5_musts_30 (by decide) ?_
      refine lv_ior (pc := 34) hx hb dX5_musts_34 ?_
      refine lv_topi (fun y3 ey3 => ?_)
      have h := bd_y ey3 h
      refine lv_istore_n (lv' := [(1, .int y3), (0, .ref (a 0)), (2, .int x2)]) (pc := 35) hx hb dX5_musts_35 rfl hl (by decide) rfl (fun ls hl => ?_)
      refine lv_iinc (v := (x2 + 1)) (lv' := [(2, .int (x2 + 1)), (1, .int y3), (0, .ref (a 0))]) (pc := 36) hx hb dX5_musts_36 hl (k := 2) rfl (ii1 _) (by decide) rfl (fun ls hl => ?_)
      refine lv_goto (tgt := 4) (pc := 39) hx hb dX5_musts_39 (by decide) ?_
      exact hk4 _ _ h ls (lv_sub hl [2, 1, 0] rfl)
theorem t_X5_musts_4 {rr : Int32} (hI : aI 18 a) (N : Nat) (C : bC D E RX5 cX5_musts 3 (some .int) p s m args meth c) {S : St} (hP : va_P D vwCl (Wm E a S) s.heap) {n : Nat} {x1 : Int32} {x2 : Int32} (h : lpI (F_X5_musts_4 N S) n (x1, x2) = some rr) : gR p l e (bRm 3 63) s m args below meth c 3 (qS below rr args s) 4 [(0, .ref (a 0)), (1, .int x1), (2, .int x2)] [] := by
  exact lpI_ind (P := fun v q => q = rr → gR p l e (bRm 3 63) s m args below meth c 3 (qS below rr args s) 4 [(0, .ref (a 0)), (1, .int v.1), (2, .int v.2)] []) (fun k hk v q h9 hq => s_X5_musts_4 hI N C hP k (fun x1 x2 h8 => hk (x1, x2) _ h8 rfl) (h9.trans (congrArg some hq))) n (x1, x2) _ h rfl
def f_X5_musts (N : Nat) (S : St) : Option (Int32) :=
  lpI (F_X5_musts_4 N S) N (0, 0)
theorem t_X5_musts_0 {rr : Int32} (hI : aI 18 a) (N : Nat) (C : bC D E RX5 cX5_musts 3 (some .int) p s m args meth c) {S : St} (hP : va_P D vwCl (Wm E a S) s.heap) (h : f_X5_musts N S = some rr) : gR p l e (bRm 3 63) s m args below meth c 3 (qS below rr args s) 0 [(0, .ref (a 0))] [] := by
  obtain ⟨hx, hb, hml, hown, hts, hK, hr, hlocks⟩ := id C
  intro ls hl
  unfold f_X5_musts at h
  refine lv_iconst (v := 0) (pc := 0) hx hb dX5_musts_0 (by decide) ?_
  refine lv_istore_n (lv' := [(1, .int 0), (0, .ref (a 0))]) (pc := 1) hx hb dX5_musts_1 rfl hl (by decide) rfl (fun ls hl => ?_)
  refine lv_iconst (v := 0) (pc := 2) hx hb dX5_musts_2 (by decide) ?_
  refine lv_istore_n (lv' := [(2, .int 0), (1, .int 0), (0, .ref (a 0))]) (pc := 3) hx hb dX5_musts_3 rfl hl (by decide) rfl (fun ls hl => ?_)
  exact t_X5_musts_4 hI N C hP h ls (lv_sub hl [2, 1, 0] rfl)
theorem c_X5_musts {l : Launch} {D : va_G} {E : bE} {a : Nat → Nat} (hI : aI 18 a) (N : Nat) {rr : Int32} {S : St} (h : f_X5_musts N S = some rr) : cR l D E yX5_musts cX5_musts 3 (some .int) 3 63 (Wm E a S) [.ref (a 0)] rr := cR_of (by decide) (Nat.le_of_ble_eq_true rfl) (fun p e s m args below meth c C hP => t_X5_musts_0 hI N C hP h)
/-! X5_mayGo -/
def FB_X5_mayGo_12 (N : Nat) (S : St) (k12 : Int32 × Int32 → Option (Int32)) (x1 : Int32) (x2 : Int32) : Option (Int32) :=
  if 6 ≤ x2 then (some x1) else (bd (f_X5_reaches x2 S) fun r1 => if r1 = 0 then (bd (some (x1 &&& 31)) fun y2 => k12 (y2, (x2 + 1))) else (gd (ix x2 6) (gd (ix (S 10 (Int32.toNatClampNeg x2)) 5) (bd (some (x1 &&& (S 4 (Int32.toNatClampNeg (S 10 (Int32.toNatClampNeg x2)))))) fun y3 => k12 (y3, (x2 + 1))))))
def F_X5_mayGo_12 (N : Nat) (S : St) (k12 : Int32 × Int32 → Option (Int32)) (v : Int32 × Int32) : Option (Int32) := FB_X5_mayGo_12 N S k12 v.1 v.2
theorem s_X5_mayGo_12 {rr : Int32} (hI : aI 18 a) (N : Nat) (C : bC D E RX5 cX5_mayGo 3 (some .int) p s m args meth c) {S : St} (hP : va_P D vwCl (Wm E a S) s.heap) (k12 : Int32 × Int32 → Option (Int32)) (hk12 : ∀ (x1 : Int32) (x2 : Int32), k12 (x1, x2) = some rr → gR p l e (bRm 3 63) s m args below meth c 3 (qS below rr args s) 12 [(0, .ref (a 0)), (1, .int x1), (2, .int x2)] []) {x1 : Int32} {x2 : Int32} (h : FB_X5_mayGo_12 N S k12 x1 x2 = some rr) : gR p l e (bRm 3 63) s m args below meth c 3 (qS below rr args s) 12 [(0, .ref (a 0)), (1, .int x1), (2, .int x2)] [] := by
  obtain ⟨hx, hb, hml, hown, hts, hK, hr, hlocks⟩ := id C
  intro ls hl
  unfold FB_X5_mayGo_12 at h
  refine lv_iload_n (pc := 12) hx hb dX5_mayGo_12 rfl (lv_at hl 2 rfl) ?_
  refine lv_bipush (v := 6) (pc := 13) hx hb dX5_mayGo_13 (by decide) ?_
  refine lv_icmp_ge (tgt := 51) (pc := 15) hx hb dX5_mayGo_15 (by decide) (fun hc => ?_) (fun hc => ?_)
  · have h := if_y hc h
    refine lv_iload_n (pc := 51) hx hb dX5_mayGo_51 rfl (lv_at hl 1 rfl) ?_
    exact r_retS (pc := 52) C h dX5_mayGo_52
  · have h := if_n hc h
    refine lv_iload_n (pc := 18) hx hb dX5_mayGo_18 rfl (lv_at hl 1 rfl) ?_
    refine lv_aload_n (pc := 19) hx hb dX5_mayGo_19 rfl (lv_at hl 0 rfl) ?_
    refine lv_iload_n (pc := 20) hx hb dX5_mayGo_20 rfl (lv_at hl 2 rfl) ?_
    obtain ⟨r1, hr1, h⟩ := bd_some h
    refine r_callR (pc := 21) C hP (c_X5_reaches hI hr1) k_X5_reaches wd_720 (q0 := 0) wm0 rfl rfl ⟨Nat.le_of_ble_eq_true rfl, Nat.le_of_ble_eq_true rfl⟩ rfl hl.1 rfl (Nat.le_of_ble_eq_true rfl) dX5_mayGo_21 ⟨Nat.zero_le _, Nat.zero_le _⟩ ?_
    refine lv_if_eq (tgt := 41) (pc := 24) hx hb dX5_mayGo_24 (by decide) (fun hc => ?_) (fun hc => ?_)
    · have h := if_y hc h
      refine lv_bipush (v := 31) (pc := 41) hx hb dX5_mayGo_41 (by decide) ?_
      refine lv_iand (pc := 43) hx hb dX5_mayGo_43 ?_
      refine lv_topi (fun y2 ey2 => ?_)
      have h := bd_y ey2 h
      refine lv_istore_n (lv' := [(1, .int y2), (0, .ref (a 0)), (2, .int x2)]) (pc := 44) hx hb dX5_mayGo_44 rfl hl (by decide) rfl (fun ls hl => ?_)
      refine lv_iinc (v := (x2 + 1)) (lv' := [(2, .int (x2 + 1)), (1, .int y2), (0, .ref (a 0))]) (pc := 45) hx hb dX5_mayGo_45 hl (k := 2) rfl (ii1 _) (by decide) rfl (fun ls hl => ?_)
      refine lv_goto (tgt := 12) (pc := 48) hx hb dX5_mayGo_48 (by decide) ?_
      exact hk12 _ _ h ls (lv_sub hl [2, 1, 0] rfl)
    · have h := if_n hc h
      refine lv_aload_n (pc := 27) hx hb dX5_mayGo_27 rfl (lv_at hl 0 rfl) ?_
      refine va_get (pc := 28) (v := .ref (a 4)) hx hb hts inB5 hown hK.1 hP 0 wm0 rfl 4 (by decide) (hts _ wd_555) (fun _ h9 => h9) rfl dX5_mayGo_28 ?_
      refine lv_aload_n (pc := 31) hx hb dX5_mayGo_31 rfl (lv_at hl 0 rfl) ?_
      refine va_get (pc := 32) (v := .ref (a 10)) hx hb hts inB5 hown hK.1 hP 0 wm0 rfl 16 (by decide) (hts _ wd_567) (fun _ h9 => h9) rfl dX5_mayGo_32 ?_
      refine lv_iload_n (pc := 35) hx hb dX5_mayGo_35 rfl (lv_at hl 2 rfl) ?_
      obtain ⟨hin, h⟩ := gd_some h
      refine r_ald (pc := 36) hx hb hK hP 10 wm10 hin dX5_mayGo_36 ?_
      obtain ⟨hin, h⟩ := gd_some h
      refine r_ald (pc := 37) hx hb hK hP 4 wm4 hin dX5_mayGo_37 ?_
      refine lv_goto (tgt := 43) (pc := 38) hx hb dX5_mayGo_38 (by decide) ?_
      refine lv_iand (pc := 43) hx hb dX5_mayGo_43 ?_
      refine lv_topi (fun y3 ey3 => ?_)
      have h := bd_y ey3 h
      refine lv_istore_n (lv' := [(1, .int y3), (0, .ref (a 0)), (2, .int x2)]) (pc := 44) hx hb dX5_mayGo_44 rfl hl (by decide) rfl (fun ls hl => ?_)
      refine lv_iinc (v := (x2 + 1)) (lv' := [(2, .int (x2 + 1)), (1, .int y3), (0, .ref (a 0))]) (pc := 45) hx hb dX5_mayGo_45 hl (k := 2) rfl (ii1 _) (by decide) rfl (fun ls hl => ?_)
      refine lv_goto (tgt := 12) (pc := 48) hx hb dX5_mayGo_48 (by decide) ?_
      exact hk12 _ _ h ls (lv_sub hl [2, 1, 0] rfl)
theorem t_X5_mayGo_12 {rr : Int32} (hI : aI 18 a) (N : Nat) (C : bC D E RX5 cX5_mayGo 3 (some .int) p s m args meth c) {S : St} (hP : va_P D vwCl (Wm E a S) s.heap) {n : Nat} {x1 : Int32} {x2 : Int32} (h : lpI (F_X5_mayGo_12 N S) n (x1, x2) = some rr) : gR p l e (bRm 3 63) s m args below meth c 3 (qS below rr args s) 12 [(0, .ref (a 0)), (1, .int x1), (2, .int x2)] [] := by
  exact lpI_ind (P := fun v q => q = rr → gR p l e (bRm 3 63) s m args below meth c 3 (qS below rr args s) 12 [(0, .ref (a 0)), (1, .int v.1), (2, .int v.2)] []) (fun k hk v q h9 hq => s_X5_mayGo_12 hI N C hP k (fun x1 x2 h8 => hk (x1, x2) _ h8 rfl) (h9.trans (congrArg some hq))) n (x1, x2) _ h rfl
def f_X5_mayGo (N : Nat) (S : St) : Option (Int32) :=
  gd (ix (S 0 8) 6) (bd (some (S 9 (Int32.toNatClampNeg (S 0 8)))) fun y1 => lpI (F_X5_mayGo_12 N S) N (y1, 0))
theorem t_X5_mayGo_0 {rr : Int32} (hI : aI 18 a) (N : Nat) (C : bC D E RX5 cX5_mayGo 3 (some .int) p s m args meth c) {S : St} (hP : va_P D vwCl (Wm E a S) s.heap) (h : f_X5_mayGo N S = some rr) : gR p l e (bRm 3 63) s m args below meth c 3 (qS below rr args s) 0 [(0, .ref (a 0))] [] := by
  obtain ⟨hx, hb, hml, hown, hts, hK, hr, hlocks⟩ := id C
  intro ls hl
  unfold f_X5_mayGo at h
  refine lv_aload_n (pc := 0) hx hb dX5_mayGo_0 rfl (lv_at hl 0 rfl) ?_
  refine va_get (pc := 1) (v := .ref (a 9)) hx hb hts inB5 hown hK.1 hP 0 wm0 rfl 14 (by decide) (hts _ wd_565) (fun _ h9 => h9) rfl dX5_mayGo_1 ?_
  refine lv_aload_n (pc := 4) hx hb dX5_mayGo_4 rfl (lv_at hl 0 rfl) ?_
  refine va_get (pc := 5) (v := .int (S 0 8)) hx hb hts inB5 hown hK.1 hP 0 wm0 rfl 8 (by decide) (hts _ wd_559) (fun _ h9 => h9) rfl dX5_mayGo_5 ?_
  obtain ⟨hin, h⟩ := gd_some h
  refine r_ald (pc := 8) hx hb hK hP 9 wm9 hin dX5_mayGo_8 ?_
  refine lv_topi (fun y1 ey1 => ?_)
  have h := bd_y ey1 h
  refine lv_istore_n (lv' := [(1, .int y1), (0, .ref (a 0))]) (pc := 9) hx hb dX5_mayGo_9 rfl hl (by decide) rfl (fun ls hl => ?_)
  refine lv_iconst (v := 0) (pc := 10) hx hb dX5_mayGo_10 (by decide) ?_
  refine lv_istore_n (lv' := [(2, .int 0), (1, .int y1), (0, .ref (a 0))]) (pc := 11) hx hb dX5_mayGo_11 rfl hl (by decide) rfl (fun ls hl => ?_)
  exact t_X5_mayGo_12 hI N C hP h ls (lv_sub hl [2, 1, 0] rfl)
theorem c_X5_mayGo {l : Launch} {D : va_G} {E : bE} {a : Nat → Nat} (hI : aI 18 a) (N : Nat) {rr : Int32} {S : St} (h : f_X5_mayGo N S = some rr) : cR l D E yX5_mayGo cX5_mayGo 3 (some .int) 3 63 (Wm E a S) [.ref (a 0)] rr := cR_of (by decide) (Nat.le_of_ble_eq_true rfl) (fun p e s m args below meth c C hP => t_X5_mayGo_0 hI N C hP h)
/-! X5_by -/
def FB_X5_by_139 (N : Nat) (k139 : Int32 × Int32 × Int32 × St → Option (Int32 × St)) (x2 : Int32) (x5 : Int32) (x6 : Int32) (S : St) : Option (Int32 × St) :=
  if 6 ≤ x6 then (if x2 = 0 then (some (x5, S)) else (bd (f_X5_musts N S) fun r1 => bd (f_X5_byWay r1 (x2 - 1)) fun r2 => some (r2, S))) else (bd (f_X5_reaches x6 S) fun r3 => if r3 = 0 then (bd (some (x5 ||| 0)) fun y4 => k139 (x2, y4, (x6 + 1), S)) else (bd (some (x5 ||| (1 <<< (x6 &&& 31)))) fun y5 => k139 (x2, y5, (x6 + 1), S)))
def F_X5_by_139 (N : Nat) (k139 : Int32 × Int32 × Int32 × St → Option (Int32 × St)) (v : Int32 × Int32 × Int32 × St) : Option (Int32 × St) := FB_X5_by_139 N k139 v.1 v.2.1 v.2.2.1 v.2.2.2
theorem s_X5_by_139 {rr : Int32} {SS : St} (hI : aI 18 a) (N : Nat) (C : bC D E RX5 cX5_by 7 (some .int) p s m args meth c) (k139 : Int32 × Int32 × Int32 × St → Option (Int32 × St)) (hk139 : ∀ (x2 : Int32) (x5 : Int32) (x6 : Int32) (S : St), k139 (x2, x5, x6, S) = some (rr, SS) → gU D (Wm E a) (aA 18 a) p l e (bRm 4 85) s m args below meth c 7 (qU D below (aA 18 a) (Wm E a SS) rr args s) 139 [(0, .ref (a 0)), (2, .int x2), (5, .int x5), (6, .int x6)] [] S) {x2 : Int32} {x5 : Int32} {x6 : Int32} {S : St} (h : FB_X5_by_139 N k139 x2 x5 x6 S = some (rr, SS)) : gU D (Wm E a) (aA 18 a) p l e (bRm 4 85) s m args below meth c 7 (qU D below (aA 18 a) (Wm E a SS) rr args s) 139 [(0, .ref (a 0)), (2, .int x2), (5, .int x5), (6, .int x6)] [] S := by
  obtain ⟨hx, hb, hml, hown, hts, hK, hr, hlocks⟩ := id C
  intro H locs hP hS ls hl
  unfold FB_X5_by_139 at h
  refine lv_iload (pc := 139) hx hb dX5_by_139 (lv_at hl 3 rfl) ?_
  refine lv_bipush (v := 6) (pc := 141) hx hb dX5_by_141 (by decide) ?_
  refine lv_icmp_ge (tgt := 174) (pc := 143) hx hb dX5_by_143 (by decide) (fun hc => ?_) (fun hc => ?_)
  · have h := if_y hc h
    refine lv_iload_n (pc := 174) hx hb dX5_by_174 rfl (lv_at hl 1 rfl) ?_
    refine lv_if_ne (tgt := 183) (pc := 175) hx hb dX5_by_175 (by decide) (fun hc => ?_) (fun hc => ?_)
    · have h := if_n hc h
      refine lv_aload_n (pc := 183) hx hb dX5_by_183 rfl (lv_at hl 0 rfl) ?_
      obtain ⟨r1, hr1, h⟩ := bd_some h
      refine r_callR (pc := 184) C hP (c_X5_musts hI N hr1) k_X5_musts wd_724 (q0 := 0) wm0 rfl rfl ⟨Nat.le_of_ble_eq_true rfl, Nat.le_of_ble_eq_true rfl⟩ rfl hl.1 rfl (Nat.le_of_ble_eq_true rfl) dX5_by_184 ⟨Nat.zero_le _, Nat.zero_le _⟩ ?_
      refine lv_iload_n (pc := 187) hx hb dX5_by_187 rfl (lv_at hl 1 rfl) ?_
      refine lv_iconst (v := 1) (pc := 188) hx hb dX5_by_188 (by decide) ?_
      refine lv_isub (pc := 189) hx hb dX5_by_189 ?_
      obtain ⟨r2, hr2, h⟩ := bd_some h
      refine r_callS (pc := 190) C (c_X5_byWay hr2) k_X5_byWay wd_728 ⟨Nat.le_of_ble_eq_true rfl, Nat.le_of_ble_eq_true rfl⟩ rfl hl.1 rfl (Nat.le_of_ble_eq_true rfl) dX5_by_190 ⟨Nat.zero_le _, Nat.zero_le _⟩ ?_
      exact r_retU (pc := 193) (𝓦 := Wm E a) C h hP hS dX5_by_193
    · have h := if_y hc h
      refine lv_iload (pc := 178) hx hb dX5_by_178 (lv_at hl 2 rfl) ?_
      refine lv_goto (tgt := 193) (pc := 180) hx hb dX5_by_180 (by decide) ?_
      exact r_retU (pc := 193) (𝓦 := Wm E a) C h hP hS dX5_by_193
  · have h := if_n hc h
    refine lv_iload (pc := 146) hx hb dX5_by_146 (lv_at hl 2 rfl) ?_
    refine lv_aload_n (pc := 148) hx hb dX5_by_148 rfl (lv_at hl 0 rfl) ?_
    refine lv_iload (pc := 149) hx hb dX5_by_149 (lv_at hl 3 rfl) ?_
    obtain ⟨r3, hr3, h⟩ := bd_some h
    refine r_callR (pc := 151) C hP (c_X5_reaches hI hr3) k_X5_reaches wd_720 (q0 := 0) wm0 rfl rfl ⟨Nat.le_of_ble_eq_true rfl, Nat.le_of_ble_eq_true rfl⟩ rfl hl.1 rfl (Nat.le_of_ble_eq_true rfl) dX5_by_151 ⟨Nat.zero_le _, Nat.zero_le _⟩ ?_
    refine lv_if_eq (tgt := 164) (pc := 154) hx hb dX5_by_154 (by decide) (fun hc => ?_) (fun hc => ?_)
    · have h := if_y hc h
      refine lv_iconst (v := 0) (pc := 164) hx hb dX5_by_164 (by decide) ?_
      refine lv_ior (pc := 165) hx hb dX5_by_165 ?_
      refine lv_topi (fun y4 ey4 => ?_)
      have h := bd_y ey4 h
      refine lv_istore (lv' := [(5, .int y4), (0, .ref (a 0)), (2, .int x2), (6, .int x6)]) (pc := 166) hx hb dX5_by_166 hl (by decide) rfl (fun ls hl => ?_)
      refine lv_iinc (v := (x6 + 1)) (lv' := [(6, .int (x6 + 1)), (5, .int y4), (0, .ref (a 0)), (2, .int x2)]) (pc := 168) hx hb dX5_by_168 hl (k := 3) rfl (ii1 _) (by decide) rfl (fun ls hl => ?_)
      refine lv_goto (tgt := 139) (pc := 171) hx hb dX5_by_171 (by decide) ?_
      exact hk139 _ _ _ _ h H locs hP hS ls (lv_sub hl [2, 3, 1, 0] rfl)
    · have h := if_n hc h
      refine lv_iconst (v := 1) (pc := 157) hx hb dX5_by_157 (by decide) ?_
      refine lv_iload (pc := 158) hx hb dX5_by_158 (lv_at hl 3 rfl) ?_
      refine lv_ishl (pc := 160) hx hb dX5_by_160 ?_
      refine lv_goto (tgt := 165) (pc := 161) hx hb dX5_by_161 (by decide) ?_
      refine lv_ior (pc := 165) hx hb dX5_by_165 ?_
      refine lv_topi (fun y5 ey5 => ?_)
      have h := bd_y ey5 h
      refine lv_istore (lv' := [(5, .int y5), (0, .ref (a 0)), (2, .int x2), (6, .int x6)]) (pc := 166) hx hb dX5_by_166 hl (by decide) rfl (fun ls hl => ?_)
      refine lv_iinc (v := (x6 + 1)) (lv' := [(6, .int (x6 + 1)), (5, .int y5), (0, .ref (a 0)), (2, .int x2)]) (pc := 168) hx hb dX5_by_168 hl (k := 3) rfl (ii1 _) (by decide) rfl (fun ls hl => ?_)
      refine lv_goto (tgt := 139) (pc := 171) hx hb dX5_by_171 (by decide) ?_
      exact hk139 _ _ _ _ h H locs hP hS ls (lv_sub hl [2, 3, 1, 0] rfl)
theorem t_X5_by_139 {rr : Int32} {SS : St} (hI : aI 18 a) (N : Nat) (C : bC D E RX5 cX5_by 7 (some .int) p s m args meth c) {n : Nat} {x2 : Int32} {x5 : Int32} {x6 : Int32} {S : St} (h : lpI (F_X5_by_139 N) n (x2, x5, x6, S) = some (rr, SS)) : gU D (Wm E a) (aA 18 a) p l e (bRm 4 85) s m args below meth c 7 (qU D below (aA 18 a) (Wm E a SS) rr args s) 139 [(0, .ref (a 0)), (2, .int x2), (5, .int x5), (6, .int x6)] [] S := by
  exact lpI_ind (P := fun v q => q = (rr, SS) → gU D (Wm E a) (aA 18 a) p l e (bRm 4 85) s m args below meth c 7 (qU D below (aA 18 a) (Wm E a SS) rr args s) 139 [(0, .ref (a 0)), (2, .int v.1), (5, .int v.2.1), (6, .int v.2.2.1)] [] v.2.2.2) (fun k hk v q h9 hq => s_X5_by_139 hI N C k (fun x2 x5 x6 S h8 => hk (x2, x5, x6, S) _ h8 rfl) (h9.trans (congrArg some hq))) n (x2, x5, x6, S) _ h rfl
def B_X5_by_89 (N : Nat) (k28 : Int32 × Int32 × Int32 × Int32 × St → Option (Int32 × St)) (x2 : Int32) (x3 : Int32) (x5 : Int32) (x6 : Int32) (S : St) : Option (Int32 × St) :=
  gd (ix x5 6) (bd (some (sto S 10 (Int32.toNatClampNeg x5) x6)) fun S1 => k28 (x2, x3, 1, (x5 + 1), S1))
theorem t_X5_by_89 {rr : Int32} {SS : St} (hI : aI 18 a) (N : Nat) (C : bC D E RX5 cX5_by 7 (some .int) p s m args meth c) (k28 : Int32 × Int32 × Int32 × Int32 × St → Option (Int32 × St)) (hk28 : ∀ (x2 : Int32) (x3 : Int32) (x4 : Int32) (x5 : Int32) (S : St), k28 (x2, x3, x4, x5, S) = some (rr, SS) → gU D (Wm E a) (aA 18 a) p l e (bRm 4 85) s m args below meth c 7 (qU D below (aA 18 a) (Wm E a SS) rr args s) 28 [(0, .ref (a 0)), (2, .int x2), (3, .int x3), (4, .int x4), (5, .int x5)] [] S) {x2 : Int32} {x3 : Int32} {x5 : Int32} {x6 : Int32} {S : St} (h : B_X5_by_89 N k28 x2 x3 x5 x6 S = some (rr, SS)) : gU D (Wm E a) (aA 18 a) p l e (bRm 4 85) s m args below meth c 7 (qU D below (aA 18 a) (Wm E a SS) rr args s) 89 [(0, .ref (a 0)), (2, .int x2), (3, .int x3), (5, .int x5), (6, .int x6)] [] S := by
  obtain ⟨hx, hb, hml, hown, hts, hK, hr, hlocks⟩ := id C
  intro H locs hP hS ls hl
  unfold B_X5_by_89 at h
  refine lv_iconst (v := 1) (pc := 89) hx hb dX5_by_89 (by decide) ?_
  refine lv_goto (tgt := 94) (pc := 90) hx hb dX5_by_90 (by decide) ?_
  refine lv_istore (lv' := [(4, .int 1), (0, .ref (a 0)), (2, .int x2), (3, .int x3), (5, .int x5), (6, .int x6)]) (pc := 94) hx hb dX5_by_94 hl (by decide) rfl (fun ls hl => ?_)
  refine lv_aload_n (pc := 96) hx hb dX5_by_96 rfl (lv_at hl 1 rfl) ?_
  refine va_get (pc := 97) (v := .ref (a 10)) hx hb hts inB5 hown hK.1 hP 0 wm0 rfl 16 (by decide) (hts _ wd_567) (fun _ h9 => h9) rfl dX5_by_97 ?_
  refine lv_iload (pc := 100) hx hb dX5_by_100 (lv_at hl 4 rfl) ?_
  refine lv_iload (pc := 102) hx hb dX5_by_102 (lv_at hl 5 rfl) ?_
  obtain ⟨hin, h⟩ := gd_some h
  refine r_ast (pc := 104) (𝓦 := Wm E a) hx hb hK hP (dM hI _) hS 10 wm10 wm10s hin dX5_by_104 (fun H locs S1 eS1 hP hS => ?_)
  have h := bd_y eS1 h
  refine lv_iinc (v := (x5 + 1)) (lv' := [(5, .int (x5 + 1)), (4, .int 1), (0, .ref (a 0)), (2, .int x2), (3, .int x3), (6, .int x6)]) (pc := 105) hx hb dX5_by_105 hl (k := 4) rfl (ii1 _) (by decide) rfl (fun ls hl => ?_)
  refine lv_goto (tgt := 28) (pc := 108) hx hb dX5_by_108 (by decide) ?_
  exact hk28 _ _ _ _ _ h H locs hP hS ls (lv_sub hl [2, 3, 4, 1, 0] rfl)
def FB_X5_by_28 (N : Nat) (k28 : Int32 × Int32 × Int32 × Int32 × St → Option (Int32 × St)) (x2 : Int32) (x3 : Int32) (x4 : Int32) (x5 : Int32) (S : St) : Option (Int32 × St) :=
  if 6 ≤ x5 then (if x4 = 0 then (some ((-2), S)) else (if x3 ≤ 0 then (if x2 = 4 then (bd (f_X5_mayGo N S) fun r1 => some (r1, S)) else (lpI (F_X5_by_139 N) N (x2, 0, 0, S))) else (some ((-2), S)))) else (bd (some (x3 - x3 / 10 * 10)) fun y2 => bd (some (x3 / 10)) fun y3 => if x4 = 0 then (gd (ix x5 6) (bd (some (sto S 10 (Int32.toNatClampNeg x5) y2)) fun S1 => k28 (x2, y3, 0, (x5 + 1), S1))) else (bd (f_X5_isChosen x5 S) fun r4 => if r4 = 0 then (if y2 = 0 then (B_X5_by_89 N k28 x2 y3 x5 y2 S) else (gd (ix x5 6) (bd (some (sto S 10 (Int32.toNatClampNeg x5) y2)) fun S2 => k28 (x2, y3, 0, (x5 + 1), S2)))) else (if 5 ≤ y2 then (gd (ix x5 6) (bd (some (sto S 10 (Int32.toNatClampNeg x5) y2)) fun S3 => k28 (x2, y3, 0, (x5 + 1), S3))) else (gd (ix x5 6) (bd (f_X5_has (S 9 (Int32.toNatClampNeg x5)) y2) fun r5 => if r5 = 0 then (gd (ix x5 6) (bd (some (sto S 10 (Int32.toNatClampNeg x5) y2)) fun S4 => k28 (x2, y3, 0, (x5 + 1), S4))) else (B_X5_by_89 N k28 x2 y3 x5 y2 S))))))
def F_X5_by_28 (N : Nat) (k28 : Int32 × Int32 × Int32 × Int32 × St → Option (Int32 × St)) (v : Int32 × Int32 × Int32 × Int32 × St) : Option (Int32 × St) := FB_X5_by_28 N k28 v.1 v.2.1 v.2.2.1 v.2.2.2.1 v.2.2.2.2
theorem s_X5_by_28 {rr : Int32} {SS : St} (hI : aI 18 a) (N : Nat) (C : bC D E RX5 cX5_by 7 (some .int) p s m args meth c) (k28 : Int32 × Int32 × Int32 × Int32 × St → Option (Int32 × St)) (hk28 : ∀ (x2 : Int32) (x3 : Int32) (x4 : Int32) (x5 : Int32) (S : St), k28 (x2, x3, x4, x5, S) = some (rr, SS) → gU D (Wm E a) (aA 18 a) p l e (bRm 4 85) s m args below meth c 7 (qU D below (aA 18 a) (Wm E a SS) rr args s) 28 [(0, .ref (a 0)), (2, .int x2), (3, .int x3), (4, .int x4), (5, .int x5)] [] S) {x2 : Int32} {x3 : Int32} {x4 : Int32} {x5 : Int32} {S : St} (h : FB_X5_by_28 N k28 x2 x3 x4 x5 S = some (rr, SS)) : gU D (Wm E a) (aA 18 a) p l e (bRm 4 85) s m args below meth c 7 (qU D below (aA 18 a) (Wm E a SS) rr args s) 28 [(0, .ref (a 0)), (2, .int x2), (3, .int x3), (4, .int x4), (5, .int x5)] [] S := by
  obtain ⟨hx, hb, hml, hown, hts, hK, hr, hlocks⟩ := id C
  intro H locs hP hS ls hl
  unfold FB_X5_by_28 at h
  refine lv_iload (pc := 28) hx hb dX5_by_28 (lv_at hl 4 rfl) ?_
  refine lv_bipush (v := 6) (pc := 30) hx hb dX5_by_30 (by decide) ?_
  refine lv_icmp_ge (tgt := 111) (pc := 32) hx hb dX5_by_32 (by decide) (fun hc => ?_) (fun hc => ?_)
  · have h := if_y hc h
    refine lv_iload (pc := 111) hx hb dX5_by_111 (lv_at hl 3 rfl) ?_
    refine lv_if_eq (tgt := 120) (pc := 113) hx hb dX5_by_113 (by decide) (fun hc => ?_) (fun hc => ?_)
    · have h := if_y hc h
      refine lv_bipush (v := (-2)) (pc := 120) hx hb dX5_by_120 (by decide) ?_
      exact r_retU (pc := 122) (𝓦 := Wm E a) C h hP hS dX5_by_122
    · have h := if_n hc h
      refine lv_iload_n (pc := 116) hx hb dX5_by_116 rfl (lv_at hl 2 rfl) ?_
      refine lv_if_le (tgt := 123) (pc := 117) hx hb dX5_by_117 (by decide) (fun hc => ?_) (fun hc => ?_)
      · have h := if_y hc h
        refine lv_iload_n (pc := 123) hx hb dX5_by_123 rfl (lv_at hl 1 rfl) ?_
        refine lv_iconst (v := 4) (pc := 124) hx hb dX5_by_124 (by decide) ?_
        refine lv_icmp_ne (tgt := 133) (pc := 125) hx hb dX5_by_125 (by decide) (fun hc => ?_) (fun hc => ?_)
        · have h := if_n hc h
          refine lv_iconst (v := 0) (pc := 133) hx hb dX5_by_133 (by decide) ?_
          refine lv_istore (lv' := [(5, .int 0), (0, .ref (a 0)), (2, .int x2), (3, .int x3), (4, .int x4)]) (pc := 134) hx hb dX5_by_134 hl (by decide) rfl (fun ls hl => ?_)
          refine lv_iconst (v := 0) (pc := 136) hx hb dX5_by_136 (by decide) ?_
          refine lv_istore (lv' := [(6, .int 0), (5, .int 0), (0, .ref (a 0)), (2, .int x2), (3, .int x3), (4, .int x4)]) (pc := 137) hx hb dX5_by_137 hl (by decide) rfl (fun ls hl => ?_)
          exact t_X5_by_139 hI N C h H locs hP hS ls (lv_sub hl [2, 3, 1, 0] rfl)
        · have h := if_y hc h
          refine lv_aload_n (pc := 128) hx hb dX5_by_128 rfl (lv_at hl 0 rfl) ?_
          obtain ⟨r1, hr1, h⟩ := bd_some h
          refine r_callR (pc := 129) C hP (c_X5_mayGo hI N hr1) k_X5_mayGo wd_716 (q0 := 0) wm0 rfl rfl ⟨Nat.le_of_ble_eq_true rfl, Nat.le_of_ble_eq_true rfl⟩ rfl hl.1 rfl (Nat.le_of_ble_eq_true rfl) dX5_by_129 ⟨Nat.zero_le _, Nat.zero_le _⟩ ?_
          exact r_retU (pc := 132) (𝓦 := Wm E a) C h hP hS dX5_by_132
      · have h := if_n hc h
        refine lv_bipush (v := (-2)) (pc := 120) hx hb dX5_by_120 (by decide) ?_
        exact r_retU (pc := 122) (𝓦 := Wm E a) C h hP hS dX5_by_122
  · have h := if_n hc h
    refine lv_iload_n (pc := 35) hx hb dX5_by_35 rfl (lv_at hl 2 rfl) ?_
    refine lv_bipush (v := 10) (pc := 36) hx hb dX5_by_36 (by decide) ?_
    refine lv_irem (pc := 38) hx hb dX5_by_38 (by decide) ?_
    refine lv_topi (fun y2 ey2 => ?_)
    have h := bd_y ey2 h
    refine lv_istore (lv' := [(6, .int y2), (0, .ref (a 0)), (2, .int x2), (3, .int x3), (4, .int x4), (5, .int x5)]) (pc := 39) hx hb dX5_by_39 hl (by decide) rfl (fun ls hl => ?_)
    refine lv_iload_n (pc := 41) hx hb dX5_by_41 rfl (lv_at hl 3 rfl) ?_
    refine lv_bipush (v := 10) (pc := 42) hx hb dX5_by_42 (by decide) ?_
    refine lv_idiv (pc := 44) hx hb dX5_by_44 (by decide) ?_
    refine lv_topi (fun y3 ey3 => ?_)
    have h := bd_y ey3 h
    refine lv_istore_n (lv' := [(3, .int y3), (6, .int y2), (0, .ref (a 0)), (2, .int x2), (4, .int x4), (5, .int x5)]) (pc := 45) hx hb dX5_by_45 rfl hl (by decide) rfl (fun ls hl => ?_)
    refine lv_iload (pc := 46) hx hb dX5_by_46 (lv_at hl 4 rfl) ?_
    refine lv_if_eq (tgt := 93) (pc := 48) hx hb dX5_by_48 (by decide) (fun hc => ?_) (fun hc => ?_)
    · have h := if_y hc h
      refine lv_iconst (v := 0) (pc := 93) hx hb dX5_by_93 (by decide) ?_
      refine lv_istore (lv' := [(4, .int 0), (3, .int y3), (6, .int y2), (0, .ref (a 0)), (2, .int x2), (5, .int x5)]) (pc := 94) hx hb dX5_by_94 hl (by decide) rfl (fun ls hl => ?_)
      refine lv_aload_n (pc := 96) hx hb dX5_by_96 rfl (lv_at hl 3 rfl) ?_
      refine va_get (pc := 97) (v := .ref (a 10)) hx hb hts inB5 hown hK.1 hP 0 wm0 rfl 16 (by decide) (hts _ wd_567) (fun _ h9 => h9) rfl dX5_by_97 ?_
      refine lv_iload (pc := 100) hx hb dX5_by_100 (lv_at hl 5 rfl) ?_
      refine lv_iload (pc := 102) hx hb dX5_by_102 (lv_at hl 2 rfl) ?_
      obtain ⟨hin, h⟩ := gd_some h
      refine r_ast (pc := 104) (𝓦 := Wm E a) hx hb hK hP (dM hI _) hS 10 wm10 wm10s hin dX5_by_104 (fun H locs S1 eS1 hP hS => ?_)
      have h := bd_y eS1 h
      refine lv_iinc (v := (x5 + 1)) (lv' := [(5, .int (x5 + 1)), (4, .int 0), (3, .int y3), (6, .int y2), (0, .ref (a 0)), (2, .int x2)]) (pc := 105) hx hb dX5_by_105 hl (k := 5) rfl (ii1 _) (by decide) rfl (fun ls hl => ?_)
      refine lv_goto (tgt := 28) (pc := 108) hx hb dX5_by_108 (by decide) ?_
      exact hk28 _ _ _ _ _ h H locs hP hS ls (lv_sub hl [4, 5, 2, 1, 0] rfl)
    · have h := if_n hc h
      refine lv_aload_n (pc := 51) hx hb dX5_by_51 rfl (lv_at hl 2 rfl) ?_
      refine lv_iload (pc := 52) hx hb dX5_by_52 (lv_at hl 5 rfl) ?_
      obtain ⟨r4, hr4, h⟩ := bd_some h
      refine r_callR (pc := 54) C hP (c_X5_isChosen hI hr4) k_X5_isChosen wd_712 (q0 := 0) wm0 rfl rfl ⟨Nat.le_of_ble_eq_true rfl, Nat.le_of_ble_eq_true rfl⟩ rfl hl.1 rfl (Nat.le_of_ble_eq_true rfl) dX5_by_54 ⟨Nat.zero_le _, Nat.zero_le _⟩ ?_
      refine lv_if_eq (tgt := 84) (pc := 57) hx hb dX5_by_57 (by decide) (fun hc => ?_) (fun hc => ?_)
      · have h := if_y hc h
        refine lv_iload (pc := 84) hx hb dX5_by_84 (lv_at hl 1 rfl) ?_
        refine lv_if_ne (tgt := 93) (pc := 86) hx hb dX5_by_86 (by decide) (fun hc => ?_) (fun hc => ?_)
        · have h := if_n hc h
          refine lv_iconst (v := 0) (pc := 93) hx hb dX5_by_93 (by decide) ?_
          refine lv_istore (lv' := [(4, .int 0), (3, .int y3), (6, .int y2), (0, .ref (a 0)), (2, .int x2), (5, .int x5)]) (pc := 94) hx hb dX5_by_94 hl (by decide) rfl (fun ls hl => ?_)
          refine lv_aload_n (pc := 96) hx hb dX5_by_96 rfl (lv_at hl 3 rfl) ?_
          refine va_get (pc := 97) (v := .ref (a 10)) hx hb hts inB5 hown hK.1 hP 0 wm0 rfl 16 (by decide) (hts _ wd_567) (fun _ h9 => h9) rfl dX5_by_97 ?_
          refine lv_iload (pc := 100) hx hb dX5_by_100 (lv_at hl 5 rfl) ?_
          refine lv_iload (pc := 102) hx hb dX5_by_102 (lv_at hl 2 rfl) ?_
          obtain ⟨hin, h⟩ := gd_some h
          refine r_ast (pc := 104) (𝓦 := Wm E a) hx hb hK hP (dM hI _) hS 10 wm10 wm10s hin dX5_by_104 (fun H locs S2 eS2 hP hS => ?_)
          have h := bd_y eS2 h
          refine lv_iinc (v := (x5 + 1)) (lv' := [(5, .int (x5 + 1)), (4, .int 0), (3, .int y3), (6, .int y2), (0, .ref (a 0)), (2, .int x2)]) (pc := 105) hx hb dX5_by_105 hl (k := 5) rfl (ii1 _) (by decide) rfl (fun ls hl => ?_)
          refine lv_goto (tgt := 28) (pc := 108) hx hb dX5_by_108 (by decide) ?_
          exact hk28 _ _ _ _ _ h H locs hP hS ls (lv_sub hl [4, 5, 2, 1, 0] rfl)
        · have h := if_y hc h
          exact t_X5_by_89 hI N C k28 hk28 h H locs hP hS ls (lv_sub hl [2, 3, 0, 5, 1] rfl)
      · have h := if_n hc h
        refine lv_iload (pc := 60) hx hb dX5_by_60 (lv_at hl 1 rfl) ?_
        refine lv_iconst (v := 5) (pc := 62) hx hb dX5_by_62 (by decide) ?_
        refine lv_icmp_ge (tgt := 93) (pc := 63) hx hb dX5_by_63 (by decide) (fun hc => ?_) (fun hc => ?_)
        · have h := if_y hc h
          refine lv_iconst (v := 0) (pc := 93) hx hb dX5_by_93 (by decide) ?_
          refine lv_istore (lv' := [(4, .int 0), (3, .int y3), (6, .int y2), (0, .ref (a 0)), (2, .int x2), (5, .int x5)]) (pc := 94) hx hb dX5_by_94 hl (by decide) rfl (fun ls hl => ?_)
          refine lv_aload_n (pc := 96) hx hb dX5_by_96 rfl (lv_at hl 3 rfl) ?_
          refine va_get (pc := 97) (v := .ref (a 10)) hx hb hts inB5 hown hK.1 hP 0 wm0 rfl 16 (by decide) (hts _ wd_567) (fun _ h9 => h9) rfl dX5_by_97 ?_
          refine lv_iload (pc := 100) hx hb dX5_by_100 (lv_at hl 5 rfl) ?_
          refine lv_iload (pc := 102) hx hb dX5_by_102 (lv_at hl 2 rfl) ?_
          obtain ⟨hin, h⟩ := gd_some h
          refine r_ast (pc := 104) (𝓦 := Wm E a) hx hb hK hP (dM hI _) hS 10 wm10 wm10s hin dX5_by_104 (fun H locs S3 eS3 hP hS => ?_)
          have h := bd_y eS3 h
          refine lv_iinc (v := (x5 + 1)) (lv' := [(5, .int (x5 + 1)), (4, .int 0), (3, .int y3), (6, .int y2), (0, .ref (a 0)), (2, .int x2)]) (pc := 105) hx hb dX5_by_105 hl (k := 5) rfl (ii1 _) (by decide) rfl (fun ls hl => ?_)
          refine lv_goto (tgt := 28) (pc := 108) hx hb dX5_by_108 (by decide) ?_
          exact hk28 _ _ _ _ _ h H locs hP hS ls (lv_sub hl [4, 5, 2, 1, 0] rfl)
        · have h := if_n hc h
          refine lv_aload_n (pc := 66) hx hb dX5_by_66 rfl (lv_at hl 2 rfl) ?_
          refine va_get (pc := 67) (v := .ref (a 9)) hx hb hts inB5 hown hK.1 hP 0 wm0 rfl 14 (by decide) (hts _ wd_565) (fun _ h9 => h9) rfl dX5_by_67 ?_
          refine lv_iload (pc := 70) hx hb dX5_by_70 (lv_at hl 5 rfl) ?_
          obtain ⟨hin, h⟩ := gd_some h
          refine r_ald (pc := 72) hx hb hK hP 9 wm9 hin dX5_by_72 ?_
          refine lv_iload (pc := 73) hx hb dX5_by_73 (lv_at hl 1 rfl) ?_
          obtain ⟨r5, hr5, h⟩ := bd_some h
          refine r_callS (pc := 75) C (c_X5_has hr5) k_X5_has wd_689 ⟨Nat.le_of_ble_eq_true rfl, Nat.le_of_ble_eq_true rfl⟩ rfl hl.1 rfl (Nat.le_of_ble_eq_true rfl) dX5_by_75 ⟨Nat.zero_le _, Nat.zero_le _⟩ ?_
          refine lv_if_eq (tgt := 93) (pc := 78) hx hb dX5_by_78 (by decide) (fun hc => ?_) (fun hc => ?_)
          · have h := if_y hc h
            refine lv_iconst (v := 0) (pc := 93) hx hb dX5_by_93 (by decide) ?_
            refine lv_istore (lv' := [(4, .int 0), (3, .int y3), (6, .int y2), (0, .ref (a 0)), (2, .int x2), (5, .int x5)]) (pc := 94) hx hb dX5_by_94 hl (by decide) rfl (fun ls hl => ?_)
            refine lv_aload_n (pc := 96) hx hb dX5_by_96 rfl (lv_at hl 3 rfl) ?_
            refine va_get (pc := 97) (v := .ref (a 10)) hx hb hts inB5 hown hK.1 hP 0 wm0 rfl 16 (by decide) (hts _ wd_567) (fun _ h9 => h9) rfl dX5_by_97 ?_
            refine lv_iload (pc := 100) hx hb dX5_by_100 (lv_at hl 5 rfl) ?_
            refine lv_iload (pc := 102) hx hb dX5_by_102 (lv_at hl 2 rfl) ?_
            obtain ⟨hin, h⟩ := gd_some h
            refine r_ast (pc := 104) (𝓦 := Wm E a) hx hb hK hP (dM hI _) hS 10 wm10 wm10s hin dX5_by_104 (fun H locs S4 eS4 hP hS => ?_)
            have h := bd_y eS4 h
            refine lv_iinc (v := (x5 + 1)) (lv' := [(5, .int (x5 + 1)), (4, .int 0), (3, .int y3), (6, .int y2), (0, .ref (a 0)), (2, .int x2)]) (pc := 105) hx hb dX5_by_105 hl (k := 5) rfl (ii1 _) (by decide) rfl (fun ls hl => ?_)
            refine lv_goto (tgt := 28) (pc := 108) hx hb dX5_by_108 (by decide) ?_
            exact hk28 _ _ _ _ _ h H locs hP hS ls (lv_sub hl [4, 5, 2, 1, 0] rfl)
          · have h := if_n hc h
            refine lv_goto (tgt := 89) (pc := 81) hx hb dX5_by_81 (by decide) ?_
            exact t_X5_by_89 hI N C k28 hk28 h H locs hP hS ls (lv_sub hl [2, 3, 0, 5, 1] rfl)
theorem t_X5_by_28 {rr : Int32} {SS : St} (hI : aI 18 a) (N : Nat) (C : bC D E RX5 cX5_by 7 (some .int) p s m args meth c) {n : Nat} {x2 : Int32} {x3 : Int32} {x4 : Int32} {x5 : Int32} {S : St} (h : lpI (F_X5_by_28 N) n (x2, x3, x4, x5, S) = some (rr, SS)) : gU D (Wm E a) (aA 18 a) p l e (bRm 4 85) s m args below meth c 7 (qU D below (aA 18 a) (Wm E a SS) rr args s) 28 [(0, .ref (a 0)), (2, .int x2), (3, .int x3), (4, .int x4), (5, .int x5)] [] S := by
  exact lpI_ind (P := fun v q => q = (rr, SS) → gU D (Wm E a) (aA 18 a) p l e (bRm 4 85) s m args below meth c 7 (qU D below (aA 18 a) (Wm E a SS) rr args s) 28 [(0, .ref (a 0)), (2, .int v.1), (3, .int v.2.1), (4, .int v.2.2.1), (5, .int v.2.2.2.1)] [] v.2.2.2.2) (fun k hk v q h9 hq => s_X5_by_28 hI N C k (fun x2 x3 x4 x5 S h8 => hk (x2, x3, x4, x5, S) _ h8 rfl) (h9.trans (congrArg some hq))) n (x2, x3, x4, x5, S) _ h rfl
def f_X5_by (N : Nat) (x1 : Int32) (x2 : Int32) (S : St) : Option (Int32 × St) :=
  bd (f_X5_lay N S) fun S1 => if x1 < 0 then (some ((-2), S1)) else (bd (f_X5_in x2 0 4) fun r1 => if r1 = 0 then (some ((-2), S1)) else (lpI (F_X5_by_28 N) N (x2, x1, 1, 0, S1)))
theorem t_X5_by_0 {rr : Int32} {SS : St} (hI : aI 18 a) (N : Nat) (C : bC D E RX5 cX5_by 7 (some .int) p s m args meth c) {x1 : Int32} {x2 : Int32} {S : St} (h : f_X5_by N x1 x2 S = some (rr, SS)) : gU D (Wm E a) (aA 18 a) p l e (bRm 4 85) s m args below meth c 7 (qU D below (aA 18 a) (Wm E a SS) rr args s) 0 [(0, .ref (a 0)), (1, .int x1), (2, .int x2)] [] S := by
  obtain ⟨hx, hb, hml, hown, hts, hK, hr, hlocks⟩ := id C
  intro H locs hP hS ls hl
  unfold f_X5_by at h
  refine lv_aload_n (pc := 0) hx hb dX5_by_0 rfl (lv_at hl 0 rfl) ?_
  obtain ⟨S1, hS1, h⟩ := bd_some h
  refine r_callV (pc := 1) C hP hS (c_X5_lay hI N hS1) k_X5_lay wd_704 (q0 := 0) wm0 rfl rfl ⟨Nat.le_of_ble_eq_true rfl, Nat.le_of_ble_eq_true rfl⟩ rfl hl.1 rfl (Nat.le_of_ble_eq_true rfl) dX5_by_1 ⟨Nat.zero_le _, Nat.zero_le _⟩ (fun H locs hP hS => ?_)
  refine lv_iload_n (pc := 4) hx hb dX5_by_4 rfl (lv_at hl 1 rfl) ?_
  refine lv_if_lt (tgt := 17) (pc := 5) hx hb dX5_by_5 (by decide) (fun hc => ?_) (fun hc => ?_)
  · have h := if_y hc h
    refine lv_bipush (v := (-2)) (pc := 17) hx hb dX5_by_17 (by decide) ?_
    exact r_retU (pc := 19) (𝓦 := Wm E a) C h hP hS dX5_by_19
  · have h := if_n hc h
    refine lv_iload_n (pc := 8) hx hb dX5_by_8 rfl (lv_at hl 2 rfl) ?_
    refine lv_iconst (v := 0) (pc := 9) hx hb dX5_by_9 (by decide) ?_
    refine lv_iconst (v := 4) (pc := 10) hx hb dX5_by_10 (by decide) ?_
    obtain ⟨r1, hr1, h⟩ := bd_some h
    refine r_callS (pc := 11) C (c_X5_in hr1) k_X5_in wd_634 ⟨Nat.le_of_ble_eq_true rfl, Nat.le_of_ble_eq_true rfl⟩ rfl hl.1 rfl (Nat.le_of_ble_eq_true rfl) dX5_by_11 ⟨Nat.zero_le _, Nat.zero_le _⟩ ?_
    refine lv_if_ne (tgt := 20) (pc := 14) hx hb dX5_by_14 (by decide) (fun hc => ?_) (fun hc => ?_)
    · have h := if_n hc h
      refine lv_iload_n (pc := 20) hx hb dX5_by_20 rfl (lv_at hl 1 rfl) ?_
      refine lv_istore_n (lv' := [(3, .int x1), (0, .ref (a 0)), (1, .int x1), (2, .int x2)]) (pc := 21) hx hb dX5_by_21 rfl hl (by decide) rfl (fun ls hl => ?_)
      refine lv_iconst (v := 1) (pc := 22) hx hb dX5_by_22 (by decide) ?_
      refine lv_istore (lv' := [(4, .int 1), (3, .int x1), (0, .ref (a 0)), (1, .int x1), (2, .int x2)]) (pc := 23) hx hb dX5_by_23 hl (by decide) rfl (fun ls hl => ?_)
      refine lv_iconst (v := 0) (pc := 25) hx hb dX5_by_25 (by decide) ?_
      refine lv_istore (lv' := [(5, .int 0), (4, .int 1), (3, .int x1), (0, .ref (a 0)), (1, .int x1), (2, .int x2)]) (pc := 26) hx hb dX5_by_26 hl (by decide) rfl (fun ls hl => ?_)
      exact t_X5_by_28 hI N C h H locs hP hS ls (lv_sub hl [3, 5, 2, 1, 0] rfl)
    · have h := if_y hc h
      refine lv_bipush (v := (-2)) (pc := 17) hx hb dX5_by_17 (by decide) ?_
      exact r_retU (pc := 19) (𝓦 := Wm E a) C h hP hS dX5_by_19
theorem c_X5_by {l : Launch} {D : va_G} {E : bE} {a : Nat → Nat} (hI : aI 18 a) (N : Nat) {rr : Int32} {S : St} {SS : St} {x1 : Int32} {x2 : Int32} (h : f_X5_by N x1 x2 S = some (rr, SS)) : cU l D E yX5_by cX5_by 7 (some .int) 4 85 (aA 18 a) (Wm E a S) (Wm E a SS) [.ref (a 0), .int x1, .int x2] rr := cU_of (by decide) (Nat.le_of_ble_eq_true rfl) (fun p e s m args below meth c C => t_X5_by_0 hI N C h)
/-! X5_leastIn -/
def FB_X5_leastIn_2 (N : Nat) (k2 : Int32 × Int32 → Option (Int32)) (x0 : Int32) (x1 : Int32) : Option (Int32) :=
  bd (f_X5_has x0 x1) fun r1 => if r1 = 0 then (k2 (x0, (x1 + 1))) else (some x1)
def F_X5_leastIn_2 (N : Nat) (k2 : Int32 × Int32 → Option (Int32)) (v : Int32 × Int32) : Option (Int32) := FB_X5_leastIn_2 N k2 v.1 v.2
theorem s_X5_leastIn_2 {rr : Int32} (N : Nat) (C : bC D E RX5 cX5_leastIn 2 (some .int) p s m args meth c) (k2 : Int32 × Int32 → Option (Int32)) (hk2 : ∀ (x0 : Int32) (x1 : Int32), k2 (x0, x1) = some rr → gR p l e (bRm 1 21) s m args below meth c 2 (qS below rr args s) 2 [(0, .int x0), (1, .int x1)] []) {x0 : Int32} {x1 : Int32} (h : FB_X5_leastIn_2 N k2 x0 x1 = some rr) : gR p l e (bRm 1 21) s m args below meth c 2 (qS below rr args s) 2 [(0, .int x0), (1, .int x1)] [] := by
  obtain ⟨hx, hb, hml, hown, hts, hK, hr, hlocks⟩ := id C
  intro ls hl
  unfold FB_X5_leastIn_2 at h
  refine lv_iload_n (pc := 2) hx hb dX5_leastIn_2 rfl (lv_at hl 0 rfl) ?_
  refine lv_iload_n (pc := 3) hx hb dX5_leastIn_3 rfl (lv_at hl 1 rfl) ?_
  obtain ⟨r1, hr1, h⟩ := bd_some h
  refine r_callS (pc := 4) C (c_X5_has hr1) k_X5_has wd_689 ⟨Nat.le_of_ble_eq_true rfl, Nat.le_of_ble_eq_true rfl⟩ rfl hl.1 rfl (Nat.le_of_ble_eq_true rfl) dX5_leastIn_4 ⟨Nat.zero_le _, Nat.zero_le _⟩ ?_
  refine lv_if_ne (tgt := 16) (pc := 7) hx hb dX5_leastIn_7 (by decide) (fun hc => ?_) (fun hc => ?_)
  · have h := if_n hc h
    refine lv_iload_n (pc := 16) hx hb dX5_leastIn_16 rfl (lv_at hl 1 rfl) ?_
    exact r_retS (pc := 17) C h dX5_leastIn_17
  · have h := if_y hc h
    refine lv_iinc (v := (x1 + 1)) (lv' := [(1, .int (x1 + 1)), (0, .int x0)]) (pc := 10) hx hb dX5_leastIn_10 hl (k := 1) rfl (ii1 _) (by decide) rfl (fun ls hl => ?_)
    refine lv_goto (tgt := 2) (pc := 13) hx hb dX5_leastIn_13 (by decide) ?_
    exact hk2 _ _ h ls (lv_sub hl [1, 0] rfl)
theorem t_X5_leastIn_2 {rr : Int32} (N : Nat) (C : bC D E RX5 cX5_leastIn 2 (some .int) p s m args meth c) {n : Nat} {x0 : Int32} {x1 : Int32} (h : lpI (F_X5_leastIn_2 N) n (x0, x1) = some rr) : gR p l e (bRm 1 21) s m args below meth c 2 (qS below rr args s) 2 [(0, .int x0), (1, .int x1)] [] := by
  exact lpI_ind (P := fun v q => q = rr → gR p l e (bRm 1 21) s m args below meth c 2 (qS below rr args s) 2 [(0, .int v.1), (1, .int v.2)] []) (fun k hk v q h9 hq => s_X5_leastIn_2 N C k (fun x0 x1 h8 => hk (x0, x1) _ h8 rfl) (h9.trans (congrArg some hq))) n (x0, x1) _ h rfl
def f_X5_leastIn (N : Nat) (x0 : Int32) : Option (Int32) :=
  lpI (F_X5_leastIn_2 N) N (x0, 0)
theorem t_X5_leastIn_0 {rr : Int32} (N : Nat) (C : bC D E RX5 cX5_leastIn 2 (some .int) p s m args meth c) {x0 : Int32} (h : f_X5_leastIn N x0 = some rr) : gR p l e (bRm 1 21) s m args below meth c 2 (qS below rr args s) 0 [(0, .int x0)] [] := by
  obtain ⟨hx, hb, hml, hown, hts, hK, hr, hlocks⟩ := id C
  intro ls hl
  unfold f_X5_leastIn at h
  refine lv_iconst (v := 0) (pc := 0) hx hb dX5_leastIn_0 (by decide) ?_
  refine lv_istore_n (lv' := [(1, .int 0), (0, .int x0)]) (pc := 1) hx hb dX5_leastIn_1 rfl hl (by decide) rfl (fun ls hl => ?_)
  exact t_X5_leastIn_2 N C h ls (lv_sub hl [1, 0] rfl)
theorem c_X5_leastIn {l : Launch} {D : va_G} {E : bE} (N : Nat) {rr : Int32} {x0 : Int32} (h : f_X5_leastIn N x0 = some rr) : cS l D E yX5_leastIn cX5_leastIn 2 (some .int) 1 21 [.int x0] rr := cS_of (by decide) (Nat.le_of_ble_eq_true rfl) (fun p e s m args below meth c C => t_X5_leastIn_0 N C h)
/-! X5_begin -/
def FB_X5_begin_2 (N : Nat) (k2 : Int32 × St → Option (St)) (x1 : Int32) (S : St) : Option (St) :=
  if 6 ≤ x1 then (some S) else (bd (f_X5_isChosen x1 S) fun r1 => if r1 = 0 then (gd (ix x1 6) (bd (some (sto S 10 (Int32.toNatClampNeg x1) 0)) fun S1 => k2 ((x1 + 1), S1))) else (gd (ix x1 6) (bd (f_X5_leastIn N (S 9 (Int32.toNatClampNeg x1))) fun r2 => gd (ix x1 6) (bd (some (sto S 10 (Int32.toNatClampNeg x1) r2)) fun S2 => k2 ((x1 + 1), S2)))))
def F_X5_begin_2 (N : Nat) (k2 : Int32 × St → Option (St)) (v : Int32 × St) : Option (St) := FB_X5_begin_2 N k2 v.1 v.2
theorem s_X5_begin_2 {SS : St} (hI : aI 18 a) (N : Nat) (C : bC D E RX5 cX5_begin 2 none p s m args meth c) (k2 : Int32 × St → Option (St)) (hk2 : ∀ (x1 : Int32) (S : St), k2 (x1, S) = some SS → gU D (Wm E a) (aA 18 a) p l e (bRm 2 42) s m args below meth c 2 (qV D below (aA 18 a) (Wm E a SS) args s) 2 [(0, .ref (a 0)), (1, .int x1)] [] S) {x1 : Int32} {S : St} (h : FB_X5_begin_2 N k2 x1 S = some SS) : gU D (Wm E a) (aA 18 a) p l e (bRm 2 42) s m args below meth c 2 (qV D below (aA 18 a) (Wm E a SS) args s) 2 [(0, .ref (a 0)), (1, .int x1)] [] S := by
  obtain ⟨hx, hb, hml, hown, hts, hK, hr, hlocks⟩ := id C
  intro H locs hP hS ls hl
  unfold FB_X5_begin_2 at h
  refine lv_iload_n (pc := 2) hx hb dX5_begin_2 rfl (lv_at hl 1 rfl) ?_
  refine lv_bipush (v := 6) (pc := 3) hx hb dX5_begin_3 (by decide) ?_
  refine lv_icmp_ge (tgt := 41) (pc := 5) hx hb dX5_begin_5 (by decide) (fun hc => ?_) (fun hc => ?_)
  · have h := if_y hc h
    exact r_retV (pc := 41) (𝓦 := Wm E a) C h hP hS dX5_begin_41
  · have h := if_n hc h
    refine lv_aload_n (pc := 8) hx hb dX5_begin_8 rfl (lv_at hl 0 rfl) ?_
    refine va_get (pc := 9) (v := .ref (a 10)) hx hb hts inB5 hown hK.1 hP 0 wm0 rfl 16 (by decide) (hts _ wd_567) (fun _ h9 => h9) rfl dX5_begin_9 ?_
    refine lv_iload_n (pc := 12) hx hb dX5_begin_12 rfl (lv_at hl 1 rfl) ?_
    refine lv_aload_n (pc := 13) hx hb dX5_begin_13 rfl (lv_at hl 0 rfl) ?_
    refine lv_iload_n (pc := 14) hx hb dX5_begin_14 rfl (lv_at hl 1 rfl) ?_
    obtain ⟨r1, hr1, h⟩ := bd_some h
    refine r_callR (pc := 15) C hP (c_X5_isChosen hI hr1) k_X5_isChosen wd_712 (q0 := 0) wm0 rfl rfl ⟨Nat.le_of_ble_eq_true rfl, Nat.le_of_ble_eq_true rfl⟩ rfl hl.1 rfl (Nat.le_of_ble_eq_true rfl) dX5_begin_15 ⟨Nat.zero_le _, Nat.zero_le _⟩ ?_
    refine lv_if_eq (tgt := 33) (pc := 18) hx hb dX5_begin_18 (by decide) (fun hc => ?_) (fun hc => ?_)
    · have h := if_y hc h
      refine lv_iconst (v := 0) (pc := 33) hx hb dX5_begin_33 (by decide) ?_
      obtain ⟨hin, h⟩ := gd_some h
      refine r_ast (pc := 34) (𝓦 := Wm E a) hx hb hK hP (dM hI _) hS 10 wm10 wm10s hin dX5_begin_34 (fun H locs S1 eS1 hP hS => ?_)
      have h := bd_y eS1 h
      refine lv_iinc (v := (x1 + 1)) (lv' := [(1, .int (x1 + 1)), (0, .ref (a 0))]) (pc := 35) hx hb dX5_begin_35 hl (k := 1) rfl (ii1 _) (by decide) rfl (fun ls hl => ?_)
      refine lv_goto (tgt := 2) (pc := 38) hx hb dX5_begin_38 (by decide) ?_
      exact hk2 _ _ h H locs hP hS ls (lv_sub hl [1, 0] rfl)
    · have h := if_n hc h
      refine lv_aload_n (pc := 21) hx hb dX5_begin_21 rfl (lv_at hl 0 rfl) ?_
      refine va_get (pc := 22) (v := .ref (a 9)) hx hb hts inB5 hown hK.1 hP 0 wm0 rfl 14 (by decide) (hts _ wd_565) (fun _ h9 => h9) rfl dX5_begin_22 ?_
      refine lv_iload_n (pc := 25) hx hb dX5_begin_25 rfl (lv_at hl 1 rfl) ?_
      obtain ⟨hin, h⟩ := gd_some h
      refine r_ald (pc := 26) hx hb hK hP 9 wm9 hin dX5_begin_26 ?_
      obtain ⟨r2, hr2, h⟩ := bd_some h
      refine r_callS (pc := 27) C (c_X5_leastIn N hr2) k_X5_leastIn wd_743 ⟨Nat.le_of_ble_eq_true rfl, Nat.le_of_ble_eq_true rfl⟩ rfl hl.1 rfl (Nat.le_of_ble_eq_true rfl) dX5_begin_27 ⟨Nat.zero_le _, Nat.zero_le _⟩ ?_
      refine lv_goto (tgt := 34) (pc := 30) hx hb dX5_begin_30 (by decide) ?_
      obtain ⟨hin, h⟩ := gd_some h
      refine r_ast (pc := 34) (𝓦 := Wm E a) hx hb hK hP (dM hI _) hS 10 wm10 wm10s hin dX5_begin_34 (fun H locs S2 eS2 hP hS => ?_)
      have h := bd_y eS2 h
      refine lv_iinc (v := (x1 + 1)) (lv' := [(1, .int (x1 + 1)), (0, .ref (a 0))]) (pc := 35) hx hb dX5_begin_35 hl (k := 1) rfl (ii1 _) (by decide) rfl (fun ls hl => ?_)
      refine lv_goto (tgt := 2) (pc := 38) hx hb dX5_begin_38 (by decide) ?_
      exact hk2 _ _ h H locs hP hS ls (lv_sub hl [1, 0] rfl)
theorem t_X5_begin_2 {SS : St} (hI : aI 18 a) (N : Nat) (C : bC D E RX5 cX5_begin 2 none p s m args meth c) {n : Nat} {x1 : Int32} {S : St} (h : lpI (F_X5_begin_2 N) n (x1, S) = some SS) : gU D (Wm E a) (aA 18 a) p l e (bRm 2 42) s m args below meth c 2 (qV D below (aA 18 a) (Wm E a SS) args s) 2 [(0, .ref (a 0)), (1, .int x1)] [] S := by
  exact lpI_ind (P := fun v q => q = SS → gU D (Wm E a) (aA 18 a) p l e (bRm 2 42) s m args below meth c 2 (qV D below (aA 18 a) (Wm E a SS) args s) 2 [(0, .ref (a 0)), (1, .int v.1)] [] v.2) (fun k hk v q h9 hq => s_X5_begin_2 hI N C k (fun x1 S h8 => hk (x1, S) _ h8 rfl) (h9.trans (congrArg some hq))) n (x1, S) _ h rfl
def f_X5_begin (N : Nat) (S : St) : Option (St) :=
  lpI (F_X5_begin_2 N) N (0, S)
theorem t_X5_begin_0 {SS : St} (hI : aI 18 a) (N : Nat) (C : bC D E RX5 cX5_begin 2 none p s m args meth c) {S : St} (h : f_X5_begin N S = some SS) : gU D (Wm E a) (aA 18 a) p l e (bRm 2 42) s m args below meth c 2 (qV D below (aA 18 a) (Wm E a SS) args s) 0 [(0, .ref (a 0))] [] S := by
  obtain ⟨hx, hb, hml, hown, hts, hK, hr, hlocks⟩ := id C
  intro H locs hP hS ls hl
  unfold f_X5_begin at h
  refine lv_iconst (v := 0) (pc := 0) hx hb dX5_begin_0 (by decide) ?_
  refine lv_istore_n (lv' := [(1, .int 0), (0, .ref (a 0))]) (pc := 1) hx hb dX5_begin_1 rfl hl (by decide) rfl (fun ls hl => ?_)
  exact t_X5_begin_2 hI N C h H locs hP hS ls (lv_sub hl [1, 0] rfl)
theorem c_X5_begin {l : Launch} {D : va_G} {E : bE} {a : Nat → Nat} (hI : aI 18 a) (N : Nat) {S : St} {SS : St} (h : f_X5_begin N S = some SS) : cV l D E yX5_begin cX5_begin 2 2 42 (aA 18 a) (Wm E a S) (Wm E a SS) [.ref (a 0)] := cV_of (by decide) (Nat.le_of_ble_eq_true rfl) (fun p e s m args below meth c C => t_X5_begin_0 hI N C h)
