variable {p : Program} {l : Launch} {e : Env} {s : State} {m : MethodId} {args : Array Value} {below : List Frame} {meth : Method} {c : Code} {D : va_G} {E : bE} {a : Nat → Nat}
/-! X5_next -/
def B_X5_next_42 (N : Nat) (k2 : Int32 × St → Option (Int32 × St)) (x1 : Int32) (z0 : Int32) (S : St) : Option (Int32 × St) :=
  if z0 = 0 then (bd (f_X5_isChosen x1 S) fun r1 => if r1 = 0 then (gd (ix x1 6) (bd (some (sto S 10 (Int32.toNatClampNeg x1) 0)) fun S1 => k2 ((x1 + (-1)), S1))) else (gd (ix x1 6) (bd (f_X5_leastIn N (S 9 (Int32.toNatClampNeg x1))) fun r2 => gd (ix x1 6) (bd (some (sto S 10 (Int32.toNatClampNeg x1) r2)) fun S2 => k2 ((x1 + (-1)), S2))))) else (bd (f_X5_leastIn N z0) fun r3 => gd (ix x1 6) (bd (some (sto S 10 (Int32.toNatClampNeg x1) r3)) fun S3 => some (1, S3)))
theorem t_X5_next_42 {rr : Int32} {SS : St} (hI : aI 18 a) (N : Nat) (C : bC D E RX5 cX5_next 3 (some .boolean) p s m args meth c) (k2 : Int32 × St → Option (Int32 × St)) (hk2 : ∀ (x1 : Int32) (S : St), k2 (x1, S) = some (rr, SS) → gU D (Wm E a) (aA 18 a) p l e (bRm 2 42) s m args below meth c 3 (qU D below (aA 18 a) (Wm E a SS) rr args s) 2 [(0, .ref (a 0)), (1, .int x1)] [] S) {x1 : Int32} {z0 : Int32} {S : St} (h : B_X5_next_42 N k2 x1 z0 S = some (rr, SS)) : gU D (Wm E a) (aA 18 a) p l e (bRm 2 42) s m args below meth c 3 (qU D below (aA 18 a) (Wm E a SS) rr args s) 42 [(0, .ref (a 0)), (1, .int x1)] [.int z0] S := by
  obtain ⟨hx, hb, hml, hown, hts, hK, hr, hlocks⟩ := id C
  intro H locs hP hS ls hl
  unfold B_X5_next_42 at h
  refine lv_istore_n (lv' := [(2, .int z0), (0, .ref (a 0)), (1, .int x1)]) (pc := 42) hx hb dX5_next_42 rfl hl (by decide) rfl (fun ls hl => ?_)
  refine lv_iload_n (pc := 43) hx hb dX5_next_43 rfl (lv_at hl 0 rfl) ?_
  refine lv_if_eq (tgt := 59) (pc := 44) hx hb dX5_next_44 (by decide) (fun hc => ?_) (fun hc => ?_)
  · have h := if_y hc h
    refine lv_aload_n (pc := 59) hx hb dX5_next_59 rfl (lv_at hl 1 rfl) ?_
    refine va_get (pc := 60) (v := .ref (a 10)) hx hb hts inB5 hown hK.1 hP 0 wm0 rfl 16 (by decide) (hts _ wd_567) (fun _ h9 => h9) rfl dX5_next_60 ?_
    refine lv_iload_n (pc := 63) hx hb dX5_next_63 rfl (lv_at hl 2 rfl) ?_
    refine lv_aload_n (pc := 64) hx hb dX5_next_64 rfl (lv_at hl 1 rfl) ?_
    refine lv_iload_n (pc := 65) hx hb dX5_next_65 rfl (lv_at hl 2 rfl) ?_
    obtain ⟨r1, hr1, h⟩ := bd_some h
    refine r_callR (pc := 66) C hP (c_X5_isChosen hI hr1) k_X5_isChosen wd_712 (q0 := 0) wm0 rfl rfl ⟨Nat.le_of_ble_eq_true rfl, Nat.le_of_ble_eq_true rfl⟩ rfl hl.1 rfl (Nat.le_of_ble_eq_true rfl) dX5_next_66 ⟨Nat.zero_le _, Nat.zero_le _⟩ ?_
    refine lv_if_eq (tgt := 84) (pc := 69) hx hb dX5_next_69 (by decide) (fun hc => ?_) (fun hc => ?_)
    · have h := if_y hc h
      refine lv_iconst (v := 0) (pc := 84) hx hb dX5_next_84 (by decide) ?_
      obtain ⟨hin, h⟩ := gd_some h
      refine r_ast (pc := 85) (𝓦 := Wm E a) hx hb hK hP (dM hI _) hS 10 wm10 wm10s hin dX5_next_85 (fun H locs S1 eS1 hP hS => ?_)
      have h := bd_y eS1 h
      refine lv_iinc (v := (x1 + (-1))) (lv' := [(1, .int (x1 + (-1))), (2, .int z0), (0, .ref (a 0))]) (pc := 86) hx hb dX5_next_86 hl (k := 2) rfl (iim1 _) (by decide) rfl (fun ls hl => ?_)
      refine lv_goto (tgt := 2) (pc := 89) hx hb dX5_next_89 (by decide) ?_
      exact hk2 _ _ h H locs hP hS ls (lv_sub hl [2, 0] rfl)
    · have h := if_n hc h
      refine lv_aload_n (pc := 72) hx hb dX5_next_72 rfl (lv_at hl 1 rfl) ?_
      refine va_get (pc := 73) (v := .ref (a 9)) hx hb hts inB5 hown hK.1 hP 0 wm0 rfl 14 (by decide) (hts _ wd_565) (fun _ h9 => h9) rfl dX5_next_73 ?_
      refine lv_iload_n (pc := 76) hx hb dX5_next_76 rfl (lv_at hl 2 rfl) ?_
      obtain ⟨hin, h⟩ := gd_some h
      refine r_ald (pc := 77) hx hb hK hP 9 wm9 hin dX5_next_77 ?_
      obtain ⟨r2, hr2, h⟩ := bd_some h
      refine r_callS (pc := 78) C (c_X5_leastIn N hr2) k_X5_leastIn wd_743 ⟨Nat.le_of_ble_eq_true rfl, Nat.le_of_ble_eq_true rfl⟩ rfl hl.1 rfl (Nat.le_of_ble_eq_true rfl) dX5_next_78 ⟨Nat.zero_le _, Nat.zero_le _⟩ ?_
      refine lv_goto (tgt := 85) (pc := 81) hx hb dX5_next_81 (by decide) ?_
      obtain ⟨hin, h⟩ := gd_some h
      refine r_ast (pc := 85) (𝓦 := Wm E a) hx hb hK hP (dM hI _) hS 10 wm10 wm10s hin dX5_next_85 (fun H locs S2 eS2 hP hS => ?_)
      have h := bd_y eS2 h
      refine lv_iinc (v := (x1 + (-1))) (lv' := [(1, .int (x1 + (-1))), (2, .int z0), (0, .ref (a 0))]) (pc := 86) hx hb dX5_next_86 hl (k := 2) rfl (iim1 _) (by decide) rfl (fun ls hl => ?_)
      refine lv_goto (tgt := 2) (pc := 89) hx hb dX5_next_89 (by decide) ?_
      exact hk2 _ _ h H locs hP hS ls (lv_sub hl [2, 0] rfl)
  · have h := if_n hc h
    refine lv_aload_n (pc := 47) hx hb dX5_next_47 rfl (lv_at hl 1 rfl) ?_
    refine va_get (pc := 48) (v := .ref (a 10)) hx hb hts inB5 hown hK.1 hP 0 wm0 rfl 16 (by decide) (hts _ wd_567) (fun _ h9 => h9) rfl dX5_next_48 ?_
    refine lv_iload_n (pc := 51) hx hb dX5_next_51 rfl (lv_at hl 2 rfl) ?_
    refine lv_iload_n (pc := 52) hx hb dX5_next_52 rfl (lv_at hl 0 rfl) ?_
    obtain ⟨r3, hr3, h⟩ := bd_some h
    refine r_callS (pc := 53) C (c_X5_leastIn N hr3) k_X5_leastIn wd_743 ⟨Nat.le_of_ble_eq_true rfl, Nat.le_of_ble_eq_true rfl⟩ rfl hl.1 rfl (Nat.le_of_ble_eq_true rfl) dX5_next_53 ⟨Nat.zero_le _, Nat.zero_le _⟩ ?_
    obtain ⟨hin, h⟩ := gd_some h
    refine r_ast (pc := 56) (𝓦 := Wm E a) hx hb hK hP (dM hI _) hS 10 wm10 wm10s hin dX5_next_56 (fun H locs S3 eS3 hP hS => ?_)
    have h := bd_y eS3 h
    refine lv_iconst (v := 1) (pc := 57) hx hb dX5_next_57 (by decide) ?_
    exact r_retUZ (pc := 58) (𝓦 := Wm E a) C (gd_lit (by decide) h) hP hS dX5_next_58
def FB_X5_next_2 (N : Nat) (k2 : Int32 × St → Option (Int32 × St)) (x1 : Int32) (S : St) : Option (Int32 × St) :=
  if x1 < 0 then (some (0, S)) else (bd (f_X5_isChosen x1 S) fun r1 => if r1 = 0 then (B_X5_next_42 N k2 x1 0 S) else (gd (ix x1 6) (gd (ix x1 6) (gd (ix x1 6) (B_X5_next_42 N k2 x1 (((S 9 (Int32.toNatClampNeg x1)) >>> (((S 10 (Int32.toNatClampNeg x1)) + 1) &&& 31)) <<< (((S 10 (Int32.toNatClampNeg x1)) + 1) &&& 31)) S)))))
def F_X5_next_2 (N : Nat) (k2 : Int32 × St → Option (Int32 × St)) (v : Int32 × St) : Option (Int32 × St) := FB_X5_next_2 N k2 v.1 v.2
theorem s_X5_next_2 {rr : Int32} {SS : St} (hI : aI 18 a) (N : Nat) (C : bC D E RX5 cX5_next 3 (some .boolean) p s m args meth c) (k2 : Int32 × St → Option (Int32 × St)) (hk2 : ∀ (x1 : Int32) (S : St), k2 (x1, S) = some (rr, SS) → gU D (Wm E a) (aA 18 a) p l e (bRm 2 42) s m args below meth c 3 (qU D below (aA 18 a) (Wm E a SS) rr args s) 2 [(0, .ref (a 0)), (1, .int x1)] [] S) {x1 : Int32} {S : St} (h : FB_X5_next_2 N k2 x1 S = some (rr, SS)) : gU D (Wm E a) (aA 18 a) p l e (bRm 2 42) s m args below meth c 3 (qU D below (aA 18 a) (Wm E a SS) rr args s) 2 [(0, .ref (a 0)), (1, .int x1)] [] S := by
  obtain ⟨hx, hb, hml, hown, hts, hK, hr, hlocks⟩ := id C
  intro H locs hP hS ls hl
  unfold FB_X5_next_2 at h
  refine lv_iload_n (pc := 2) hx hb dX5_next_2 rfl (lv_at hl 1 rfl) ?_
  refine lv_if_lt (tgt := 92) (pc := 3) hx hb dX5_next_3 (by decide) (fun hc => ?_) (fun hc => ?_)
  · have h := if_y hc h
    refine lv_iconst (v := 0) (pc := 92) hx hb dX5_next_92 (by decide) ?_
    exact r_retUZ (pc := 93) (𝓦 := Wm E a) C (gd_lit (by decide) h) hP hS dX5_next_93
  · have h := if_n hc h
    refine lv_aload_n (pc := 6) hx hb dX5_next_6 rfl (lv_at hl 0 rfl) ?_
    refine lv_iload_n (pc := 7) hx hb dX5_next_7 rfl (lv_at hl 1 rfl) ?_
    obtain ⟨r1, hr1, h⟩ := bd_some h
    refine r_callR (pc := 8) C hP (c_X5_isChosen hI hr1) k_X5_isChosen wd_712 (q0 := 0) wm0 rfl rfl ⟨Nat.le_of_ble_eq_true rfl, Nat.le_of_ble_eq_true rfl⟩ rfl hl.1 rfl (Nat.le_of_ble_eq_true rfl) dX5_next_8 ⟨Nat.zero_le _, Nat.zero_le _⟩ ?_
    refine lv_if_eq (tgt := 41) (pc := 11) hx hb dX5_next_11 (by decide) (fun hc => ?_) (fun hc => ?_)
    · have h := if_y hc h
      refine lv_iconst (v := 0) (pc := 41) hx hb dX5_next_41 (by decide) ?_
      exact t_X5_next_42 hI N C k2 hk2 h H locs hP hS ls (lv_sub hl [0, 1] rfl)
    · have h := if_n hc h
      refine lv_aload_n (pc := 14) hx hb dX5_next_14 rfl (lv_at hl 0 rfl) ?_
      refine va_get (pc := 15) (v := .ref (a 9)) hx hb hts inB5 hown hK.1 hP 0 wm0 rfl 14 (by decide) (hts _ wd_565) (fun _ h9 => h9) rfl dX5_next_15 ?_
      refine lv_iload_n (pc := 18) hx hb dX5_next_18 rfl (lv_at hl 1 rfl) ?_
      obtain ⟨hin, h⟩ := gd_some h
      refine r_ald (pc := 19) hx hb hK hP 9 wm9 hin dX5_next_19 ?_
      refine lv_aload_n (pc := 20) hx hb dX5_next_20 rfl (lv_at hl 0 rfl) ?_
      refine va_get (pc := 21) (v := .ref (a 10)) hx hb hts inB5 hown hK.1 hP 0 wm0 rfl 16 (by decide) (hts _ wd_567) (fun _ h9 => h9) rfl dX5_next_21 ?_
      refine lv_iload_n (pc := 24) hx hb dX5_next_24 rfl (lv_at hl 1 rfl) ?_
      obtain ⟨hin, h⟩ := gd_some h
      refine r_ald (pc := 25) hx hb hK hP 10 wm10 hin dX5_next_25 ?_
      refine lv_iconst (v := 1) (pc := 26) hx hb dX5_next_26 (by decide) ?_
      refine lv_iadd (pc := 27) hx hb dX5_next_27 ?_
      refine lv_ishr (pc := 28) hx hb dX5_next_28 ?_
      refine lv_aload_n (pc := 29) hx hb dX5_next_29 rfl (lv_at hl 0 rfl) ?_
      refine va_get (pc := 30) (v := .ref (a 10)) hx hb hts inB5 hown hK.1 hP 0 wm0 rfl 16 (by decide) (hts _ wd_567) (fun _ h9 => h9) rfl dX5_next_30 ?_
      refine lv_iload_n (pc := 33) hx hb dX5_next_33 rfl (lv_at hl 1 rfl) ?_
      obtain ⟨hin, h⟩ := gd_some h
      refine r_ald (pc := 34) hx hb hK hP 10 wm10 hin dX5_next_34 ?_
      refine lv_iconst (v := 1) (pc := 35) hx hb dX5_next_35 (by decide) ?_
      refine lv_iadd (pc := 36) hx hb dX5_next_36 ?_
      refine lv_ishl (pc := 37) hx hb dX5_next_37 ?_
      refine lv_goto (tgt := 42) (pc := 38) hx hb dX5_next_38 (by decide) ?_
      exact t_X5_next_42 hI N C k2 hk2 h H locs hP hS ls (lv_sub hl [0, 1] rfl)
theorem t_X5_next_2 {rr : Int32} {SS : St} (hI : aI 18 a) (N : Nat) (C : bC D E RX5 cX5_next 3 (some .boolean) p s m args meth c) {n : Nat} {x1 : Int32} {S : St} (h : lpI (F_X5_next_2 N) n (x1, S) = some (rr, SS)) : gU D (Wm E a) (aA 18 a) p l e (bRm 2 42) s m args below meth c 3 (qU D below (aA 18 a) (Wm E a SS) rr args s) 2 [(0, .ref (a 0)), (1, .int x1)] [] S := by
  exact lpI_ind (P := fun v q => q = (rr, SS) → gU D (Wm E a) (aA 18 a) p l e (bRm 2 42) s m args below meth c 3 (qU D below (aA 18 a) (Wm E a SS) rr args s) 2 [(0, .ref (a 0)), (1, .int v.1)] [] v.2) (fun k hk v q h9 hq => s_X5_next_2 hI N C k (fun x1 S h8 => hk (x1, S) _ h8 rfl) (h9.trans (congrArg some hq))) n (x1, S) _ h rfl
def f_X5_next (N : Nat) (S : St) : Option (Int32 × St) :=
  lpI (F_X5_next_2 N) N (5, S)
theorem t_X5_next_0 {rr : Int32} {SS : St} (hI : aI 18 a) (N : Nat) (C : bC D E RX5 cX5_next 3 (some .boolean) p s m args meth c) {S : St} (h : f_X5_next N S = some (rr, SS)) : gU D (Wm E a) (aA 18 a) p l e (bRm 2 42) s m args below meth c 3 (qU D below (aA 18 a) (Wm E a SS) rr args s) 0 [(0, .ref (a 0))] [] S := by
  obtain ⟨hx, hb, hml, hown, hts, hK, hr, hlocks⟩ := id C
  intro H locs hP hS ls hl
  unfold f_X5_next at h
  refine lv_iconst (v := 5) (pc := 0) hx hb dX5_next_0 (by decide) ?_
  refine lv_istore_n (lv' := [(1, .int 5), (0, .ref (a 0))]) (pc := 1) hx hb dX5_next_1 rfl hl (by decide) rfl (fun ls hl => ?_)
  exact t_X5_next_2 hI N C h H locs hP hS ls (lv_sub hl [1, 0] rfl)
theorem c_X5_next {l : Launch} {D : va_G} {E : bE} {a : Nat → Nat} (hI : aI 18 a) (N : Nat) {rr : Int32} {S : St} {SS : St} (h : f_X5_next N S = some (rr, SS)) : cU l D E yX5_next cX5_next 3 (some .boolean) 2 42 (aA 18 a) (Wm E a S) (Wm E a SS) [.ref (a 0)] rr := cU_of (by decide) (Nat.le_of_ble_eq_true rfl) (fun p e s m args below meth c C => t_X5_next_0 hI N C h)
/-! X5_layBest -/
def B_X5_layBest_120 (N : Nat) (k8 : Int32 × Int32 × Int32 × St → Option (Int32 × St)) (x1 : Int32) (x2 : Int32) (S : St) : Option (Int32 × St) :=
  bd2 (f_X5_next N S) fun r1 S1 => k8 (x1, x2, r1, S1)
theorem t_X5_layBest_120 {rr : Int32} {SS : St} (hI : aI 18 a) (N : Nat) (C : bC D E RX5 cX5_layBest 7 (some .boolean) p s m args meth c) (k8 : Int32 × Int32 × Int32 × St → Option (Int32 × St)) (hk8 : ∀ (x1 : Int32) (x2 : Int32) (x3 : Int32) (S : St), k8 (x1, x2, x3, S) = some (rr, SS) → gU D (Wm E a) (aA 18 a) p l e (bRm 4 85) s m args below meth c 7 (qU D below (aA 18 a) (Wm E a SS) rr args s) 8 [(0, .ref (a 0)), (1, .int x1), (2, .int x2), (3, .int x3)] [] S) {x1 : Int32} {x2 : Int32} {S : St} (h : B_X5_layBest_120 N k8 x1 x2 S = some (rr, SS)) : gU D (Wm E a) (aA 18 a) p l e (bRm 4 85) s m args below meth c 7 (qU D below (aA 18 a) (Wm E a SS) rr args s) 120 [(0, .ref (a 0)), (1, .int x1), (2, .int x2)] [] S := by
  obtain ⟨hx, hb, hml, hown, hts, hK, hr, hlocks⟩ := id C
  intro H locs hP hS ls hl
  unfold B_X5_layBest_120 at h
  refine lv_aload_n (pc := 120) hx hb dX5_layBest_120 rfl (lv_at hl 0 rfl) ?_
  obtain ⟨r1, S1, hr1, h⟩ := bd2_some h
  refine r_callU (pc := 121) C hP hS (c_X5_next hI N hr1) k_X5_next wd_749 (q0 := 0) wm0 rfl rfl ⟨Nat.le_of_ble_eq_true rfl, Nat.le_of_ble_eq_true rfl⟩ rfl hl.1 rfl (Nat.le_of_ble_eq_true rfl) dX5_layBest_121 ⟨Nat.zero_le _, Nat.zero_le _⟩ (fun H locs hP hS => ?_)
  refine lv_istore_n (lv' := [(3, .int r1), (0, .ref (a 0)), (1, .int x1), (2, .int x2)]) (pc := 124) hx hb dX5_layBest_124 rfl hl (by decide) rfl (fun ls hl => ?_)
  refine lv_goto (tgt := 8) (pc := 125) hx hb dX5_layBest_125 (by decide) ?_
  exact hk8 _ _ _ _ h H locs hP hS ls (lv_sub hl [1, 2, 3, 0] rfl)
def FB_X5_layBest_93 (N : Nat) (k8 : Int32 × Int32 × Int32 × St → Option (Int32 × St)) (k93 : Int32 × Int32 × Int32 × St → Option (Int32 × St)) (x1 : Int32) (x2 : Int32) (x6 : Int32) (S : St) : Option (Int32 × St) :=
  if 6 ≤ x6 then (B_X5_layBest_120 N k8 x1 x2 S) else (gd (ix x6 6) (gd (ix x6 6) (bd (some (sto S 11 (Int32.toNatClampNeg x6) (S 10 (Int32.toNatClampNeg x6)))) fun S1 => k93 (x1, x2, (x6 + 1), S1))))
def F_X5_layBest_93 (N : Nat) (k8 : Int32 × Int32 × Int32 × St → Option (Int32 × St)) (k93 : Int32 × Int32 × Int32 × St → Option (Int32 × St)) (v : Int32 × Int32 × Int32 × St) : Option (Int32 × St) := FB_X5_layBest_93 N k8 k93 v.1 v.2.1 v.2.2.1 v.2.2.2
theorem s_X5_layBest_93 {rr : Int32} {SS : St} (hI : aI 18 a) (N : Nat) (C : bC D E RX5 cX5_layBest 7 (some .boolean) p s m args meth c) (k8 : Int32 × Int32 × Int32 × St → Option (Int32 × St)) (hk8 : ∀ (x1 : Int32) (x2 : Int32) (x3 : Int32) (S : St), k8 (x1, x2, x3, S) = some (rr, SS) → gU D (Wm E a) (aA 18 a) p l e (bRm 4 85) s m args below meth c 7 (qU D below (aA 18 a) (Wm E a SS) rr args s) 8 [(0, .ref (a 0)), (1, .int x1), (2, .int x2), (3, .int x3)] [] S) (k93 : Int32 × Int32 × Int32 × St → Option (Int32 × St)) (hk93 : ∀ (x1 : Int32) (x2 : Int32) (x6 : Int32) (S : St), k93 (x1, x2, x6, S) = some (rr, SS) → gU D (Wm E a) (aA 18 a) p l e (bRm 4 85) s m args below meth c 7 (qU D below (aA 18 a) (Wm E a SS) rr args s) 93 [(0, .ref (a 0)), (1, .int x1), (2, .int x2), (6, .int x6)] [] S) {x1 : Int32} {x2 : Int32} {x6 : Int32} {S : St} (h : FB_X5_layBest_93 N k8 k93 x1 x2 x6 S = some (rr, SS)) : gU D (Wm E a) (aA 18 a) p l e (bRm 4 85) s m args below meth c 7 (qU D below (aA 18 a) (Wm E a SS) rr args s) 93 [(0, .ref (a 0)), (1, .int x1), (2, .int x2), (6, .int x6)] [] S := by
  obtain ⟨hx, hb, hml, hown, hts, hK, hr, hlocks⟩ := id C
  intro H locs hP hS ls hl
  unfold FB_X5_layBest_93 at h
  refine lv_iload (pc := 93) hx hb dX5_layBest_93 (lv_at hl 3 rfl) ?_
  refine lv_bipush (v := 6) (pc := 95) hx hb dX5_layBest_95 (by decide) ?_
  refine lv_icmp_ge (tgt := 120) (pc := 97) hx hb dX5_layBest_97 (by decide) (fun hc => ?_) (fun hc => ?_)
  · have h := if_y hc h
    exact t_X5_layBest_120 hI N C k8 hk8 h H locs hP hS ls (lv_sub hl [0, 1, 2] rfl)
  · have h := if_n hc h
    refine lv_aload_n (pc := 100) hx hb dX5_layBest_100 rfl (lv_at hl 0 rfl) ?_
    refine va_get (pc := 101) (v := .ref (a 11)) hx hb hts inB5 hown hK.1 hP 0 wm0 rfl 17 (by decide) (hts _ wd_568) (fun _ h9 => h9) rfl dX5_layBest_101 ?_
    refine lv_iload (pc := 104) hx hb dX5_layBest_104 (lv_at hl 3 rfl) ?_
    refine lv_aload_n (pc := 106) hx hb dX5_layBest_106 rfl (lv_at hl 0 rfl) ?_
    refine va_get (pc := 107) (v := .ref (a 10)) hx hb hts inB5 hown hK.1 hP 0 wm0 rfl 16 (by decide) (hts _ wd_567) (fun _ h9 => h9) rfl dX5_layBest_107 ?_
    refine lv_iload (pc := 110) hx hb dX5_layBest_110 (lv_at hl 3 rfl) ?_
    obtain ⟨hin, h⟩ := gd_some h
    refine r_ald (pc := 112) hx hb hK hP 10 wm10 hin dX5_layBest_112 ?_
    obtain ⟨hin, h⟩ := gd_some h
    refine r_ast (pc := 113) (𝓦 := Wm E a) hx hb hK hP (dM hI _) hS 11 wm11 wm11s hin dX5_layBest_113 (fun H locs S1 eS1 hP hS => ?_)
    have h := bd_y eS1 h
    refine lv_iinc (v := (x6 + 1)) (lv' := [(6, .int (x6 + 1)), (0, .ref (a 0)), (1, .int x1), (2, .int x2)]) (pc := 114) hx hb dX5_layBest_114 hl (k := 3) rfl (ii1 _) (by decide) rfl (fun ls hl => ?_)
    refine lv_goto (tgt := 93) (pc := 117) hx hb dX5_layBest_117 (by decide) ?_
    exact hk93 _ _ _ _ h H locs hP hS ls (lv_sub hl [1, 2, 3, 0] rfl)
theorem t_X5_layBest_93 {rr : Int32} {SS : St} (hI : aI 18 a) (N : Nat) (C : bC D E RX5 cX5_layBest 7 (some .boolean) p s m args meth c) (k8 : Int32 × Int32 × Int32 × St → Option (Int32 × St)) (hk8 : ∀ (x1 : Int32) (x2 : Int32) (x3 : Int32) (S : St), k8 (x1, x2, x3, S) = some (rr, SS) → gU D (Wm E a) (aA 18 a) p l e (bRm 4 85) s m args below meth c 7 (qU D below (aA 18 a) (Wm E a SS) rr args s) 8 [(0, .ref (a 0)), (1, .int x1), (2, .int x2), (3, .int x3)] [] S) {n : Nat} {x1 : Int32} {x2 : Int32} {x6 : Int32} {S : St} (h : lpI (F_X5_layBest_93 N k8) n (x1, x2, x6, S) = some (rr, SS)) : gU D (Wm E a) (aA 18 a) p l e (bRm 4 85) s m args below meth c 7 (qU D below (aA 18 a) (Wm E a SS) rr args s) 93 [(0, .ref (a 0)), (1, .int x1), (2, .int x2), (6, .int x6)] [] S := by
  exact lpI_ind (P := fun v q => q = (rr, SS) → gU D (Wm E a) (aA 18 a) p l e (bRm 4 85) s m args below meth c 7 (qU D below (aA 18 a) (Wm E a SS) rr args s) 93 [(0, .ref (a 0)), (1, .int v.1), (2, .int v.2.1), (6, .int v.2.2.1)] [] v.2.2.2) (fun k hk v q h9 hq => s_X5_layBest_93 hI N C k8 hk8 k (fun x1 x2 x6 S h8 => hk (x1, x2, x6, S) _ h8 rfl) (h9.trans (congrArg some hq))) n (x1, x2, x6, S) _ h rfl
def B_X5_layBest_76 (N : Nat) (k8 : Int32 × Int32 × Int32 × St → Option (Int32 × St)) (x1 : Int32) (x4 : Int32) (x5 : Int32) (S : St) : Option (Int32 × St) :=
  bd (some (sto S 0 18 x5)) fun S1 => bd (some (sto S1 0 19 x4)) fun S2 => lpI (F_X5_layBest_93 N k8) N (x1, 1, 0, S2)
theorem t_X5_layBest_76 {rr : Int32} {SS : St} (hI : aI 18 a) (N : Nat) (C : bC D E RX5 cX5_layBest 7 (some .boolean) p s m args meth c) (k8 : Int32 × Int32 × Int32 × St → Option (Int32 × St)) (hk8 : ∀ (x1 : Int32) (x2 : Int32) (x3 : Int32) (S : St), k8 (x1, x2, x3, S) = some (rr, SS) → gU D (Wm E a) (aA 18 a) p l e (bRm 4 85) s m args below meth c 7 (qU D below (aA 18 a) (Wm E a SS) rr args s) 8 [(0, .ref (a 0)), (1, .int x1), (2, .int x2), (3, .int x3)] [] S) {x1 : Int32} {x4 : Int32} {x5 : Int32} {S : St} (h : B_X5_layBest_76 N k8 x1 x4 x5 S = some (rr, SS)) : gU D (Wm E a) (aA 18 a) p l e (bRm 4 85) s m args below meth c 7 (qU D below (aA 18 a) (Wm E a SS) rr args s) 76 [(0, .ref (a 0)), (1, .int x1), (4, .int x4), (5, .int x5)] [] S := by
  obtain ⟨hx, hb, hml, hown, hts, hK, hr, hlocks⟩ := id C
  intro H locs hP hS ls hl
  unfold B_X5_layBest_76 at h
  refine lv_iconst (v := 1) (pc := 76) hx hb dX5_layBest_76 (by decide) ?_
  refine lv_istore_n (lv' := [(2, .int 1), (0, .ref (a 0)), (1, .int x1), (4, .int x4), (5, .int x5)]) (pc := 77) hx hb dX5_layBest_77 rfl hl (by decide) rfl (fun ls hl => ?_)
  refine lv_aload_n (pc := 78) hx hb dX5_layBest_78 rfl (lv_at hl 1 rfl) ?_
  refine lv_iload (pc := 79) hx hb dX5_layBest_79 (lv_at hl 4 rfl) ?_
  refine r_put (pc := 81) (𝓦 := Wm E a) hx hb hts hown hK inB5 tyX5 tyX5_ok nmX5 hP (dM hI _) hS 0 wm0 rfl 18 (by decide) wd_569 rfl (by decide +kernel) (Nat.le_of_ble_eq_true rfl) (wm0p18 _) dX5_layBest_81 (fun H locs S1 eS1 hP hS => ?_)
  have h := bd_y eS1 h
  refine lv_aload_n (pc := 84) hx hb dX5_layBest_84 rfl (lv_at hl 1 rfl) ?_
  refine lv_iload (pc := 85) hx hb dX5_layBest_85 (lv_at hl 3 rfl) ?_
  refine r_put (pc := 87) (𝓦 := Wm E a) hx hb hts hown hK inB5 tyX5 tyX5_ok nmX5 hP (dM hI _) hS 0 wm0 rfl 19 (by decide) wd_570 rfl (by decide +kernel) (Nat.le_of_ble_eq_true rfl) (wm0p19 _) dX5_layBest_87 (fun H locs S2 eS2 hP hS => ?_)
  have h := bd_y eS2 h
  refine lv_iconst (v := 0) (pc := 90) hx hb dX5_layBest_90 (by decide) ?_
  refine lv_istore (lv' := [(6, .int 0), (2, .int 1), (0, .ref (a 0)), (1, .int x1), (4, .int x4), (5, .int x5)]) (pc := 91) hx hb dX5_layBest_91 hl (by decide) rfl (fun ls hl => ?_)
  exact t_X5_layBest_93 hI N C k8 hk8 h H locs hP hS ls (lv_sub hl [2, 3, 1, 0] rfl)
def FB_X5_layBest_8 (N : Nat) (k8 : Int32 × Int32 × Int32 × St → Option (Int32 × St)) (x1 : Int32) (x2 : Int32) (x3 : Int32) (S : St) : Option (Int32 × St) :=
  if x3 = 0 then (gd (x2 &&& 1 = x2) (some (x2, S))) else (bd (f_X5_mayGo N S) fun r1 => bd (f_X5_musts N S) fun r2 => bd (f_X5_byWay r2 x1) fun r3 => if r1 = 0 then (B_X5_layBest_120 N k8 x1 x2 S) else (if x2 = 0 then (B_X5_layBest_76 N k8 x1 r1 r3 S) else (bd (f_X5_bits N r3) fun r4 => bd (f_X5_bits N (S 0 18)) fun r5 => if r4 < r5 then (B_X5_layBest_76 N k8 x1 r1 r3 S) else (bd (f_X5_bits N r3) fun r6 => bd (f_X5_bits N (S 0 18)) fun r7 => if r6 = r7 then (if (S 0 18) ≤ r3 then (B_X5_layBest_120 N k8 x1 x2 S) else (B_X5_layBest_76 N k8 x1 r1 r3 S)) else (B_X5_layBest_120 N k8 x1 x2 S)))))
def F_X5_layBest_8 (N : Nat) (k8 : Int32 × Int32 × Int32 × St → Option (Int32 × St)) (v : Int32 × Int32 × Int32 × St) : Option (Int32 × St) := FB_X5_layBest_8 N k8 v.1 v.2.1 v.2.2.1 v.2.2.2
theorem s_X5_layBest_8 {rr : Int32} {SS : St} (hI : aI 18 a) (N : Nat) (C : bC D E RX5 cX5_layBest 7 (some .boolean) p s m args meth c) (k8 : Int32 × Int32 × Int32 × St → Option (Int32 × St)) (hk8 : ∀ (x1 : Int32) (x2 : Int32) (x3 : Int32) (S : St), k8 (x1, x2, x3, S) = some (rr, SS) → gU D (Wm E a) (aA 18 a) p l e (bRm 4 85) s m args below meth c 7 (qU D below (aA 18 a) (Wm E a SS) rr args s) 8 [(0, .ref (a 0)), (1, .int x1), (2, .int x2), (3, .int x3)] [] S) {x1 : Int32} {x2 : Int32} {x3 : Int32} {S : St} (h : FB_X5_layBest_8 N k8 x1 x2 x3 S = some (rr, SS)) : gU D (Wm E a) (aA 18 a) p l e (bRm 4 85) s m args below meth c 7 (qU D below (aA 18 a) (Wm E a SS) rr args s) 8 [(0, .ref (a 0)), (1, .int x1), (2, .int x2), (3, .int x3)] [] S := by
  obtain ⟨hx, hb, hml, hown, hts, hK, hr, hlocks⟩ := id C
  intro H locs hP hS ls hl
  unfold FB_X5_layBest_8 at h
  refine lv_iload_n (pc := 8) hx hb dX5_layBest_8 rfl (lv_at hl 3 rfl) ?_
  refine lv_if_eq (tgt := 128) (pc := 9) hx hb dX5_layBest_9 (by decide) (fun hc => ?_) (fun hc => ?_)
  · have h := if_y hc h
    refine lv_iload_n (pc := 128) hx hb dX5_layBest_128 rfl (lv_at hl 2 rfl) ?_
    exact r_retUZ (pc := 129) (𝓦 := Wm E a) C h hP hS dX5_layBest_129
  · have h := if_n hc h
    refine lv_aload_n (pc := 12) hx hb dX5_layBest_12 rfl (lv_at hl 0 rfl) ?_
    obtain ⟨r1, hr1, h⟩ := bd_some h
    refine r_callR (pc := 13) C hP (c_X5_mayGo hI N hr1) k_X5_mayGo wd_716 (q0 := 0) wm0 rfl rfl ⟨Nat.le_of_ble_eq_true rfl, Nat.le_of_ble_eq_true rfl⟩ rfl hl.1 rfl (Nat.le_of_ble_eq_true rfl) dX5_layBest_13 ⟨Nat.zero_le _, Nat.zero_le _⟩ ?_
    refine lv_istore (lv' := [(4, .int r1), (0, .ref (a 0)), (1, .int x1), (2, .int x2), (3, .int x3)]) (pc := 16) hx hb dX5_layBest_16 hl (by decide) rfl (fun ls hl => ?_)
    refine lv_aload_n (pc := 18) hx hb dX5_layBest_18 rfl (lv_at hl 1 rfl) ?_
    obtain ⟨r2, hr2, h⟩ := bd_some h
    refine r_callR (pc := 19) C hP (c_X5_musts hI N hr2) k_X5_musts wd_724 (q0 := 0) wm0 rfl rfl ⟨Nat.le_of_ble_eq_true rfl, Nat.le_of_ble_eq_true rfl⟩ rfl hl.1 rfl (Nat.le_of_ble_eq_true rfl) dX5_layBest_19 ⟨Nat.zero_le _, Nat.zero_le _⟩ ?_
    refine lv_iload_n (pc := 22) hx hb dX5_layBest_22 rfl (lv_at hl 2 rfl) ?_
    obtain ⟨r3, hr3, h⟩ := bd_some h
    refine r_callS (pc := 23) C (c_X5_byWay hr3) k_X5_byWay wd_728 ⟨Nat.le_of_ble_eq_true rfl, Nat.le_of_ble_eq_true rfl⟩ rfl hl.1 rfl (Nat.le_of_ble_eq_true rfl) dX5_layBest_23 ⟨Nat.zero_le _, Nat.zero_le _⟩ ?_
    refine lv_istore (lv' := [(5, .int r3), (4, .int r1), (0, .ref (a 0)), (1, .int x1), (2, .int x2), (3, .int x3)]) (pc := 26) hx hb dX5_layBest_26 hl (by decide) rfl (fun ls hl => ?_)
    refine lv_iload (pc := 28) hx hb dX5_layBest_28 (lv_at hl 1 rfl) ?_
    refine lv_if_eq (tgt := 120) (pc := 30) hx hb dX5_layBest_30 (by decide) (fun hc => ?_) (fun hc => ?_)
    · have h := if_y hc h
      exact t_X5_layBest_120 hI N C k8 hk8 h H locs hP hS ls (lv_sub hl [2, 3, 4] rfl)
    · have h := if_n hc h
      refine lv_iload_n (pc := 33) hx hb dX5_layBest_33 rfl (lv_at hl 4 rfl) ?_
      refine lv_if_eq (tgt := 76) (pc := 34) hx hb dX5_layBest_34 (by decide) (fun hc => ?_) (fun hc => ?_)
      · have h := if_y hc h
        exact t_X5_layBest_76 hI N C k8 hk8 h H locs hP hS ls (lv_sub hl [2, 3, 1, 0] rfl)
      · have h := if_n hc h
        refine lv_iload (pc := 37) hx hb dX5_layBest_37 (lv_at hl 0 rfl) ?_
        obtain ⟨r4, hr4, h⟩ := bd_some h
        refine r_callS (pc := 39) C (c_X5_bits N hr4) k_X5_bits wd_746 ⟨Nat.le_of_ble_eq_true rfl, Nat.le_of_ble_eq_true rfl⟩ rfl hl.1 rfl (Nat.le_of_ble_eq_true rfl) dX5_layBest_39 ⟨Nat.zero_le _, Nat.zero_le _⟩ ?_
        refine lv_aload_n (pc := 42) hx hb dX5_layBest_42 rfl (lv_at hl 2 rfl) ?_
        refine va_get (pc := 43) (v := .int (S 0 18)) hx hb hts inB5 hown hK.1 hP 0 wm0 rfl 18 (by decide) (hts _ wd_569) (fun _ h9 => h9) rfl dX5_layBest_43 ?_
        obtain ⟨r5, hr5, h⟩ := bd_some h
        refine r_callS (pc := 46) C (c_X5_bits N hr5) k_X5_bits wd_746 ⟨Nat.le_of_ble_eq_true rfl, Nat.le_of_ble_eq_true rfl⟩ rfl hl.1 rfl (Nat.le_of_ble_eq_true rfl) dX5_layBest_46 ⟨Nat.zero_le _, Nat.zero_le _⟩ ?_
        refine lv_icmp_lt (tgt := 76) (pc := 49) hx hb dX5_layBest_49 (by decide) (fun hc => ?_) (fun hc => ?_)
        · have h := if_y hc h
          exact t_X5_layBest_76 hI N C k8 hk8 h H locs hP hS ls (lv_sub hl [2, 3, 1, 0] rfl)
        · have h := if_n hc h
          refine lv_iload (pc := 52) hx hb dX5_layBest_52 (lv_at hl 0 rfl) ?_
          obtain ⟨r6, hr6, h⟩ := bd_some h
          refine r_callS (pc := 54) C (c_X5_bits N hr6) k_X5_bits wd_746 ⟨Nat.le_of_ble_eq_true rfl, Nat.le_of_ble_eq_true rfl⟩ rfl hl.1 rfl (Nat.le_of_ble_eq_true rfl) dX5_layBest_54 ⟨Nat.zero_le _, Nat.zero_le _⟩ ?_
          refine lv_aload_n (pc := 57) hx hb dX5_layBest_57 rfl (lv_at hl 2 rfl) ?_
          refine va_get (pc := 58) (v := .int (S 0 18)) hx hb hts inB5 hown hK.1 hP 0 wm0 rfl 18 (by decide) (hts _ wd_569) (fun _ h9 => h9) rfl dX5_layBest_58 ?_
          obtain ⟨r7, hr7, h⟩ := bd_some h
          refine r_callS (pc := 61) C (c_X5_bits N hr7) k_X5_bits wd_746 ⟨Nat.le_of_ble_eq_true rfl, Nat.le_of_ble_eq_true rfl⟩ rfl hl.1 rfl (Nat.le_of_ble_eq_true rfl) dX5_layBest_61 ⟨Nat.zero_le _, Nat.zero_le _⟩ ?_
          refine lv_icmp_ne (tgt := 120) (pc := 64) hx hb dX5_layBest_64 (by decide) (fun hc => ?_) (fun hc => ?_)
          · have h := if_n hc h
            exact t_X5_layBest_120 hI N C k8 hk8 h H locs hP hS ls (lv_sub hl [2, 3, 4] rfl)
          · have h := if_y hc h
            refine lv_iload (pc := 67) hx hb dX5_layBest_67 (lv_at hl 0 rfl) ?_
            refine lv_aload_n (pc := 69) hx hb dX5_layBest_69 rfl (lv_at hl 2 rfl) ?_
            refine va_get (pc := 70) (v := .int (S 0 18)) hx hb hts inB5 hown hK.1 hP 0 wm0 rfl 18 (by decide) (hts _ wd_569) (fun _ h9 => h9) rfl dX5_layBest_70 ?_
            refine lv_icmp_ge (tgt := 120) (pc := 73) hx hb dX5_layBest_73 (by decide) (fun hc => ?_) (fun hc => ?_)
            · have h := if_y hc h
              exact t_X5_layBest_120 hI N C k8 hk8 h H locs hP hS ls (lv_sub hl [2, 3, 4] rfl)
            · have h := if_n hc h
              exact t_X5_layBest_76 hI N C k8 hk8 h H locs hP hS ls (lv_sub hl [2, 3, 1, 0] rfl)
theorem t_X5_layBest_8 {rr : Int32} {SS : St} (hI : aI 18 a) (N : Nat) (C : bC D E RX5 cX5_layBest 7 (some .boolean) p s m args meth c) {n : Nat} {x1 : Int32} {x2 : Int32} {x3 : Int32} {S : St} (h : lpI (F_X5_layBest_8 N) n (x1, x2, x3, S) = some (rr, SS)) : gU D (Wm E a) (aA 18 a) p l e (bRm 4 85) s m args below meth c 7 (qU D below (aA 18 a) (Wm E a SS) rr args s) 8 [(0, .ref (a 0)), (1, .int x1), (2, .int x2), (3, .int x3)] [] S := by
  exact lpI_ind (P := fun v q => q = (rr, SS) → gU D (Wm E a) (aA 18 a) p l e (bRm 4 85) s m args below meth c 7 (qU D below (aA 18 a) (Wm E a SS) rr args s) 8 [(0, .ref (a 0)), (1, .int v.1), (2, .int v.2.1), (3, .int v.2.2.1)] [] v.2.2.2) (fun k hk v q h9 hq => s_X5_layBest_8 hI N C k (fun x1 x2 x3 S h8 => hk (x1, x2, x3, S) _ h8 rfl) (h9.trans (congrArg some hq))) n (x1, x2, x3, S) _ h rfl
def f_X5_layBest (N : Nat) (x1 : Int32) (S : St) : Option (Int32 × St) :=
  bd (f_X5_begin N S) fun S1 => lpI (F_X5_layBest_8 N) N (x1, 0, 1, S1)
theorem t_X5_layBest_0 {rr : Int32} {SS : St} (hI : aI 18 a) (N : Nat) (C : bC D E RX5 cX5_layBest 7 (some .boolean) p s m args meth c) {x1 : Int32} {S : St} (h : f_X5_layBest N x1 S = some (rr, SS)) : gU D (Wm E a) (aA 18 a) p l e (bRm 4 85) s m args below meth c 7 (qU D below (aA 18 a) (Wm E a SS) rr args s) 0 [(0, .ref (a 0)), (1, .int x1)] [] S := by
  obtain ⟨hx, hb, hml, hown, hts, hK, hr, hlocks⟩ := id C
  intro H locs hP hS ls hl
  unfold f_X5_layBest at h
  refine lv_iconst (v := 0) (pc := 0) hx hb dX5_layBest_0 (by decide) ?_
  refine lv_istore_n (lv' := [(2, .int 0), (0, .ref (a 0)), (1, .int x1)]) (pc := 1) hx hb dX5_layBest_1 rfl hl (by decide) rfl (fun ls hl => ?_)
  refine lv_aload_n (pc := 2) hx hb dX5_layBest_2 rfl (lv_at hl 1 rfl) ?_
  obtain ⟨S1, hS1, h⟩ := bd_some h
  refine r_callV (pc := 3) C hP hS (c_X5_begin hI N hS1) k_X5_begin wd_739 (q0 := 0) wm0 rfl rfl ⟨Nat.le_of_ble_eq_true rfl, Nat.le_of_ble_eq_true rfl⟩ rfl hl.1 rfl (Nat.le_of_ble_eq_true rfl) dX5_layBest_3 ⟨Nat.zero_le _, Nat.zero_le _⟩ (fun H locs hP hS => ?_)
  refine lv_iconst (v := 1) (pc := 6) hx hb dX5_layBest_6 (by decide) ?_
  refine lv_istore_n (lv' := [(3, .int 1), (2, .int 0), (0, .ref (a 0)), (1, .int x1)]) (pc := 7) hx hb dX5_layBest_7 rfl hl (by decide) rfl (fun ls hl => ?_)
  exact t_X5_layBest_8 hI N C h H locs hP hS ls (lv_sub hl [2, 3, 1, 0] rfl)
theorem c_X5_layBest {l : Launch} {D : va_G} {E : bE} {a : Nat → Nat} (hI : aI 18 a) (N : Nat) {rr : Int32} {S : St} {SS : St} {x1 : Int32} (h : f_X5_layBest N x1 S = some (rr, SS)) : cU l D E yX5_layBest cX5_layBest 7 (some .boolean) 4 85 (aA 18 a) (Wm E a S) (Wm E a SS) [.ref (a 0), .int x1] rr := cU_of (by decide) (Nat.le_of_ble_eq_true rfl) (fun p e s m args below meth c C => t_X5_layBest_0 hI N C h)
/-! X5_best -/
def f_X5_best (N : Nat) (x1 : Int32) (x2 : Int32) (S : St) : Option (Int32 × St) :=
  bd (f_X5_in x2 (-2) 5) fun r1 => if r1 = 0 then (some ((-1), S)) else (bd (f_X5_in x1 0 2) fun r2 => if r2 = 0 then (some ((-2), S)) else (bd (f_X5_lay N S) fun S1 => bd2 (f_X5_layBest N x1 S1) fun r3 S2 => if r3 = 0 then (some ((-6), S2)) else (if x2 = (-1) then (some ((S2 0 18), S2)) else (if x2 = (-2) then (some ((S2 0 19), S2)) else (bd (f_X5_isChosen x2 S2) fun r4 => if r4 = 0 then (some ((-6), S2)) else (gd (ix x2 6) (some ((S2 11 (Int32.toNatClampNeg x2)), S2))))))))
theorem t_X5_best_0 {rr : Int32} {SS : St} (hI : aI 18 a) (N : Nat) (C : bC D E RX5 cX5_best 3 (some .int) p s m args meth c) {x1 : Int32} {x2 : Int32} {S : St} (h : f_X5_best N x1 x2 S = some (rr, SS)) : gU D (Wm E a) (aA 18 a) p l e (bRm 5 111) s m args below meth c 3 (qU D below (aA 18 a) (Wm E a SS) rr args s) 0 [(0, .ref (a 0)), (1, .int x1), (2, .int x2)] [] S := by
  obtain ⟨hx, hb, hml, hown, hts, hK, hr, hlocks⟩ := id C
  intro H locs hP hS ls hl
  unfold f_X5_best at h
  refine lv_iload_n (pc := 0) hx hb dX5_best_0 rfl (lv_at hl 2 rfl) ?_
  refine lv_bipush (v := (-2)) (pc := 1) hx hb dX5_best_1 (by decide) ?_
  refine lv_iconst (v := 5) (pc := 3) hx hb dX5_best_3 (by decide) ?_
  obtain ⟨r1, hr1, h⟩ := bd_some h
  refine r_callS (pc := 4) C (c_X5_in hr1) k_X5_in wd_634 ⟨Nat.le_of_ble_eq_true rfl, Nat.le_of_ble_eq_true rfl⟩ rfl hl.1 rfl (Nat.le_of_ble_eq_true rfl) dX5_best_4 ⟨Nat.zero_le _, Nat.zero_le _⟩ ?_
  refine lv_if_ne (tgt := 12) (pc := 7) hx hb dX5_best_7 (by decide) (fun hc => ?_) (fun hc => ?_)
  · have h := if_n hc h
    refine lv_iload_n (pc := 12) hx hb dX5_best_12 rfl (lv_at hl 1 rfl) ?_
    refine lv_iconst (v := 0) (pc := 13) hx hb dX5_best_13 (by decide) ?_
    refine lv_iconst (v := 2) (pc := 14) hx hb dX5_best_14 (by decide) ?_
    obtain ⟨r2, hr2, h⟩ := bd_some h
    refine r_callS (pc := 15) C (c_X5_in hr2) k_X5_in wd_634 ⟨Nat.le_of_ble_eq_true rfl, Nat.le_of_ble_eq_true rfl⟩ rfl hl.1 rfl (Nat.le_of_ble_eq_true rfl) dX5_best_15 ⟨Nat.zero_le _, Nat.zero_le _⟩ ?_
    refine lv_if_ne (tgt := 24) (pc := 18) hx hb dX5_best_18 (by decide) (fun hc => ?_) (fun hc => ?_)
    · have h := if_n hc h
      refine lv_aload_n (pc := 24) hx hb dX5_best_24 rfl (lv_at hl 0 rfl) ?_
      obtain ⟨S1, hS1, h⟩ := bd_some h
      refine r_callV (pc := 25) C hP hS (c_X5_lay hI N hS1) k_X5_lay wd_704 (q0 := 0) wm0 rfl rfl ⟨Nat.le_of_ble_eq_true rfl, Nat.le_of_ble_eq_true rfl⟩ rfl hl.1 rfl (Nat.le_of_ble_eq_true rfl) dX5_best_25 ⟨Nat.zero_le _, Nat.zero_le _⟩ (fun H locs hP hS => ?_)
      refine lv_aload_n (pc := 28) hx hb dX5_best_28 rfl (lv_at hl 0 rfl) ?_
      refine lv_iload_n (pc := 29) hx hb dX5_best_29 rfl (lv_at hl 1 rfl) ?_
      obtain ⟨r3, S2, hr3, h⟩ := bd2_some h
      refine r_callU (pc := 30) C hP hS (c_X5_layBest hI N hr3) k_X5_layBest wd_735 (q0 := 0) wm0 rfl rfl ⟨Nat.le_of_ble_eq_true rfl, Nat.le_of_ble_eq_true rfl⟩ rfl hl.1 rfl (Nat.le_of_ble_eq_true rfl) dX5_best_30 ⟨Nat.zero_le _, Nat.zero_le _⟩ (fun H locs hP hS => ?_)
      refine lv_if_ne (tgt := 39) (pc := 33) hx hb dX5_best_33 (by decide) (fun hc => ?_) (fun hc => ?_)
      · have h := if_n hc h
        refine lv_iload_n (pc := 39) hx hb dX5_best_39 rfl (lv_at hl 2 rfl) ?_
        refine lv_iconst (v := (-1)) (pc := 40) hx hb dX5_best_40 (by decide) ?_
        refine lv_icmp_ne (tgt := 51) (pc := 41) hx hb dX5_best_41 (by decide) (fun hc => ?_) (fun hc => ?_)
        · have h := if_n hc h
          refine lv_iload_n (pc := 51) hx hb dX5_best_51 rfl (lv_at hl 2 rfl) ?_
          refine lv_bipush (v := (-2)) (pc := 52) hx hb dX5_best_52 (by decide) ?_
          refine lv_icmp_ne (tgt := 64) (pc := 54) hx hb dX5_best_54 (by decide) (fun hc => ?_) (fun hc => ?_)
          · have h := if_n hc h
            refine lv_aload_n (pc := 64) hx hb dX5_best_64 rfl (lv_at hl 0 rfl) ?_
            refine lv_iload_n (pc := 65) hx hb dX5_best_65 rfl (lv_at hl 2 rfl) ?_
            obtain ⟨r4, hr4, h⟩ := bd_some h
            refine r_callR (pc := 66) C hP (c_X5_isChosen hI hr4) k_X5_isChosen wd_712 (q0 := 0) wm0 rfl rfl ⟨Nat.le_of_ble_eq_true rfl, Nat.le_of_ble_eq_true rfl⟩ rfl hl.1 rfl (Nat.le_of_ble_eq_true rfl) dX5_best_66 ⟨Nat.zero_le _, Nat.zero_le _⟩ ?_
            refine lv_if_eq (tgt := 81) (pc := 69) hx hb dX5_best_69 (by decide) (fun hc => ?_) (fun hc => ?_)
            · have h := if_y hc h
              refine lv_bipush (v := (-6)) (pc := 81) hx hb dX5_best_81 (by decide) ?_
              exact r_retU (pc := 83) (𝓦 := Wm E a) C h hP hS dX5_best_83
            · have h := if_n hc h
              refine lv_aload_n (pc := 72) hx hb dX5_best_72 rfl (lv_at hl 0 rfl) ?_
              refine va_get (pc := 73) (v := .ref (a 11)) hx hb hts inB5 hown hK.1 hP 0 wm0 rfl 17 (by decide) (hts _ wd_568) (fun _ h9 => h9) rfl dX5_best_73 ?_
              refine lv_iload_n (pc := 76) hx hb dX5_best_76 rfl (lv_at hl 2 rfl) ?_
              obtain ⟨hin, h⟩ := gd_some h
              refine r_ald (pc := 77) hx hb hK hP 11 wm11 hin dX5_best_77 ?_
              refine lv_goto (tgt := 83) (pc := 78) hx hb dX5_best_78 (by decide) ?_
              exact r_retU (pc := 83) (𝓦 := Wm E a) C h hP hS dX5_best_83
          · have h := if_y hc h
            refine lv_aload_n (pc := 57) hx hb dX5_best_57 rfl (lv_at hl 0 rfl) ?_
            refine va_get (pc := 58) (v := .int (S2 0 19)) hx hb hts inB5 hown hK.1 hP 0 wm0 rfl 19 (by decide) (hts _ wd_570) (fun _ h9 => h9) rfl dX5_best_58 ?_
            refine lv_goto (tgt := 83) (pc := 61) hx hb dX5_best_61 (by decide) ?_
            exact r_retU (pc := 83) (𝓦 := Wm E a) C h hP hS dX5_best_83
        · have h := if_y hc h
          refine lv_aload_n (pc := 44) hx hb dX5_best_44 rfl (lv_at hl 0 rfl) ?_
          refine va_get (pc := 45) (v := .int (S2 0 18)) hx hb hts inB5 hown hK.1 hP 0 wm0 rfl 18 (by decide) (hts _ wd_569) (fun _ h9 => h9) rfl dX5_best_45 ?_
          refine lv_goto (tgt := 83) (pc := 48) hx hb dX5_best_48 (by decide) ?_
          exact r_retU (pc := 83) (𝓦 := Wm E a) C h hP hS dX5_best_83
      · have h := if_y hc h
        refine lv_bipush (v := (-6)) (pc := 36) hx hb dX5_best_36 (by decide) ?_
        exact r_retU (pc := 38) (𝓦 := Wm E a) C h hP hS dX5_best_38
    · have h := if_y hc h
      refine lv_bipush (v := (-2)) (pc := 21) hx hb dX5_best_21 (by decide) ?_
      exact r_retU (pc := 23) (𝓦 := Wm E a) C h hP hS dX5_best_23
  · have h := if_y hc h
    refine lv_iconst (v := (-1)) (pc := 10) hx hb dX5_best_10 (by decide) ?_
    exact r_retU (pc := 11) (𝓦 := Wm E a) C h hP hS dX5_best_11
theorem c_X5_best {l : Launch} {D : va_G} {E : bE} {a : Nat → Nat} (hI : aI 18 a) (N : Nat) {rr : Int32} {S : St} {SS : St} {x1 : Int32} {x2 : Int32} (h : f_X5_best N x1 x2 S = some (rr, SS)) : cU l D E yX5_best cX5_best 3 (some .int) 5 111 (aA 18 a) (Wm E a S) (Wm E a SS) [.ref (a 0), .int x1, .int x2] rr := cU_of (by decide) (Nat.le_of_ble_eq_true rfl) (fun p e s m args below meth c C => t_X5_best_0 hI N C h)
/-! X5_good -/
def B_X5_good_29 (N : Nat) (k12 : Int32 × Int32 × St → Option (Int32 × St)) (z0 : Int32) (z1 : Int32) (S : St) : Option (Int32 × St) :=
  bd (some (z1 + z0)) fun y1 => bd2 (f_X5_next N S) fun r2 S1 => k12 (y1, r2, S1)
theorem t_X5_good_29 {rr : Int32} {SS : St} (hI : aI 18 a) (N : Nat) (C : bC D E RX5 cX5_good 3 (some .int) p s m args meth c) (k12 : Int32 × Int32 × St → Option (Int32 × St)) (hk12 : ∀ (x1 : Int32) (x2 : Int32) (S : St), k12 (x1, x2, S) = some (rr, SS) → gU D (Wm E a) (aA 18 a) p l e (bRm 4 85) s m args below meth c 3 (qU D below (aA 18 a) (Wm E a SS) rr args s) 12 [(0, .ref (a 0)), (1, .int x1), (2, .int x2)] [] S) {z0 : Int32} {z1 : Int32} {S : St} (h : B_X5_good_29 N k12 z0 z1 S = some (rr, SS)) : gU D (Wm E a) (aA 18 a) p l e (bRm 4 85) s m args below meth c 3 (qU D below (aA 18 a) (Wm E a SS) rr args s) 29 [(0, .ref (a 0))] [.int z0, .int z1] S := by
  obtain ⟨hx, hb, hml, hown, hts, hK, hr, hlocks⟩ := id C
  intro H locs hP hS ls hl
  unfold B_X5_good_29 at h
  refine lv_iadd (pc := 29) hx hb dX5_good_29 ?_
  refine lv_topi (fun y1 ey1 => ?_)
  have h := bd_y ey1 h
  refine lv_istore_n (lv' := [(1, .int y1), (0, .ref (a 0))]) (pc := 30) hx hb dX5_good_30 rfl hl (by decide) rfl (fun ls hl => ?_)
  refine lv_aload_n (pc := 31) hx hb dX5_good_31 rfl (lv_at hl 1 rfl) ?_
  obtain ⟨r2, S1, hr2, h⟩ := bd2_some h
  refine r_callU (pc := 32) C hP hS (c_X5_next hI N hr2) k_X5_next wd_749 (q0 := 0) wm0 rfl rfl ⟨Nat.le_of_ble_eq_true rfl, Nat.le_of_ble_eq_true rfl⟩ rfl hl.1 rfl (Nat.le_of_ble_eq_true rfl) dX5_good_32 ⟨Nat.zero_le _, Nat.zero_le _⟩ (fun H locs hP hS => ?_)
  refine lv_istore_n (lv' := [(2, .int r2), (1, .int y1), (0, .ref (a 0))]) (pc := 35) hx hb dX5_good_35 rfl hl (by decide) rfl (fun ls hl => ?_)
  refine lv_goto (tgt := 12) (pc := 36) hx hb dX5_good_36 (by decide) ?_
  exact hk12 _ _ _ h H locs hP hS ls (lv_sub hl [2, 1, 0] rfl)
def FB_X5_good_12 (N : Nat) (k12 : Int32 × Int32 × St → Option (Int32 × St)) (x1 : Int32) (x2 : Int32) (S : St) : Option (Int32 × St) :=
  if x2 = 0 then (some (x1, S)) else (bd (f_X5_mayGo N S) fun r1 => if r1 = 0 then (B_X5_good_29 N k12 0 x1 S) else (B_X5_good_29 N k12 1 x1 S))
def F_X5_good_12 (N : Nat) (k12 : Int32 × Int32 × St → Option (Int32 × St)) (v : Int32 × Int32 × St) : Option (Int32 × St) := FB_X5_good_12 N k12 v.1 v.2.1 v.2.2
theorem s_X5_good_12 {rr : Int32} {SS : St} (hI : aI 18 a) (N : Nat) (C : bC D E RX5 cX5_good 3 (some .int) p s m args meth c) (k12 : Int32 × Int32 × St → Option (Int32 × St)) (hk12 : ∀ (x1 : Int32) (x2 : Int32) (S : St), k12 (x1, x2, S) = some (rr, SS) → gU D (Wm E a) (aA 18 a) p l e (bRm 4 85) s m args below meth c 3 (qU D below (aA 18 a) (Wm E a SS) rr args s) 12 [(0, .ref (a 0)), (1, .int x1), (2, .int x2)] [] S) {x1 : Int32} {x2 : Int32} {S : St} (h : FB_X5_good_12 N k12 x1 x2 S = some (rr, SS)) : gU D (Wm E a) (aA 18 a) p l e (bRm 4 85) s m args below meth c 3 (qU D below (aA 18 a) (Wm E a SS) rr args s) 12 [(0, .ref (a 0)), (1, .int x1), (2, .int x2)] [] S := by
  obtain ⟨hx, hb, hml, hown, hts, hK, hr, hlocks⟩ := id C
  intro H locs hP hS ls hl
  unfold FB_X5_good_12 at h
  refine lv_iload_n (pc := 12) hx hb dX5_good_12 rfl (lv_at hl 2 rfl) ?_
  refine lv_if_eq (tgt := 39) (pc := 13) hx hb dX5_good_13 (by decide) (fun hc => ?_) (fun hc => ?_)
  · have h := if_y hc h
    refine lv_iload_n (pc := 39) hx hb dX5_good_39 rfl (lv_at hl 1 rfl) ?_
    exact r_retU (pc := 40) (𝓦 := Wm E a) C h hP hS dX5_good_40
  · have h := if_n hc h
    refine lv_iload_n (pc := 16) hx hb dX5_good_16 rfl (lv_at hl 1 rfl) ?_
    refine lv_aload_n (pc := 17) hx hb dX5_good_17 rfl (lv_at hl 0 rfl) ?_
    obtain ⟨r1, hr1, h⟩ := bd_some h
    refine r_callR (pc := 18) C hP (c_X5_mayGo hI N hr1) k_X5_mayGo wd_716 (q0 := 0) wm0 rfl rfl ⟨Nat.le_of_ble_eq_true rfl, Nat.le_of_ble_eq_true rfl⟩ rfl hl.1 rfl (Nat.le_of_ble_eq_true rfl) dX5_good_18 ⟨Nat.zero_le _, Nat.zero_le _⟩ ?_
    refine lv_if_eq (tgt := 28) (pc := 21) hx hb dX5_good_21 (by decide) (fun hc => ?_) (fun hc => ?_)
    · have h := if_y hc h
      refine lv_iconst (v := 0) (pc := 28) hx hb dX5_good_28 (by decide) ?_
      exact t_X5_good_29 hI N C k12 hk12 h H locs hP hS ls (lv_sub hl [0] rfl)
    · have h := if_n hc h
      refine lv_iconst (v := 1) (pc := 24) hx hb dX5_good_24 (by decide) ?_
      refine lv_goto (tgt := 29) (pc := 25) hx hb dX5_good_25 (by decide) ?_
      exact t_X5_good_29 hI N C k12 hk12 h H locs hP hS ls (lv_sub hl [0] rfl)
theorem t_X5_good_12 {rr : Int32} {SS : St} (hI : aI 18 a) (N : Nat) (C : bC D E RX5 cX5_good 3 (some .int) p s m args meth c) {n : Nat} {x1 : Int32} {x2 : Int32} {S : St} (h : lpI (F_X5_good_12 N) n (x1, x2, S) = some (rr, SS)) : gU D (Wm E a) (aA 18 a) p l e (bRm 4 85) s m args below meth c 3 (qU D below (aA 18 a) (Wm E a SS) rr args s) 12 [(0, .ref (a 0)), (1, .int x1), (2, .int x2)] [] S := by
  exact lpI_ind (P := fun v q => q = (rr, SS) → gU D (Wm E a) (aA 18 a) p l e (bRm 4 85) s m args below meth c 3 (qU D below (aA 18 a) (Wm E a SS) rr args s) 12 [(0, .ref (a 0)), (1, .int v.1), (2, .int v.2.1)] [] v.2.2) (fun k hk v q h9 hq => s_X5_good_12 hI N C k (fun x1 x2 S h8 => hk (x1, x2, S) _ h8 rfl) (h9.trans (congrArg some hq))) n (x1, x2, S) _ h rfl
def f_X5_good (N : Nat) (S : St) : Option (Int32 × St) :=
  bd (f_X5_lay N S) fun S1 => bd (f_X5_begin N S1) fun S2 => lpI (F_X5_good_12 N) N (0, 1, S2)
theorem t_X5_good_0 {rr : Int32} {SS : St} (hI : aI 18 a) (N : Nat) (C : bC D E RX5 cX5_good 3 (some .int) p s m args meth c) {S : St} (h : f_X5_good N S = some (rr, SS)) : gU D (Wm E a) (aA 18 a) p l e (bRm 4 85) s m args below meth c 3 (qU D below (aA 18 a) (Wm E a SS) rr args s) 0 [(0, .ref (a 0))] [] S := by
  obtain ⟨hx, hb, hml, hown, hts, hK, hr, hlocks⟩ := id C
  intro H locs hP hS ls hl
  unfold f_X5_good at h
  refine lv_aload_n (pc := 0) hx hb dX5_good_0 rfl (lv_at hl 0 rfl) ?_
  obtain ⟨S1, hS1, h⟩ := bd_some h
  refine r_callV (pc := 1) C hP hS (c_X5_lay hI N hS1) k_X5_lay wd_704 (q0 := 0) wm0 rfl rfl ⟨Nat.le_of_ble_eq_true rfl, Nat.le_of_ble_eq_true rfl⟩ rfl hl.1 rfl (Nat.le_of_ble_eq_true rfl) dX5_good_1 ⟨Nat.zero_le _, Nat.zero_le _⟩ (fun H locs hP hS => ?_)
  refine lv_iconst (v := 0) (pc := 4) hx hb dX5_good_4 (by decide) ?_
  refine lv_istore_n (lv' := [(1, .int 0), (0, .ref (a 0))]) (pc := 5) hx hb dX5_good_5 rfl hl (by decide) rfl (fun ls hl => ?_)
  refine lv_aload_n (pc := 6) hx hb dX5_good_6 rfl (lv_at hl 1 rfl) ?_
  obtain ⟨S2, hS2, h⟩ := bd_some h
  refine r_callV (pc := 7) C hP hS (c_X5_begin hI N hS2) k_X5_begin wd_739 (q0 := 0) wm0 rfl rfl ⟨Nat.le_of_ble_eq_true rfl, Nat.le_of_ble_eq_true rfl⟩ rfl hl.1 rfl (Nat.le_of_ble_eq_true rfl) dX5_good_7 ⟨Nat.zero_le _, Nat.zero_le _⟩ (fun H locs hP hS => ?_)
  refine lv_iconst (v := 1) (pc := 10) hx hb dX5_good_10 (by decide) ?_
  refine lv_istore_n (lv' := [(2, .int 1), (1, .int 0), (0, .ref (a 0))]) (pc := 11) hx hb dX5_good_11 rfl hl (by decide) rfl (fun ls hl => ?_)
  exact t_X5_good_12 hI N C h H locs hP hS ls (lv_sub hl [2, 1, 0] rfl)
theorem c_X5_good {l : Launch} {D : va_G} {E : bE} {a : Nat → Nat} (hI : aI 18 a) (N : Nat) {rr : Int32} {S : St} {SS : St} (h : f_X5_good N S = some (rr, SS)) : cU l D E yX5_good cX5_good 3 (some .int) 4 85 (aA 18 a) (Wm E a S) (Wm E a SS) [.ref (a 0)] rr := cU_of (by decide) (Nat.le_of_ble_eq_true rfl) (fun p e s m args below meth c C => t_X5_good_0 hI N C h)
/-! X5_someGood -/
def B_X5_someGood_28 (N : Nat) (k8 : Int32 × Int32 × St → Option (Int32 × St)) (z0 : Int32) (S : St) : Option (Int32 × St) :=
  bd2 (f_X5_next N S) fun r1 S1 => k8 (r1, z0, S1)
theorem t_X5_someGood_28 {rr : Int32} {SS : St} (hI : aI 18 a) (N : Nat) (C : bC D E RX5 cX5_someGood 3 (some .boolean) p s m args meth c) (k8 : Int32 × Int32 × St → Option (Int32 × St)) (hk8 : ∀ (x1 : Int32) (x2 : Int32) (S : St), k8 (x1, x2, S) = some (rr, SS) → gU D (Wm E a) (aA 18 a) p l e (bRm 4 85) s m args below meth c 3 (qU D below (aA 18 a) (Wm E a SS) rr args s) 8 [(0, .ref (a 0)), (1, .int x1), (2, .int x2)] [] S) {z0 : Int32} {S : St} (h : B_X5_someGood_28 N k8 z0 S = some (rr, SS)) : gU D (Wm E a) (aA 18 a) p l e (bRm 4 85) s m args below meth c 3 (qU D below (aA 18 a) (Wm E a SS) rr args s) 28 [(0, .ref (a 0))] [.int z0] S := by
  obtain ⟨hx, hb, hml, hown, hts, hK, hr, hlocks⟩ := id C
  intro H locs hP hS ls hl
  unfold B_X5_someGood_28 at h
  refine lv_istore_n (lv' := [(2, .int z0), (0, .ref (a 0))]) (pc := 28) hx hb dX5_someGood_28 rfl hl (by decide) rfl (fun ls hl => ?_)
  refine lv_aload_n (pc := 29) hx hb dX5_someGood_29 rfl (lv_at hl 1 rfl) ?_
  obtain ⟨r1, S1, hr1, h⟩ := bd2_some h
  refine r_callU (pc := 30) C hP hS (c_X5_next hI N hr1) k_X5_next wd_749 (q0 := 0) wm0 rfl rfl ⟨Nat.le_of_ble_eq_true rfl, Nat.le_of_ble_eq_true rfl⟩ rfl hl.1 rfl (Nat.le_of_ble_eq_true rfl) dX5_someGood_30 ⟨Nat.zero_le _, Nat.zero_le _⟩ (fun H locs hP hS => ?_)
  refine lv_istore_n (lv' := [(1, .int r1), (2, .int z0), (0, .ref (a 0))]) (pc := 33) hx hb dX5_someGood_33 rfl hl (by decide) rfl (fun ls hl => ?_)
  refine lv_goto (tgt := 8) (pc := 34) hx hb dX5_someGood_34 (by decide) ?_
  exact hk8 _ _ _ h H locs hP hS ls (lv_sub hl [2, 0, 1] rfl)
def FB_X5_someGood_8 (N : Nat) (k8 : Int32 × Int32 × St → Option (Int32 × St)) (x1 : Int32) (x2 : Int32) (S : St) : Option (Int32 × St) :=
  if x1 = 0 then (gd (x2 &&& 1 = x2) (some (x2, S))) else (if x2 = 0 then (bd (f_X5_mayGo N S) fun r1 => if r1 = 0 then (B_X5_someGood_28 N k8 0 S) else (B_X5_someGood_28 N k8 1 S)) else (gd (x2 &&& 1 = x2) (some (x2, S))))
def F_X5_someGood_8 (N : Nat) (k8 : Int32 × Int32 × St → Option (Int32 × St)) (v : Int32 × Int32 × St) : Option (Int32 × St) := FB_X5_someGood_8 N k8 v.1 v.2.1 v.2.2
theorem s_X5_someGood_8 {rr : Int32} {SS : St} (hI : aI 18 a) (N : Nat) (C : bC D E RX5 cX5_someGood 3 (some .boolean) p s m args meth c) (k8 : Int32 × Int32 × St → Option (Int32 × St)) (hk8 : ∀ (x1 : Int32) (x2 : Int32) (S : St), k8 (x1, x2, S) = some (rr, SS) → gU D (Wm E a) (aA 18 a) p l e (bRm 4 85) s m args below meth c 3 (qU D below (aA 18 a) (Wm E a SS) rr args s) 8 [(0, .ref (a 0)), (1, .int x1), (2, .int x2)] [] S) {x1 : Int32} {x2 : Int32} {S : St} (h : FB_X5_someGood_8 N k8 x1 x2 S = some (rr, SS)) : gU D (Wm E a) (aA 18 a) p l e (bRm 4 85) s m args below meth c 3 (qU D below (aA 18 a) (Wm E a SS) rr args s) 8 [(0, .ref (a 0)), (1, .int x1), (2, .int x2)] [] S := by
  obtain ⟨hx, hb, hml, hown, hts, hK, hr, hlocks⟩ := id C
  intro H locs hP hS ls hl
  unfold FB_X5_someGood_8 at h
  refine lv_iload_n (pc := 8) hx hb dX5_someGood_8 rfl (lv_at hl 1 rfl) ?_
  refine lv_if_eq (tgt := 37) (pc := 9) hx hb dX5_someGood_9 (by decide) (fun hc => ?_) (fun hc => ?_)
  · have h := if_y hc h
    refine lv_iload_n (pc := 37) hx hb dX5_someGood_37 rfl (lv_at hl 2 rfl) ?_
    exact r_retUZ (pc := 38) (𝓦 := Wm E a) C h hP hS dX5_someGood_38
  · have h := if_n hc h
    refine lv_iload_n (pc := 12) hx hb dX5_someGood_12 rfl (lv_at hl 2 rfl) ?_
    refine lv_if_ne (tgt := 37) (pc := 13) hx hb dX5_someGood_13 (by decide) (fun hc => ?_) (fun hc => ?_)
    · have h := if_n hc h
      refine lv_iload_n (pc := 37) hx hb dX5_someGood_37 rfl (lv_at hl 2 rfl) ?_
      exact r_retUZ (pc := 38) (𝓦 := Wm E a) C h hP hS dX5_someGood_38
    · have h := if_y hc h
      refine lv_aload_n (pc := 16) hx hb dX5_someGood_16 rfl (lv_at hl 0 rfl) ?_
      obtain ⟨r1, hr1, h⟩ := bd_some h
      refine r_callR (pc := 17) C hP (c_X5_mayGo hI N hr1) k_X5_mayGo wd_716 (q0 := 0) wm0 rfl rfl ⟨Nat.le_of_ble_eq_true rfl, Nat.le_of_ble_eq_true rfl⟩ rfl hl.1 rfl (Nat.le_of_ble_eq_true rfl) dX5_someGood_17 ⟨Nat.zero_le _, Nat.zero_le _⟩ ?_
      refine lv_if_eq (tgt := 27) (pc := 20) hx hb dX5_someGood_20 (by decide) (fun hc => ?_) (fun hc => ?_)
      · have h := if_y hc h
        refine lv_iconst (v := 0) (pc := 27) hx hb dX5_someGood_27 (by decide) ?_
        exact t_X5_someGood_28 hI N C k8 hk8 h H locs hP hS ls (lv_sub hl [0] rfl)
      · have h := if_n hc h
        refine lv_iconst (v := 1) (pc := 23) hx hb dX5_someGood_23 (by decide) ?_
        refine lv_goto (tgt := 28) (pc := 24) hx hb dX5_someGood_24 (by decide) ?_
        exact t_X5_someGood_28 hI N C k8 hk8 h H locs hP hS ls (lv_sub hl [0] rfl)
theorem t_X5_someGood_8 {rr : Int32} {SS : St} (hI : aI 18 a) (N : Nat) (C : bC D E RX5 cX5_someGood 3 (some .boolean) p s m args meth c) {n : Nat} {x1 : Int32} {x2 : Int32} {S : St} (h : lpI (F_X5_someGood_8 N) n (x1, x2, S) = some (rr, SS)) : gU D (Wm E a) (aA 18 a) p l e (bRm 4 85) s m args below meth c 3 (qU D below (aA 18 a) (Wm E a SS) rr args s) 8 [(0, .ref (a 0)), (1, .int x1), (2, .int x2)] [] S := by
  exact lpI_ind (P := fun v q => q = (rr, SS) → gU D (Wm E a) (aA 18 a) p l e (bRm 4 85) s m args below meth c 3 (qU D below (aA 18 a) (Wm E a SS) rr args s) 8 [(0, .ref (a 0)), (1, .int v.1), (2, .int v.2.1)] [] v.2.2) (fun k hk v q h9 hq => s_X5_someGood_8 hI N C k (fun x1 x2 S h8 => hk (x1, x2, S) _ h8 rfl) (h9.trans (congrArg some hq))) n (x1, x2, S) _ h rfl
def f_X5_someGood (N : Nat) (S : St) : Option (Int32 × St) :=
  bd (f_X5_begin N S) fun S1 => lpI (F_X5_someGood_8 N) N (1, 0, S1)
theorem t_X5_someGood_0 {rr : Int32} {SS : St} (hI : aI 18 a) (N : Nat) (C : bC D E RX5 cX5_someGood 3 (some .boolean) p s m args meth c) {S : St} (h : f_X5_someGood N S = some (rr, SS)) : gU D (Wm E a) (aA 18 a) p l e (bRm 4 85) s m args below meth c 3 (qU D below (aA 18 a) (Wm E a SS) rr args s) 0 [(0, .ref (a 0))] [] S := by
  obtain ⟨hx, hb, hml, hown, hts, hK, hr, hlocks⟩ := id C
  intro H locs hP hS ls hl
  unfold f_X5_someGood at h
  refine lv_aload_n (pc := 0) hx hb dX5_someGood_0 rfl (lv_at hl 0 rfl) ?_
  obtain ⟨S1, hS1, h⟩ := bd_some h
  refine r_callV (pc := 1) C hP hS (c_X5_begin hI N hS1) k_X5_begin wd_739 (q0 := 0) wm0 rfl rfl ⟨Nat.le_of_ble_eq_true rfl, Nat.le_of_ble_eq_true rfl⟩ rfl hl.1 rfl (Nat.le_of_ble_eq_true rfl) dX5_someGood_1 ⟨Nat.zero_le _, Nat.zero_le _⟩ (fun H locs hP hS => ?_)
  refine lv_iconst (v := 1) (pc := 4) hx hb dX5_someGood_4 (by decide) ?_
  refine lv_istore_n (lv' := [(1, .int 1), (0, .ref (a 0))]) (pc := 5) hx hb dX5_someGood_5 rfl hl (by decide) rfl (fun ls hl => ?_)
  refine lv_iconst (v := 0) (pc := 6) hx hb dX5_someGood_6 (by decide) ?_
  refine lv_istore_n (lv' := [(2, .int 0), (1, .int 1), (0, .ref (a 0))]) (pc := 7) hx hb dX5_someGood_7 rfl hl (by decide) rfl (fun ls hl => ?_)
  exact t_X5_someGood_8 hI N C h H locs hP hS ls (lv_sub hl [2, 1, 0] rfl)
theorem c_X5_someGood {l : Launch} {D : va_G} {E : bE} {a : Nat → Nat} (hI : aI 18 a) (N : Nat) {rr : Int32} {S : St} {SS : St} (h : f_X5_someGood N S = some (rr, SS)) : cU l D E yX5_someGood cX5_someGood 3 (some .boolean) 4 85 (aA 18 a) (Wm E a S) (Wm E a SS) [.ref (a 0)] rr := cU_of (by decide) (Nat.le_of_ble_eq_true rfl) (fun p e s m args below meth c C => t_X5_someGood_0 hI N C h)
/-! X5_inside -/
def f_X5_inside (S : St) : Option (Int32) :=
  gd (ix 3 4) (some ((S 8 (Int32.toNatClampNeg 3)) &&& ((1 <<< ((S 0 8) &&& 31)) ^^^ (-1))))
theorem t_X5_inside_0 {rr : Int32} (hI : aI 18 a) (C : bC D E RX5 cX5_inside 1 (some .int) p s m args meth c) {S : St} (hP : va_P D vwCl (Wm E a S) s.heap) (h : f_X5_inside S = some rr) : gR p l e (bRm 0 0) s m args below meth c 1 (qS below rr args s) 0 [(0, .ref (a 0))] [] := by
  obtain ⟨hx, hb, hml, hown, hts, hK, hr, hlocks⟩ := id C
  intro ls hl
  unfold f_X5_inside at h
  refine lv_aload_n (pc := 0) hx hb dX5_inside_0 rfl (lv_at hl 0 rfl) ?_
  refine va_get (pc := 1) (v := .ref (a 8)) hx hb hts inB5 hown hK.1 hP 0 wm0 rfl 13 (by decide) (hts _ wd_564) (fun _ h9 => h9) rfl dX5_inside_1 ?_
  refine lv_iconst (v := 3) (pc := 4) hx hb dX5_inside_4 (by decide) ?_
  obtain ⟨hin, h⟩ := gd_some h
  refine r_ald (pc := 5) hx hb hK hP 8 wm8 hin dX5_inside_5 ?_
  refine lv_iconst (v := 1) (pc := 6) hx hb dX5_inside_6 (by decide) ?_
  refine lv_aload_n (pc := 7) hx hb dX5_inside_7 rfl (lv_at hl 0 rfl) ?_
  refine va_get (pc := 8) (v := .int (S 0 8)) hx hb hts inB5 hown hK.1 hP 0 wm0 rfl 8 (by decide) (hts _ wd_559) (fun _ h9 => h9) rfl dX5_inside_8 ?_
  refine lv_ishl (pc := 11) hx hb dX5_inside_11 ?_
  refine lv_iconst (v := (-1)) (pc := 12) hx hb dX5_inside_12 (by decide) ?_
  refine lv_ixor (pc := 13) hx hb dX5_inside_13 ?_
  refine lv_iand (pc := 14) hx hb dX5_inside_14 ?_
  exact r_retS (pc := 15) C h dX5_inside_15
theorem c_X5_inside {l : Launch} {D : va_G} {E : bE} {a : Nat → Nat} (hI : aI 18 a) {rr : Int32} {S : St} (h : f_X5_inside S = some rr) : cR l D E yX5_inside cX5_inside 1 (some .int) 0 0 (Wm E a S) [.ref (a 0)] rr := cR_of (by decide) (Nat.le_of_ble_eq_true rfl) (fun p e s m args below meth c C hP => t_X5_inside_0 hI C hP h)
/-! X5_bar -/
def B_X5_bar_51 (N : Nat) (k19 : Int32 × Int32 × St → Option (Int32 × St)) (x1 : Int32) (x2 : Int32) (S : St) : Option (Int32 × St) :=
  bd (some (sto S 0 15 (63 &&& (x2 ^^^ (-1))))) fun S1 => bd2 (f_X5_someGood N S1) fun r1 S2 => if r1 = 0 then (k19 (x2, (x2 + 1), S2)) else (k19 (x1, (x2 + 1), S2))
theorem t_X5_bar_51 {rr : Int32} {SS : St} (hI : aI 18 a) (N : Nat) (C : bC D E RX5 cX5_bar 3 (some .int) p s m args meth c) (k19 : Int32 × Int32 × St → Option (Int32 × St)) (hk19 : ∀ (x1 : Int32) (x2 : Int32) (S : St), k19 (x1, x2, S) = some (rr, SS) → gU D (Wm E a) (aA 18 a) p l e (bRm 5 107) s m args below meth c 3 (qU D below (aA 18 a) (Wm E a SS) rr args s) 19 [(0, .ref (a 0)), (1, .int x1), (2, .int x2)] [] S) {x1 : Int32} {x2 : Int32} {S : St} (h : B_X5_bar_51 N k19 x1 x2 S = some (rr, SS)) : gU D (Wm E a) (aA 18 a) p l e (bRm 5 107) s m args below meth c 3 (qU D below (aA 18 a) (Wm E a SS) rr args s) 51 [(0, .ref (a 0)), (1, .int x1), (2, .int x2)] [] S := by
  obtain ⟨hx, hb, hml, hown, hts, hK, hr, hlocks⟩ := id C
  intro H locs hP hS ls hl
  unfold B_X5_bar_51 at h
  refine lv_aload_n (pc := 51) hx hb dX5_bar_51 rfl (lv_at hl 0 rfl) ?_
  refine lv_bipush (v := 63) (pc := 52) hx hb dX5_bar_52 (by decide) ?_
  refine lv_iload_n (pc := 54) hx hb dX5_bar_54 rfl (lv_at hl 2 rfl) ?_
  refine lv_iconst (v := (-1)) (pc := 55) hx hb dX5_bar_55 (by decide) ?_
  refine lv_ixor (pc := 56) hx hb dX5_bar_56 ?_
  refine lv_iand (pc := 57) hx hb dX5_bar_57 ?_
  refine r_put (pc := 58) (𝓦 := Wm E a) hx hb hts hown hK inB5 tyX5 tyX5_ok nmX5 hP (dM hI _) hS 0 wm0 rfl 15 (by decide) wd_566 rfl (by decide +kernel) (Nat.le_of_ble_eq_true rfl) (wm0p15 _) dX5_bar_58 (fun H locs S1 eS1 hP hS => ?_)
  have h := bd_y eS1 h
  refine lv_aload_n (pc := 61) hx hb dX5_bar_61 rfl (lv_at hl 0 rfl) ?_
  obtain ⟨r1, S2, hr1, h⟩ := bd2_some h
  refine r_callU (pc := 62) C hP hS (c_X5_someGood hI N hr1) k_X5_someGood wd_761 (q0 := 0) wm0 rfl rfl ⟨Nat.le_of_ble_eq_true rfl, Nat.le_of_ble_eq_true rfl⟩ rfl hl.1 rfl (Nat.le_of_ble_eq_true rfl) dX5_bar_62 ⟨Nat.zero_le _, Nat.zero_le _⟩ (fun H locs hP hS => ?_)
  refine lv_if_eq (tgt := 72) (pc := 65) hx hb dX5_bar_65 (by decide) (fun hc => ?_) (fun hc => ?_)
  · have h := if_y hc h
    refine lv_iload_n (pc := 72) hx hb dX5_bar_72 rfl (lv_at hl 2 rfl) ?_
    refine lv_istore_n (lv' := [(1, .int x2), (0, .ref (a 0)), (2, .int x2)]) (pc := 73) hx hb dX5_bar_73 rfl hl (by decide) rfl (fun ls hl => ?_)
    refine lv_iinc (v := (x2 + 1)) (lv' := [(2, .int (x2 + 1)), (1, .int x2), (0, .ref (a 0))]) (pc := 74) hx hb dX5_bar_74 hl (k := 2) rfl (ii1 _) (by decide) rfl (fun ls hl => ?_)
    refine lv_goto (tgt := 19) (pc := 77) hx hb dX5_bar_77 (by decide) ?_
    exact hk19 _ _ _ h H locs hP hS ls (lv_sub hl [2, 1, 0] rfl)
  · have h := if_n hc h
    refine lv_iload_n (pc := 68) hx hb dX5_bar_68 rfl (lv_at hl 1 rfl) ?_
    refine lv_goto (tgt := 73) (pc := 69) hx hb dX5_bar_69 (by decide) ?_
    refine lv_istore_n (lv' := [(1, .int x1), (0, .ref (a 0)), (2, .int x2)]) (pc := 73) hx hb dX5_bar_73 rfl hl (by decide) rfl (fun ls hl => ?_)
    refine lv_iinc (v := (x2 + 1)) (lv' := [(2, .int (x2 + 1)), (1, .int x1), (0, .ref (a 0))]) (pc := 74) hx hb dX5_bar_74 hl (k := 2) rfl (ii1 _) (by decide) rfl (fun ls hl => ?_)
    refine lv_goto (tgt := 19) (pc := 77) hx hb dX5_bar_77 (by decide) ?_
    exact hk19 _ _ _ h H locs hP hS ls (lv_sub hl [2, 1, 0] rfl)
def FB_X5_bar_19 (N : Nat) (k19 : Int32 × Int32 × St → Option (Int32 × St)) (x1 : Int32) (x2 : Int32) (S : St) : Option (Int32 × St) :=
  if 64 ≤ x2 then (some (x1, S)) else (bd (f_X5_inside S) fun r1 => if (x2 &&& (r1 ^^^ (-1))) = 0 then (if x1 < 0 then (B_X5_bar_51 N k19 x1 x2 S) else (bd (f_X5_bits N x2) fun r2 => bd (f_X5_bits N x1) fun r3 => if r3 ≤ r2 then (k19 (x1, (x2 + 1), S)) else (B_X5_bar_51 N k19 x1 x2 S))) else (k19 (x1, (x2 + 1), S)))
def F_X5_bar_19 (N : Nat) (k19 : Int32 × Int32 × St → Option (Int32 × St)) (v : Int32 × Int32 × St) : Option (Int32 × St) := FB_X5_bar_19 N k19 v.1 v.2.1 v.2.2
theorem s_X5_bar_19 {rr : Int32} {SS : St} (hI : aI 18 a) (N : Nat) (C : bC D E RX5 cX5_bar 3 (some .int) p s m args meth c) (k19 : Int32 × Int32 × St → Option (Int32 × St)) (hk19 : ∀ (x1 : Int32) (x2 : Int32) (S : St), k19 (x1, x2, S) = some (rr, SS) → gU D (Wm E a) (aA 18 a) p l e (bRm 5 107) s m args below meth c 3 (qU D below (aA 18 a) (Wm E a SS) rr args s) 19 [(0, .ref (a 0)), (1, .int x1), (2, .int x2)] [] S) {x1 : Int32} {x2 : Int32} {S : St} (h : FB_X5_bar_19 N k19 x1 x2 S = some (rr, SS)) : gU D (Wm E a) (aA 18 a) p l e (bRm 5 107) s m args below meth c 3 (qU D below (aA 18 a) (Wm E a SS) rr args s) 19 [(0, .ref (a 0)), (1, .int x1), (2, .int x2)] [] S := by
  obtain ⟨hx, hb, hml, hown, hts, hK, hr, hlocks⟩ := id C
  intro H locs hP hS ls hl
  unfold FB_X5_bar_19 at h
  refine lv_iload_n (pc := 19) hx hb dX5_bar_19 rfl (lv_at hl 2 rfl) ?_
  refine lv_bipush (v := 64) (pc := 20) hx hb dX5_bar_20 (by decide) ?_
  refine lv_icmp_ge (tgt := 80) (pc := 22) hx hb dX5_bar_22 (by decide) (fun hc => ?_) (fun hc => ?_)
  · have h := if_y hc h
    refine lv_iload_n (pc := 80) hx hb dX5_bar_80 rfl (lv_at hl 1 rfl) ?_
    exact r_retU (pc := 81) (𝓦 := Wm E a) C h hP hS dX5_bar_81
  · have h := if_n hc h
    refine lv_iload_n (pc := 25) hx hb dX5_bar_25 rfl (lv_at hl 2 rfl) ?_
    refine lv_aload_n (pc := 26) hx hb dX5_bar_26 rfl (lv_at hl 0 rfl) ?_
    obtain ⟨r1, hr1, h⟩ := bd_some h
    refine r_callR (pc := 27) C hP (c_X5_inside hI hr1) k_X5_inside wd_765 (q0 := 0) wm0 rfl rfl ⟨Nat.le_of_ble_eq_true rfl, Nat.le_of_ble_eq_true rfl⟩ rfl hl.1 rfl (Nat.le_of_ble_eq_true rfl) dX5_bar_27 ⟨Nat.zero_le _, Nat.zero_le _⟩ ?_
    refine lv_iconst (v := (-1)) (pc := 30) hx hb dX5_bar_30 (by decide) ?_
    refine lv_ixor (pc := 31) hx hb dX5_bar_31 ?_
    refine lv_iand (pc := 32) hx hb dX5_bar_32 ?_
    refine lv_if_ne (tgt := 74) (pc := 33) hx hb dX5_bar_33 (by decide) (fun hc => ?_) (fun hc => ?_)
    · have h := if_n hc h
      refine lv_iinc (v := (x2 + 1)) (lv' := [(2, .int (x2 + 1)), (0, .ref (a 0)), (1, .int x1)]) (pc := 74) hx hb dX5_bar_74 hl (k := 2) rfl (ii1 _) (by decide) rfl (fun ls hl => ?_)
      refine lv_goto (tgt := 19) (pc := 77) hx hb dX5_bar_77 (by decide) ?_
      exact hk19 _ _ _ h H locs hP hS ls (lv_sub hl [1, 2, 0] rfl)
    · have h := if_y hc h
      refine lv_iload_n (pc := 36) hx hb dX5_bar_36 rfl (lv_at hl 1 rfl) ?_
      refine lv_if_lt (tgt := 51) (pc := 37) hx hb dX5_bar_37 (by decide) (fun hc => ?_) (fun hc => ?_)
      · have h := if_y hc h
        exact t_X5_bar_51 hI N C k19 hk19 h H locs hP hS ls (lv_sub hl [0, 1, 2] rfl)
      · have h := if_n hc h
        refine lv_iload_n (pc := 40) hx hb dX5_bar_40 rfl (lv_at hl 2 rfl) ?_
        obtain ⟨r2, hr2, h⟩ := bd_some h
        refine r_callS (pc := 41) C (c_X5_bits N hr2) k_X5_bits wd_746 ⟨Nat.le_of_ble_eq_true rfl, Nat.le_of_ble_eq_true rfl⟩ rfl hl.1 rfl (Nat.le_of_ble_eq_true rfl) dX5_bar_41 ⟨Nat.zero_le _, Nat.zero_le _⟩ ?_
        refine lv_iload_n (pc := 44) hx hb dX5_bar_44 rfl (lv_at hl 1 rfl) ?_
        obtain ⟨r3, hr3, h⟩ := bd_some h
        refine r_callS (pc := 45) C (c_X5_bits N hr3) k_X5_bits wd_746 ⟨Nat.le_of_ble_eq_true rfl, Nat.le_of_ble_eq_true rfl⟩ rfl hl.1 rfl (Nat.le_of_ble_eq_true rfl) dX5_bar_45 ⟨Nat.zero_le _, Nat.zero_le _⟩ ?_
        refine lv_icmp_ge (tgt := 74) (pc := 48) hx hb dX5_bar_48 (by decide) (fun hc => ?_) (fun hc => ?_)
        · have h := if_y hc h
          refine lv_iinc (v := (x2 + 1)) (lv' := [(2, .int (x2 + 1)), (0, .ref (a 0)), (1, .int x1)]) (pc := 74) hx hb dX5_bar_74 hl (k := 2) rfl (ii1 _) (by decide) rfl (fun ls hl => ?_)
          refine lv_goto (tgt := 19) (pc := 77) hx hb dX5_bar_77 (by decide) ?_
          exact hk19 _ _ _ h H locs hP hS ls (lv_sub hl [1, 2, 0] rfl)
        · have h := if_n hc h
          exact t_X5_bar_51 hI N C k19 hk19 h H locs hP hS ls (lv_sub hl [0, 1, 2] rfl)
theorem t_X5_bar_19 {rr : Int32} {SS : St} (hI : aI 18 a) (N : Nat) (C : bC D E RX5 cX5_bar 3 (some .int) p s m args meth c) {n : Nat} {x1 : Int32} {x2 : Int32} {S : St} (h : lpI (F_X5_bar_19 N) n (x1, x2, S) = some (rr, SS)) : gU D (Wm E a) (aA 18 a) p l e (bRm 5 107) s m args below meth c 3 (qU D below (aA 18 a) (Wm E a SS) rr args s) 19 [(0, .ref (a 0)), (1, .int x1), (2, .int x2)] [] S := by
  exact lpI_ind (P := fun v q => q = (rr, SS) → gU D (Wm E a) (aA 18 a) p l e (bRm 5 107) s m args below meth c 3 (qU D below (aA 18 a) (Wm E a SS) rr args s) 19 [(0, .ref (a 0)), (1, .int v.1), (2, .int v.2.1)] [] v.2.2) (fun k hk v q h9 hq => s_X5_bar_19 hI N C k (fun x1 x2 S h8 => hk (x1, x2, S) _ h8 rfl) (h9.trans (congrArg some hq))) n (x1, x2, S) _ h rfl
def f_X5_bar (N : Nat) (S : St) : Option (Int32 × St) :=
  bd (f_X5_lay N S) fun S1 => bd2 (f_X5_someGood N S1) fun r1 S2 => if r1 = 0 then (lpI (F_X5_bar_19 N) N ((-6), 1, S2)) else (some ((-3), S2))
theorem t_X5_bar_0 {rr : Int32} {SS : St} (hI : aI 18 a) (N : Nat) (C : bC D E RX5 cX5_bar 3 (some .int) p s m args meth c) {S : St} (h : f_X5_bar N S = some (rr, SS)) : gU D (Wm E a) (aA 18 a) p l e (bRm 5 107) s m args below meth c 3 (qU D below (aA 18 a) (Wm E a SS) rr args s) 0 [(0, .ref (a 0))] [] S := by
  obtain ⟨hx, hb, hml, hown, hts, hK, hr, hlocks⟩ := id C
  intro H locs hP hS ls hl
  unfold f_X5_bar at h
  refine lv_aload_n (pc := 0) hx hb dX5_bar_0 rfl (lv_at hl 0 rfl) ?_
  obtain ⟨S1, hS1, h⟩ := bd_some h
  refine r_callV (pc := 1) C hP hS (c_X5_lay hI N hS1) k_X5_lay wd_704 (q0 := 0) wm0 rfl rfl ⟨Nat.le_of_ble_eq_true rfl, Nat.le_of_ble_eq_true rfl⟩ rfl hl.1 rfl (Nat.le_of_ble_eq_true rfl) dX5_bar_1 ⟨Nat.zero_le _, Nat.zero_le _⟩ (fun H locs hP hS => ?_)
  refine lv_aload_n (pc := 4) hx hb dX5_bar_4 rfl (lv_at hl 0 rfl) ?_
  obtain ⟨r1, S2, hr1, h⟩ := bd2_some h
  refine r_callU (pc := 5) C hP hS (c_X5_someGood hI N hr1) k_X5_someGood wd_761 (q0 := 0) wm0 rfl rfl ⟨Nat.le_of_ble_eq_true rfl, Nat.le_of_ble_eq_true rfl⟩ rfl hl.1 rfl (Nat.le_of_ble_eq_true rfl) dX5_bar_5 ⟨Nat.zero_le _, Nat.zero_le _⟩ (fun H locs hP hS => ?_)
  refine lv_if_eq (tgt := 14) (pc := 8) hx hb dX5_bar_8 (by decide) (fun hc => ?_) (fun hc => ?_)
  · have h := if_y hc h
    refine lv_bipush (v := (-6)) (pc := 14) hx hb dX5_bar_14 (by decide) ?_
    refine lv_istore_n (lv' := [(1, .int (-6)), (0, .ref (a 0))]) (pc := 16) hx hb dX5_bar_16 rfl hl (by decide) rfl (fun ls hl => ?_)
    refine lv_iconst (v := 1) (pc := 17) hx hb dX5_bar_17 (by decide) ?_
    refine lv_istore_n (lv' := [(2, .int 1), (1, .int (-6)), (0, .ref (a 0))]) (pc := 18) hx hb dX5_bar_18 rfl hl (by decide) rfl (fun ls hl => ?_)
    exact t_X5_bar_19 hI N C h H locs hP hS ls (lv_sub hl [2, 1, 0] rfl)
  · have h := if_n hc h
    refine lv_bipush (v := (-3)) (pc := 11) hx hb dX5_bar_11 (by decide) ?_
    exact r_retU (pc := 13) (𝓦 := Wm E a) C h hP hS dX5_bar_13
theorem c_X5_bar {l : Launch} {D : va_G} {E : bE} {a : Nat → Nat} (hI : aI 18 a) (N : Nat) {rr : Int32} {S : St} {SS : St} (h : f_X5_bar N S = some (rr, SS)) : cU l D E yX5_bar cX5_bar 3 (some .int) 5 107 (aA 18 a) (Wm E a S) (Wm E a SS) [.ref (a 0)] rr := cU_of (by decide) (Nat.le_of_ble_eq_true rfl) (fun p e s m args below meth c C => t_X5_bar_0 hI N C h)
