variable {p : Program} {l : Launch} {e : Env} {s : State} {m : MethodId} {args : Array Value} {below : List Frame} {meth : Method} {c : Code} {D : va_G} {E : bE} {a : Nat → Nat}
/-! X5_agree -/
def B_X5_agree_80 (N : Nat) (k31 : Int32 × Int32 × Int32 × Int32 × St → Option (Int32 × St)) (x1 : Int32) (x2 : Int32) (x3 : Int32) (x4 : Int32) (z0 : Int32) (S : St) : Option (Int32 × St) :=
  if z0 = 0 then (bd (some (x3 ||| 0)) fun y1 => k31 (x1, x2, y1, (x4 + 1), S)) else (gd (ix ((4 * x4) + 2) 24) (bd (some (x3 ||| (S 6 (Int32.toNatClampNeg ((4 * x4) + 2))))) fun y2 => k31 (x1, x2, y2, (x4 + 1), S)))
theorem t_X5_agree_80 {rr : Int32} {SS : St} (hI : aI 18 a) (N : Nat) (C : bC D E RX5 cX5_agree 6 (some .int) p s m args meth c) (k31 : Int32 × Int32 × Int32 × Int32 × St → Option (Int32 × St)) (hk31 : ∀ (x1 : Int32) (x2 : Int32) (x3 : Int32) (x4 : Int32) (S : St), k31 (x1, x2, x3, x4, S) = some (rr, SS) → gU D (Wm E a) (aA 18 a) p l e (bRm 3 69) s m args below meth c 6 (qU D below (aA 18 a) (Wm E a SS) rr args s) 31 [(0, .ref (a 0)), (1, .int x1), (2, .int x2), (3, .int x3), (4, .int x4)] [] S) {x1 : Int32} {x2 : Int32} {x3 : Int32} {x4 : Int32} {z0 : Int32} {S : St} (h : B_X5_agree_80 N k31 x1 x2 x3 x4 z0 S = some (rr, SS)) : gU D (Wm E a) (aA 18 a) p l e (bRm 3 69) s m args below meth c 6 (qU D below (aA 18 a) (Wm E a SS) rr args s) 80 [(0, .ref (a 0)), (1, .int x1), (2, .int x2), (3, .int x3), (4, .int x4)] [.int z0] S := by
  obtain ⟨hx, hb, hml, hown, hts, hK, hr, hlocks⟩ := id C
  intro H locs hP hS ls hl
  unfold B_X5_agree_80 at h
  refine lv_istore (lv' := [(5, .int z0), (0, .ref (a 0)), (1, .int x1), (2, .int x2), (3, .int x3), (4, .int x4)]) (pc := 80) hx hb dX5_agree_80 hl (by decide) rfl (fun ls hl => ?_)
  refine lv_iload_n (pc := 82) hx hb dX5_agree_82 rfl (lv_at hl 4 rfl) ?_
  refine lv_iload (pc := 83) hx hb dX5_agree_83 (lv_at hl 0 rfl) ?_
  refine lv_if_eq (tgt := 102) (pc := 85) hx hb dX5_agree_85 (by decide) (fun hc => ?_) (fun hc => ?_)
  · have h := if_y hc h
    refine lv_iconst (v := 0) (pc := 102) hx hb dX5_agree_102 (by decide) ?_
    refine lv_ior (pc := 103) hx hb dX5_agree_103 ?_
    refine lv_topi (fun y1 ey1 => ?_)
    have h := bd_y ey1 h
    refine lv_istore_n (lv' := [(3, .int y1), (5, .int z0), (0, .ref (a 0)), (1, .int x1), (2, .int x2), (4, .int x4)]) (pc := 104) hx hb dX5_agree_104 rfl hl (by decide) rfl (fun ls hl => ?_)
    refine lv_iinc (v := (x4 + 1)) (lv' := [(4, .int (x4 + 1)), (3, .int y1), (5, .int z0), (0, .ref (a 0)), (1, .int x1), (2, .int x2)]) (pc := 105) hx hb dX5_agree_105 hl (k := 5) rfl (ii1 _) (by decide) rfl (fun ls hl => ?_)
    refine lv_goto (tgt := 31) (pc := 108) hx hb dX5_agree_108 (by decide) ?_
    exact hk31 _ _ _ _ _ h H locs hP hS ls (lv_sub hl [3, 4, 5, 1, 0] rfl)
  · have h := if_n hc h
    refine lv_aload_n (pc := 88) hx hb dX5_agree_88 rfl (lv_at hl 1 rfl) ?_
    refine va_get (pc := 89) (v := .ref (a 6)) hx hb hts inB5 hown hK.1 hP 0 wm0 rfl 6 (by decide) (hts _ wd_557) (fun _ h9 => h9) rfl dX5_agree_89 ?_
    refine lv_iconst (v := 4) (pc := 92) hx hb dX5_agree_92 (by decide) ?_
    refine lv_iload (pc := 93) hx hb dX5_agree_93 (lv_at hl 5 rfl) ?_
    refine lv_imul (pc := 95) hx hb dX5_agree_95 ?_
    refine lv_iconst (v := 2) (pc := 96) hx hb dX5_agree_96 (by decide) ?_
    refine lv_iadd (pc := 97) hx hb dX5_agree_97 ?_
    obtain ⟨hin, h⟩ := gd_some h
    refine r_ald (pc := 98) hx hb hK hP 6 wm6 hin dX5_agree_98 ?_
    refine lv_goto (tgt := 103) (pc := 99) hx hb dX5_agree_99 (by decide) ?_
    refine lv_ior (pc := 103) hx hb dX5_agree_103 ?_
    refine lv_topi (fun y2 ey2 => ?_)
    have h := bd_y ey2 h
    refine lv_istore_n (lv' := [(3, .int y2), (5, .int z0), (0, .ref (a 0)), (1, .int x1), (2, .int x2), (4, .int x4)]) (pc := 104) hx hb dX5_agree_104 rfl hl (by decide) rfl (fun ls hl => ?_)
    refine lv_iinc (v := (x4 + 1)) (lv' := [(4, .int (x4 + 1)), (3, .int y2), (5, .int z0), (0, .ref (a 0)), (1, .int x1), (2, .int x2)]) (pc := 105) hx hb dX5_agree_105 hl (k := 5) rfl (ii1 _) (by decide) rfl (fun ls hl => ?_)
    refine lv_goto (tgt := 31) (pc := 108) hx hb dX5_agree_108 (by decide) ?_
    exact hk31 _ _ _ _ _ h H locs hP hS ls (lv_sub hl [3, 4, 5, 1, 0] rfl)
def FB_X5_agree_31 (N : Nat) (k31 : Int32 × Int32 × Int32 × Int32 × St → Option (Int32 × St)) (x1 : Int32) (x2 : Int32) (x3 : Int32) (x4 : Int32) (S : St) : Option (Int32 × St) :=
  if 6 ≤ x4 then (some (x3, S)) else (gd (ix 3 4) (bd (f_X5_has (S 8 (Int32.toNatClampNeg 3)) x4) fun r1 => if r1 = 0 then (B_X5_agree_80 N k31 x1 x2 x3 x4 0 S) else (bd (f_X5_has x2 x4) fun r2 => if r2 = 0 then (gd (ix x4 6) (bd (f_X5_has (S 9 (Int32.toNatClampNeg x4)) x1) fun r3 => if r3 = 0 then (B_X5_agree_80 N k31 x1 x2 x3 x4 1 S) else (B_X5_agree_80 N k31 x1 x2 x3 x4 0 S))) else (B_X5_agree_80 N k31 x1 x2 x3 x4 0 S))))
def F_X5_agree_31 (N : Nat) (k31 : Int32 × Int32 × Int32 × Int32 × St → Option (Int32 × St)) (v : Int32 × Int32 × Int32 × Int32 × St) : Option (Int32 × St) := FB_X5_agree_31 N k31 v.1 v.2.1 v.2.2.1 v.2.2.2.1 v.2.2.2.2
theorem s_X5_agree_31 {rr : Int32} {SS : St} (hI : aI 18 a) (N : Nat) (C : bC D E RX5 cX5_agree 6 (some .int) p s m args meth c) (k31 : Int32 × Int32 × Int32 × Int32 × St → Option (Int32 × St)) (hk31 : ∀ (x1 : Int32) (x2 : Int32) (x3 : Int32) (x4 : Int32) (S : St), k31 (x1, x2, x3, x4, S) = some (rr, SS) → gU D (Wm E a) (aA 18 a) p l e (bRm 3 69) s m args below meth c 6 (qU D below (aA 18 a) (Wm E a SS) rr args s) 31 [(0, .ref (a 0)), (1, .int x1), (2, .int x2), (3, .int x3), (4, .int x4)] [] S) {x1 : Int32} {x2 : Int32} {x3 : Int32} {x4 : Int32} {S : St} (h : FB_X5_agree_31 N k31 x1 x2 x3 x4 S = some (rr, SS)) : gU D (Wm E a) (aA 18 a) p l e (bRm 3 69) s m args below meth c 6 (qU D below (aA 18 a) (Wm E a SS) rr args s) 31 [(0, .ref (a 0)), (1, .int x1), (2, .int x2), (3, .int x3), (4, .int x4)] [] S := by
  obtain ⟨hx, hb, hml, hown, hts, hK, hr, hlocks⟩ := id C
  intro H locs hP hS ls hl
  unfold FB_X5_agree_31 at h
  refine lv_iload (pc := 31) hx hb dX5_agree_31 (lv_at hl 4 rfl) ?_
  refine lv_bipush (v := 6) (pc := 33) hx hb dX5_agree_33 (by decide) ?_
  refine lv_icmp_ge (tgt := 111) (pc := 35) hx hb dX5_agree_35 (by decide) (fun hc => ?_) (fun hc => ?_)
  · have h := if_y hc h
    refine lv_iload_n (pc := 111) hx hb dX5_agree_111 rfl (lv_at hl 3 rfl) ?_
    exact r_retU (pc := 112) (𝓦 := Wm E a) C h hP hS dX5_agree_112
  · have h := if_n hc h
    refine lv_aload_n (pc := 38) hx hb dX5_agree_38 rfl (lv_at hl 0 rfl) ?_
    refine va_get (pc := 39) (v := .ref (a 8)) hx hb hts inB5 hown hK.1 hP 0 wm0 rfl 13 (by decide) (hts _ wd_564) (fun _ h9 => h9) rfl dX5_agree_39 ?_
    refine lv_iconst (v := 3) (pc := 42) hx hb dX5_agree_42 (by decide) ?_
    obtain ⟨hin, h⟩ := gd_some h
    refine r_ald (pc := 43) hx hb hK hP 8 wm8 hin dX5_agree_43 ?_
    refine lv_iload (pc := 44) hx hb dX5_agree_44 (lv_at hl 4 rfl) ?_
    obtain ⟨r1, hr1, h⟩ := bd_some h
    refine r_callS (pc := 46) C (c_X5_has hr1) k_X5_has wd_689 ⟨Nat.le_of_ble_eq_true rfl, Nat.le_of_ble_eq_true rfl⟩ rfl hl.1 rfl (Nat.le_of_ble_eq_true rfl) dX5_agree_46 ⟨Nat.zero_le _, Nat.zero_le _⟩ ?_
    refine lv_if_eq (tgt := 79) (pc := 49) hx hb dX5_agree_49 (by decide) (fun hc => ?_) (fun hc => ?_)
    · have h := if_y hc h
      refine lv_iconst (v := 0) (pc := 79) hx hb dX5_agree_79 (by decide) ?_
      exact t_X5_agree_80 hI N C k31 hk31 h H locs hP hS ls (lv_sub hl [0, 1, 2, 3, 4] rfl)
    · have h := if_n hc h
      refine lv_iload_n (pc := 52) hx hb dX5_agree_52 rfl (lv_at hl 2 rfl) ?_
      refine lv_iload (pc := 53) hx hb dX5_agree_53 (lv_at hl 4 rfl) ?_
      obtain ⟨r2, hr2, h⟩ := bd_some h
      refine r_callS (pc := 55) C (c_X5_has hr2) k_X5_has wd_689 ⟨Nat.le_of_ble_eq_true rfl, Nat.le_of_ble_eq_true rfl⟩ rfl hl.1 rfl (Nat.le_of_ble_eq_true rfl) dX5_agree_55 ⟨Nat.zero_le _, Nat.zero_le _⟩ ?_
      refine lv_if_ne (tgt := 79) (pc := 58) hx hb dX5_agree_58 (by decide) (fun hc => ?_) (fun hc => ?_)
      · have h := if_n hc h
        refine lv_iconst (v := 0) (pc := 79) hx hb dX5_agree_79 (by decide) ?_
        exact t_X5_agree_80 hI N C k31 hk31 h H locs hP hS ls (lv_sub hl [0, 1, 2, 3, 4] rfl)
      · have h := if_y hc h
        refine lv_aload_n (pc := 61) hx hb dX5_agree_61 rfl (lv_at hl 0 rfl) ?_
        refine va_get (pc := 62) (v := .ref (a 9)) hx hb hts inB5 hown hK.1 hP 0 wm0 rfl 14 (by decide) (hts _ wd_565) (fun _ h9 => h9) rfl dX5_agree_62 ?_
        refine lv_iload (pc := 65) hx hb dX5_agree_65 (lv_at hl 4 rfl) ?_
        obtain ⟨hin, h⟩ := gd_some h
        refine r_ald (pc := 67) hx hb hK hP 9 wm9 hin dX5_agree_67 ?_
        refine lv_iload_n (pc := 68) hx hb dX5_agree_68 rfl (lv_at hl 1 rfl) ?_
        obtain ⟨r3, hr3, h⟩ := bd_some h
        refine r_callS (pc := 69) C (c_X5_has hr3) k_X5_has wd_689 ⟨Nat.le_of_ble_eq_true rfl, Nat.le_of_ble_eq_true rfl⟩ rfl hl.1 rfl (Nat.le_of_ble_eq_true rfl) dX5_agree_69 ⟨Nat.zero_le _, Nat.zero_le _⟩ ?_
        refine lv_if_ne (tgt := 79) (pc := 72) hx hb dX5_agree_72 (by decide) (fun hc => ?_) (fun hc => ?_)
        · have h := if_n hc h
          refine lv_iconst (v := 0) (pc := 79) hx hb dX5_agree_79 (by decide) ?_
          exact t_X5_agree_80 hI N C k31 hk31 h H locs hP hS ls (lv_sub hl [0, 1, 2, 3, 4] rfl)
        · have h := if_y hc h
          refine lv_iconst (v := 1) (pc := 75) hx hb dX5_agree_75 (by decide) ?_
          refine lv_goto (tgt := 80) (pc := 76) hx hb dX5_agree_76 (by decide) ?_
          exact t_X5_agree_80 hI N C k31 hk31 h H locs hP hS ls (lv_sub hl [0, 1, 2, 3, 4] rfl)
theorem t_X5_agree_31 {rr : Int32} {SS : St} (hI : aI 18 a) (N : Nat) (C : bC D E RX5 cX5_agree 6 (some .int) p s m args meth c) {n : Nat} {x1 : Int32} {x2 : Int32} {x3 : Int32} {x4 : Int32} {S : St} (h : lpI (F_X5_agree_31 N) n (x1, x2, x3, x4, S) = some (rr, SS)) : gU D (Wm E a) (aA 18 a) p l e (bRm 3 69) s m args below meth c 6 (qU D below (aA 18 a) (Wm E a SS) rr args s) 31 [(0, .ref (a 0)), (1, .int x1), (2, .int x2), (3, .int x3), (4, .int x4)] [] S := by
  exact lpI_ind (P := fun v q => q = (rr, SS) → gU D (Wm E a) (aA 18 a) p l e (bRm 3 69) s m args below meth c 6 (qU D below (aA 18 a) (Wm E a SS) rr args s) 31 [(0, .ref (a 0)), (1, .int v.1), (2, .int v.2.1), (3, .int v.2.2.1), (4, .int v.2.2.2.1)] [] v.2.2.2.2) (fun k hk v q h9 hq => s_X5_agree_31 hI N C k (fun x1 x2 x3 x4 S h8 => hk (x1, x2, x3, x4, S) _ h8 rfl) (h9.trans (congrArg some hq))) n (x1, x2, x3, x4, S) _ h rfl
def f_X5_agree (N : Nat) (x1 : Int32) (x2 : Int32) (S : St) : Option (Int32 × St) :=
  bd (f_X5_isTerms x1) fun r1 => if r1 = 0 then (some ((-1), S)) else (bd (f_X5_in x2 0 63) fun r2 => if r2 = 0 then (some ((-2), S)) else (bd (f_X5_lay N S) fun S1 => lpI (F_X5_agree_31 N) N (x1, x2, 0, 0, S1)))
theorem t_X5_agree_0 {rr : Int32} {SS : St} (hI : aI 18 a) (N : Nat) (C : bC D E RX5 cX5_agree 6 (some .int) p s m args meth c) {x1 : Int32} {x2 : Int32} {S : St} (h : f_X5_agree N x1 x2 S = some (rr, SS)) : gU D (Wm E a) (aA 18 a) p l e (bRm 3 69) s m args below meth c 6 (qU D below (aA 18 a) (Wm E a SS) rr args s) 0 [(0, .ref (a 0)), (1, .int x1), (2, .int x2)] [] S := by
  obtain ⟨hx, hb, hml, hown, hts, hK, hr, hlocks⟩ := id C
  intro H locs hP hS ls hl
  unfold f_X5_agree at h
  refine lv_iload_n (pc := 0) hx hb dX5_agree_0 rfl (lv_at hl 1 rfl) ?_
  obtain ⟨r1, hr1, h⟩ := bd_some h
  refine r_callS (pc := 1) C (c_X5_isTerms hr1) k_X5_isTerms wd_656 ⟨Nat.le_of_ble_eq_true rfl, Nat.le_of_ble_eq_true rfl⟩ rfl hl.1 rfl (Nat.le_of_ble_eq_true rfl) dX5_agree_1 ⟨Nat.zero_le _, Nat.zero_le _⟩ ?_
  refine lv_if_ne (tgt := 9) (pc := 4) hx hb dX5_agree_4 (by decide) (fun hc => ?_) (fun hc => ?_)
  · have h := if_n hc h
    refine lv_iload_n (pc := 9) hx hb dX5_agree_9 rfl (lv_at hl 2 rfl) ?_
    refine lv_iconst (v := 0) (pc := 10) hx hb dX5_agree_10 (by decide) ?_
    refine lv_bipush (v := 63) (pc := 11) hx hb dX5_agree_11 (by decide) ?_
    obtain ⟨r2, hr2, h⟩ := bd_some h
    refine r_callS (pc := 13) C (c_X5_in hr2) k_X5_in wd_634 ⟨Nat.le_of_ble_eq_true rfl, Nat.le_of_ble_eq_true rfl⟩ rfl hl.1 rfl (Nat.le_of_ble_eq_true rfl) dX5_agree_13 ⟨Nat.zero_le _, Nat.zero_le _⟩ ?_
    refine lv_if_ne (tgt := 22) (pc := 16) hx hb dX5_agree_16 (by decide) (fun hc => ?_) (fun hc => ?_)
    · have h := if_n hc h
      refine lv_aload_n (pc := 22) hx hb dX5_agree_22 rfl (lv_at hl 0 rfl) ?_
      obtain ⟨S1, hS1, h⟩ := bd_some h
      refine r_callV (pc := 23) C hP hS (c_X5_lay hI N hS1) k_X5_lay wd_704 (q0 := 0) wm0 rfl rfl ⟨Nat.le_of_ble_eq_true rfl, Nat.le_of_ble_eq_true rfl⟩ rfl hl.1 rfl (Nat.le_of_ble_eq_true rfl) dX5_agree_23 ⟨Nat.zero_le _, Nat.zero_le _⟩ (fun H locs hP hS => ?_)
      refine lv_iconst (v := 0) (pc := 26) hx hb dX5_agree_26 (by decide) ?_
      refine lv_istore_n (lv' := [(3, .int 0), (0, .ref (a 0)), (1, .int x1), (2, .int x2)]) (pc := 27) hx hb dX5_agree_27 rfl hl (by decide) rfl (fun ls hl => ?_)
      refine lv_iconst (v := 0) (pc := 28) hx hb dX5_agree_28 (by decide) ?_
      refine lv_istore (lv' := [(4, .int 0), (3, .int 0), (0, .ref (a 0)), (1, .int x1), (2, .int x2)]) (pc := 29) hx hb dX5_agree_29 hl (by decide) rfl (fun ls hl => ?_)
      exact t_X5_agree_31 hI N C h H locs hP hS ls (lv_sub hl [2, 3, 4, 1, 0] rfl)
    · have h := if_y hc h
      refine lv_bipush (v := (-2)) (pc := 19) hx hb dX5_agree_19 (by decide) ?_
      exact r_retU (pc := 21) (𝓦 := Wm E a) C h hP hS dX5_agree_21
  · have h := if_y hc h
    refine lv_iconst (v := (-1)) (pc := 7) hx hb dX5_agree_7 (by decide) ?_
    exact r_retU (pc := 8) (𝓦 := Wm E a) C h hP hS dX5_agree_8
theorem c_X5_agree {l : Launch} {D : va_G} {E : bE} {a : Nat → Nat} (hI : aI 18 a) (N : Nat) {rr : Int32} {S : St} {SS : St} {x1 : Int32} {x2 : Int32} (h : f_X5_agree N x1 x2 S = some (rr, SS)) : cU l D E yX5_agree cX5_agree 6 (some .int) 3 69 (aA 18 a) (Wm E a S) (Wm E a SS) [.ref (a 0), .int x1, .int x2] rr := cU_of (by decide) (Nat.le_of_ble_eq_true rfl) (fun p e s m args below meth c C => t_X5_agree_0 hI N C h)
/-! X5_more -/
def f_X5_more (N : Nat) (x1 : Int32) (x2 : Int32) (x3 : Int32) (S : St) : Option (Int32 × St) :=
  bd (f_X5_isPiece x1) fun r1 => if r1 = 0 then (some ((-1), S)) else (if x1 < (S 0 8) then (bd (f_X5_in x2 0 3) fun r2 => if r2 = 0 then (some ((-2), S)) else (bd (f_X5_in x3 0 2) fun r3 => if r3 = 0 then (some ((-2), S)) else (gd (ix ((6 * (S 0 8)) + x1) 36) (if (S 7 (Int32.toNatClampNeg ((6 * (S 0 8)) + x1))) < 0 then (bd (f_X5_lay N S) fun S1 => bd2 (f_X5_layBest N x3 S1) fun r4 S2 => bd (some (S2 0 18)) fun y5 => gd (ix ((6 * (S2 0 8)) + x1) 36) (bd (some (sto S2 7 (Int32.toNatClampNeg ((6 * (S2 0 8)) + x1)) x2)) fun S3 => bd (f_X5_lay N S3) fun S4 => bd2 (f_X5_layBest N x3 S4) fun r6 S5 => gd (ix ((6 * (S5 0 8)) + x1) 36) (bd (some (sto S5 7 (Int32.toNatClampNeg ((6 * (S5 0 8)) + x1)) (-6))) fun S6 => if r4 = 0 then (some ((-6), S6)) else (if r6 = 0 then (some ((-6), S6)) else (some (((S6 0 18) &&& (y5 ^^^ (-1))), S6)))))) else (some ((-3), S)))))) else (some ((-1), S)))
theorem t_X5_more_0 {rr : Int32} {SS : St} (hI : aI 18 a) (N : Nat) (C : bC D E RX5 cX5_more 7 (some .int) p s m args meth c) {x1 : Int32} {x2 : Int32} {x3 : Int32} {S : St} (h : f_X5_more N x1 x2 x3 S = some (rr, SS)) : gU D (Wm E a) (aA 18 a) p l e (bRm 5 111) s m args below meth c 7 (qU D below (aA 18 a) (Wm E a SS) rr args s) 0 [(0, .ref (a 0)), (1, .int x1), (2, .int x2), (3, .int x3)] [] S := by
  obtain ⟨hx, hb, hml, hown, hts, hK, hr, hlocks⟩ := id C
  intro H locs hP hS ls hl
  unfold f_X5_more at h
  refine lv_iload_n (pc := 0) hx hb dX5_more_0 rfl (lv_at hl 1 rfl) ?_
  obtain ⟨r1, hr1, h⟩ := bd_some h
  refine r_callS (pc := 1) C (c_X5_isPiece hr1) k_X5_isPiece wd_671 ⟨Nat.le_of_ble_eq_true rfl, Nat.le_of_ble_eq_true rfl⟩ rfl hl.1 rfl (Nat.le_of_ble_eq_true rfl) dX5_more_1 ⟨Nat.zero_le _, Nat.zero_le _⟩ ?_
  refine lv_if_eq (tgt := 15) (pc := 4) hx hb dX5_more_4 (by decide) (fun hc => ?_) (fun hc => ?_)
  · have h := if_y hc h
    refine lv_iconst (v := (-1)) (pc := 15) hx hb dX5_more_15 (by decide) ?_
    exact r_retU (pc := 16) (𝓦 := Wm E a) C h hP hS dX5_more_16
  · have h := if_n hc h
    refine lv_iload_n (pc := 7) hx hb dX5_more_7 rfl (lv_at hl 1 rfl) ?_
    refine lv_aload_n (pc := 8) hx hb dX5_more_8 rfl (lv_at hl 0 rfl) ?_
    refine va_get (pc := 9) (v := .int (S 0 8)) hx hb hts inB5 hown hK.1 hP 0 wm0 rfl 8 (by decide) (hts _ wd_559) (fun _ h9 => h9) rfl dX5_more_9 ?_
    refine lv_icmp_lt (tgt := 17) (pc := 12) hx hb dX5_more_12 (by decide) (fun hc => ?_) (fun hc => ?_)
    · have h := if_y hc h
      refine lv_iload_n (pc := 17) hx hb dX5_more_17 rfl (lv_at hl 2 rfl) ?_
      refine lv_iconst (v := 0) (pc := 18) hx hb dX5_more_18 (by decide) ?_
      refine lv_iconst (v := 3) (pc := 19) hx hb dX5_more_19 (by decide) ?_
      obtain ⟨r2, hr2, h⟩ := bd_some h
      refine r_callS (pc := 20) C (c_X5_in hr2) k_X5_in wd_634 ⟨Nat.le_of_ble_eq_true rfl, Nat.le_of_ble_eq_true rfl⟩ rfl hl.1 rfl (Nat.le_of_ble_eq_true rfl) dX5_more_20 ⟨Nat.zero_le _, Nat.zero_le _⟩ ?_
      refine lv_if_eq (tgt := 35) (pc := 23) hx hb dX5_more_23 (by decide) (fun hc => ?_) (fun hc => ?_)
      · have h := if_y hc h
        refine lv_bipush (v := (-2)) (pc := 35) hx hb dX5_more_35 (by decide) ?_
        exact r_retU (pc := 37) (𝓦 := Wm E a) C h hP hS dX5_more_37
      · have h := if_n hc h
        refine lv_iload_n (pc := 26) hx hb dX5_more_26 rfl (lv_at hl 3 rfl) ?_
        refine lv_iconst (v := 0) (pc := 27) hx hb dX5_more_27 (by decide) ?_
        refine lv_iconst (v := 2) (pc := 28) hx hb dX5_more_28 (by decide) ?_
        obtain ⟨r3, hr3, h⟩ := bd_some h
        refine r_callS (pc := 29) C (c_X5_in hr3) k_X5_in wd_634 ⟨Nat.le_of_ble_eq_true rfl, Nat.le_of_ble_eq_true rfl⟩ rfl hl.1 rfl (Nat.le_of_ble_eq_true rfl) dX5_more_29 ⟨Nat.zero_le _, Nat.zero_le _⟩ ?_
        refine lv_if_ne (tgt := 38) (pc := 32) hx hb dX5_more_32 (by decide) (fun hc => ?_) (fun hc => ?_)
        · have h := if_n hc h
          refine lv_aload_n (pc := 38) hx hb dX5_more_38 rfl (lv_at hl 0 rfl) ?_
          refine va_get (pc := 39) (v := .ref (a 7)) hx hb hts inB5 hown hK.1 hP 0 wm0 rfl 7 (by decide) (hts _ wd_558) (fun _ h9 => h9) rfl dX5_more_39 ?_
          refine lv_bipush (v := 6) (pc := 42) hx hb dX5_more_42 (by decide) ?_
          refine lv_aload_n (pc := 44) hx hb dX5_more_44 rfl (lv_at hl 0 rfl) ?_
          refine va_get (pc := 45) (v := .int (S 0 8)) hx hb hts inB5 hown hK.1 hP 0 wm0 rfl 8 (by decide) (hts _ wd_559) (fun _ h9 => h9) rfl dX5_more_45 ?_
          refine lv_imul (pc := 48) hx hb dX5_more_48 ?_
          refine lv_iload_n (pc := 49) hx hb dX5_more_49 rfl (lv_at hl 1 rfl) ?_
          refine lv_iadd (pc := 50) hx hb dX5_more_50 ?_
          obtain ⟨hin, h⟩ := gd_some h
          refine r_ald (pc := 51) hx hb hK hP 7 wm7 hin dX5_more_51 ?_
          refine lv_if_lt (tgt := 58) (pc := 52) hx hb dX5_more_52 (by decide) (fun hc => ?_) (fun hc => ?_)
          · have h := if_y hc h
            refine lv_aload_n (pc := 58) hx hb dX5_more_58 rfl (lv_at hl 0 rfl) ?_
            obtain ⟨S1, hS1, h⟩ := bd_some h
            refine r_callV (pc := 59) C hP hS (c_X5_lay hI N hS1) k_X5_lay wd_704 (q0 := 0) wm0 rfl rfl ⟨Nat.le_of_ble_eq_true rfl, Nat.le_of_ble_eq_true rfl⟩ rfl hl.1 rfl (Nat.le_of_ble_eq_true rfl) dX5_more_59 ⟨Nat.zero_le _, Nat.zero_le _⟩ (fun H locs hP hS => ?_)
            refine lv_aload_n (pc := 62) hx hb dX5_more_62 rfl (lv_at hl 0 rfl) ?_
            refine lv_iload_n (pc := 63) hx hb dX5_more_63 rfl (lv_at hl 3 rfl) ?_
            obtain ⟨r4, S2, hr4, h⟩ := bd2_some h
            refine r_callU (pc := 64) C hP hS (c_X5_layBest hI N hr4) k_X5_layBest wd_735 (q0 := 0) wm0 rfl rfl ⟨Nat.le_of_ble_eq_true rfl, Nat.le_of_ble_eq_true rfl⟩ rfl hl.1 rfl (Nat.le_of_ble_eq_true rfl) dX5_more_64 ⟨Nat.zero_le _, Nat.zero_le _⟩ (fun H locs hP hS => ?_)
            refine lv_istore (lv' := [(4, .int r4), (0, .ref (a 0)), (1, .int x1), (2, .int x2), (3, .int x3)]) (pc := 67) hx hb dX5_more_67 hl (by decide) rfl (fun ls hl => ?_)
            refine lv_aload_n (pc := 69) hx hb dX5_more_69 rfl (lv_at hl 1 rfl) ?_
            refine va_get (pc := 70) (v := .int (S2 0 18)) hx hb hts inB5 hown hK.1 hP 0 wm0 rfl 18 (by decide) (hts _ wd_569) (fun _ h9 => h9) rfl dX5_more_70 ?_
            refine lv_topi (fun y5 ey5 => ?_)
            have h := bd_y ey5 h
            refine lv_istore (lv' := [(5, .int y5), (4, .int r4), (0, .ref (a 0)), (1, .int x1), (2, .int x2), (3, .int x3)]) (pc := 73) hx hb dX5_more_73 hl (by decide) rfl (fun ls hl => ?_)
            refine lv_aload_n (pc := 75) hx hb dX5_more_75 rfl (lv_at hl 2 rfl) ?_
            refine va_get (pc := 76) (v := .ref (a 7)) hx hb hts inB5 hown hK.1 hP 0 wm0 rfl 7 (by decide) (hts _ wd_558) (fun _ h9 => h9) rfl dX5_more_76 ?_
            refine lv_bipush (v := 6) (pc := 79) hx hb dX5_more_79 (by decide) ?_
            refine lv_aload_n (pc := 81) hx hb dX5_more_81 rfl (lv_at hl 2 rfl) ?_
            refine va_get (pc := 82) (v := .int (S2 0 8)) hx hb hts inB5 hown hK.1 hP 0 wm0 rfl 8 (by decide) (hts _ wd_559) (fun _ h9 => h9) rfl dX5_more_82 ?_
            refine lv_imul (pc := 85) hx hb dX5_more_85 ?_
            refine lv_iload_n (pc := 86) hx hb dX5_more_86 rfl (lv_at hl 3 rfl) ?_
            refine lv_iadd (pc := 87) hx hb dX5_more_87 ?_
            refine lv_iload_n (pc := 88) hx hb dX5_more_88 rfl (lv_at hl 4 rfl) ?_
            obtain ⟨hin, h⟩ := gd_some h
            refine r_ast (pc := 89) (𝓦 := Wm E a) hx hb hK hP (dM hI _) hS 7 wm7 wm7s hin dX5_more_89 (fun H locs S3 eS3 hP hS => ?_)
            have h := bd_y eS3 h
            refine lv_aload_n (pc := 90) hx hb dX5_more_90 rfl (lv_at hl 2 rfl) ?_
            obtain ⟨S4, hS4, h⟩ := bd_some h
            refine r_callV (pc := 91) C hP hS (c_X5_lay hI N hS4) k_X5_lay wd_704 (q0 := 0) wm0 rfl rfl ⟨Nat.le_of_ble_eq_true rfl, Nat.le_of_ble_eq_true rfl⟩ rfl hl.1 rfl (Nat.le_of_ble_eq_true rfl) dX5_more_91 ⟨Nat.zero_le _, Nat.zero_le _⟩ (fun H locs hP hS => ?_)
            refine lv_aload_n (pc := 94) hx hb dX5_more_94 rfl (lv_at hl 2 rfl) ?_
            refine lv_iload_n (pc := 95) hx hb dX5_more_95 rfl (lv_at hl 5 rfl) ?_
            obtain ⟨r6, S5, hr6, h⟩ := bd2_some h
            refine r_callU (pc := 96) C hP hS (c_X5_layBest hI N hr6) k_X5_layBest wd_735 (q0 := 0) wm0 rfl rfl ⟨Nat.le_of_ble_eq_true rfl, Nat.le_of_ble_eq_true rfl⟩ rfl hl.1 rfl (Nat.le_of_ble_eq_true rfl) dX5_more_96 ⟨Nat.zero_le _, Nat.zero_le _⟩ (fun H locs hP hS => ?_)
            refine lv_istore (lv' := [(6, .int r6), (5, .int y5), (4, .int r4), (0, .ref (a 0)), (1, .int x1), (2, .int x2), (3, .int x3)]) (pc := 99) hx hb dX5_more_99 hl (by decide) rfl (fun ls hl => ?_)
            refine lv_aload_n (pc := 101) hx hb dX5_more_101 rfl (lv_at hl 3 rfl) ?_
            refine va_get (pc := 102) (v := .ref (a 7)) hx hb hts inB5 hown hK.1 hP 0 wm0 rfl 7 (by decide) (hts _ wd_558) (fun _ h9 => h9) rfl dX5_more_102 ?_
            refine lv_bipush (v := 6) (pc := 105) hx hb dX5_more_105 (by decide) ?_
            refine lv_aload_n (pc := 107) hx hb dX5_more_107 rfl (lv_at hl 3 rfl) ?_
            refine va_get (pc := 108) (v := .int (S5 0 8)) hx hb hts inB5 hown hK.1 hP 0 wm0 rfl 8 (by decide) (hts _ wd_559) (fun _ h9 => h9) rfl dX5_more_108 ?_
            refine lv_imul (pc := 111) hx hb dX5_more_111 ?_
            refine lv_iload_n (pc := 112) hx hb dX5_more_112 rfl (lv_at hl 4 rfl) ?_
            refine lv_iadd (pc := 113) hx hb dX5_more_113 ?_
            refine lv_bipush (v := (-6)) (pc := 114) hx hb dX5_more_114 (by decide) ?_
            obtain ⟨hin, h⟩ := gd_some h
            refine r_ast (pc := 116) (𝓦 := Wm E a) hx hb hK hP (dM hI _) hS 7 wm7 wm7s hin dX5_more_116 (fun H locs S6 eS6 hP hS => ?_)
            have h := bd_y eS6 h
            refine lv_iload (pc := 117) hx hb dX5_more_117 (lv_at hl 2 rfl) ?_
            refine lv_if_eq (tgt := 139) (pc := 119) hx hb dX5_more_119 (by decide) (fun hc => ?_) (fun hc => ?_)
            · have h := if_y hc h
              refine lv_bipush (v := (-6)) (pc := 139) hx hb dX5_more_139 (by decide) ?_
              exact r_retU (pc := 141) (𝓦 := Wm E a) C h hP hS dX5_more_141
            · have h := if_n hc h
              refine lv_iload (pc := 122) hx hb dX5_more_122 (lv_at hl 0 rfl) ?_
              refine lv_if_eq (tgt := 139) (pc := 124) hx hb dX5_more_124 (by decide) (fun hc => ?_) (fun hc => ?_)
              · have h := if_y hc h
                refine lv_bipush (v := (-6)) (pc := 139) hx hb dX5_more_139 (by decide) ?_
                exact r_retU (pc := 141) (𝓦 := Wm E a) C h hP hS dX5_more_141
              · have h := if_n hc h
                refine lv_aload_n (pc := 127) hx hb dX5_more_127 rfl (lv_at hl 3 rfl) ?_
                refine va_get (pc := 128) (v := .int (S6 0 18)) hx hb hts inB5 hown hK.1 hP 0 wm0 rfl 18 (by decide) (hts _ wd_569) (fun _ h9 => h9) rfl dX5_more_128 ?_
                refine lv_iload (pc := 131) hx hb dX5_more_131 (lv_at hl 1 rfl) ?_
                refine lv_iconst (v := (-1)) (pc := 133) hx hb dX5_more_133 (by decide) ?_
                refine lv_ixor (pc := 134) hx hb dX5_more_134 ?_
                refine lv_iand (pc := 135) hx hb dX5_more_135 ?_
                refine lv_goto (tgt := 141) (pc := 136) hx hb dX5_more_136 (by decide) ?_
                exact r_retU (pc := 141) (𝓦 := Wm E a) C h hP hS dX5_more_141
          · have h := if_n hc h
            refine lv_bipush (v := (-3)) (pc := 55) hx hb dX5_more_55 (by decide) ?_
            exact r_retU (pc := 57) (𝓦 := Wm E a) C h hP hS dX5_more_57
        · have h := if_y hc h
          refine lv_bipush (v := (-2)) (pc := 35) hx hb dX5_more_35 (by decide) ?_
          exact r_retU (pc := 37) (𝓦 := Wm E a) C h hP hS dX5_more_37
    · have h := if_n hc h
      refine lv_iconst (v := (-1)) (pc := 15) hx hb dX5_more_15 (by decide) ?_
      exact r_retU (pc := 16) (𝓦 := Wm E a) C h hP hS dX5_more_16
theorem c_X5_more {l : Launch} {D : va_G} {E : bE} {a : Nat → Nat} (hI : aI 18 a) (N : Nat) {rr : Int32} {S : St} {SS : St} {x1 : Int32} {x2 : Int32} {x3 : Int32} (h : f_X5_more N x1 x2 x3 S = some (rr, SS)) : cU l D E yX5_more cX5_more 7 (some .int) 5 111 (aA 18 a) (Wm E a S) (Wm E a SS) [.ref (a 0), .int x1, .int x2, .int x3] rr := cU_of (by decide) (Nat.le_of_ble_eq_true rfl) (fun p e s m args below meth c C => t_X5_more_0 hI N C h)
/-! X5_names -/
def FB_X5_names_144 (N : Nat) (k137 : Int32 × Int32 × Int32 × St → Option (Int32 × St)) (k144 : Int32 × Int32 × Int32 × Int32 × St → Option (Int32 × St)) (x1 : Int32) (x2 : Int32) (x3 : Int32) (x4 : Int32) (S : St) : Option (Int32 × St) :=
  if 6 ≤ x4 then (k137 (x1, x2, (x3 + (-1)), S)) else (gd (ix x4 6) (if (S 13 (Int32.toNatClampNeg x4)) = x3 then (if x2 = x1 then (some (x4, S)) else (k144 (x1, (x2 + 1), x3, (x4 + 1), S))) else (k144 (x1, x2, x3, (x4 + 1), S))))
def F_X5_names_144 (N : Nat) (k137 : Int32 × Int32 × Int32 × St → Option (Int32 × St)) (k144 : Int32 × Int32 × Int32 × Int32 × St → Option (Int32 × St)) (v : Int32 × Int32 × Int32 × Int32 × St) : Option (Int32 × St) := FB_X5_names_144 N k137 k144 v.1 v.2.1 v.2.2.1 v.2.2.2.1 v.2.2.2.2
theorem s_X5_names_144 {rr : Int32} {SS : St} (hI : aI 18 a) (N : Nat) (C : bC D E RX5 cX5_names 5 (some .int) p s m args meth c) (k137 : Int32 × Int32 × Int32 × St → Option (Int32 × St)) (hk137 : ∀ (x1 : Int32) (x2 : Int32) (x3 : Int32) (S : St), k137 (x1, x2, x3, S) = some (rr, SS) → gU D (Wm E a) (aA 18 a) p l e (bRm 5 111) s m args below meth c 5 (qU D below (aA 18 a) (Wm E a SS) rr args s) 137 [(0, .ref (a 0)), (1, .int x1), (2, .int x2), (3, .int x3)] [] S) (k144 : Int32 × Int32 × Int32 × Int32 × St → Option (Int32 × St)) (hk144 : ∀ (x1 : Int32) (x2 : Int32) (x3 : Int32) (x4 : Int32) (S : St), k144 (x1, x2, x3, x4, S) = some (rr, SS) → gU D (Wm E a) (aA 18 a) p l e (bRm 5 111) s m args below meth c 5 (qU D below (aA 18 a) (Wm E a SS) rr args s) 144 [(0, .ref (a 0)), (1, .int x1), (2, .int x2), (3, .int x3), (4, .int x4)] [] S) {x1 : Int32} {x2 : Int32} {x3 : Int32} {x4 : Int32} {S : St} (h : FB_X5_names_144 N k137 k144 x1 x2 x3 x4 S = some (rr, SS)) : gU D (Wm E a) (aA 18 a) p l e (bRm 5 111) s m args below meth c 5 (qU D below (aA 18 a) (Wm E a SS) rr args s) 144 [(0, .ref (a 0)), (1, .int x1), (2, .int x2), (3, .int x3), (4, .int x4)] [] S := by
  obtain ⟨hx, hb, hml, hown, hts, hK, hr, hlocks⟩ := id C
  intro H locs hP hS ls hl
  unfold FB_X5_names_144 at h
  refine lv_iload (pc := 144) hx hb dX5_names_144 (lv_at hl 4 rfl) ?_
  refine lv_bipush (v := 6) (pc := 146) hx hb dX5_names_146 (by decide) ?_
  refine lv_icmp_ge (tgt := 179) (pc := 148) hx hb dX5_names_148 (by decide) (fun hc => ?_) (fun hc => ?_)
  · have h := if_y hc h
    refine lv_iinc (v := (x3 + (-1))) (lv' := [(3, .int (x3 + (-1))), (0, .ref (a 0)), (1, .int x1), (2, .int x2), (4, .int x4)]) (pc := 179) hx hb dX5_names_179 hl (k := 3) rfl (iim1 _) (by decide) rfl (fun ls hl => ?_)
    refine lv_goto (tgt := 137) (pc := 182) hx hb dX5_names_182 (by decide) ?_
    exact hk137 _ _ _ _ h H locs hP hS ls (lv_sub hl [1, 2, 3, 0] rfl)
  · have h := if_n hc h
    refine lv_aload_n (pc := 151) hx hb dX5_names_151 rfl (lv_at hl 0 rfl) ?_
    refine va_get (pc := 152) (v := .ref (a 13)) hx hb hts inB5 hown hK.1 hP 0 wm0 rfl 21 (by decide) (hts _ wd_572) (fun _ h9 => h9) rfl dX5_names_152 ?_
    refine lv_iload (pc := 155) hx hb dX5_names_155 (lv_at hl 4 rfl) ?_
    obtain ⟨hin, h⟩ := gd_some h
    refine r_ald (pc := 157) hx hb hK hP 13 wm13 hin dX5_names_157 ?_
    refine lv_iload_n (pc := 158) hx hb dX5_names_158 rfl (lv_at hl 3 rfl) ?_
    refine lv_icmp_ne (tgt := 173) (pc := 159) hx hb dX5_names_159 (by decide) (fun hc => ?_) (fun hc => ?_)
    · have h := if_n hc h
      refine lv_iinc (v := (x4 + 1)) (lv' := [(4, .int (x4 + 1)), (0, .ref (a 0)), (1, .int x1), (2, .int x2), (3, .int x3)]) (pc := 173) hx hb dX5_names_173 hl (k := 4) rfl (ii1 _) (by decide) rfl (fun ls hl => ?_)
      refine lv_goto (tgt := 144) (pc := 176) hx hb dX5_names_176 (by decide) ?_
      exact hk144 _ _ _ _ _ h H locs hP hS ls (lv_sub hl [1, 2, 3, 4, 0] rfl)
    · have h := if_y hc h
      refine lv_iload_n (pc := 162) hx hb dX5_names_162 rfl (lv_at hl 2 rfl) ?_
      refine lv_iload_n (pc := 163) hx hb dX5_names_163 rfl (lv_at hl 1 rfl) ?_
      refine lv_icmp_ne (tgt := 170) (pc := 164) hx hb dX5_names_164 (by decide) (fun hc => ?_) (fun hc => ?_)
      · have h := if_n hc h
        refine lv_iinc (v := (x2 + 1)) (lv' := [(2, .int (x2 + 1)), (0, .ref (a 0)), (1, .int x1), (3, .int x3), (4, .int x4)]) (pc := 170) hx hb dX5_names_170 hl (k := 2) rfl (ii1 _) (by decide) rfl (fun ls hl => ?_)
        refine lv_iinc (v := (x4 + 1)) (lv' := [(4, .int (x4 + 1)), (2, .int (x2 + 1)), (0, .ref (a 0)), (1, .int x1), (3, .int x3)]) (pc := 173) hx hb dX5_names_173 hl (k := 4) rfl (ii1 _) (by decide) rfl (fun ls hl => ?_)
        refine lv_goto (tgt := 144) (pc := 176) hx hb dX5_names_176 (by decide) ?_
        exact hk144 _ _ _ _ _ h H locs hP hS ls (lv_sub hl [2, 3, 1, 4, 0] rfl)
      · have h := if_y hc h
        refine lv_iload (pc := 167) hx hb dX5_names_167 (lv_at hl 4 rfl) ?_
        exact r_retU (pc := 169) (𝓦 := Wm E a) C h hP hS dX5_names_169
theorem t_X5_names_144 {rr : Int32} {SS : St} (hI : aI 18 a) (N : Nat) (C : bC D E RX5 cX5_names 5 (some .int) p s m args meth c) (k137 : Int32 × Int32 × Int32 × St → Option (Int32 × St)) (hk137 : ∀ (x1 : Int32) (x2 : Int32) (x3 : Int32) (S : St), k137 (x1, x2, x3, S) = some (rr, SS) → gU D (Wm E a) (aA 18 a) p l e (bRm 5 111) s m args below meth c 5 (qU D below (aA 18 a) (Wm E a SS) rr args s) 137 [(0, .ref (a 0)), (1, .int x1), (2, .int x2), (3, .int x3)] [] S) {n : Nat} {x1 : Int32} {x2 : Int32} {x3 : Int32} {x4 : Int32} {S : St} (h : lpI (F_X5_names_144 N k137) n (x1, x2, x3, x4, S) = some (rr, SS)) : gU D (Wm E a) (aA 18 a) p l e (bRm 5 111) s m args below meth c 5 (qU D below (aA 18 a) (Wm E a SS) rr args s) 144 [(0, .ref (a 0)), (1, .int x1), (2, .int x2), (3, .int x3), (4, .int x4)] [] S := by
  exact lpI_ind (P := fun v q => q = (rr, SS) → gU D (Wm E a) (aA 18 a) p l e (bRm 5 111) s m args below meth c 5 (qU D below (aA 18 a) (Wm E a SS) rr args s) 144 [(0, .ref (a 0)), (1, .int v.1), (2, .int v.2.1), (3, .int v.2.2.1), (4, .int v.2.2.2.1)] [] v.2.2.2.2) (fun k hk v q h9 hq => s_X5_names_144 hI N C k137 hk137 k (fun x1 x2 x3 x4 S h8 => hk (x1, x2, x3, x4, S) _ h8 rfl) (h9.trans (congrArg some hq))) n (x1, x2, x3, x4, S) _ h rfl
def FB_X5_names_137 (N : Nat) (k137 : Int32 × Int32 × Int32 × St → Option (Int32 × St)) (x1 : Int32) (x2 : Int32) (x3 : Int32) (S : St) : Option (Int32 × St) :=
  if x3 ≤ 0 then (if x1 = (-1) then (some (x2, S)) else (some ((-6), S))) else (lpI (F_X5_names_144 N k137) N (x1, x2, x3, 0, S))
def F_X5_names_137 (N : Nat) (k137 : Int32 × Int32 × Int32 × St → Option (Int32 × St)) (v : Int32 × Int32 × Int32 × St) : Option (Int32 × St) := FB_X5_names_137 N k137 v.1 v.2.1 v.2.2.1 v.2.2.2
theorem s_X5_names_137 {rr : Int32} {SS : St} (hI : aI 18 a) (N : Nat) (C : bC D E RX5 cX5_names 5 (some .int) p s m args meth c) (k137 : Int32 × Int32 × Int32 × St → Option (Int32 × St)) (hk137 : ∀ (x1 : Int32) (x2 : Int32) (x3 : Int32) (S : St), k137 (x1, x2, x3, S) = some (rr, SS) → gU D (Wm E a) (aA 18 a) p l e (bRm 5 111) s m args below meth c 5 (qU D below (aA 18 a) (Wm E a SS) rr args s) 137 [(0, .ref (a 0)), (1, .int x1), (2, .int x2), (3, .int x3)] [] S) {x1 : Int32} {x2 : Int32} {x3 : Int32} {S : St} (h : FB_X5_names_137 N k137 x1 x2 x3 S = some (rr, SS)) : gU D (Wm E a) (aA 18 a) p l e (bRm 5 111) s m args below meth c 5 (qU D below (aA 18 a) (Wm E a SS) rr args s) 137 [(0, .ref (a 0)), (1, .int x1), (2, .int x2), (3, .int x3)] [] S := by
  obtain ⟨hx, hb, hml, hown, hts, hK, hr, hlocks⟩ := id C
  intro H locs hP hS ls hl
  unfold FB_X5_names_137 at h
  refine lv_iload_n (pc := 137) hx hb dX5_names_137 rfl (lv_at hl 3 rfl) ?_
  refine lv_if_le (tgt := 185) (pc := 138) hx hb dX5_names_138 (by decide) (fun hc => ?_) (fun hc => ?_)
  · have h := if_y hc h
    refine lv_iload_n (pc := 185) hx hb dX5_names_185 rfl (lv_at hl 1 rfl) ?_
    refine lv_iconst (v := (-1)) (pc := 186) hx hb dX5_names_186 (by decide) ?_
    refine lv_icmp_ne (tgt := 194) (pc := 187) hx hb dX5_names_187 (by decide) (fun hc => ?_) (fun hc => ?_)
    · have h := if_n hc h
      refine lv_bipush (v := (-6)) (pc := 194) hx hb dX5_names_194 (by decide) ?_
      exact r_retU (pc := 196) (𝓦 := Wm E a) C h hP hS dX5_names_196
    · have h := if_y hc h
      refine lv_iload_n (pc := 190) hx hb dX5_names_190 rfl (lv_at hl 2 rfl) ?_
      refine lv_goto (tgt := 196) (pc := 191) hx hb dX5_names_191 (by decide) ?_
      exact r_retU (pc := 196) (𝓦 := Wm E a) C h hP hS dX5_names_196
  · have h := if_n hc h
    refine lv_iconst (v := 0) (pc := 141) hx hb dX5_names_141 (by decide) ?_
    refine lv_istore (lv' := [(4, .int 0), (0, .ref (a 0)), (1, .int x1), (2, .int x2), (3, .int x3)]) (pc := 142) hx hb dX5_names_142 hl (by decide) rfl (fun ls hl => ?_)
    exact t_X5_names_144 hI N C k137 hk137 h H locs hP hS ls (lv_sub hl [1, 2, 3, 4, 0] rfl)
theorem t_X5_names_137 {rr : Int32} {SS : St} (hI : aI 18 a) (N : Nat) (C : bC D E RX5 cX5_names 5 (some .int) p s m args meth c) {n : Nat} {x1 : Int32} {x2 : Int32} {x3 : Int32} {S : St} (h : lpI (F_X5_names_137 N) n (x1, x2, x3, S) = some (rr, SS)) : gU D (Wm E a) (aA 18 a) p l e (bRm 5 111) s m args below meth c 5 (qU D below (aA 18 a) (Wm E a SS) rr args s) 137 [(0, .ref (a 0)), (1, .int x1), (2, .int x2), (3, .int x3)] [] S := by
  exact lpI_ind (P := fun v q => q = (rr, SS) → gU D (Wm E a) (aA 18 a) p l e (bRm 5 111) s m args below meth c 5 (qU D below (aA 18 a) (Wm E a SS) rr args s) 137 [(0, .ref (a 0)), (1, .int v.1), (2, .int v.2.1), (3, .int v.2.2.1)] [] v.2.2.2) (fun k hk v q h9 hq => s_X5_names_137 hI N C k (fun x1 x2 x3 S h8 => hk (x1, x2, x3, S) _ h8 rfl) (h9.trans (congrArg some hq))) n (x1, x2, x3, S) _ h rfl
def FB_X5_names_58 (N : Nat) (k38 : Int32 × Int32 × St → Option (Int32 × St)) (k58 : Int32 × Int32 × Int32 × St → Option (Int32 × St)) (x1 : Int32) (x2 : Int32) (x3 : Int32) (S : St) : Option (Int32 × St) :=
  if 6 ≤ x3 then (k38 (x1, (x2 + 1), S)) else (bd (f_X5_reaches x2 S) fun r1 => if r1 = 0 then (k38 (x1, (x2 + 1), S)) else (gd (ix x2 6) (gd (ix (S 10 (Int32.toNatClampNeg x2)) 5) (if ((S 2 (Int32.toNatClampNeg (S 10 (Int32.toNatClampNeg x2)))) &&& 1) = 1 then (gd (ix x3 6) (gd (ix ((4 * x2) + 2) 24) (bd (f_X5_has (S 6 (Int32.toNatClampNeg ((4 * x2) + 2))) x3) fun r2 => if r2 = 0 then (gd (ix x3 6) (bd (some (sto S 13 (Int32.toNatClampNeg x3) ((S 13 (Int32.toNatClampNeg x3)) + 0))) fun S1 => k58 (x1, x2, (x3 + 1), S1))) else (gd (ix x3 6) (bd (some (sto S 13 (Int32.toNatClampNeg x3) ((S 13 (Int32.toNatClampNeg x3)) + 1))) fun S2 => k58 (x1, x2, (x3 + 1), S2)))))) else (k38 (x1, (x2 + 1), S))))))
def F_X5_names_58 (N : Nat) (k38 : Int32 × Int32 × St → Option (Int32 × St)) (k58 : Int32 × Int32 × Int32 × St → Option (Int32 × St)) (v : Int32 × Int32 × Int32 × St) : Option (Int32 × St) := FB_X5_names_58 N k38 k58 v.1 v.2.1 v.2.2.1 v.2.2.2
theorem s_X5_names_58 {rr : Int32} {SS : St} (hI : aI 18 a) (N : Nat) (C : bC D E RX5 cX5_names 5 (some .int) p s m args meth c) (k38 : Int32 × Int32 × St → Option (Int32 × St)) (hk38 : ∀ (x1 : Int32) (x2 : Int32) (S : St), k38 (x1, x2, S) = some (rr, SS) → gU D (Wm E a) (aA 18 a) p l e (bRm 5 111) s m args below meth c 5 (qU D below (aA 18 a) (Wm E a SS) rr args s) 38 [(0, .ref (a 0)), (1, .int x1), (2, .int x2)] [] S) (k58 : Int32 × Int32 × Int32 × St → Option (Int32 × St)) (hk58 : ∀ (x1 : Int32) (x2 : Int32) (x3 : Int32) (S : St), k58 (x1, x2, x3, S) = some (rr, SS) → gU D (Wm E a) (aA 18 a) p l e (bRm 5 111) s m args below meth c 5 (qU D below (aA 18 a) (Wm E a SS) rr args s) 58 [(0, .ref (a 0)), (1, .int x1), (2, .int x2), (3, .int x3)] [] S) {x1 : Int32} {x2 : Int32} {x3 : Int32} {S : St} (h : FB_X5_names_58 N k38 k58 x1 x2 x3 S = some (rr, SS)) : gU D (Wm E a) (aA 18 a) p l e (bRm 5 111) s m args below meth c 5 (qU D below (aA 18 a) (Wm E a SS) rr args s) 58 [(0, .ref (a 0)), (1, .int x1), (2, .int x2), (3, .int x3)] [] S := by
  obtain ⟨hx, hb, hml, hown, hts, hK, hr, hlocks⟩ := id C
  intro H locs hP hS ls hl
  unfold FB_X5_names_58 at h
  refine lv_iload_n (pc := 58) hx hb dX5_names_58 rfl (lv_at hl 3 rfl) ?_
  refine lv_bipush (v := 6) (pc := 59) hx hb dX5_names_59 (by decide) ?_
  refine lv_icmp_ge (tgt := 126) (pc := 61) hx hb dX5_names_61 (by decide) (fun hc => ?_) (fun hc => ?_)
  · have h := if_y hc h
    refine lv_iinc (v := (x2 + 1)) (lv' := [(2, .int (x2 + 1)), (0, .ref (a 0)), (1, .int x1), (3, .int x3)]) (pc := 126) hx hb dX5_names_126 hl (k := 2) rfl (ii1 _) (by decide) rfl (fun ls hl => ?_)
    refine lv_goto (tgt := 38) (pc := 129) hx hb dX5_names_129 (by decide) ?_
    exact hk38 _ _ _ h H locs hP hS ls (lv_sub hl [1, 2, 0] rfl)
  · have h := if_n hc h
    refine lv_aload_n (pc := 64) hx hb dX5_names_64 rfl (lv_at hl 0 rfl) ?_
    refine lv_iload_n (pc := 65) hx hb dX5_names_65 rfl (lv_at hl 2 rfl) ?_
    obtain ⟨r1, hr1, h⟩ := bd_some h
    refine r_callR (pc := 66) C hP (c_X5_reaches hI hr1) k_X5_reaches wd_720 (q0 := 0) wm0 rfl rfl ⟨Nat.le_of_ble_eq_true rfl, Nat.le_of_ble_eq_true rfl⟩ rfl hl.1 rfl (Nat.le_of_ble_eq_true rfl) dX5_names_66 ⟨Nat.zero_le _, Nat.zero_le _⟩ ?_
    refine lv_if_eq (tgt := 126) (pc := 69) hx hb dX5_names_69 (by decide) (fun hc => ?_) (fun hc => ?_)
    · have h := if_y hc h
      refine lv_iinc (v := (x2 + 1)) (lv' := [(2, .int (x2 + 1)), (0, .ref (a 0)), (1, .int x1), (3, .int x3)]) (pc := 126) hx hb dX5_names_126 hl (k := 2) rfl (ii1 _) (by decide) rfl (fun ls hl => ?_)
      refine lv_goto (tgt := 38) (pc := 129) hx hb dX5_names_129 (by decide) ?_
      exact hk38 _ _ _ h H locs hP hS ls (lv_sub hl [1, 2, 0] rfl)
    · have h := if_n hc h
      refine lv_aload_n (pc := 72) hx hb dX5_names_72 rfl (lv_at hl 0 rfl) ?_
      refine va_get (pc := 73) (v := .ref (a 2)) hx hb hts inB5 hown hK.1 hP 0 wm0 rfl 2 (by decide) (hts _ wd_553) (fun _ h9 => h9) rfl dX5_names_73 ?_
      refine lv_aload_n (pc := 76) hx hb dX5_names_76 rfl (lv_at hl 0 rfl) ?_
      refine va_get (pc := 77) (v := .ref (a 10)) hx hb hts inB5 hown hK.1 hP 0 wm0 rfl 16 (by decide) (hts _ wd_567) (fun _ h9 => h9) rfl dX5_names_77 ?_
      refine lv_iload_n (pc := 80) hx hb dX5_names_80 rfl (lv_at hl 2 rfl) ?_
      obtain ⟨hin, h⟩ := gd_some h
      refine r_ald (pc := 81) hx hb hK hP 10 wm10 hin dX5_names_81 ?_
      obtain ⟨hin, h⟩ := gd_some h
      refine r_ald (pc := 82) hx hb hK hP 2 wm2 hin dX5_names_82 ?_
      refine lv_iconst (v := 1) (pc := 83) hx hb dX5_names_83 (by decide) ?_
      refine lv_iand (pc := 84) hx hb dX5_names_84 ?_
      refine lv_iconst (v := 1) (pc := 85) hx hb dX5_names_85 (by decide) ?_
      refine lv_icmp_ne (tgt := 126) (pc := 86) hx hb dX5_names_86 (by decide) (fun hc => ?_) (fun hc => ?_)
      · have h := if_n hc h
        refine lv_iinc (v := (x2 + 1)) (lv' := [(2, .int (x2 + 1)), (0, .ref (a 0)), (1, .int x1), (3, .int x3)]) (pc := 126) hx hb dX5_names_126 hl (k := 2) rfl (ii1 _) (by decide) rfl (fun ls hl => ?_)
        refine lv_goto (tgt := 38) (pc := 129) hx hb dX5_names_129 (by decide) ?_
        exact hk38 _ _ _ h H locs hP hS ls (lv_sub hl [1, 2, 0] rfl)
      · have h := if_y hc h
        refine lv_aload_n (pc := 89) hx hb dX5_names_89 rfl (lv_at hl 0 rfl) ?_
        refine va_get (pc := 90) (v := .ref (a 13)) hx hb hts inB5 hown hK.1 hP 0 wm0 rfl 21 (by decide) (hts _ wd_572) (fun _ h9 => h9) rfl dX5_names_90 ?_
        refine lv_iload_n (pc := 93) hx hb dX5_names_93 rfl (lv_at hl 3 rfl) ?_
        refine lv_dup2_11 (pc := 94) hx hb dX5_names_94 rfl rfl ?_
        obtain ⟨hin, h⟩ := gd_some h
        refine r_ald (pc := 95) hx hb hK hP 13 wm13 hin dX5_names_95 ?_
        refine lv_aload_n (pc := 96) hx hb dX5_names_96 rfl (lv_at hl 0 rfl) ?_
        refine va_get (pc := 97) (v := .ref (a 6)) hx hb hts inB5 hown hK.1 hP 0 wm0 rfl 6 (by decide) (hts _ wd_557) (fun _ h9 => h9) rfl dX5_names_97 ?_
        refine lv_iconst (v := 4) (pc := 100) hx hb dX5_names_100 (by decide) ?_
        refine lv_iload_n (pc := 101) hx hb dX5_names_101 rfl (lv_at hl 2 rfl) ?_
        refine lv_imul (pc := 102) hx hb dX5_names_102 ?_
        refine lv_iconst (v := 2) (pc := 103) hx hb dX5_names_103 (by decide) ?_
        refine lv_iadd (pc := 104) hx hb dX5_names_104 ?_
        obtain ⟨hin, h⟩ := gd_some h
        refine r_ald (pc := 105) hx hb hK hP 6 wm6 hin dX5_names_105 ?_
        refine lv_iload_n (pc := 106) hx hb dX5_names_106 rfl (lv_at hl 3 rfl) ?_
        obtain ⟨r2, hr2, h⟩ := bd_some h
        refine r_callS (pc := 107) C (c_X5_has hr2) k_X5_has wd_689 ⟨Nat.le_of_ble_eq_true rfl, Nat.le_of_ble_eq_true rfl⟩ rfl hl.1 rfl (Nat.le_of_ble_eq_true rfl) dX5_names_107 ⟨Nat.zero_le _, Nat.zero_le _⟩ ?_
        refine lv_if_eq (tgt := 117) (pc := 110) hx hb dX5_names_110 (by decide) (fun hc => ?_) (fun hc => ?_)
        · have h := if_y hc h
          refine lv_iconst (v := 0) (pc := 117) hx hb dX5_names_117 (by decide) ?_
          refine lv_iadd (pc := 118) hx hb dX5_names_118 ?_
          obtain ⟨hin, h⟩ := gd_some h
          refine r_ast (pc := 119) (𝓦 := Wm E a) hx hb hK hP (dM hI _) hS 13 wm13 wm13s hin dX5_names_119 (fun H locs S1 eS1 hP hS => ?_)
          have h := bd_y eS1 h
          refine lv_iinc (v := (x3 + 1)) (lv' := [(3, .int (x3 + 1)), (0, .ref (a 0)), (1, .int x1), (2, .int x2)]) (pc := 120) hx hb dX5_names_120 hl (k := 3) rfl (ii1 _) (by decide) rfl (fun ls hl => ?_)
          refine lv_goto (tgt := 58) (pc := 123) hx hb dX5_names_123 (by decide) ?_
          exact hk58 _ _ _ _ h H locs hP hS ls (lv_sub hl [1, 2, 3, 0] rfl)
        · have h := if_n hc h
          refine lv_iconst (v := 1) (pc := 113) hx hb dX5_names_113 (by decide) ?_
          refine lv_goto (tgt := 118) (pc := 114) hx hb dX5_names_114 (by decide) ?_
          refine lv_iadd (pc := 118) hx hb dX5_names_118 ?_
          obtain ⟨hin, h⟩ := gd_some h
          refine r_ast (pc := 119) (𝓦 := Wm E a) hx hb hK hP (dM hI _) hS 13 wm13 wm13s hin dX5_names_119 (fun H locs S2 eS2 hP hS => ?_)
          have h := bd_y eS2 h
          refine lv_iinc (v := (x3 + 1)) (lv' := [(3, .int (x3 + 1)), (0, .ref (a 0)), (1, .int x1), (2, .int x2)]) (pc := 120) hx hb dX5_names_120 hl (k := 3) rfl (ii1 _) (by decide) rfl (fun ls hl => ?_)
          refine lv_goto (tgt := 58) (pc := 123) hx hb dX5_names_123 (by decide) ?_
          exact hk58 _ _ _ _ h H locs hP hS ls (lv_sub hl [1, 2, 3, 0] rfl)
theorem t_X5_names_58 {rr : Int32} {SS : St} (hI : aI 18 a) (N : Nat) (C : bC D E RX5 cX5_names 5 (some .int) p s m args meth c) (k38 : Int32 × Int32 × St → Option (Int32 × St)) (hk38 : ∀ (x1 : Int32) (x2 : Int32) (S : St), k38 (x1, x2, S) = some (rr, SS) → gU D (Wm E a) (aA 18 a) p l e (bRm 5 111) s m args below meth c 5 (qU D below (aA 18 a) (Wm E a SS) rr args s) 38 [(0, .ref (a 0)), (1, .int x1), (2, .int x2)] [] S) {n : Nat} {x1 : Int32} {x2 : Int32} {x3 : Int32} {S : St} (h : lpI (F_X5_names_58 N k38) n (x1, x2, x3, S) = some (rr, SS)) : gU D (Wm E a) (aA 18 a) p l e (bRm 5 111) s m args below meth c 5 (qU D below (aA 18 a) (Wm E a SS) rr args s) 58 [(0, .ref (a 0)), (1, .int x1), (2, .int x2), (3, .int x3)] [] S := by
  exact lpI_ind (P := fun v q => q = (rr, SS) → gU D (Wm E a) (aA 18 a) p l e (bRm 5 111) s m args below meth c 5 (qU D below (aA 18 a) (Wm E a SS) rr args s) 58 [(0, .ref (a 0)), (1, .int v.1), (2, .int v.2.1), (3, .int v.2.2.1)] [] v.2.2.2) (fun k hk v q h9 hq => s_X5_names_58 hI N C k38 hk38 k (fun x1 x2 x3 S h8 => hk (x1, x2, x3, S) _ h8 rfl) (h9.trans (congrArg some hq))) n (x1, x2, x3, S) _ h rfl
def FB_X5_names_38 (N : Nat) (k38 : Int32 × Int32 × St → Option (Int32 × St)) (x1 : Int32) (x2 : Int32) (S : St) : Option (Int32 × St) :=
  if 6 ≤ x2 then (lpI (F_X5_names_137 N) N (x1, 0, 6, S)) else (gd (ix x2 6) (gd (ix x2 6) (bd (some (sto S 10 (Int32.toNatClampNeg x2) (S 11 (Int32.toNatClampNeg x2)))) fun S1 => lpI (F_X5_names_58 N k38) N (x1, x2, 0, S1))))
def F_X5_names_38 (N : Nat) (k38 : Int32 × Int32 × St → Option (Int32 × St)) (v : Int32 × Int32 × St) : Option (Int32 × St) := FB_X5_names_38 N k38 v.1 v.2.1 v.2.2
theorem s_X5_names_38 {rr : Int32} {SS : St} (hI : aI 18 a) (N : Nat) (C : bC D E RX5 cX5_names 5 (some .int) p s m args meth c) (k38 : Int32 × Int32 × St → Option (Int32 × St)) (hk38 : ∀ (x1 : Int32) (x2 : Int32) (S : St), k38 (x1, x2, S) = some (rr, SS) → gU D (Wm E a) (aA 18 a) p l e (bRm 5 111) s m args below meth c 5 (qU D below (aA 18 a) (Wm E a SS) rr args s) 38 [(0, .ref (a 0)), (1, .int x1), (2, .int x2)] [] S) {x1 : Int32} {x2 : Int32} {S : St} (h : FB_X5_names_38 N k38 x1 x2 S = some (rr, SS)) : gU D (Wm E a) (aA 18 a) p l e (bRm 5 111) s m args below meth c 5 (qU D below (aA 18 a) (Wm E a SS) rr args s) 38 [(0, .ref (a 0)), (1, .int x1), (2, .int x2)] [] S := by
  obtain ⟨hx, hb, hml, hown, hts, hK, hr, hlocks⟩ := id C
  intro H locs hP hS ls hl
  unfold FB_X5_names_38 at h
  refine lv_iload_n (pc := 38) hx hb dX5_names_38 rfl (lv_at hl 2 rfl) ?_
  refine lv_bipush (v := 6) (pc := 39) hx hb dX5_names_39 (by decide) ?_
  refine lv_icmp_ge (tgt := 132) (pc := 41) hx hb dX5_names_41 (by decide) (fun hc => ?_) (fun hc => ?_)
  · have h := if_y hc h
    refine lv_iconst (v := 0) (pc := 132) hx hb dX5_names_132 (by decide) ?_
    refine lv_istore_n (lv' := [(2, .int 0), (0, .ref (a 0)), (1, .int x1)]) (pc := 133) hx hb dX5_names_133 rfl hl (by decide) rfl (fun ls hl => ?_)
    refine lv_bipush (v := 6) (pc := 134) hx hb dX5_names_134 (by decide) ?_
    refine lv_istore_n (lv' := [(3, .int 6), (2, .int 0), (0, .ref (a 0)), (1, .int x1)]) (pc := 136) hx hb dX5_names_136 rfl hl (by decide) rfl (fun ls hl => ?_)
    exact t_X5_names_137 hI N C h H locs hP hS ls (lv_sub hl [2, 3, 1, 0] rfl)
  · have h := if_n hc h
    refine lv_aload_n (pc := 44) hx hb dX5_names_44 rfl (lv_at hl 0 rfl) ?_
    refine va_get (pc := 45) (v := .ref (a 10)) hx hb hts inB5 hown hK.1 hP 0 wm0 rfl 16 (by decide) (hts _ wd_567) (fun _ h9 => h9) rfl dX5_names_45 ?_
    refine lv_iload_n (pc := 48) hx hb dX5_names_48 rfl (lv_at hl 2 rfl) ?_
    refine lv_aload_n (pc := 49) hx hb dX5_names_49 rfl (lv_at hl 0 rfl) ?_
    refine va_get (pc := 50) (v := .ref (a 11)) hx hb hts inB5 hown hK.1 hP 0 wm0 rfl 17 (by decide) (hts _ wd_568) (fun _ h9 => h9) rfl dX5_names_50 ?_
    refine lv_iload_n (pc := 53) hx hb dX5_names_53 rfl (lv_at hl 2 rfl) ?_
    obtain ⟨hin, h⟩ := gd_some h
    refine r_ald (pc := 54) hx hb hK hP 11 wm11 hin dX5_names_54 ?_
    obtain ⟨hin, h⟩ := gd_some h
    refine r_ast (pc := 55) (𝓦 := Wm E a) hx hb hK hP (dM hI _) hS 10 wm10 wm10s hin dX5_names_55 (fun H locs S1 eS1 hP hS => ?_)
    have h := bd_y eS1 h
    refine lv_iconst (v := 0) (pc := 56) hx hb dX5_names_56 (by decide) ?_
    refine lv_istore_n (lv' := [(3, .int 0), (0, .ref (a 0)), (1, .int x1), (2, .int x2)]) (pc := 57) hx hb dX5_names_57 rfl hl (by decide) rfl (fun ls hl => ?_)
    exact t_X5_names_58 hI N C k38 hk38 h H locs hP hS ls (lv_sub hl [1, 2, 3, 0] rfl)
theorem t_X5_names_38 {rr : Int32} {SS : St} (hI : aI 18 a) (N : Nat) (C : bC D E RX5 cX5_names 5 (some .int) p s m args meth c) {n : Nat} {x1 : Int32} {x2 : Int32} {S : St} (h : lpI (F_X5_names_38 N) n (x1, x2, S) = some (rr, SS)) : gU D (Wm E a) (aA 18 a) p l e (bRm 5 111) s m args below meth c 5 (qU D below (aA 18 a) (Wm E a SS) rr args s) 38 [(0, .ref (a 0)), (1, .int x1), (2, .int x2)] [] S := by
  exact lpI_ind (P := fun v q => q = (rr, SS) → gU D (Wm E a) (aA 18 a) p l e (bRm 5 111) s m args below meth c 5 (qU D below (aA 18 a) (Wm E a SS) rr args s) 38 [(0, .ref (a 0)), (1, .int v.1), (2, .int v.2.1)] [] v.2.2) (fun k hk v q h9 hq => s_X5_names_38 hI N C k (fun x1 x2 S h8 => hk (x1, x2, S) _ h8 rfl) (h9.trans (congrArg some hq))) n (x1, x2, S) _ h rfl
def FB_X5_names_17 (N : Nat) (k17 : Int32 × Int32 × St → Option (Int32 × St)) (x1 : Int32) (x2 : Int32) (S : St) : Option (Int32 × St) :=
  if 6 ≤ x2 then (lpI (F_X5_names_38 N) N (x1, 0, S)) else (gd (ix x2 6) (bd (some (sto S 13 (Int32.toNatClampNeg x2) 0)) fun S1 => k17 (x1, (x2 + 1), S1)))
def F_X5_names_17 (N : Nat) (k17 : Int32 × Int32 × St → Option (Int32 × St)) (v : Int32 × Int32 × St) : Option (Int32 × St) := FB_X5_names_17 N k17 v.1 v.2.1 v.2.2
theorem s_X5_names_17 {rr : Int32} {SS : St} (hI : aI 18 a) (N : Nat) (C : bC D E RX5 cX5_names 5 (some .int) p s m args meth c) (k17 : Int32 × Int32 × St → Option (Int32 × St)) (hk17 : ∀ (x1 : Int32) (x2 : Int32) (S : St), k17 (x1, x2, S) = some (rr, SS) → gU D (Wm E a) (aA 18 a) p l e (bRm 5 111) s m args below meth c 5 (qU D below (aA 18 a) (Wm E a SS) rr args s) 17 [(0, .ref (a 0)), (1, .int x1), (2, .int x2)] [] S) {x1 : Int32} {x2 : Int32} {S : St} (h : FB_X5_names_17 N k17 x1 x2 S = some (rr, SS)) : gU D (Wm E a) (aA 18 a) p l e (bRm 5 111) s m args below meth c 5 (qU D below (aA 18 a) (Wm E a SS) rr args s) 17 [(0, .ref (a 0)), (1, .int x1), (2, .int x2)] [] S := by
  obtain ⟨hx, hb, hml, hown, hts, hK, hr, hlocks⟩ := id C
  intro H locs hP hS ls hl
  unfold FB_X5_names_17 at h
  refine lv_iload_n (pc := 17) hx hb dX5_names_17 rfl (lv_at hl 2 rfl) ?_
  refine lv_bipush (v := 6) (pc := 18) hx hb dX5_names_18 (by decide) ?_
  refine lv_icmp_ge (tgt := 36) (pc := 20) hx hb dX5_names_20 (by decide) (fun hc => ?_) (fun hc => ?_)
  · have h := if_y hc h
    refine lv_iconst (v := 0) (pc := 36) hx hb dX5_names_36 (by decide) ?_
    refine lv_istore_n (lv' := [(2, .int 0), (0, .ref (a 0)), (1, .int x1)]) (pc := 37) hx hb dX5_names_37 rfl hl (by decide) rfl (fun ls hl => ?_)
    exact t_X5_names_38 hI N C h H locs hP hS ls (lv_sub hl [1, 2, 0] rfl)
  · have h := if_n hc h
    refine lv_aload_n (pc := 23) hx hb dX5_names_23 rfl (lv_at hl 0 rfl) ?_
    refine va_get (pc := 24) (v := .ref (a 13)) hx hb hts inB5 hown hK.1 hP 0 wm0 rfl 21 (by decide) (hts _ wd_572) (fun _ h9 => h9) rfl dX5_names_24 ?_
    refine lv_iload_n (pc := 27) hx hb dX5_names_27 rfl (lv_at hl 2 rfl) ?_
    refine lv_iconst (v := 0) (pc := 28) hx hb dX5_names_28 (by decide) ?_
    obtain ⟨hin, h⟩ := gd_some h
    refine r_ast (pc := 29) (𝓦 := Wm E a) hx hb hK hP (dM hI _) hS 13 wm13 wm13s hin dX5_names_29 (fun H locs S1 eS1 hP hS => ?_)
    have h := bd_y eS1 h
    refine lv_iinc (v := (x2 + 1)) (lv' := [(2, .int (x2 + 1)), (0, .ref (a 0)), (1, .int x1)]) (pc := 30) hx hb dX5_names_30 hl (k := 2) rfl (ii1 _) (by decide) rfl (fun ls hl => ?_)
    refine lv_goto (tgt := 17) (pc := 33) hx hb dX5_names_33 (by decide) ?_
    exact hk17 _ _ _ h H locs hP hS ls (lv_sub hl [1, 2, 0] rfl)
theorem t_X5_names_17 {rr : Int32} {SS : St} (hI : aI 18 a) (N : Nat) (C : bC D E RX5 cX5_names 5 (some .int) p s m args meth c) {n : Nat} {x1 : Int32} {x2 : Int32} {S : St} (h : lpI (F_X5_names_17 N) n (x1, x2, S) = some (rr, SS)) : gU D (Wm E a) (aA 18 a) p l e (bRm 5 111) s m args below meth c 5 (qU D below (aA 18 a) (Wm E a SS) rr args s) 17 [(0, .ref (a 0)), (1, .int x1), (2, .int x2)] [] S := by
  exact lpI_ind (P := fun v q => q = (rr, SS) → gU D (Wm E a) (aA 18 a) p l e (bRm 5 111) s m args below meth c 5 (qU D below (aA 18 a) (Wm E a SS) rr args s) 17 [(0, .ref (a 0)), (1, .int v.1), (2, .int v.2.1)] [] v.2.2) (fun k hk v q h9 hq => s_X5_names_17 hI N C k (fun x1 x2 S h8 => hk (x1, x2, S) _ h8 rfl) (h9.trans (congrArg some hq))) n (x1, x2, S) _ h rfl
def f_X5_names (N : Nat) (x1 : Int32) (S : St) : Option (Int32 × St) :=
  bd (f_X5_lay N S) fun S1 => bd2 (f_X5_layBest N 0 S1) fun r1 S2 => if r1 = 0 then (some ((-6), S2)) else (lpI (F_X5_names_17 N) N (x1, 0, S2))
theorem t_X5_names_0 {rr : Int32} {SS : St} (hI : aI 18 a) (N : Nat) (C : bC D E RX5 cX5_names 5 (some .int) p s m args meth c) {x1 : Int32} {S : St} (h : f_X5_names N x1 S = some (rr, SS)) : gU D (Wm E a) (aA 18 a) p l e (bRm 5 111) s m args below meth c 5 (qU D below (aA 18 a) (Wm E a SS) rr args s) 0 [(0, .ref (a 0)), (1, .int x1)] [] S := by
  obtain ⟨hx, hb, hml, hown, hts, hK, hr, hlocks⟩ := id C
  intro H locs hP hS ls hl
  unfold f_X5_names at h
  refine lv_aload_n (pc := 0) hx hb dX5_names_0 rfl (lv_at hl 0 rfl) ?_
  obtain ⟨S1, hS1, h⟩ := bd_some h
  refine r_callV (pc := 1) C hP hS (c_X5_lay hI N hS1) k_X5_lay wd_704 (q0 := 0) wm0 rfl rfl ⟨Nat.le_of_ble_eq_true rfl, Nat.le_of_ble_eq_true rfl⟩ rfl hl.1 rfl (Nat.le_of_ble_eq_true rfl) dX5_names_1 ⟨Nat.zero_le _, Nat.zero_le _⟩ (fun H locs hP hS => ?_)
  refine lv_aload_n (pc := 4) hx hb dX5_names_4 rfl (lv_at hl 0 rfl) ?_
  refine lv_iconst (v := 0) (pc := 5) hx hb dX5_names_5 (by decide) ?_
  obtain ⟨r1, S2, hr1, h⟩ := bd2_some h
  refine r_callU (pc := 6) C hP hS (c_X5_layBest hI N hr1) k_X5_layBest wd_735 (q0 := 0) wm0 rfl rfl ⟨Nat.le_of_ble_eq_true rfl, Nat.le_of_ble_eq_true rfl⟩ rfl hl.1 rfl (Nat.le_of_ble_eq_true rfl) dX5_names_6 ⟨Nat.zero_le _, Nat.zero_le _⟩ (fun H locs hP hS => ?_)
  refine lv_if_ne (tgt := 15) (pc := 9) hx hb dX5_names_9 (by decide) (fun hc => ?_) (fun hc => ?_)
  · have h := if_n hc h
    refine lv_iconst (v := 0) (pc := 15) hx hb dX5_names_15 (by decide) ?_
    refine lv_istore_n (lv' := [(2, .int 0), (0, .ref (a 0)), (1, .int x1)]) (pc := 16) hx hb dX5_names_16 rfl hl (by decide) rfl (fun ls hl => ?_)
    exact t_X5_names_17 hI N C h H locs hP hS ls (lv_sub hl [1, 2, 0] rfl)
  · have h := if_y hc h
    refine lv_bipush (v := (-6)) (pc := 12) hx hb dX5_names_12 (by decide) ?_
    exact r_retU (pc := 14) (𝓦 := Wm E a) C h hP hS dX5_names_14
theorem c_X5_names {l : Launch} {D : va_G} {E : bE} {a : Nat → Nat} (hI : aI 18 a) (N : Nat) {rr : Int32} {S : St} {SS : St} {x1 : Int32} (h : f_X5_names N x1 S = some (rr, SS)) : cU l D E yX5_names cX5_names 5 (some .int) 5 111 (aA 18 a) (Wm E a S) (Wm E a SS) [.ref (a 0), .int x1] rr := cU_of (by decide) (Nat.le_of_ble_eq_true rfl) (fun p e s m args below meth c C => t_X5_names_0 hI N C h)
/-! X5_audit -/
def B_X5_audit_158 (N : Nat) (k79 : Int32 × Int32 × Int32 × St → Option (Int32 × St)) (k86 : Int32 × Int32 × Int32 × Int32 × St → Option (Int32 × St)) (x1 : Int32) (x2 : Int32) (x3 : Int32) (x4 : Int32) (z0 : Int32) (z1 : Int32) (S : St) : Option (Int32 × St) :=
  gd (ix z1 6) (bd (some (sto S 14 (Int32.toNatClampNeg z1) z0)) fun S1 => gd (ix x4 6) (gd (ix x3 6) (gd (ix x4 6) (bd (some (sto S1 15 (Int32.toNatClampNeg x4) ((S1 15 (Int32.toNatClampNeg x4)) + (S1 15 (Int32.toNatClampNeg x3))))) fun S2 => k86 (x1, x2, x3, (x4 + 1), S2)))))
theorem t_X5_audit_158 {rr : Int32} {SS : St} (hI : aI 18 a) (N : Nat) (C : bC D E RX5 cX5_audit 5 (some .int) p s m args meth c) (k79 : Int32 × Int32 × Int32 × St → Option (Int32 × St)) (hk79 : ∀ (x1 : Int32) (x2 : Int32) (x3 : Int32) (S : St), k79 (x1, x2, x3, S) = some (rr, SS) → gU D (Wm E a) (aA 18 a) p l e (bRm 2 42) s m args below meth c 5 (qU D below (aA 18 a) (Wm E a SS) rr args s) 79 [(0, .ref (a 0)), (1, .int x1), (2, .int x2), (3, .int x3)] [] S) (k86 : Int32 × Int32 × Int32 × Int32 × St → Option (Int32 × St)) (hk86 : ∀ (x1 : Int32) (x2 : Int32) (x3 : Int32) (x4 : Int32) (S : St), k86 (x1, x2, x3, x4, S) = some (rr, SS) → gU D (Wm E a) (aA 18 a) p l e (bRm 2 42) s m args below meth c 5 (qU D below (aA 18 a) (Wm E a SS) rr args s) 86 [(0, .ref (a 0)), (1, .int x1), (2, .int x2), (3, .int x3), (4, .int x4)] [] S) {x1 : Int32} {x2 : Int32} {x3 : Int32} {x4 : Int32} {z0 : Int32} {z1 : Int32} {S : St} (h : B_X5_audit_158 N k79 k86 x1 x2 x3 x4 z0 z1 S = some (rr, SS)) : gU D (Wm E a) (aA 18 a) p l e (bRm 2 42) s m args below meth c 5 (qU D below (aA 18 a) (Wm E a SS) rr args s) 158 [(0, .ref (a 0)), (1, .int x1), (2, .int x2), (3, .int x3), (4, .int x4)] [.int z0, .int z1, .ref (a 14)] S := by
  obtain ⟨hx, hb, hml, hown, hts, hK, hr, hlocks⟩ := id C
  intro H locs hP hS ls hl
  unfold B_X5_audit_158 at h
  obtain ⟨hin, h⟩ := gd_some h
  refine r_ast (pc := 158) (𝓦 := Wm E a) hx hb hK hP (dM hI _) hS 14 wm14 wm14s hin dX5_audit_158 (fun H locs S1 eS1 hP hS => ?_)
  have h := bd_y eS1 h
  refine lv_aload_n (pc := 159) hx hb dX5_audit_159 rfl (lv_at hl 0 rfl) ?_
  refine va_get (pc := 160) (v := .ref (a 15)) hx hb hts inB5 hown hK.1 hP 0 wm0 rfl 23 (by decide) (hts _ wd_574) (fun _ h9 => h9) rfl dX5_audit_160 ?_
  refine lv_iload (pc := 163) hx hb dX5_audit_163 (lv_at hl 4 rfl) ?_
  refine lv_dup2_11 (pc := 165) hx hb dX5_audit_165 rfl rfl ?_
  obtain ⟨hin, h⟩ := gd_some h
  refine r_ald (pc := 166) hx hb hK hP 15 wm15 hin dX5_audit_166 ?_
  refine lv_aload_n (pc := 167) hx hb dX5_audit_167 rfl (lv_at hl 0 rfl) ?_
  refine va_get (pc := 168) (v := .ref (a 15)) hx hb hts inB5 hown hK.1 hP 0 wm0 rfl 23 (by decide) (hts _ wd_574) (fun _ h9 => h9) rfl dX5_audit_168 ?_
  refine lv_iload_n (pc := 171) hx hb dX5_audit_171 rfl (lv_at hl 3 rfl) ?_
  obtain ⟨hin, h⟩ := gd_some h
  refine r_ald (pc := 172) hx hb hK hP 15 wm15 hin dX5_audit_172 ?_
  refine lv_iadd (pc := 173) hx hb dX5_audit_173 ?_
  obtain ⟨hin, h⟩ := gd_some h
  refine r_ast (pc := 174) (𝓦 := Wm E a) hx hb hK hP (dM hI _) hS 15 wm15 wm15s hin dX5_audit_174 (fun H locs S2 eS2 hP hS => ?_)
  have h := bd_y eS2 h
  refine lv_iinc (v := (x4 + 1)) (lv' := [(4, .int (x4 + 1)), (0, .ref (a 0)), (1, .int x1), (2, .int x2), (3, .int x3)]) (pc := 175) hx hb dX5_audit_175 hl (k := 4) rfl (ii1 _) (by decide) rfl (fun ls hl => ?_)
  refine lv_goto (tgt := 86) (pc := 178) hx hb dX5_audit_178 (by decide) ?_
  exact hk86 _ _ _ _ _ h H locs hP hS ls (lv_sub hl [1, 2, 3, 4, 0] rfl)
def FB_X5_audit_86 (N : Nat) (k79 : Int32 × Int32 × Int32 × St → Option (Int32 × St)) (k86 : Int32 × Int32 × Int32 × Int32 × St → Option (Int32 × St)) (x1 : Int32) (x2 : Int32) (x3 : Int32) (x4 : Int32) (S : St) : Option (Int32 × St) :=
  if x3 ≤ x4 then (k79 (x1, x2, (x3 + (-1)), S)) else (gd (ix x3 6) (if (S 14 (Int32.toNatClampNeg x3)) < 0 then (k86 (x1, x2, x3, (x4 + 1), S)) else (gd (ix ((6 * x3) + x4) 36) (if (S 7 (Int32.toNatClampNeg ((6 * x3) + x4))) < 0 then (k86 (x1, x2, x3, (x4 + 1), S)) else (gd (ix x3 6) (gd (ix x4 6) (if ((S 14 (Int32.toNatClampNeg x3)) + 1) ≤ (S 14 (Int32.toNatClampNeg x4)) then (gd (ix x4 6) (B_X5_audit_158 N k79 k86 x1 x2 x3 x4 (S 14 (Int32.toNatClampNeg x4)) x4 S)) else (gd (ix x3 6) (B_X5_audit_158 N k79 k86 x1 x2 x3 x4 ((S 14 (Int32.toNatClampNeg x3)) + 1) x4 S)))))))))
def F_X5_audit_86 (N : Nat) (k79 : Int32 × Int32 × Int32 × St → Option (Int32 × St)) (k86 : Int32 × Int32 × Int32 × Int32 × St → Option (Int32 × St)) (v : Int32 × Int32 × Int32 × Int32 × St) : Option (Int32 × St) := FB_X5_audit_86 N k79 k86 v.1 v.2.1 v.2.2.1 v.2.2.2.1 v.2.2.2.2
theorem s_X5_audit_86 {rr : Int32} {SS : St} (hI : aI 18 a) (N : Nat) (C : bC D E RX5 cX5_audit 5 (some .int) p s m args meth c) (k79 : Int32 × Int32 × Int32 × St → Option (Int32 × St)) (hk79 : ∀ (x1 : Int32) (x2 : Int32) (x3 : Int32) (S : St), k79 (x1, x2, x3, S) = some (rr, SS) → gU D (Wm E a) (aA 18 a) p l e (bRm 2 42) s m args below meth c 5 (qU D below (aA 18 a) (Wm E a SS) rr args s) 79 [(0, .ref (a 0)), (1, .int x1), (2, .int x2), (3, .int x3)] [] S) (k86 : Int32 × Int32 × Int32 × Int32 × St → Option (Int32 × St)) (hk86 : ∀ (x1 : Int32) (x2 : Int32) (x3 : Int32) (x4 : Int32) (S : St), k86 (x1, x2, x3, x4, S) = some (rr, SS) → gU D (Wm E a) (aA 18 a) p l e (bRm 2 42) s m args below meth c 5 (qU D below (aA 18 a) (Wm E a SS) rr args s) 86 [(0, .ref (a 0)), (1, .int x1), (2, .int x2), (3, .int x3), (4, .int x4)] [] S) {x1 : Int32} {x2 : Int32} {x3 : Int32} {x4 : Int32} {S : St} (h : FB_X5_audit_86 N k79 k86 x1 x2 x3 x4 S = some (rr, SS)) : gU D (Wm E a) (aA 18 a) p l e (bRm 2 42) s m args below meth c 5 (qU D below (aA 18 a) (Wm E a SS) rr args s) 86 [(0, .ref (a 0)), (1, .int x1), (2, .int x2), (3, .int x3), (4, .int x4)] [] S := by
  obtain ⟨hx, hb, hml, hown, hts, hK, hr, hlocks⟩ := id C
  intro H locs hP hS ls hl
  unfold FB_X5_audit_86 at h
  refine lv_iload (pc := 86) hx hb dX5_audit_86 (lv_at hl 4 rfl) ?_
  refine lv_iload_n (pc := 88) hx hb dX5_audit_88 rfl (lv_at hl 3 rfl) ?_
  refine lv_icmp_ge (tgt := 181) (pc := 89) hx hb dX5_audit_89 (by decide) (fun hc => ?_) (fun hc => ?_)
  · have h := if_y hc h
    refine lv_iinc (v := (x3 + (-1))) (lv' := [(3, .int (x3 + (-1))), (0, .ref (a 0)), (1, .int x1), (2, .int x2), (4, .int x4)]) (pc := 181) hx hb dX5_audit_181 hl (k := 3) rfl (iim1 _) (by decide) rfl (fun ls hl => ?_)
    refine lv_goto (tgt := 79) (pc := 184) hx hb dX5_audit_184 (by decide) ?_
    exact hk79 _ _ _ _ h H locs hP hS ls (lv_sub hl [1, 2, 3, 0] rfl)
  · have h := if_n hc h
    refine lv_aload_n (pc := 92) hx hb dX5_audit_92 rfl (lv_at hl 0 rfl) ?_
    refine va_get (pc := 93) (v := .ref (a 14)) hx hb hts inB5 hown hK.1 hP 0 wm0 rfl 22 (by decide) (hts _ wd_573) (fun _ h9 => h9) rfl dX5_audit_93 ?_
    refine lv_iload_n (pc := 96) hx hb dX5_audit_96 rfl (lv_at hl 3 rfl) ?_
    obtain ⟨hin, h⟩ := gd_some h
    refine r_ald (pc := 97) hx hb hK hP 14 wm14 hin dX5_audit_97 ?_
    refine lv_if_lt (tgt := 175) (pc := 98) hx hb dX5_audit_98 (by decide) (fun hc => ?_) (fun hc => ?_)
    · have h := if_y hc h
      refine lv_iinc (v := (x4 + 1)) (lv' := [(4, .int (x4 + 1)), (0, .ref (a 0)), (1, .int x1), (2, .int x2), (3, .int x3)]) (pc := 175) hx hb dX5_audit_175 hl (k := 4) rfl (ii1 _) (by decide) rfl (fun ls hl => ?_)
      refine lv_goto (tgt := 86) (pc := 178) hx hb dX5_audit_178 (by decide) ?_
      exact hk86 _ _ _ _ _ h H locs hP hS ls (lv_sub hl [1, 2, 3, 4, 0] rfl)
    · have h := if_n hc h
      refine lv_aload_n (pc := 101) hx hb dX5_audit_101 rfl (lv_at hl 0 rfl) ?_
      refine va_get (pc := 102) (v := .ref (a 7)) hx hb hts inB5 hown hK.1 hP 0 wm0 rfl 7 (by decide) (hts _ wd_558) (fun _ h9 => h9) rfl dX5_audit_102 ?_
      refine lv_bipush (v := 6) (pc := 105) hx hb dX5_audit_105 (by decide) ?_
      refine lv_iload_n (pc := 107) hx hb dX5_audit_107 rfl (lv_at hl 3 rfl) ?_
      refine lv_imul (pc := 108) hx hb dX5_audit_108 ?_
      refine lv_iload (pc := 109) hx hb dX5_audit_109 (lv_at hl 4 rfl) ?_
      refine lv_iadd (pc := 111) hx hb dX5_audit_111 ?_
      obtain ⟨hin, h⟩ := gd_some h
      refine r_ald (pc := 112) hx hb hK hP 7 wm7 hin dX5_audit_112 ?_
      refine lv_if_lt (tgt := 175) (pc := 113) hx hb dX5_audit_113 (by decide) (fun hc => ?_) (fun hc => ?_)
      · have h := if_y hc h
        refine lv_iinc (v := (x4 + 1)) (lv' := [(4, .int (x4 + 1)), (0, .ref (a 0)), (1, .int x1), (2, .int x2), (3, .int x3)]) (pc := 175) hx hb dX5_audit_175 hl (k := 4) rfl (ii1 _) (by decide) rfl (fun ls hl => ?_)
        refine lv_goto (tgt := 86) (pc := 178) hx hb dX5_audit_178 (by decide) ?_
        exact hk86 _ _ _ _ _ h H locs hP hS ls (lv_sub hl [1, 2, 3, 4, 0] rfl)
      · have h := if_n hc h
        refine lv_aload_n (pc := 116) hx hb dX5_audit_116 rfl (lv_at hl 0 rfl) ?_
        refine va_get (pc := 117) (v := .ref (a 14)) hx hb hts inB5 hown hK.1 hP 0 wm0 rfl 22 (by decide) (hts _ wd_573) (fun _ h9 => h9) rfl dX5_audit_117 ?_
        refine lv_iload (pc := 120) hx hb dX5_audit_120 (lv_at hl 4 rfl) ?_
        refine lv_aload_n (pc := 122) hx hb dX5_audit_122 rfl (lv_at hl 0 rfl) ?_
        refine va_get (pc := 123) (v := .ref (a 14)) hx hb hts inB5 hown hK.1 hP 0 wm0 rfl 22 (by decide) (hts _ wd_573) (fun _ h9 => h9) rfl dX5_audit_123 ?_
        refine lv_iload_n (pc := 126) hx hb dX5_audit_126 rfl (lv_at hl 3 rfl) ?_
        obtain ⟨hin, h⟩ := gd_some h
        refine r_ald (pc := 127) hx hb hK hP 14 wm14 hin dX5_audit_127 ?_
        refine lv_iconst (v := 1) (pc := 128) hx hb dX5_audit_128 (by decide) ?_
        refine lv_iadd (pc := 129) hx hb dX5_audit_129 ?_
        refine lv_aload_n (pc := 130) hx hb dX5_audit_130 rfl (lv_at hl 0 rfl) ?_
        refine va_get (pc := 131) (v := .ref (a 14)) hx hb hts inB5 hown hK.1 hP 0 wm0 rfl 22 (by decide) (hts _ wd_573) (fun _ h9 => h9) rfl dX5_audit_131 ?_
        refine lv_iload (pc := 134) hx hb dX5_audit_134 (lv_at hl 4 rfl) ?_
        obtain ⟨hin, h⟩ := gd_some h
        refine r_ald (pc := 136) hx hb hK hP 14 wm14 hin dX5_audit_136 ?_
        refine lv_icmp_le (tgt := 151) (pc := 137) hx hb dX5_audit_137 (by decide) (fun hc => ?_) (fun hc => ?_)
        · have h := if_y hc h
          refine lv_aload_n (pc := 151) hx hb dX5_audit_151 rfl (lv_at hl 0 rfl) ?_
          refine va_get (pc := 152) (v := .ref (a 14)) hx hb hts inB5 hown hK.1 hP 0 wm0 rfl 22 (by decide) (hts _ wd_573) (fun _ h9 => h9) rfl dX5_audit_152 ?_
          refine lv_iload (pc := 155) hx hb dX5_audit_155 (lv_at hl 4 rfl) ?_
          obtain ⟨hin, h⟩ := gd_some h
          refine r_ald (pc := 157) hx hb hK hP 14 wm14 hin dX5_audit_157 ?_
          exact t_X5_audit_158 hI N C k79 hk79 k86 hk86 h H locs hP hS ls (lv_sub hl [0, 1, 2, 3, 4] rfl)
        · have h := if_n hc h
          refine lv_aload_n (pc := 140) hx hb dX5_audit_140 rfl (lv_at hl 0 rfl) ?_
          refine va_get (pc := 141) (v := .ref (a 14)) hx hb hts inB5 hown hK.1 hP 0 wm0 rfl 22 (by decide) (hts _ wd_573) (fun _ h9 => h9) rfl dX5_audit_141 ?_
          refine lv_iload_n (pc := 144) hx hb dX5_audit_144 rfl (lv_at hl 3 rfl) ?_
          obtain ⟨hin, h⟩ := gd_some h
          refine r_ald (pc := 145) hx hb hK hP 14 wm14 hin dX5_audit_145 ?_
          refine lv_iconst (v := 1) (pc := 146) hx hb dX5_audit_146 (by decide) ?_
          refine lv_iadd (pc := 147) hx hb dX5_audit_147 ?_
          refine lv_goto (tgt := 158) (pc := 148) hx hb dX5_audit_148 (by decide) ?_
          exact t_X5_audit_158 hI N C k79 hk79 k86 hk86 h H locs hP hS ls (lv_sub hl [0, 1, 2, 3, 4] rfl)
theorem t_X5_audit_86 {rr : Int32} {SS : St} (hI : aI 18 a) (N : Nat) (C : bC D E RX5 cX5_audit 5 (some .int) p s m args meth c) (k79 : Int32 × Int32 × Int32 × St → Option (Int32 × St)) (hk79 : ∀ (x1 : Int32) (x2 : Int32) (x3 : Int32) (S : St), k79 (x1, x2, x3, S) = some (rr, SS) → gU D (Wm E a) (aA 18 a) p l e (bRm 2 42) s m args below meth c 5 (qU D below (aA 18 a) (Wm E a SS) rr args s) 79 [(0, .ref (a 0)), (1, .int x1), (2, .int x2), (3, .int x3)] [] S) {n : Nat} {x1 : Int32} {x2 : Int32} {x3 : Int32} {x4 : Int32} {S : St} (h : lpI (F_X5_audit_86 N k79) n (x1, x2, x3, x4, S) = some (rr, SS)) : gU D (Wm E a) (aA 18 a) p l e (bRm 2 42) s m args below meth c 5 (qU D below (aA 18 a) (Wm E a SS) rr args s) 86 [(0, .ref (a 0)), (1, .int x1), (2, .int x2), (3, .int x3), (4, .int x4)] [] S := by
  exact lpI_ind (P := fun v q => q = (rr, SS) → gU D (Wm E a) (aA 18 a) p l e (bRm 2 42) s m args below meth c 5 (qU D below (aA 18 a) (Wm E a SS) rr args s) 86 [(0, .ref (a 0)), (1, .int v.1), (2, .int v.2.1), (3, .int v.2.2.1), (4, .int v.2.2.2.1)] [] v.2.2.2.2) (fun k hk v q h9 hq => s_X5_audit_86 hI N C k79 hk79 k (fun x1 x2 x3 x4 S h8 => hk (x1, x2, x3, x4, S) _ h8 rfl) (h9.trans (congrArg some hq))) n (x1, x2, x3, x4, S) _ h rfl
def FB_X5_audit_79 (N : Nat) (k79 : Int32 × Int32 × Int32 × St → Option (Int32 × St)) (x1 : Int32) (x2 : Int32) (x3 : Int32) (S : St) : Option (Int32 × St) :=
  if x3 ≤ 0 then (gd (ix x1 6) (if 0 ≤ (S 14 (Int32.toNatClampNeg x1)) then (if x2 = 0 then (gd (ix x1 6) (some ((S 14 (Int32.toNatClampNeg x1)), S))) else (gd (ix x1 6) (some ((S 15 (Int32.toNatClampNeg x1)), S)))) else (some ((-6), S)))) else (lpI (F_X5_audit_86 N k79) N (x1, x2, x3, 0, S))
def F_X5_audit_79 (N : Nat) (k79 : Int32 × Int32 × Int32 × St → Option (Int32 × St)) (v : Int32 × Int32 × Int32 × St) : Option (Int32 × St) := FB_X5_audit_79 N k79 v.1 v.2.1 v.2.2.1 v.2.2.2
theorem s_X5_audit_79 {rr : Int32} {SS : St} (hI : aI 18 a) (N : Nat) (C : bC D E RX5 cX5_audit 5 (some .int) p s m args meth c) (k79 : Int32 × Int32 × Int32 × St → Option (Int32 × St)) (hk79 : ∀ (x1 : Int32) (x2 : Int32) (x3 : Int32) (S : St), k79 (x1, x2, x3, S) = some (rr, SS) → gU D (Wm E a) (aA 18 a) p l e (bRm 2 42) s m args below meth c 5 (qU D below (aA 18 a) (Wm E a SS) rr args s) 79 [(0, .ref (a 0)), (1, .int x1), (2, .int x2), (3, .int x3)] [] S) {x1 : Int32} {x2 : Int32} {x3 : Int32} {S : St} (h : FB_X5_audit_79 N k79 x1 x2 x3 S = some (rr, SS)) : gU D (Wm E a) (aA 18 a) p l e (bRm 2 42) s m args below meth c 5 (qU D below (aA 18 a) (Wm E a SS) rr args s) 79 [(0, .ref (a 0)), (1, .int x1), (2, .int x2), (3, .int x3)] [] S := by
  obtain ⟨hx, hb, hml, hown, hts, hK, hr, hlocks⟩ := id C
  intro H locs hP hS ls hl
  unfold FB_X5_audit_79 at h
  refine lv_iload_n (pc := 79) hx hb dX5_audit_79 rfl (lv_at hl 3 rfl) ?_
  refine lv_if_le (tgt := 187) (pc := 80) hx hb dX5_audit_80 (by decide) (fun hc => ?_) (fun hc => ?_)
  · have h := if_y hc h
    refine lv_aload_n (pc := 187) hx hb dX5_audit_187 rfl (lv_at hl 0 rfl) ?_
    refine va_get (pc := 188) (v := .ref (a 14)) hx hb hts inB5 hown hK.1 hP 0 wm0 rfl 22 (by decide) (hts _ wd_573) (fun _ h9 => h9) rfl dX5_audit_188 ?_
    refine lv_iload_n (pc := 191) hx hb dX5_audit_191 rfl (lv_at hl 1 rfl) ?_
    obtain ⟨hin, h⟩ := gd_some h
    refine r_ald (pc := 192) hx hb hK hP 14 wm14 hin dX5_audit_192 ?_
    refine lv_if_ge (tgt := 201) (pc := 193) hx hb dX5_audit_193 (by decide) (fun hc => ?_) (fun hc => ?_)
    · have h := if_y hc h
      refine lv_iload_n (pc := 201) hx hb dX5_audit_201 rfl (lv_at hl 2 rfl) ?_
      refine lv_if_ne (tgt := 214) (pc := 202) hx hb dX5_audit_202 (by decide) (fun hc => ?_) (fun hc => ?_)
      · have h := if_n hc h
        refine lv_aload_n (pc := 214) hx hb dX5_audit_214 rfl (lv_at hl 0 rfl) ?_
        refine va_get (pc := 215) (v := .ref (a 15)) hx hb hts inB5 hown hK.1 hP 0 wm0 rfl 23 (by decide) (hts _ wd_574) (fun _ h9 => h9) rfl dX5_audit_215 ?_
        refine lv_iload_n (pc := 218) hx hb dX5_audit_218 rfl (lv_at hl 1 rfl) ?_
        obtain ⟨hin, h⟩ := gd_some h
        refine r_ald (pc := 219) hx hb hK hP 15 wm15 hin dX5_audit_219 ?_
        exact r_retU (pc := 220) (𝓦 := Wm E a) C h hP hS dX5_audit_220
      · have h := if_y hc h
        refine lv_aload_n (pc := 205) hx hb dX5_audit_205 rfl (lv_at hl 0 rfl) ?_
        refine va_get (pc := 206) (v := .ref (a 14)) hx hb hts inB5 hown hK.1 hP 0 wm0 rfl 22 (by decide) (hts _ wd_573) (fun _ h9 => h9) rfl dX5_audit_206 ?_
        refine lv_iload_n (pc := 209) hx hb dX5_audit_209 rfl (lv_at hl 1 rfl) ?_
        obtain ⟨hin, h⟩ := gd_some h
        refine r_ald (pc := 210) hx hb hK hP 14 wm14 hin dX5_audit_210 ?_
        refine lv_goto (tgt := 220) (pc := 211) hx hb dX5_audit_211 (by decide) ?_
        exact r_retU (pc := 220) (𝓦 := Wm E a) C h hP hS dX5_audit_220
    · have h := if_n hc h
      refine lv_bipush (v := (-6)) (pc := 196) hx hb dX5_audit_196 (by decide) ?_
      refine lv_goto (tgt := 220) (pc := 198) hx hb dX5_audit_198 (by decide) ?_
      exact r_retU (pc := 220) (𝓦 := Wm E a) C h hP hS dX5_audit_220
  · have h := if_n hc h
    refine lv_iconst (v := 0) (pc := 83) hx hb dX5_audit_83 (by decide) ?_
    refine lv_istore (lv' := [(4, .int 0), (0, .ref (a 0)), (1, .int x1), (2, .int x2), (3, .int x3)]) (pc := 84) hx hb dX5_audit_84 hl (by decide) rfl (fun ls hl => ?_)
    exact t_X5_audit_86 hI N C k79 hk79 h H locs hP hS ls (lv_sub hl [1, 2, 3, 4, 0] rfl)
theorem t_X5_audit_79 {rr : Int32} {SS : St} (hI : aI 18 a) (N : Nat) (C : bC D E RX5 cX5_audit 5 (some .int) p s m args meth c) {n : Nat} {x1 : Int32} {x2 : Int32} {x3 : Int32} {S : St} (h : lpI (F_X5_audit_79 N) n (x1, x2, x3, S) = some (rr, SS)) : gU D (Wm E a) (aA 18 a) p l e (bRm 2 42) s m args below meth c 5 (qU D below (aA 18 a) (Wm E a SS) rr args s) 79 [(0, .ref (a 0)), (1, .int x1), (2, .int x2), (3, .int x3)] [] S := by
  exact lpI_ind (P := fun v q => q = (rr, SS) → gU D (Wm E a) (aA 18 a) p l e (bRm 2 42) s m args below meth c 5 (qU D below (aA 18 a) (Wm E a SS) rr args s) 79 [(0, .ref (a 0)), (1, .int v.1), (2, .int v.2.1), (3, .int v.2.2.1)] [] v.2.2.2) (fun k hk v q h9 hq => s_X5_audit_79 hI N C k (fun x1 x2 x3 S h8 => hk (x1, x2, x3, S) _ h8 rfl) (h9.trans (congrArg some hq))) n (x1, x2, x3, S) _ h rfl
def B_X5_audit_48 (N : Nat) (k23 : Int32 × Int32 × Int32 × St → Option (Int32 × St)) (x1 : Int32) (x2 : Int32) (x3 : Int32) (z0 : Int32) (z1 : Int32) (S : St) : Option (Int32 × St) :=
  gd (ix z1 6) (bd (some (sto S 14 (Int32.toNatClampNeg z1) z0)) fun S1 => if x3 = (S1 0 8) then (gd (ix x3 6) (bd (some (sto S1 15 (Int32.toNatClampNeg x3) 1)) fun S3 => k23 (x1, x2, (x3 + 1), S3))) else (gd (ix x3 6) (bd (some (sto S1 15 (Int32.toNatClampNeg x3) 0)) fun S2 => k23 (x1, x2, (x3 + 1), S2))))
theorem t_X5_audit_48 {rr : Int32} {SS : St} (hI : aI 18 a) (N : Nat) (C : bC D E RX5 cX5_audit 5 (some .int) p s m args meth c) (k23 : Int32 × Int32 × Int32 × St → Option (Int32 × St)) (hk23 : ∀ (x1 : Int32) (x2 : Int32) (x3 : Int32) (S : St), k23 (x1, x2, x3, S) = some (rr, SS) → gU D (Wm E a) (aA 18 a) p l e (bRm 2 42) s m args below meth c 5 (qU D below (aA 18 a) (Wm E a SS) rr args s) 23 [(0, .ref (a 0)), (1, .int x1), (2, .int x2), (3, .int x3)] [] S) {x1 : Int32} {x2 : Int32} {x3 : Int32} {z0 : Int32} {z1 : Int32} {S : St} (h : B_X5_audit_48 N k23 x1 x2 x3 z0 z1 S = some (rr, SS)) : gU D (Wm E a) (aA 18 a) p l e (bRm 2 42) s m args below meth c 5 (qU D below (aA 18 a) (Wm E a SS) rr args s) 48 [(0, .ref (a 0)), (1, .int x1), (2, .int x2), (3, .int x3)] [.int z0, .int z1, .ref (a 14)] S := by
  obtain ⟨hx, hb, hml, hown, hts, hK, hr, hlocks⟩ := id C
  intro H locs hP hS ls hl
  unfold B_X5_audit_48 at h
  obtain ⟨hin, h⟩ := gd_some h
  refine r_ast (pc := 48) (𝓦 := Wm E a) hx hb hK hP (dM hI _) hS 14 wm14 wm14s hin dX5_audit_48 (fun H locs S1 eS1 hP hS => ?_)
  have h := bd_y eS1 h
  refine lv_aload_n (pc := 49) hx hb dX5_audit_49 rfl (lv_at hl 0 rfl) ?_
  refine va_get (pc := 50) (v := .ref (a 15)) hx hb hts inB5 hown hK.1 hP 0 wm0 rfl 23 (by decide) (hts _ wd_574) (fun _ h9 => h9) rfl dX5_audit_50 ?_
  refine lv_iload_n (pc := 53) hx hb dX5_audit_53 rfl (lv_at hl 3 rfl) ?_
  refine lv_iload_n (pc := 54) hx hb dX5_audit_54 rfl (lv_at hl 3 rfl) ?_
  refine lv_aload_n (pc := 55) hx hb dX5_audit_55 rfl (lv_at hl 0 rfl) ?_
  refine va_get (pc := 56) (v := .int (S1 0 8)) hx hb hts inB5 hown hK.1 hP 0 wm0 rfl 8 (by decide) (hts _ wd_559) (fun _ h9 => h9) rfl dX5_audit_56 ?_
  refine lv_icmp_ne (tgt := 66) (pc := 59) hx hb dX5_audit_59 (by decide) (fun hc => ?_) (fun hc => ?_)
  · have h := if_n hc h
    refine lv_iconst (v := 0) (pc := 66) hx hb dX5_audit_66 (by decide) ?_
    obtain ⟨hin, h⟩ := gd_some h
    refine r_ast (pc := 67) (𝓦 := Wm E a) hx hb hK hP (dM hI _) hS 15 wm15 wm15s hin dX5_audit_67 (fun H locs S2 eS2 hP hS => ?_)
    have h := bd_y eS2 h
    refine lv_iinc (v := (x3 + 1)) (lv' := [(3, .int (x3 + 1)), (0, .ref (a 0)), (1, .int x1), (2, .int x2)]) (pc := 68) hx hb dX5_audit_68 hl (k := 3) rfl (ii1 _) (by decide) rfl (fun ls hl => ?_)
    refine lv_goto (tgt := 23) (pc := 71) hx hb dX5_audit_71 (by decide) ?_
    exact hk23 _ _ _ _ h H locs hP hS ls (lv_sub hl [1, 2, 3, 0] rfl)
  · have h := if_y hc h
    refine lv_iconst (v := 1) (pc := 62) hx hb dX5_audit_62 (by decide) ?_
    refine lv_goto (tgt := 67) (pc := 63) hx hb dX5_audit_63 (by decide) ?_
    obtain ⟨hin, h⟩ := gd_some h
    refine r_ast (pc := 67) (𝓦 := Wm E a) hx hb hK hP (dM hI _) hS 15 wm15 wm15s hin dX5_audit_67 (fun H locs S3 eS3 hP hS => ?_)
    have h := bd_y eS3 h
    refine lv_iinc (v := (x3 + 1)) (lv' := [(3, .int (x3 + 1)), (0, .ref (a 0)), (1, .int x1), (2, .int x2)]) (pc := 68) hx hb dX5_audit_68 hl (k := 3) rfl (ii1 _) (by decide) rfl (fun ls hl => ?_)
    refine lv_goto (tgt := 23) (pc := 71) hx hb dX5_audit_71 (by decide) ?_
    exact hk23 _ _ _ _ h H locs hP hS ls (lv_sub hl [1, 2, 3, 0] rfl)
def FB_X5_audit_23 (N : Nat) (k23 : Int32 × Int32 × Int32 × St → Option (Int32 × St)) (x1 : Int32) (x2 : Int32) (x3 : Int32) (S : St) : Option (Int32 × St) :=
  if 6 ≤ x3 then (bd (some (S 0 8)) fun y1 => lpI (F_X5_audit_79 N) N (x1, x2, y1, S)) else (if x3 = (S 0 8) then (B_X5_audit_48 N k23 x1 x2 x3 0 x3 S) else (B_X5_audit_48 N k23 x1 x2 x3 (-6) x3 S))
def F_X5_audit_23 (N : Nat) (k23 : Int32 × Int32 × Int32 × St → Option (Int32 × St)) (v : Int32 × Int32 × Int32 × St) : Option (Int32 × St) := FB_X5_audit_23 N k23 v.1 v.2.1 v.2.2.1 v.2.2.2
theorem s_X5_audit_23 {rr : Int32} {SS : St} (hI : aI 18 a) (N : Nat) (C : bC D E RX5 cX5_audit 5 (some .int) p s m args meth c) (k23 : Int32 × Int32 × Int32 × St → Option (Int32 × St)) (hk23 : ∀ (x1 : Int32) (x2 : Int32) (x3 : Int32) (S : St), k23 (x1, x2, x3, S) = some (rr, SS) → gU D (Wm E a) (aA 18 a) p l e (bRm 2 42) s m args below meth c 5 (qU D below (aA 18 a) (Wm E a SS) rr args s) 23 [(0, .ref (a 0)), (1, .int x1), (2, .int x2), (3, .int x3)] [] S) {x1 : Int32} {x2 : Int32} {x3 : Int32} {S : St} (h : FB_X5_audit_23 N k23 x1 x2 x3 S = some (rr, SS)) : gU D (Wm E a) (aA 18 a) p l e (bRm 2 42) s m args below meth c 5 (qU D below (aA 18 a) (Wm E a SS) rr args s) 23 [(0, .ref (a 0)), (1, .int x1), (2, .int x2), (3, .int x3)] [] S := by
  obtain ⟨hx, hb, hml, hown, hts, hK, hr, hlocks⟩ := id C
  intro H locs hP hS ls hl
  unfold FB_X5_audit_23 at h
  refine lv_iload_n (pc := 23) hx hb dX5_audit_23 rfl (lv_at hl 3 rfl) ?_
  refine lv_bipush (v := 6) (pc := 24) hx hb dX5_audit_24 (by decide) ?_
  refine lv_icmp_ge (tgt := 74) (pc := 26) hx hb dX5_audit_26 (by decide) (fun hc => ?_) (fun hc => ?_)
  · have h := if_y hc h
    refine lv_aload_n (pc := 74) hx hb dX5_audit_74 rfl (lv_at hl 0 rfl) ?_
    refine va_get (pc := 75) (v := .int (S 0 8)) hx hb hts inB5 hown hK.1 hP 0 wm0 rfl 8 (by decide) (hts _ wd_559) (fun _ h9 => h9) rfl dX5_audit_75 ?_
    refine lv_topi (fun y1 ey1 => ?_)
    have h := bd_y ey1 h
    refine lv_istore_n (lv' := [(3, .int y1), (0, .ref (a 0)), (1, .int x1), (2, .int x2)]) (pc := 78) hx hb dX5_audit_78 rfl hl (by decide) rfl (fun ls hl => ?_)
    exact t_X5_audit_79 hI N C h H locs hP hS ls (lv_sub hl [1, 2, 3, 0] rfl)
  · have h := if_n hc h
    refine lv_aload_n (pc := 29) hx hb dX5_audit_29 rfl (lv_at hl 0 rfl) ?_
    refine va_get (pc := 30) (v := .ref (a 14)) hx hb hts inB5 hown hK.1 hP 0 wm0 rfl 22 (by decide) (hts _ wd_573) (fun _ h9 => h9) rfl dX5_audit_30 ?_
    refine lv_iload_n (pc := 33) hx hb dX5_audit_33 rfl (lv_at hl 3 rfl) ?_
    refine lv_iload_n (pc := 34) hx hb dX5_audit_34 rfl (lv_at hl 3 rfl) ?_
    refine lv_aload_n (pc := 35) hx hb dX5_audit_35 rfl (lv_at hl 0 rfl) ?_
    refine va_get (pc := 36) (v := .int (S 0 8)) hx hb hts inB5 hown hK.1 hP 0 wm0 rfl 8 (by decide) (hts _ wd_559) (fun _ h9 => h9) rfl dX5_audit_36 ?_
    refine lv_icmp_ne (tgt := 46) (pc := 39) hx hb dX5_audit_39 (by decide) (fun hc => ?_) (fun hc => ?_)
    · have h := if_n hc h
      refine lv_bipush (v := (-6)) (pc := 46) hx hb dX5_audit_46 (by decide) ?_
      exact t_X5_audit_48 hI N C k23 hk23 h H locs hP hS ls (lv_sub hl [0, 1, 2, 3] rfl)
    · have h := if_y hc h
      refine lv_iconst (v := 0) (pc := 42) hx hb dX5_audit_42 (by decide) ?_
      refine lv_goto (tgt := 48) (pc := 43) hx hb dX5_audit_43 (by decide) ?_
      exact t_X5_audit_48 hI N C k23 hk23 h H locs hP hS ls (lv_sub hl [0, 1, 2, 3] rfl)
theorem t_X5_audit_23 {rr : Int32} {SS : St} (hI : aI 18 a) (N : Nat) (C : bC D E RX5 cX5_audit 5 (some .int) p s m args meth c) {n : Nat} {x1 : Int32} {x2 : Int32} {x3 : Int32} {S : St} (h : lpI (F_X5_audit_23 N) n (x1, x2, x3, S) = some (rr, SS)) : gU D (Wm E a) (aA 18 a) p l e (bRm 2 42) s m args below meth c 5 (qU D below (aA 18 a) (Wm E a SS) rr args s) 23 [(0, .ref (a 0)), (1, .int x1), (2, .int x2), (3, .int x3)] [] S := by
  exact lpI_ind (P := fun v q => q = (rr, SS) → gU D (Wm E a) (aA 18 a) p l e (bRm 2 42) s m args below meth c 5 (qU D below (aA 18 a) (Wm E a SS) rr args s) 23 [(0, .ref (a 0)), (1, .int v.1), (2, .int v.2.1), (3, .int v.2.2.1)] [] v.2.2.2) (fun k hk v q h9 hq => s_X5_audit_23 hI N C k (fun x1 x2 x3 S h8 => hk (x1, x2, x3, S) _ h8 rfl) (h9.trans (congrArg some hq))) n (x1, x2, x3, S) _ h rfl
def f_X5_audit (N : Nat) (x1 : Int32) (x2 : Int32) (S : St) : Option (Int32 × St) :=
  bd (f_X5_isPiece x1) fun r1 => if r1 = 0 then (some ((-1), S)) else (bd (f_X5_in x2 0 1) fun r2 => if r2 = 0 then (some ((-2), S)) else (lpI (F_X5_audit_23 N) N (x1, x2, 0, S)))
theorem t_X5_audit_0 {rr : Int32} {SS : St} (hI : aI 18 a) (N : Nat) (C : bC D E RX5 cX5_audit 5 (some .int) p s m args meth c) {x1 : Int32} {x2 : Int32} {S : St} (h : f_X5_audit N x1 x2 S = some (rr, SS)) : gU D (Wm E a) (aA 18 a) p l e (bRm 2 42) s m args below meth c 5 (qU D below (aA 18 a) (Wm E a SS) rr args s) 0 [(0, .ref (a 0)), (1, .int x1), (2, .int x2)] [] S := by
  obtain ⟨hx, hb, hml, hown, hts, hK, hr, hlocks⟩ := id C
  intro H locs hP hS ls hl
  unfold f_X5_audit at h
  refine lv_iload_n (pc := 0) hx hb dX5_audit_0 rfl (lv_at hl 1 rfl) ?_
  obtain ⟨r1, hr1, h⟩ := bd_some h
  refine r_callS (pc := 1) C (c_X5_isPiece hr1) k_X5_isPiece wd_671 ⟨Nat.le_of_ble_eq_true rfl, Nat.le_of_ble_eq_true rfl⟩ rfl hl.1 rfl (Nat.le_of_ble_eq_true rfl) dX5_audit_1 ⟨Nat.zero_le _, Nat.zero_le _⟩ ?_
  refine lv_if_ne (tgt := 9) (pc := 4) hx hb dX5_audit_4 (by decide) (fun hc => ?_) (fun hc => ?_)
  · have h := if_n hc h
    refine lv_iload_n (pc := 9) hx hb dX5_audit_9 rfl (lv_at hl 2 rfl) ?_
    refine lv_iconst (v := 0) (pc := 10) hx hb dX5_audit_10 (by decide) ?_
    refine lv_iconst (v := 1) (pc := 11) hx hb dX5_audit_11 (by decide) ?_
    obtain ⟨r2, hr2, h⟩ := bd_some h
    refine r_callS (pc := 12) C (c_X5_in hr2) k_X5_in wd_634 ⟨Nat.le_of_ble_eq_true rfl, Nat.le_of_ble_eq_true rfl⟩ rfl hl.1 rfl (Nat.le_of_ble_eq_true rfl) dX5_audit_12 ⟨Nat.zero_le _, Nat.zero_le _⟩ ?_
    refine lv_if_ne (tgt := 21) (pc := 15) hx hb dX5_audit_15 (by decide) (fun hc => ?_) (fun hc => ?_)
    · have h := if_n hc h
      refine lv_iconst (v := 0) (pc := 21) hx hb dX5_audit_21 (by decide) ?_
      refine lv_istore_n (lv' := [(3, .int 0), (0, .ref (a 0)), (1, .int x1), (2, .int x2)]) (pc := 22) hx hb dX5_audit_22 rfl hl (by decide) rfl (fun ls hl => ?_)
      exact t_X5_audit_23 hI N C h H locs hP hS ls (lv_sub hl [1, 2, 3, 0] rfl)
    · have h := if_y hc h
      refine lv_bipush (v := (-2)) (pc := 18) hx hb dX5_audit_18 (by decide) ?_
      exact r_retU (pc := 20) (𝓦 := Wm E a) C h hP hS dX5_audit_20
  · have h := if_y hc h
    refine lv_iconst (v := (-1)) (pc := 7) hx hb dX5_audit_7 (by decide) ?_
    exact r_retU (pc := 8) (𝓦 := Wm E a) C h hP hS dX5_audit_8
theorem c_X5_audit {l : Launch} {D : va_G} {E : bE} {a : Nat → Nat} (hI : aI 18 a) (N : Nat) {rr : Int32} {S : St} {SS : St} {x1 : Int32} {x2 : Int32} (h : f_X5_audit N x1 x2 S = some (rr, SS)) : cU l D E yX5_audit cX5_audit 5 (some .int) 2 42 (aA 18 a) (Wm E a S) (Wm E a SS) [.ref (a 0), .int x1, .int x2] rr := cU_of (by decide) (Nat.le_of_ble_eq_true rfl) (fun p e s m args below meth c C => t_X5_audit_0 hI N C h)
