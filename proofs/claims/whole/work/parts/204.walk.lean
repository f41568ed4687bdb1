variable {p : Program} {l : Launch} {e : Env} {s : State} {m : MethodId} {args : Array Value} {below : List Frame} {meth : Method} {c : Code} {D : va_G} {E : bE} {a : Nat → Nat}
/-! X4_best -/
def f_X4_best (N : Nat) (x1 : Int32) (x2 : Int32) (S : St) : Option (Int32 × St) :=
  bd (f_X4_within x2 (-2) 5) fun r1 => if r1 = 0 then (some ((-1), S)) else (bd (f_X4_within x1 0 2) fun r2 => if r2 = 0 then (some ((-2), S)) else (bd (f_X3_spin N S) fun S1 => bd2 (f_X3_findBest N x1 S1) fun r3 S2 => if r3 = 0 then (some ((-6), S2)) else (if x2 = (-2) then (some ((S2 4 2), S2)) else (if x2 = (-1) then (some ((S2 4 1), S2)) else (bd (f_X4_has (S2 3 5) x2) fun r4 => if r4 = 0 then (some ((-6), S2)) else (gd (ix x2 6) (some ((S2 28 (Int32.toNatClampNeg x2)), S2))))))))
theorem t_X4_best_0 {rr : Int32} {SS : St} (hI : aI 49 a) (N : Nat) (C : bC D E RX4 cX4_best 3 (some .int) p s m args meth c) {x1 : Int32} {x2 : Int32} {S : St} (h : f_X4_best N x1 x2 S = some (rr, SS)) : gU D (Wu E a) (aA 49 a) p l e (bRm 6 140) s m args below meth c 3 (qU D below (aA 49 a) (Wu E a SS) rr args s) 0 [(0, .ref (a 0)), (1, .int x1), (2, .int x2)] [] S := by
  obtain ⟨hx, hb, hml, hown, hts, hK, hr, hlocks⟩ := id C
  intro H locs hP hS ls hl
  unfold f_X4_best at h
  refine lv_iload_n (pc := 0) hx hb dX4_best_0 rfl (lv_at hl 2 rfl) ?_
  refine lv_bipush (v := (-2)) (pc := 1) hx hb dX4_best_1 (by decide) ?_
  refine lv_iconst (v := 5) (pc := 3) hx hb dX4_best_3 (by decide) ?_
  obtain ⟨r1, hr1, h⟩ := bd_some h
  refine r_callS (pc := 4) C (c_X4_within hr1) k_X4_within wd_244 ⟨Nat.le_of_ble_eq_true rfl, Nat.le_of_ble_eq_true rfl⟩ rfl hl.1 rfl (Nat.le_of_ble_eq_true rfl) dX4_best_4 ⟨Nat.zero_le _, Nat.zero_le _⟩ ?_
  refine lv_if_ne (tgt := 12) (pc := 7) hx hb dX4_best_7 (by decide) (fun hc => ?_) (fun hc => ?_)
  · have h := if_n hc h
    refine lv_iload_n (pc := 12) hx hb dX4_best_12 rfl (lv_at hl 1 rfl) ?_
    refine lv_iconst (v := 0) (pc := 13) hx hb dX4_best_13 (by decide) ?_
    refine lv_iconst (v := 2) (pc := 14) hx hb dX4_best_14 (by decide) ?_
    obtain ⟨r2, hr2, h⟩ := bd_some h
    refine r_callS (pc := 15) C (c_X4_within hr2) k_X4_within wd_244 ⟨Nat.le_of_ble_eq_true rfl, Nat.le_of_ble_eq_true rfl⟩ rfl hl.1 rfl (Nat.le_of_ble_eq_true rfl) dX4_best_15 ⟨Nat.zero_le _, Nat.zero_le _⟩ ?_
    refine lv_if_ne (tgt := 24) (pc := 18) hx hb dX4_best_18 (by decide) (fun hc => ?_) (fun hc => ?_)
    · have h := if_n hc h
      refine lv_aload_n (pc := 24) hx hb dX4_best_24 rfl (lv_at hl 0 rfl) ?_
      refine va_get (pc := 25) (v := .ref (a 3)) hx hb hts inB4 hown hK.1 hP 0 wu0 rfl 1 (by decide) (hts _ wd_218) (fun _ h9 => h9) rfl dX4_best_25 ?_
      obtain ⟨S1, hS1, h⟩ := bd_some h
      refine r_callV (pc := 28) C hP hS (c_X3_spin hI N hS1) k_X3_spin wd_331 (q0 := 3) wu3 rfl rfl ⟨Nat.le_of_ble_eq_true rfl, Nat.le_of_ble_eq_true rfl⟩ rfl hl.1 rfl (Nat.le_of_ble_eq_true rfl) dX4_best_28 ⟨Nat.zero_le _, Nat.zero_le _⟩ (fun H locs hP hS => ?_)
      refine lv_aload_n (pc := 31) hx hb dX4_best_31 rfl (lv_at hl 0 rfl) ?_
      refine va_get (pc := 32) (v := .ref (a 3)) hx hb hts inB4 hown hK.1 hP 0 wu0 rfl 1 (by decide) (hts _ wd_218) (fun _ h9 => h9) rfl dX4_best_32 ?_
      refine lv_iload_n (pc := 35) hx hb dX4_best_35 rfl (lv_at hl 1 rfl) ?_
      refine lv_aload_n (pc := 36) hx hb dX4_best_36 rfl (lv_at hl 0 rfl) ?_
      refine va_get (pc := 37) (v := .ref (a 4)) hx hb hts inB4 hown hK.1 hP 0 wu0 rfl 3 (by decide) (hts _ wd_220) (fun _ h9 => h9) rfl dX4_best_37 ?_
      obtain ⟨r3, S2, hr3, h⟩ := bd2_some h
      refine r_callU (pc := 40) C hP hS (c_X3_findBest hI N hr3) k_X3_findBest wd_386 (q0 := 3) wu3 rfl rfl ⟨Nat.le_of_ble_eq_true rfl, Nat.le_of_ble_eq_true rfl⟩ rfl hl.1 rfl (Nat.le_of_ble_eq_true rfl) dX4_best_40 ⟨Nat.zero_le _, Nat.zero_le _⟩ (fun H locs hP hS => ?_)
      refine lv_if_ne (tgt := 49) (pc := 43) hx hb dX4_best_43 (by decide) (fun hc => ?_) (fun hc => ?_)
      · have h := if_n hc h
        refine lv_iload_n (pc := 49) hx hb dX4_best_49 rfl (lv_at hl 2 rfl) ?_
        refine lv_bipush (v := (-2)) (pc := 50) hx hb dX4_best_50 (by decide) ?_
        refine lv_icmp_ne (tgt := 63) (pc := 52) hx hb dX4_best_52 (by decide) (fun hc => ?_) (fun hc => ?_)
        · have h := if_n hc h
          refine lv_iload_n (pc := 63) hx hb dX4_best_63 rfl (lv_at hl 2 rfl) ?_
          refine lv_iconst (v := (-1)) (pc := 64) hx hb dX4_best_64 (by decide) ?_
          refine lv_icmp_ne (tgt := 76) (pc := 65) hx hb dX4_best_65 (by decide) (fun hc => ?_) (fun hc => ?_)
          · have h := if_n hc h
            refine lv_aload_n (pc := 76) hx hb dX4_best_76 rfl (lv_at hl 0 rfl) ?_
            refine va_get (pc := 77) (v := .ref (a 3)) hx hb hts inB4 hown hK.1 hP 0 wu0 rfl 1 (by decide) (hts _ wd_218) (fun _ h9 => h9) rfl dX4_best_77 ?_
            refine va_get (pc := 80) (v := .int (S2 3 5)) hx hb hts inB3 hown hK.1 hP 3 wu3 rfl 5 (by decide) (hts _ wd_157) (fun _ h9 => h9) rfl dX4_best_80 ?_
            refine lv_iload_n (pc := 83) hx hb dX4_best_83 rfl (lv_at hl 2 rfl) ?_
            obtain ⟨r4, hr4, h⟩ := bd_some h
            refine r_callS (pc := 84) C (c_X4_has hr4) k_X4_has wd_366 ⟨Nat.le_of_ble_eq_true rfl, Nat.le_of_ble_eq_true rfl⟩ rfl hl.1 rfl (Nat.le_of_ble_eq_true rfl) dX4_best_84 ⟨Nat.zero_le _, Nat.zero_le _⟩ ?_
            refine lv_if_eq (tgt := 102) (pc := 87) hx hb dX4_best_87 (by decide) (fun hc => ?_) (fun hc => ?_)
            · have h := if_y hc h
              refine lv_bipush (v := (-6)) (pc := 102) hx hb dX4_best_102 (by decide) ?_
              exact r_retU (pc := 104) (𝓦 := Wu E a) C h hP hS dX4_best_104
            · have h := if_n hc h
              refine lv_aload_n (pc := 90) hx hb dX4_best_90 rfl (lv_at hl 0 rfl) ?_
              refine va_get (pc := 91) (v := .ref (a 4)) hx hb hts inB4 hown hK.1 hP 0 wu0 rfl 3 (by decide) (hts _ wd_220) (fun _ h9 => h9) rfl dX4_best_91 ?_
              refine va_get (pc := 94) (v := .ref (a 28)) hx hb hts inB1 hown hK.1 hP 4 wu4 rfl 0 (by decide) (hts _ wd_199) (fun _ h9 => h9) rfl dX4_best_94 ?_
              refine lv_iload_n (pc := 97) hx hb dX4_best_97 rfl (lv_at hl 2 rfl) ?_
              obtain ⟨hin, h⟩ := gd_some h
              refine r_ald (pc := 98) hx hb hK hP 28 wu28 hin dX4_best_98 ?_
              refine lv_goto (tgt := 104) (pc := 99) hx hb dX4_best_99 (by decide) ?_
              exact r_retU (pc := 104) (𝓦 := Wu E a) C h hP hS dX4_best_104
          · have h := if_y hc h
            refine lv_aload_n (pc := 68) hx hb dX4_best_68 rfl (lv_at hl 0 rfl) ?_
            refine va_get (pc := 69) (v := .ref (a 4)) hx hb hts inB4 hown hK.1 hP 0 wu0 rfl 3 (by decide) (hts _ wd_220) (fun _ h9 => h9) rfl dX4_best_69 ?_
            refine va_get (pc := 72) (v := .int (S2 4 1)) hx hb hts inB1 hown hK.1 hP 4 wu4 rfl 1 (by decide) (hts _ wd_202) (fun _ h9 => h9) rfl dX4_best_72 ?_
            exact r_retU (pc := 75) (𝓦 := Wu E a) C h hP hS dX4_best_75
        · have h := if_y hc h
          refine lv_aload_n (pc := 55) hx hb dX4_best_55 rfl (lv_at hl 0 rfl) ?_
          refine va_get (pc := 56) (v := .ref (a 4)) hx hb hts inB4 hown hK.1 hP 0 wu0 rfl 3 (by decide) (hts _ wd_220) (fun _ h9 => h9) rfl dX4_best_56 ?_
          refine va_get (pc := 59) (v := .int (S2 4 2)) hx hb hts inB1 hown hK.1 hP 4 wu4 rfl 2 (by decide) (hts _ wd_205) (fun _ h9 => h9) rfl dX4_best_59 ?_
          exact r_retU (pc := 62) (𝓦 := Wu E a) C h hP hS dX4_best_62
      · have h := if_y hc h
        refine lv_bipush (v := (-6)) (pc := 46) hx hb dX4_best_46 (by decide) ?_
        exact r_retU (pc := 48) (𝓦 := Wu E a) C h hP hS dX4_best_48
    · have h := if_y hc h
      refine lv_bipush (v := (-2)) (pc := 21) hx hb dX4_best_21 (by decide) ?_
      exact r_retU (pc := 23) (𝓦 := Wu E a) C h hP hS dX4_best_23
  · have h := if_y hc h
    refine lv_iconst (v := (-1)) (pc := 10) hx hb dX4_best_10 (by decide) ?_
    exact r_retU (pc := 11) (𝓦 := Wu E a) C h hP hS dX4_best_11
theorem c_X4_best {l : Launch} {D : va_G} {E : bE} {a : Nat → Nat} (hI : aI 49 a) (N : Nat) {rr : Int32} {S : St} {SS : St} {x1 : Int32} {x2 : Int32} (h : f_X4_best N x1 x2 S = some (rr, SS)) : cU l D E yX4_best cX4_best 3 (some .int) 6 140 (aA 49 a) (Wu E a S) (Wu E a SS) [.ref (a 0), .int x1, .int x2] rr := cU_of (by decide) (Nat.le_of_ble_eq_true rfl) (fun p e s m args below meth c C => t_X4_best_0 hI N C h)
/-! X3_countWith -/
def FB_X3_countWith_30 (N : Nat) (k23 : Int32 × Int32 × St → Option (St)) (k30 : Int32 × Int32 × Int32 × St → Option (St)) (x1 : Int32) (x2 : Int32) (x3 : Int32) (S : St) : Option (St) :=
  if 31 < x3 then (k23 (x1, (x2 + 1), S)) else (gd (ix x1 6) (bd (f_X4_has (S 18 (Int32.toNatClampNeg x1)) x2) fun r1 => if r1 = 0 then (k30 (x1, x2, (x3 + 1), S)) else (bd (f_X3_offer x1 x2) fun r2 => gd (ix r2 30) (gd (ix (x3 &&& (S 22 (Int32.toNatClampNeg r2))) 32) (gd (ix x3 32) (gd (ix (x3 &&& (S 22 (Int32.toNatClampNeg r2))) 32) (bd (some (sto S 27 (Int32.toNatClampNeg (x3 &&& (S 22 (Int32.toNatClampNeg r2)))) ((S 27 (Int32.toNatClampNeg (x3 &&& (S 22 (Int32.toNatClampNeg r2))))) + (S 26 (Int32.toNatClampNeg x3))))) fun S1 => k30 (x1, x2, (x3 + 1), S1))))))))
def F_X3_countWith_30 (N : Nat) (k23 : Int32 × Int32 × St → Option (St)) (k30 : Int32 × Int32 × Int32 × St → Option (St)) (v : Int32 × Int32 × Int32 × St) : Option (St) := FB_X3_countWith_30 N k23 k30 v.1 v.2.1 v.2.2.1 v.2.2.2
theorem s_X3_countWith_30 {SS : St} (hI : aI 49 a) (N : Nat) (C : bC D E RX3 cX3_countWith 4 none p s m args meth c) (k23 : Int32 × Int32 × St → Option (St)) (hk23 : ∀ (x1 : Int32) (x2 : Int32) (S : St), k23 (x1, x2, S) = some SS → gU D (Wu E a) (aA 49 a) p l e (bRm 1 21) s m args below meth c 4 (qV D below (aA 49 a) (Wu E a SS) args s) 23 [(0, .ref (a 3)), (1, .int x1), (2, .int x2)] [] S) (k30 : Int32 × Int32 × Int32 × St → Option (St)) (hk30 : ∀ (x1 : Int32) (x2 : Int32) (x3 : Int32) (S : St), k30 (x1, x2, x3, S) = some SS → gU D (Wu E a) (aA 49 a) p l e (bRm 1 21) s m args below meth c 4 (qV D below (aA 49 a) (Wu E a SS) args s) 30 [(0, .ref (a 3)), (1, .int x1), (2, .int x2), (3, .int x3)] [] S) {x1 : Int32} {x2 : Int32} {x3 : Int32} {S : St} (h : FB_X3_countWith_30 N k23 k30 x1 x2 x3 S = some SS) : gU D (Wu E a) (aA 49 a) p l e (bRm 1 21) s m args below meth c 4 (qV D below (aA 49 a) (Wu E a SS) args s) 30 [(0, .ref (a 3)), (1, .int x1), (2, .int x2), (3, .int x3)] [] S := by
  obtain ⟨hx, hb, hml, hown, hts, hK, hr, hlocks⟩ := id C
  intro H locs hP hS ls hl
  unfold FB_X3_countWith_30 at h
  refine lv_iload_n (pc := 30) hx hb dX3_countWith_30 rfl (lv_at hl 3 rfl) ?_
  refine lv_bipush (v := 31) (pc := 31) hx hb dX3_countWith_31 (by decide) ?_
  refine lv_icmp_gt (tgt := 81) (pc := 33) hx hb dX3_countWith_33 (by decide) (fun hc => ?_) (fun hc => ?_)
  · have h := if_y hc h
    refine lv_iinc (v := (x2 + 1)) (lv' := [(2, .int (x2 + 1)), (0, .ref (a 3)), (1, .int x1), (3, .int x3)]) (pc := 81) hx hb dX3_countWith_81 hl (k := 2) rfl (ii1 _) (by decide) rfl (fun ls hl => ?_)
    refine lv_goto (tgt := 23) (pc := 84) hx hb dX3_countWith_84 (by decide) ?_
    exact hk23 _ _ _ h H locs hP hS ls (lv_sub hl [1, 2, 0] rfl)
  · have h := if_n hc h
    refine lv_aload_n (pc := 36) hx hb dX3_countWith_36 rfl (lv_at hl 0 rfl) ?_
    refine va_get (pc := 37) (v := .ref (a 18)) hx hb hts inB3 hown hK.1 hP 3 wu3 rfl 1 (by decide) (hts _ wd_148) (fun _ h9 => h9) rfl dX3_countWith_37 ?_
    refine lv_iload_n (pc := 40) hx hb dX3_countWith_40 rfl (lv_at hl 1 rfl) ?_
    obtain ⟨hin, h⟩ := gd_some h
    refine r_ald (pc := 41) hx hb hK hP 18 wu18 hin dX3_countWith_41 ?_
    refine lv_iload_n (pc := 42) hx hb dX3_countWith_42 rfl (lv_at hl 2 rfl) ?_
    obtain ⟨r1, hr1, h⟩ := bd_some h
    refine r_callSN (pc := 43) (host := RX4) C (c_X4_has hr1) k_X4_has nst_6 ⟨Nat.le_of_ble_eq_true rfl, Nat.le_of_ble_eq_true rfl⟩ rfl hl.1 rfl (Nat.le_of_ble_eq_true rfl) dX3_countWith_43 ⟨Nat.zero_le _, Nat.zero_le _⟩ ?_
    refine lv_if_eq (tgt := 75) (pc := 46) hx hb dX3_countWith_46 (by decide) (fun hc => ?_) (fun hc => ?_)
    · have h := if_y hc h
      refine lv_iinc (v := (x3 + 1)) (lv' := [(3, .int (x3 + 1)), (0, .ref (a 3)), (1, .int x1), (2, .int x2)]) (pc := 75) hx hb dX3_countWith_75 hl (k := 3) rfl (ii1 _) (by decide) rfl (fun ls hl => ?_)
      refine lv_goto (tgt := 30) (pc := 78) hx hb dX3_countWith_78 (by decide) ?_
      exact hk30 _ _ _ _ h H locs hP hS ls (lv_sub hl [1, 2, 3, 0] rfl)
    · have h := if_n hc h
      refine lv_aload_n (pc := 49) hx hb dX3_countWith_49 rfl (lv_at hl 0 rfl) ?_
      refine va_get (pc := 50) (v := .ref (a27 a (S 3 11))) hx hb hts inB3 hown hK.1 hP 3 wu3 rfl 12 (by decide) (hts _ wd_164) (fun _ h9 => h9) rfl dX3_countWith_50 ?_
      refine lv_iload_n (pc := 53) hx hb dX3_countWith_53 rfl (lv_at hl 3 rfl) ?_
      refine lv_aload_n (pc := 54) hx hb dX3_countWith_54 rfl (lv_at hl 0 rfl) ?_
      refine va_get (pc := 55) (v := .ref (a 22)) hx hb hts inB3 hown hK.1 hP 3 wu3 rfl 7 (by decide) (hts _ wd_159) (fun _ h9 => h9) rfl dX3_countWith_55 ?_
      refine lv_iload_n (pc := 58) hx hb dX3_countWith_58 rfl (lv_at hl 1 rfl) ?_
      refine lv_iload_n (pc := 59) hx hb dX3_countWith_59 rfl (lv_at hl 2 rfl) ?_
      obtain ⟨r2, hr2, h⟩ := bd_some h
      refine r_callS (pc := 60) C (c_X3_offer hr2) k_X3_offer wd_354 ⟨Nat.le_of_ble_eq_true rfl, Nat.le_of_ble_eq_true rfl⟩ rfl hl.1 rfl (Nat.le_of_ble_eq_true rfl) dX3_countWith_60 ⟨Nat.zero_le _, Nat.zero_le _⟩ ?_
      obtain ⟨hin, h⟩ := gd_some h
      refine r_ald (pc := 63) hx hb hK hP 22 wu22 hin dX3_countWith_63 ?_
      refine lv_iand (pc := 64) hx hb dX3_countWith_64 ?_
      refine lv_dup2_11 (pc := 65) hx hb dX3_countWith_65 rfl rfl ?_
      obtain ⟨hin, h⟩ := gd_some h
      refine r_ald (pc := 66) hx hb hK hP 27 wu27 hin dX3_countWith_66 ?_
      refine lv_aload_n (pc := 67) hx hb dX3_countWith_67 rfl (lv_at hl 0 rfl) ?_
      refine va_get (pc := 68) (v := .ref (a26 a (S 3 11))) hx hb hts inB3 hown hK.1 hP 3 wu3 rfl 11 (by decide) (hts _ wd_163) (fun _ h9 => h9) rfl dX3_countWith_68 ?_
      refine lv_iload_n (pc := 71) hx hb dX3_countWith_71 rfl (lv_at hl 3 rfl) ?_
      obtain ⟨hin, h⟩ := gd_some h
      refine r_ald (pc := 72) hx hb hK hP 26 wu26 hin dX3_countWith_72 ?_
      refine lv_iadd (pc := 73) hx hb dX3_countWith_73 ?_
      obtain ⟨hin, h⟩ := gd_some h
      refine r_ast (pc := 74) (𝓦 := Wu E a) hx hb hK hP (dU hI _) hS 27 wu27 wu27s hin dX3_countWith_74 (fun H locs S1 eS1 hP hS => ?_)
      have h := bd_y eS1 h
      refine lv_iinc (v := (x3 + 1)) (lv' := [(3, .int (x3 + 1)), (0, .ref (a 3)), (1, .int x1), (2, .int x2)]) (pc := 75) hx hb dX3_countWith_75 hl (k := 3) rfl (ii1 _) (by decide) rfl (fun ls hl => ?_)
      refine lv_goto (tgt := 30) (pc := 78) hx hb dX3_countWith_78 (by decide) ?_
      exact hk30 _ _ _ _ h H locs hP hS ls (lv_sub hl [1, 2, 3, 0] rfl)
theorem t_X3_countWith_30 {SS : St} (hI : aI 49 a) (N : Nat) (C : bC D E RX3 cX3_countWith 4 none p s m args meth c) (k23 : Int32 × Int32 × St → Option (St)) (hk23 : ∀ (x1 : Int32) (x2 : Int32) (S : St), k23 (x1, x2, S) = some SS → gU D (Wu E a) (aA 49 a) p l e (bRm 1 21) s m args below meth c 4 (qV D below (aA 49 a) (Wu E a SS) args s) 23 [(0, .ref (a 3)), (1, .int x1), (2, .int x2)] [] S) {n : Nat} {x1 : Int32} {x2 : Int32} {x3 : Int32} {S : St} (h : lpI (F_X3_countWith_30 N k23) n (x1, x2, x3, S) = some SS) : gU D (Wu E a) (aA 49 a) p l e (bRm 1 21) s m args below meth c 4 (qV D below (aA 49 a) (Wu E a SS) args s) 30 [(0, .ref (a 3)), (1, .int x1), (2, .int x2), (3, .int x3)] [] S := by
  exact lpI_ind (P := fun v q => q = SS → gU D (Wu E a) (aA 49 a) p l e (bRm 1 21) s m args below meth c 4 (qV D below (aA 49 a) (Wu E a SS) args s) 30 [(0, .ref (a 3)), (1, .int v.1), (2, .int v.2.1), (3, .int v.2.2.1)] [] v.2.2.2) (fun k hk v q h9 hq => s_X3_countWith_30 hI N C k23 hk23 k (fun x1 x2 x3 S h8 => hk (x1, x2, x3, S) _ h8 rfl) (h9.trans (congrArg some hq))) n (x1, x2, x3, S) _ h rfl
def FB_X3_countWith_23 (N : Nat) (k23 : Int32 × Int32 × St → Option (St)) (x1 : Int32) (x2 : Int32) (S : St) : Option (St) :=
  if 5 ≤ x2 then (some (swapU S)) else (lpI (F_X3_countWith_30 N k23) N (x1, x2, 0, S))
def F_X3_countWith_23 (N : Nat) (k23 : Int32 × Int32 × St → Option (St)) (v : Int32 × Int32 × St) : Option (St) := FB_X3_countWith_23 N k23 v.1 v.2.1 v.2.2
theorem s_X3_countWith_23 {SS : St} (hI : aI 49 a) (N : Nat) (C : bC D E RX3 cX3_countWith 4 none p s m args meth c) (k23 : Int32 × Int32 × St → Option (St)) (hk23 : ∀ (x1 : Int32) (x2 : Int32) (S : St), k23 (x1, x2, S) = some SS → gU D (Wu E a) (aA 49 a) p l e (bRm 1 21) s m args below meth c 4 (qV D below (aA 49 a) (Wu E a SS) args s) 23 [(0, .ref (a 3)), (1, .int x1), (2, .int x2)] [] S) {x1 : Int32} {x2 : Int32} {S : St} (h : FB_X3_countWith_23 N k23 x1 x2 S = some SS) : gU D (Wu E a) (aA 49 a) p l e (bRm 1 21) s m args below meth c 4 (qV D below (aA 49 a) (Wu E a SS) args s) 23 [(0, .ref (a 3)), (1, .int x1), (2, .int x2)] [] S := by
  obtain ⟨hx, hb, hml, hown, hts, hK, hr, hlocks⟩ := id C
  intro H locs hP hS ls hl
  unfold FB_X3_countWith_23 at h
  refine lv_iload_n (pc := 23) hx hb dX3_countWith_23 rfl (lv_at hl 2 rfl) ?_
  refine lv_iconst (v := 5) (pc := 24) hx hb dX3_countWith_24 (by decide) ?_
  refine lv_icmp_ge (tgt := 87) (pc := 25) hx hb dX3_countWith_25 (by decide) (fun hc => ?_) (fun hc => ?_)
  · have h := if_y hc h
    exact swap_tail hI C h hP hS hl
  · have h := if_n hc h
    refine lv_iconst (v := 0) (pc := 28) hx hb dX3_countWith_28 (by decide) ?_
    refine lv_istore_n (lv' := [(3, .int 0), (0, .ref (a 3)), (1, .int x1), (2, .int x2)]) (pc := 29) hx hb dX3_countWith_29 rfl hl (by decide) rfl (fun ls hl => ?_)
    exact t_X3_countWith_30 hI N C k23 hk23 h H locs hP hS ls (lv_sub hl [1, 2, 3, 0] rfl)
theorem t_X3_countWith_23 {SS : St} (hI : aI 49 a) (N : Nat) (C : bC D E RX3 cX3_countWith 4 none p s m args meth c) {n : Nat} {x1 : Int32} {x2 : Int32} {S : St} (h : lpI (F_X3_countWith_23 N) n (x1, x2, S) = some SS) : gU D (Wu E a) (aA 49 a) p l e (bRm 1 21) s m args below meth c 4 (qV D below (aA 49 a) (Wu E a SS) args s) 23 [(0, .ref (a 3)), (1, .int x1), (2, .int x2)] [] S := by
  exact lpI_ind (P := fun v q => q = SS → gU D (Wu E a) (aA 49 a) p l e (bRm 1 21) s m args below meth c 4 (qV D below (aA 49 a) (Wu E a SS) args s) 23 [(0, .ref (a 3)), (1, .int v.1), (2, .int v.2.1)] [] v.2.2) (fun k hk v q h9 hq => s_X3_countWith_23 hI N C k (fun x1 x2 S h8 => hk (x1, x2, S) _ h8 rfl) (h9.trans (congrArg some hq))) n (x1, x2, S) _ h rfl
def FB_X3_countWith_2 (N : Nat) (k2 : Int32 × Int32 × St → Option (St)) (x1 : Int32) (x2 : Int32) (S : St) : Option (St) :=
  if 31 < x2 then (lpI (F_X3_countWith_23 N) N (x1, 0, S)) else (gd (ix x2 32) (bd (some (sto S 27 (Int32.toNatClampNeg x2) 0)) fun S1 => k2 (x1, (x2 + 1), S1)))
def F_X3_countWith_2 (N : Nat) (k2 : Int32 × Int32 × St → Option (St)) (v : Int32 × Int32 × St) : Option (St) := FB_X3_countWith_2 N k2 v.1 v.2.1 v.2.2
theorem s_X3_countWith_2 {SS : St} (hI : aI 49 a) (N : Nat) (C : bC D E RX3 cX3_countWith 4 none p s m args meth c) (k2 : Int32 × Int32 × St → Option (St)) (hk2 : ∀ (x1 : Int32) (x2 : Int32) (S : St), k2 (x1, x2, S) = some SS → gU D (Wu E a) (aA 49 a) p l e (bRm 1 21) s m args below meth c 4 (qV D below (aA 49 a) (Wu E a SS) args s) 2 [(0, .ref (a 3)), (1, .int x1), (2, .int x2)] [] S) {x1 : Int32} {x2 : Int32} {S : St} (h : FB_X3_countWith_2 N k2 x1 x2 S = some SS) : gU D (Wu E a) (aA 49 a) p l e (bRm 1 21) s m args below meth c 4 (qV D below (aA 49 a) (Wu E a SS) args s) 2 [(0, .ref (a 3)), (1, .int x1), (2, .int x2)] [] S := by
  obtain ⟨hx, hb, hml, hown, hts, hK, hr, hlocks⟩ := id C
  intro H locs hP hS ls hl
  unfold FB_X3_countWith_2 at h
  refine lv_iload_n (pc := 2) hx hb dX3_countWith_2 rfl (lv_at hl 2 rfl) ?_
  refine lv_bipush (v := 31) (pc := 3) hx hb dX3_countWith_3 (by decide) ?_
  refine lv_icmp_gt (tgt := 21) (pc := 5) hx hb dX3_countWith_5 (by decide) (fun hc => ?_) (fun hc => ?_)
  · have h := if_y hc h
    refine lv_iconst (v := 0) (pc := 21) hx hb dX3_countWith_21 (by decide) ?_
    refine lv_istore_n (lv' := [(2, .int 0), (0, .ref (a 3)), (1, .int x1)]) (pc := 22) hx hb dX3_countWith_22 rfl hl (by decide) rfl (fun ls hl => ?_)
    exact t_X3_countWith_23 hI N C h H locs hP hS ls (lv_sub hl [1, 2, 0] rfl)
  · have h := if_n hc h
    refine lv_aload_n (pc := 8) hx hb dX3_countWith_8 rfl (lv_at hl 0 rfl) ?_
    refine va_get (pc := 9) (v := .ref (a27 a (S 3 11))) hx hb hts inB3 hown hK.1 hP 3 wu3 rfl 12 (by decide) (hts _ wd_164) (fun _ h9 => h9) rfl dX3_countWith_9 ?_
    refine lv_iload_n (pc := 12) hx hb dX3_countWith_12 rfl (lv_at hl 2 rfl) ?_
    refine lv_iconst (v := 0) (pc := 13) hx hb dX3_countWith_13 (by decide) ?_
    obtain ⟨hin, h⟩ := gd_some h
    refine r_ast (pc := 14) (𝓦 := Wu E a) hx hb hK hP (dU hI _) hS 27 wu27 wu27s hin dX3_countWith_14 (fun H locs S1 eS1 hP hS => ?_)
    have h := bd_y eS1 h
    refine lv_iinc (v := (x2 + 1)) (lv' := [(2, .int (x2 + 1)), (0, .ref (a 3)), (1, .int x1)]) (pc := 15) hx hb dX3_countWith_15 hl (k := 2) rfl (ii1 _) (by decide) rfl (fun ls hl => ?_)
    refine lv_goto (tgt := 2) (pc := 18) hx hb dX3_countWith_18 (by decide) ?_
    exact hk2 _ _ _ h H locs hP hS ls (lv_sub hl [1, 2, 0] rfl)
theorem t_X3_countWith_2 {SS : St} (hI : aI 49 a) (N : Nat) (C : bC D E RX3 cX3_countWith 4 none p s m args meth c) {n : Nat} {x1 : Int32} {x2 : Int32} {S : St} (h : lpI (F_X3_countWith_2 N) n (x1, x2, S) = some SS) : gU D (Wu E a) (aA 49 a) p l e (bRm 1 21) s m args below meth c 4 (qV D below (aA 49 a) (Wu E a SS) args s) 2 [(0, .ref (a 3)), (1, .int x1), (2, .int x2)] [] S := by
  exact lpI_ind (P := fun v q => q = SS → gU D (Wu E a) (aA 49 a) p l e (bRm 1 21) s m args below meth c 4 (qV D below (aA 49 a) (Wu E a SS) args s) 2 [(0, .ref (a 3)), (1, .int v.1), (2, .int v.2.1)] [] v.2.2) (fun k hk v q h9 hq => s_X3_countWith_2 hI N C k (fun x1 x2 S h8 => hk (x1, x2, S) _ h8 rfl) (h9.trans (congrArg some hq))) n (x1, x2, S) _ h rfl
def f_X3_countWith (N : Nat) (x1 : Int32) (S : St) : Option (St) :=
  lpI (F_X3_countWith_2 N) N (x1, 0, S)
theorem t_X3_countWith_0 {SS : St} (hI : aI 49 a) (N : Nat) (C : bC D E RX3 cX3_countWith 4 none p s m args meth c) {x1 : Int32} {S : St} (h : f_X3_countWith N x1 S = some SS) : gU D (Wu E a) (aA 49 a) p l e (bRm 1 21) s m args below meth c 4 (qV D below (aA 49 a) (Wu E a SS) args s) 0 [(0, .ref (a 3)), (1, .int x1)] [] S := by
  obtain ⟨hx, hb, hml, hown, hts, hK, hr, hlocks⟩ := id C
  intro H locs hP hS ls hl
  unfold f_X3_countWith at h
  refine lv_iconst (v := 0) (pc := 0) hx hb dX3_countWith_0 (by decide) ?_
  refine lv_istore_n (lv' := [(2, .int 0), (0, .ref (a 3)), (1, .int x1)]) (pc := 1) hx hb dX3_countWith_1 rfl hl (by decide) rfl (fun ls hl => ?_)
  exact t_X3_countWith_2 hI N C h H locs hP hS ls (lv_sub hl [1, 2, 0] rfl)
theorem c_X3_countWith {l : Launch} {D : va_G} {E : bE} {a : Nat → Nat} (hI : aI 49 a) (N : Nat) {S : St} {SS : St} {x1 : Int32} (h : f_X3_countWith N x1 S = some SS) : cV l D E yX3_countWith cX3_countWith 4 1 21 (aA 49 a) (Wu E a S) (Wu E a SS) [.ref (a 3), .int x1] := cV_of (by decide) (Nat.le_of_ble_eq_true rfl) (fun p e s m args below meth c C => t_X3_countWith_0 hI N C h)
/-! X3_countGood -/
def FB_X3_countGood_73 (N : Nat) (k73 : Int32 × Int32 × St → Option (Int32 × St)) (x1 : Int32) (x2 : Int32) (S : St) : Option (Int32 × St) :=
  if 31 < x2 then (some (x1, S)) else (gd (ix x2 32) (bd (some (x1 + (S 26 (Int32.toNatClampNeg x2)))) fun y1 => k73 (y1, (x2 + 1), S)))
def F_X3_countGood_73 (N : Nat) (k73 : Int32 × Int32 × St → Option (Int32 × St)) (v : Int32 × Int32 × St) : Option (Int32 × St) := FB_X3_countGood_73 N k73 v.1 v.2.1 v.2.2
theorem s_X3_countGood_73 {rr : Int32} {SS : St} (hI : aI 49 a) (N : Nat) (C : bC D E RX3 cX3_countGood 3 (some .int) p s m args meth c) (k73 : Int32 × Int32 × St → Option (Int32 × St)) (hk73 : ∀ (x1 : Int32) (x2 : Int32) (S : St), k73 (x1, x2, S) = some (rr, SS) → gU D (Wu E a) (aA 49 a) p l e (bRm 2 44) s m args below meth c 3 (qU D below (aA 49 a) (Wu E a SS) rr args s) 73 [(0, .ref (a 3)), (1, .int x1), (2, .int x2)] [] S) {x1 : Int32} {x2 : Int32} {S : St} (h : FB_X3_countGood_73 N k73 x1 x2 S = some (rr, SS)) : gU D (Wu E a) (aA 49 a) p l e (bRm 2 44) s m args below meth c 3 (qU D below (aA 49 a) (Wu E a SS) rr args s) 73 [(0, .ref (a 3)), (1, .int x1), (2, .int x2)] [] S := by
  obtain ⟨hx, hb, hml, hown, hts, hK, hr, hlocks⟩ := id C
  intro H locs hP hS ls hl
  unfold FB_X3_countGood_73 at h
  refine lv_iload_n (pc := 73) hx hb dX3_countGood_73 rfl (lv_at hl 2 rfl) ?_
  refine lv_bipush (v := 31) (pc := 74) hx hb dX3_countGood_74 (by decide) ?_
  refine lv_icmp_gt (tgt := 94) (pc := 76) hx hb dX3_countGood_76 (by decide) (fun hc => ?_) (fun hc => ?_)
  · have h := if_y hc h
    refine lv_iload_n (pc := 94) hx hb dX3_countGood_94 rfl (lv_at hl 1 rfl) ?_
    exact r_retU (pc := 95) (𝓦 := Wu E a) C h hP hS dX3_countGood_95
  · have h := if_n hc h
    refine lv_iload_n (pc := 79) hx hb dX3_countGood_79 rfl (lv_at hl 1 rfl) ?_
    refine lv_aload_n (pc := 80) hx hb dX3_countGood_80 rfl (lv_at hl 0 rfl) ?_
    refine va_get (pc := 81) (v := .ref (a26 a (S 3 11))) hx hb hts inB3 hown hK.1 hP 3 wu3 rfl 11 (by decide) (hts _ wd_163) (fun _ h9 => h9) rfl dX3_countGood_81 ?_
    refine lv_iload_n (pc := 84) hx hb dX3_countGood_84 rfl (lv_at hl 2 rfl) ?_
    obtain ⟨hin, h⟩ := gd_some h
    refine r_ald (pc := 85) hx hb hK hP 26 wu26 hin dX3_countGood_85 ?_
    refine lv_iadd (pc := 86) hx hb dX3_countGood_86 ?_
    refine lv_topi (fun y1 ey1 => ?_)
    have h := bd_y ey1 h
    refine lv_istore_n (lv' := [(1, .int y1), (0, .ref (a 3)), (2, .int x2)]) (pc := 87) hx hb dX3_countGood_87 rfl hl (by decide) rfl (fun ls hl => ?_)
    refine lv_iinc (v := (x2 + 1)) (lv' := [(2, .int (x2 + 1)), (1, .int y1), (0, .ref (a 3))]) (pc := 88) hx hb dX3_countGood_88 hl (k := 2) rfl (ii1 _) (by decide) rfl (fun ls hl => ?_)
    refine lv_goto (tgt := 73) (pc := 91) hx hb dX3_countGood_91 (by decide) ?_
    exact hk73 _ _ _ h H locs hP hS ls (lv_sub hl [2, 1, 0] rfl)
theorem t_X3_countGood_73 {rr : Int32} {SS : St} (hI : aI 49 a) (N : Nat) (C : bC D E RX3 cX3_countGood 3 (some .int) p s m args meth c) {n : Nat} {x1 : Int32} {x2 : Int32} {S : St} (h : lpI (F_X3_countGood_73 N) n (x1, x2, S) = some (rr, SS)) : gU D (Wu E a) (aA 49 a) p l e (bRm 2 44) s m args below meth c 3 (qU D below (aA 49 a) (Wu E a SS) rr args s) 73 [(0, .ref (a 3)), (1, .int x1), (2, .int x2)] [] S := by
  exact lpI_ind (P := fun v q => q = (rr, SS) → gU D (Wu E a) (aA 49 a) p l e (bRm 2 44) s m args below meth c 3 (qU D below (aA 49 a) (Wu E a SS) rr args s) 73 [(0, .ref (a 3)), (1, .int v.1), (2, .int v.2.1)] [] v.2.2) (fun k hk v q h9 hq => s_X3_countGood_73 hI N C k (fun x1 x2 S h8 => hk (x1, x2, S) _ h8 rfl) (h9.trans (congrArg some hq))) n (x1, x2, S) _ h rfl
def FB_X3_countGood_41 (N : Nat) (k41 : Int32 × St → Option (Int32 × St)) (x1 : Int32) (S : St) : Option (Int32 × St) :=
  if 6 ≤ x1 then (lpI (F_X3_countGood_73 N) N (0, 1, S)) else (bd (f_X4_has (S 3 5) x1) fun r1 => if r1 = 0 then (k41 ((x1 + 1), S)) else (bd (f_X3_countWith N x1 S) fun S1 => k41 ((x1 + 1), S1)))
def F_X3_countGood_41 (N : Nat) (k41 : Int32 × St → Option (Int32 × St)) (v : Int32 × St) : Option (Int32 × St) := FB_X3_countGood_41 N k41 v.1 v.2
theorem s_X3_countGood_41 {rr : Int32} {SS : St} (hI : aI 49 a) (N : Nat) (C : bC D E RX3 cX3_countGood 3 (some .int) p s m args meth c) (k41 : Int32 × St → Option (Int32 × St)) (hk41 : ∀ (x1 : Int32) (S : St), k41 (x1, S) = some (rr, SS) → gU D (Wu E a) (aA 49 a) p l e (bRm 2 44) s m args below meth c 3 (qU D below (aA 49 a) (Wu E a SS) rr args s) 41 [(0, .ref (a 3)), (1, .int x1)] [] S) {x1 : Int32} {S : St} (h : FB_X3_countGood_41 N k41 x1 S = some (rr, SS)) : gU D (Wu E a) (aA 49 a) p l e (bRm 2 44) s m args below meth c 3 (qU D below (aA 49 a) (Wu E a SS) rr args s) 41 [(0, .ref (a 3)), (1, .int x1)] [] S := by
  obtain ⟨hx, hb, hml, hown, hts, hK, hr, hlocks⟩ := id C
  intro H locs hP hS ls hl
  unfold FB_X3_countGood_41 at h
  refine lv_iload_n (pc := 41) hx hb dX3_countGood_41 rfl (lv_at hl 1 rfl) ?_
  refine lv_bipush (v := 6) (pc := 42) hx hb dX3_countGood_42 (by decide) ?_
  refine lv_icmp_ge (tgt := 69) (pc := 44) hx hb dX3_countGood_44 (by decide) (fun hc => ?_) (fun hc => ?_)
  · have h := if_y hc h
    refine lv_iconst (v := 0) (pc := 69) hx hb dX3_countGood_69 (by decide) ?_
    refine lv_istore_n (lv' := [(1, .int 0), (0, .ref (a 3))]) (pc := 70) hx hb dX3_countGood_70 rfl hl (by decide) rfl (fun ls hl => ?_)
    refine lv_iconst (v := 1) (pc := 71) hx hb dX3_countGood_71 (by decide) ?_
    refine lv_istore_n (lv' := [(2, .int 1), (1, .int 0), (0, .ref (a 3))]) (pc := 72) hx hb dX3_countGood_72 rfl hl (by decide) rfl (fun ls hl => ?_)
    exact t_X3_countGood_73 hI N C h H locs hP hS ls (lv_sub hl [2, 1, 0] rfl)
  · have h := if_n hc h
    refine lv_aload_n (pc := 47) hx hb dX3_countGood_47 rfl (lv_at hl 0 rfl) ?_
    refine va_get (pc := 48) (v := .int (S 3 5)) hx hb hts inB3 hown hK.1 hP 3 wu3 rfl 5 (by decide) (hts _ wd_156) (fun _ h9 => h9) rfl dX3_countGood_48 ?_
    refine lv_iload_n (pc := 51) hx hb dX3_countGood_51 rfl (lv_at hl 1 rfl) ?_
    obtain ⟨r1, hr1, h⟩ := bd_some h
    refine r_callSN (pc := 52) (host := RX4) C (c_X4_has hr1) k_X4_has nst_6 ⟨Nat.le_of_ble_eq_true rfl, Nat.le_of_ble_eq_true rfl⟩ rfl hl.1 rfl (Nat.le_of_ble_eq_true rfl) dX3_countGood_52 ⟨Nat.zero_le _, Nat.zero_le _⟩ ?_
    refine lv_if_eq (tgt := 63) (pc := 55) hx hb dX3_countGood_55 (by decide) (fun hc => ?_) (fun hc => ?_)
    · have h := if_y hc h
      refine lv_iinc (v := (x1 + 1)) (lv' := [(1, .int (x1 + 1)), (0, .ref (a 3))]) (pc := 63) hx hb dX3_countGood_63 hl (k := 1) rfl (ii1 _) (by decide) rfl (fun ls hl => ?_)
      refine lv_goto (tgt := 41) (pc := 66) hx hb dX3_countGood_66 (by decide) ?_
      exact hk41 _ _ h H locs hP hS ls (lv_sub hl [1, 0] rfl)
    · have h := if_n hc h
      refine lv_aload_n (pc := 58) hx hb dX3_countGood_58 rfl (lv_at hl 0 rfl) ?_
      refine lv_iload_n (pc := 59) hx hb dX3_countGood_59 rfl (lv_at hl 1 rfl) ?_
      obtain ⟨S1, hS1, h⟩ := bd_some h
      refine r_callV (pc := 60) C hP hS (c_X3_countWith hI N hS1) k_X3_countWith wd_431 (q0 := 3) wu3 rfl rfl ⟨Nat.le_of_ble_eq_true rfl, Nat.le_of_ble_eq_true rfl⟩ rfl hl.1 rfl (Nat.le_of_ble_eq_true rfl) dX3_countGood_60 ⟨Nat.zero_le _, Nat.zero_le _⟩ (fun H locs hP hS => ?_)
      refine lv_iinc (v := (x1 + 1)) (lv' := [(1, .int (x1 + 1)), (0, .ref (a 3))]) (pc := 63) hx hb dX3_countGood_63 hl (k := 1) rfl (ii1 _) (by decide) rfl (fun ls hl => ?_)
      refine lv_goto (tgt := 41) (pc := 66) hx hb dX3_countGood_66 (by decide) ?_
      exact hk41 _ _ h H locs hP hS ls (lv_sub hl [1, 0] rfl)
theorem t_X3_countGood_41 {rr : Int32} {SS : St} (hI : aI 49 a) (N : Nat) (C : bC D E RX3 cX3_countGood 3 (some .int) p s m args meth c) {n : Nat} {x1 : Int32} {S : St} (h : lpI (F_X3_countGood_41 N) n (x1, S) = some (rr, SS)) : gU D (Wu E a) (aA 49 a) p l e (bRm 2 44) s m args below meth c 3 (qU D below (aA 49 a) (Wu E a SS) rr args s) 41 [(0, .ref (a 3)), (1, .int x1)] [] S := by
  exact lpI_ind (P := fun v q => q = (rr, SS) → gU D (Wu E a) (aA 49 a) p l e (bRm 2 44) s m args below meth c 3 (qU D below (aA 49 a) (Wu E a SS) rr args s) 41 [(0, .ref (a 3)), (1, .int v.1)] [] v.2) (fun k hk v q h9 hq => s_X3_countGood_41 hI N C k (fun x1 S h8 => hk (x1, S) _ h8 rfl) (h9.trans (congrArg some hq))) n (x1, S) _ h rfl
def FB_X3_countGood_2 (N : Nat) (k2 : Int32 × St → Option (Int32 × St)) (x1 : Int32) (S : St) : Option (Int32 × St) :=
  if 31 < x1 then (gd (ix (S 2 9) 6) (gd (ix (S 18 (Int32.toNatClampNeg (S 2 9))) 32) (bd (some (sto S 26 (Int32.toNatClampNeg (S 18 (Int32.toNatClampNeg (S 2 9)))) 1)) fun S1 => lpI (F_X3_countGood_41 N) N (0, S1)))) else (gd (ix x1 32) (bd (some (sto S 26 (Int32.toNatClampNeg x1) 0)) fun S2 => k2 ((x1 + 1), S2)))
def F_X3_countGood_2 (N : Nat) (k2 : Int32 × St → Option (Int32 × St)) (v : Int32 × St) : Option (Int32 × St) := FB_X3_countGood_2 N k2 v.1 v.2
theorem s_X3_countGood_2 {rr : Int32} {SS : St} (hI : aI 49 a) (N : Nat) (C : bC D E RX3 cX3_countGood 3 (some .int) p s m args meth c) (k2 : Int32 × St → Option (Int32 × St)) (hk2 : ∀ (x1 : Int32) (S : St), k2 (x1, S) = some (rr, SS) → gU D (Wu E a) (aA 49 a) p l e (bRm 2 44) s m args below meth c 3 (qU D below (aA 49 a) (Wu E a SS) rr args s) 2 [(0, .ref (a 3)), (1, .int x1)] [] S) {x1 : Int32} {S : St} (h : FB_X3_countGood_2 N k2 x1 S = some (rr, SS)) : gU D (Wu E a) (aA 49 a) p l e (bRm 2 44) s m args below meth c 3 (qU D below (aA 49 a) (Wu E a SS) rr args s) 2 [(0, .ref (a 3)), (1, .int x1)] [] S := by
  obtain ⟨hx, hb, hml, hown, hts, hK, hr, hlocks⟩ := id C
  intro H locs hP hS ls hl
  unfold FB_X3_countGood_2 at h
  refine lv_iload_n (pc := 2) hx hb dX3_countGood_2 rfl (lv_at hl 1 rfl) ?_
  refine lv_bipush (v := 31) (pc := 3) hx hb dX3_countGood_3 (by decide) ?_
  refine lv_icmp_gt (tgt := 21) (pc := 5) hx hb dX3_countGood_5 (by decide) (fun hc => ?_) (fun hc => ?_)
  · have h := if_y hc h
    refine lv_aload_n (pc := 21) hx hb dX3_countGood_21 rfl (lv_at hl 0 rfl) ?_
    refine va_get (pc := 22) (v := .ref (a26 a (S 3 11))) hx hb hts inB3 hown hK.1 hP 3 wu3 rfl 11 (by decide) (hts _ wd_163) (fun _ h9 => h9) rfl dX3_countGood_22 ?_
    refine lv_aload_n (pc := 25) hx hb dX3_countGood_25 rfl (lv_at hl 0 rfl) ?_
    refine va_get (pc := 26) (v := .ref (a 18)) hx hb hts inB3 hown hK.1 hP 3 wu3 rfl 1 (by decide) (hts _ wd_148) (fun _ h9 => h9) rfl dX3_countGood_26 ?_
    refine lv_aload_n (pc := 29) hx hb dX3_countGood_29 rfl (lv_at hl 0 rfl) ?_
    refine va_get (pc := 30) (v := .ref (a 2)) hx hb hts inB3 hown hK.1 hP 3 wu3 rfl 0 (by decide) (hts _ wd_146) (fun _ h9 => h9) rfl dX3_countGood_30 ?_
    refine va_get (pc := 33) (v := .int (S 2 9)) hx hb hts inB0 hown hK.1 hP 2 wu2 rfl 9 (by decide) (hts _ wd_119) (fun _ h9 => h9) rfl dX3_countGood_33 ?_
    obtain ⟨hin, h⟩ := gd_some h
    refine r_ald (pc := 36) hx hb hK hP 18 wu18 hin dX3_countGood_36 ?_
    refine lv_iconst (v := 1) (pc := 37) hx hb dX3_countGood_37 (by decide) ?_
    obtain ⟨hin, h⟩ := gd_some h
    refine r_ast (pc := 38) (𝓦 := Wu E a) hx hb hK hP (dU hI _) hS 26 wu26 wu26s hin dX3_countGood_38 (fun H locs S1 eS1 hP hS => ?_)
    have h := bd_y eS1 h
    refine lv_iconst (v := 0) (pc := 39) hx hb dX3_countGood_39 (by decide) ?_
    refine lv_istore_n (lv' := [(1, .int 0), (0, .ref (a 3))]) (pc := 40) hx hb dX3_countGood_40 rfl hl (by decide) rfl (fun ls hl => ?_)
    exact t_X3_countGood_41 hI N C h H locs hP hS ls (lv_sub hl [1, 0] rfl)
  · have h := if_n hc h
    refine lv_aload_n (pc := 8) hx hb dX3_countGood_8 rfl (lv_at hl 0 rfl) ?_
    refine va_get (pc := 9) (v := .ref (a26 a (S 3 11))) hx hb hts inB3 hown hK.1 hP 3 wu3 rfl 11 (by decide) (hts _ wd_163) (fun _ h9 => h9) rfl dX3_countGood_9 ?_
    refine lv_iload_n (pc := 12) hx hb dX3_countGood_12 rfl (lv_at hl 1 rfl) ?_
    refine lv_iconst (v := 0) (pc := 13) hx hb dX3_countGood_13 (by decide) ?_
    obtain ⟨hin, h⟩ := gd_some h
    refine r_ast (pc := 14) (𝓦 := Wu E a) hx hb hK hP (dU hI _) hS 26 wu26 wu26s hin dX3_countGood_14 (fun H locs S2 eS2 hP hS => ?_)
    have h := bd_y eS2 h
    refine lv_iinc (v := (x1 + 1)) (lv' := [(1, .int (x1 + 1)), (0, .ref (a 3))]) (pc := 15) hx hb dX3_countGood_15 hl (k := 1) rfl (ii1 _) (by decide) rfl (fun ls hl => ?_)
    refine lv_goto (tgt := 2) (pc := 18) hx hb dX3_countGood_18 (by decide) ?_
    exact hk2 _ _ h H locs hP hS ls (lv_sub hl [1, 0] rfl)
theorem t_X3_countGood_2 {rr : Int32} {SS : St} (hI : aI 49 a) (N : Nat) (C : bC D E RX3 cX3_countGood 3 (some .int) p s m args meth c) {n : Nat} {x1 : Int32} {S : St} (h : lpI (F_X3_countGood_2 N) n (x1, S) = some (rr, SS)) : gU D (Wu E a) (aA 49 a) p l e (bRm 2 44) s m args below meth c 3 (qU D below (aA 49 a) (Wu E a SS) rr args s) 2 [(0, .ref (a 3)), (1, .int x1)] [] S := by
  exact lpI_ind (P := fun v q => q = (rr, SS) → gU D (Wu E a) (aA 49 a) p l e (bRm 2 44) s m args below meth c 3 (qU D below (aA 49 a) (Wu E a SS) rr args s) 2 [(0, .ref (a 3)), (1, .int v.1)] [] v.2) (fun k hk v q h9 hq => s_X3_countGood_2 hI N C k (fun x1 S h8 => hk (x1, S) _ h8 rfl) (h9.trans (congrArg some hq))) n (x1, S) _ h rfl
def f_X3_countGood (N : Nat) (S : St) : Option (Int32 × St) :=
  lpI (F_X3_countGood_2 N) N (0, S)
theorem t_X3_countGood_0 {rr : Int32} {SS : St} (hI : aI 49 a) (N : Nat) (C : bC D E RX3 cX3_countGood 3 (some .int) p s m args meth c) {S : St} (h : f_X3_countGood N S = some (rr, SS)) : gU D (Wu E a) (aA 49 a) p l e (bRm 2 44) s m args below meth c 3 (qU D below (aA 49 a) (Wu E a SS) rr args s) 0 [(0, .ref (a 3))] [] S := by
  obtain ⟨hx, hb, hml, hown, hts, hK, hr, hlocks⟩ := id C
  intro H locs hP hS ls hl
  unfold f_X3_countGood at h
  refine lv_iconst (v := 0) (pc := 0) hx hb dX3_countGood_0 (by decide) ?_
  refine lv_istore_n (lv' := [(1, .int 0), (0, .ref (a 3))]) (pc := 1) hx hb dX3_countGood_1 rfl hl (by decide) rfl (fun ls hl => ?_)
  exact t_X3_countGood_2 hI N C h H locs hP hS ls (lv_sub hl [1, 0] rfl)
theorem c_X3_countGood {l : Launch} {D : va_G} {E : bE} {a : Nat → Nat} (hI : aI 49 a) (N : Nat) {rr : Int32} {S : St} {SS : St} (h : f_X3_countGood N S = some (rr, SS)) : cU l D E yX3_countGood cX3_countGood 3 (some .int) 2 44 (aA 49 a) (Wu E a S) (Wu E a SS) [.ref (a 3)] rr := cU_of (by decide) (Nat.le_of_ble_eq_true rfl) (fun p e s m args below meth c C => t_X3_countGood_0 hI N C h)
/-! X4_good -/
def f_X4_good (N : Nat) (S : St) : Option (Int32 × St) :=
  bd (f_X3_spin N S) fun S1 => bd2 (f_X3_countGood N S1) fun r1 S2 => some (r1, S2)
theorem t_X4_good_0 {rr : Int32} {SS : St} (hI : aI 49 a) (N : Nat) (C : bC D E RX4 cX4_good 1 (some .int) p s m args meth c) {S : St} (h : f_X4_good N S = some (rr, SS)) : gU D (Wu E a) (aA 49 a) p l e (bRm 4 90) s m args below meth c 1 (qU D below (aA 49 a) (Wu E a SS) rr args s) 0 [(0, .ref (a 0))] [] S := by
  obtain ⟨hx, hb, hml, hown, hts, hK, hr, hlocks⟩ := id C
  intro H locs hP hS ls hl
  unfold f_X4_good at h
  refine lv_aload_n (pc := 0) hx hb dX4_good_0 rfl (lv_at hl 0 rfl) ?_
  refine va_get (pc := 1) (v := .ref (a 3)) hx hb hts inB4 hown hK.1 hP 0 wu0 rfl 1 (by decide) (hts _ wd_218) (fun _ h9 => h9) rfl dX4_good_1 ?_
  obtain ⟨S1, hS1, h⟩ := bd_some h
  refine r_callV (pc := 4) C hP hS (c_X3_spin hI N hS1) k_X3_spin wd_331 (q0 := 3) wu3 rfl rfl ⟨Nat.le_of_ble_eq_true rfl, Nat.le_of_ble_eq_true rfl⟩ rfl hl.1 rfl (Nat.le_of_ble_eq_true rfl) dX4_good_4 ⟨Nat.zero_le _, Nat.zero_le _⟩ (fun H locs hP hS => ?_)
  refine lv_aload_n (pc := 7) hx hb dX4_good_7 rfl (lv_at hl 0 rfl) ?_
  refine va_get (pc := 8) (v := .ref (a 3)) hx hb hts inB4 hown hK.1 hP 0 wu0 rfl 1 (by decide) (hts _ wd_218) (fun _ h9 => h9) rfl dX4_good_8 ?_
  obtain ⟨r1, S2, hr1, h⟩ := bd2_some h
  refine r_callU (pc := 11) C hP hS (c_X3_countGood hI N hr1) k_X3_countGood wd_427 (q0 := 3) wu3 rfl rfl ⟨Nat.le_of_ble_eq_true rfl, Nat.le_of_ble_eq_true rfl⟩ rfl hl.1 rfl (Nat.le_of_ble_eq_true rfl) dX4_good_11 ⟨Nat.zero_le _, Nat.zero_le _⟩ (fun H locs hP hS => ?_)
  exact r_retU (pc := 14) (𝓦 := Wu E a) C h hP hS dX4_good_14
theorem c_X4_good {l : Launch} {D : va_G} {E : bE} {a : Nat → Nat} (hI : aI 49 a) (N : Nat) {rr : Int32} {S : St} {SS : St} (h : f_X4_good N S = some (rr, SS)) : cU l D E yX4_good cX4_good 1 (some .int) 4 90 (aA 49 a) (Wu E a S) (Wu E a SS) [.ref (a 0)] rr := cU_of (by decide) (Nat.le_of_ble_eq_true rfl) (fun p e s m args below meth c C => t_X4_good_0 hI N C h)
/-! X3_someGoodWith -/
def f_X3_someGoodWith (N : Nat) (x1 : Int32) (S : St) : Option (Int32 × St) :=
  bd2 (f_X3_room N x1 31 S) fun r1 S1 => if r1 = 0 then (some (0, S1)) else (some (1, S1))
theorem t_X3_someGoodWith_0 {rr : Int32} {SS : St} (hI : aI 49 a) (N : Nat) (C : bC D E RX3 cX3_someGoodWith 2 (some .boolean) p s m args meth c) {x1 : Int32} {S : St} (h : f_X3_someGoodWith N x1 S = some (rr, SS)) : gU D (Wu E a) (aA 49 a) p l e (bRm 4 91) s m args below meth c 2 (qU D below (aA 49 a) (Wu E a SS) rr args s) 0 [(0, .ref (a 3)), (1, .int x1)] [] S := by
  obtain ⟨hx, hb, hml, hown, hts, hK, hr, hlocks⟩ := id C
  intro H locs hP hS ls hl
  unfold f_X3_someGoodWith at h
  refine lv_aload_n (pc := 0) hx hb dX3_someGoodWith_0 rfl (lv_at hl 0 rfl) ?_
  refine lv_iload_n (pc := 1) hx hb dX3_someGoodWith_1 rfl (lv_at hl 1 rfl) ?_
  refine lv_bipush (v := 31) (pc := 2) hx hb dX3_someGoodWith_2 (by decide) ?_
  obtain ⟨r1, S1, hr1, h⟩ := bd2_some h
  refine r_callU (pc := 4) C hP hS (c_X3_room hI N hr1) k_X3_room wd_400 (q0 := 3) wu3 rfl rfl ⟨Nat.le_of_ble_eq_true rfl, Nat.le_of_ble_eq_true rfl⟩ rfl hl.1 rfl (Nat.le_of_ble_eq_true rfl) dX3_someGoodWith_4 ⟨Nat.zero_le _, Nat.zero_le _⟩ (fun H locs hP hS => ?_)
  refine lv_if_eq (tgt := 14) (pc := 7) hx hb dX3_someGoodWith_7 (by decide) (fun hc => ?_) (fun hc => ?_)
  · have h := if_y hc h
    refine lv_iconst (v := 0) (pc := 14) hx hb dX3_someGoodWith_14 (by decide) ?_
    exact r_retUZ (pc := 15) (𝓦 := Wu E a) C (gd_lit (by decide) h) hP hS dX3_someGoodWith_15
  · have h := if_n hc h
    refine lv_iconst (v := 1) (pc := 10) hx hb dX3_someGoodWith_10 (by decide) ?_
    refine lv_goto (tgt := 15) (pc := 11) hx hb dX3_someGoodWith_11 (by decide) ?_
    exact r_retUZ (pc := 15) (𝓦 := Wu E a) C (gd_lit (by decide) h) hP hS dX3_someGoodWith_15
theorem c_X3_someGoodWith {l : Launch} {D : va_G} {E : bE} {a : Nat → Nat} (hI : aI 49 a) (N : Nat) {rr : Int32} {S : St} {SS : St} {x1 : Int32} (h : f_X3_someGoodWith N x1 S = some (rr, SS)) : cU l D E yX3_someGoodWith cX3_someGoodWith 2 (some .boolean) 4 91 (aA 49 a) (Wu E a S) (Wu E a SS) [.ref (a 3), .int x1] rr := cU_of (by decide) (Nat.le_of_ble_eq_true rfl) (fun p e s m args below meth c C => t_X3_someGoodWith_0 hI N C h)
/-! X4_fewestBarring -/
def B_X4_fewestBarring_32 (N : Nat) (k10 : Int32 × Int32 × St → Option (Int32 × St)) (x1 : Int32) (x2 : Int32) (z0 : Int32) (S : St) : Option (Int32 × St) :=
  if z0 = 0 then (k10 (x1, (x2 + 1), S)) else (bd (f_X4_isPartOf x2 (S 3 5)) fun r1 => if r1 = 0 then (k10 (x1, (x2 + 1), S)) else (bd2 (f_X3_someGoodWith N x2 S) fun r2 S1 => if r2 = 0 then (k10 (x2, (x2 + 1), S1)) else (k10 (x1, (x2 + 1), S1))))
theorem t_X4_fewestBarring_32 {rr : Int32} {SS : St} (hI : aI 49 a) (N : Nat) (C : bC D E RX4 cX4_fewestBarring 4 (some .int) p s m args meth c) (k10 : Int32 × Int32 × St → Option (Int32 × St)) (hk10 : ∀ (x1 : Int32) (x2 : Int32) (S : St), k10 (x1, x2, S) = some (rr, SS) → gU D (Wu E a) (aA 49 a) p l e (bRm 5 112) s m args below meth c 4 (qU D below (aA 49 a) (Wu E a SS) rr args s) 10 [(0, .ref (a 0)), (1, .int x1), (2, .int x2)] [] S) {x1 : Int32} {x2 : Int32} {z0 : Int32} {S : St} (h : B_X4_fewestBarring_32 N k10 x1 x2 z0 S = some (rr, SS)) : gU D (Wu E a) (aA 49 a) p l e (bRm 5 112) s m args below meth c 4 (qU D below (aA 49 a) (Wu E a SS) rr args s) 32 [(0, .ref (a 0)), (1, .int x1), (2, .int x2)] [.int z0] S := by
  obtain ⟨hx, hb, hml, hown, hts, hK, hr, hlocks⟩ := id C
  intro H locs hP hS ls hl
  unfold B_X4_fewestBarring_32 at h
  refine lv_istore_n (lv' := [(3, .int z0), (0, .ref (a 0)), (1, .int x1), (2, .int x2)]) (pc := 32) hx hb dX4_fewestBarring_32 rfl hl (by decide) rfl (fun ls hl => ?_)
  refine lv_iload_n (pc := 33) hx hb dX4_fewestBarring_33 rfl (lv_at hl 0 rfl) ?_
  refine lv_if_eq (tgt := 64) (pc := 34) hx hb dX4_fewestBarring_34 (by decide) (fun hc => ?_) (fun hc => ?_)
  · have h := if_y hc h
    refine lv_iinc (v := (x2 + 1)) (lv' := [(2, .int (x2 + 1)), (3, .int z0), (0, .ref (a 0)), (1, .int x1)]) (pc := 64) hx hb dX4_fewestBarring_64 hl (k := 3) rfl (ii1 _) (by decide) rfl (fun ls hl => ?_)
    refine lv_goto (tgt := 10) (pc := 67) hx hb dX4_fewestBarring_67 (by decide) ?_
    exact hk10 _ _ _ h H locs hP hS ls (lv_sub hl [2, 3, 0] rfl)
  · have h := if_n hc h
    refine lv_iload_n (pc := 37) hx hb dX4_fewestBarring_37 rfl (lv_at hl 3 rfl) ?_
    refine lv_aload_n (pc := 38) hx hb dX4_fewestBarring_38 rfl (lv_at hl 1 rfl) ?_
    refine va_get (pc := 39) (v := .ref (a 3)) hx hb hts inB4 hown hK.1 hP 0 wu0 rfl 1 (by decide) (hts _ wd_218) (fun _ h9 => h9) rfl dX4_fewestBarring_39 ?_
    refine va_get (pc := 42) (v := .int (S 3 5)) hx hb hts inB3 hown hK.1 hP 3 wu3 rfl 5 (by decide) (hts _ wd_157) (fun _ h9 => h9) rfl dX4_fewestBarring_42 ?_
    obtain ⟨r1, hr1, h⟩ := bd_some h
    refine r_callS (pc := 45) C (c_X4_isPartOf hr1) k_X4_isPartOf wd_448 ⟨Nat.le_of_ble_eq_true rfl, Nat.le_of_ble_eq_true rfl⟩ rfl hl.1 rfl (Nat.le_of_ble_eq_true rfl) dX4_fewestBarring_45 ⟨Nat.zero_le _, Nat.zero_le _⟩ ?_
    refine lv_if_eq (tgt := 64) (pc := 48) hx hb dX4_fewestBarring_48 (by decide) (fun hc => ?_) (fun hc => ?_)
    · have h := if_y hc h
      refine lv_iinc (v := (x2 + 1)) (lv' := [(2, .int (x2 + 1)), (3, .int z0), (0, .ref (a 0)), (1, .int x1)]) (pc := 64) hx hb dX4_fewestBarring_64 hl (k := 3) rfl (ii1 _) (by decide) rfl (fun ls hl => ?_)
      refine lv_goto (tgt := 10) (pc := 67) hx hb dX4_fewestBarring_67 (by decide) ?_
      exact hk10 _ _ _ h H locs hP hS ls (lv_sub hl [2, 3, 0] rfl)
    · have h := if_n hc h
      refine lv_aload_n (pc := 51) hx hb dX4_fewestBarring_51 rfl (lv_at hl 1 rfl) ?_
      refine va_get (pc := 52) (v := .ref (a 3)) hx hb hts inB4 hown hK.1 hP 0 wu0 rfl 1 (by decide) (hts _ wd_218) (fun _ h9 => h9) rfl dX4_fewestBarring_52 ?_
      refine lv_iload_n (pc := 55) hx hb dX4_fewestBarring_55 rfl (lv_at hl 3 rfl) ?_
      obtain ⟨r2, S1, hr2, h⟩ := bd2_some h
      refine r_callU (pc := 56) C hP hS (c_X3_someGoodWith hI N hr2) k_X3_someGoodWith wd_439 (q0 := 3) wu3 rfl rfl ⟨Nat.le_of_ble_eq_true rfl, Nat.le_of_ble_eq_true rfl⟩ rfl hl.1 rfl (Nat.le_of_ble_eq_true rfl) dX4_fewestBarring_56 ⟨Nat.zero_le _, Nat.zero_le _⟩ (fun H locs hP hS => ?_)
      refine lv_if_ne (tgt := 64) (pc := 59) hx hb dX4_fewestBarring_59 (by decide) (fun hc => ?_) (fun hc => ?_)
      · have h := if_n hc h
        refine lv_iinc (v := (x2 + 1)) (lv' := [(2, .int (x2 + 1)), (3, .int z0), (0, .ref (a 0)), (1, .int x1)]) (pc := 64) hx hb dX4_fewestBarring_64 hl (k := 3) rfl (ii1 _) (by decide) rfl (fun ls hl => ?_)
        refine lv_goto (tgt := 10) (pc := 67) hx hb dX4_fewestBarring_67 (by decide) ?_
        exact hk10 _ _ _ h H locs hP hS ls (lv_sub hl [2, 3, 0] rfl)
      · have h := if_y hc h
        refine lv_iload_n (pc := 62) hx hb dX4_fewestBarring_62 rfl (lv_at hl 3 rfl) ?_
        refine lv_istore_n (lv' := [(1, .int x2), (3, .int z0), (0, .ref (a 0)), (2, .int x2)]) (pc := 63) hx hb dX4_fewestBarring_63 rfl hl (by decide) rfl (fun ls hl => ?_)
        refine lv_iinc (v := (x2 + 1)) (lv' := [(2, .int (x2 + 1)), (1, .int x2), (3, .int z0), (0, .ref (a 0))]) (pc := 64) hx hb dX4_fewestBarring_64 hl (k := 3) rfl (ii1 _) (by decide) rfl (fun ls hl => ?_)
        refine lv_goto (tgt := 10) (pc := 67) hx hb dX4_fewestBarring_67 (by decide) ?_
        exact hk10 _ _ _ h H locs hP hS ls (lv_sub hl [3, 1, 0] rfl)
def FB_X4_fewestBarring_10 (N : Nat) (k10 : Int32 × Int32 × St → Option (Int32 × St)) (x1 : Int32) (x2 : Int32) (S : St) : Option (Int32 × St) :=
  if 63 < x2 then (some (x1, S)) else (bd (f_J6_bitCount_0f7a4 x2) fun r1 => bd (f_J6_bitCount_0f7a4 x1) fun r2 => if r2 ≤ r1 then (B_X4_fewestBarring_32 N k10 x1 x2 0 S) else (B_X4_fewestBarring_32 N k10 x1 x2 1 S))
def F_X4_fewestBarring_10 (N : Nat) (k10 : Int32 × Int32 × St → Option (Int32 × St)) (v : Int32 × Int32 × St) : Option (Int32 × St) := FB_X4_fewestBarring_10 N k10 v.1 v.2.1 v.2.2
theorem s_X4_fewestBarring_10 {rr : Int32} {SS : St} (hI : aI 49 a) (N : Nat) (C : bC D E RX4 cX4_fewestBarring 4 (some .int) p s m args meth c) (k10 : Int32 × Int32 × St → Option (Int32 × St)) (hk10 : ∀ (x1 : Int32) (x2 : Int32) (S : St), k10 (x1, x2, S) = some (rr, SS) → gU D (Wu E a) (aA 49 a) p l e (bRm 5 112) s m args below meth c 4 (qU D below (aA 49 a) (Wu E a SS) rr args s) 10 [(0, .ref (a 0)), (1, .int x1), (2, .int x2)] [] S) {x1 : Int32} {x2 : Int32} {S : St} (h : FB_X4_fewestBarring_10 N k10 x1 x2 S = some (rr, SS)) : gU D (Wu E a) (aA 49 a) p l e (bRm 5 112) s m args below meth c 4 (qU D below (aA 49 a) (Wu E a SS) rr args s) 10 [(0, .ref (a 0)), (1, .int x1), (2, .int x2)] [] S := by
  obtain ⟨hx, hb, hml, hown, hts, hK, hr, hlocks⟩ := id C
  intro H locs hP hS ls hl
  unfold FB_X4_fewestBarring_10 at h
  refine lv_iload_n (pc := 10) hx hb dX4_fewestBarring_10 rfl (lv_at hl 2 rfl) ?_
  refine lv_bipush (v := 63) (pc := 11) hx hb dX4_fewestBarring_11 (by decide) ?_
  refine lv_icmp_gt (tgt := 70) (pc := 13) hx hb dX4_fewestBarring_13 (by decide) (fun hc => ?_) (fun hc => ?_)
  · have h := if_y hc h
    refine lv_iload_n (pc := 70) hx hb dX4_fewestBarring_70 rfl (lv_at hl 1 rfl) ?_
    exact r_retU (pc := 71) (𝓦 := Wu E a) C h hP hS dX4_fewestBarring_71
  · have h := if_n hc h
    refine lv_iload_n (pc := 16) hx hb dX4_fewestBarring_16 rfl (lv_at hl 2 rfl) ?_
    obtain ⟨r1, hr1, h⟩ := bd_some h
    refine r_callS (pc := 17) C (c_J6_bitCount_0f7a4 hr1) k_J6_bitCount_0f7a4 wd_447 ⟨Nat.le_of_ble_eq_true rfl, Nat.le_of_ble_eq_true rfl⟩ rfl hl.1 rfl (Nat.le_of_ble_eq_true rfl) dX4_fewestBarring_17 ⟨Nat.zero_le _, Nat.zero_le _⟩ ?_
    refine lv_iload_n (pc := 20) hx hb dX4_fewestBarring_20 rfl (lv_at hl 1 rfl) ?_
    obtain ⟨r2, hr2, h⟩ := bd_some h
    refine r_callS (pc := 21) C (c_J6_bitCount_0f7a4 hr2) k_J6_bitCount_0f7a4 wd_447 ⟨Nat.le_of_ble_eq_true rfl, Nat.le_of_ble_eq_true rfl⟩ rfl hl.1 rfl (Nat.le_of_ble_eq_true rfl) dX4_fewestBarring_21 ⟨Nat.zero_le _, Nat.zero_le _⟩ ?_
    refine lv_icmp_ge (tgt := 31) (pc := 24) hx hb dX4_fewestBarring_24 (by decide) (fun hc => ?_) (fun hc => ?_)
    · have h := if_y hc h
      refine lv_iconst (v := 0) (pc := 31) hx hb dX4_fewestBarring_31 (by decide) ?_
      exact t_X4_fewestBarring_32 hI N C k10 hk10 h H locs hP hS ls (lv_sub hl [0, 1, 2] rfl)
    · have h := if_n hc h
      refine lv_iconst (v := 1) (pc := 27) hx hb dX4_fewestBarring_27 (by decide) ?_
      refine lv_goto (tgt := 32) (pc := 28) hx hb dX4_fewestBarring_28 (by decide) ?_
      exact t_X4_fewestBarring_32 hI N C k10 hk10 h H locs hP hS ls (lv_sub hl [0, 1, 2] rfl)
theorem t_X4_fewestBarring_10 {rr : Int32} {SS : St} (hI : aI 49 a) (N : Nat) (C : bC D E RX4 cX4_fewestBarring 4 (some .int) p s m args meth c) {n : Nat} {x1 : Int32} {x2 : Int32} {S : St} (h : lpI (F_X4_fewestBarring_10 N) n (x1, x2, S) = some (rr, SS)) : gU D (Wu E a) (aA 49 a) p l e (bRm 5 112) s m args below meth c 4 (qU D below (aA 49 a) (Wu E a SS) rr args s) 10 [(0, .ref (a 0)), (1, .int x1), (2, .int x2)] [] S := by
  exact lpI_ind (P := fun v q => q = (rr, SS) → gU D (Wu E a) (aA 49 a) p l e (bRm 5 112) s m args below meth c 4 (qU D below (aA 49 a) (Wu E a SS) rr args s) 10 [(0, .ref (a 0)), (1, .int v.1), (2, .int v.2.1)] [] v.2.2) (fun k hk v q h9 hq => s_X4_fewestBarring_10 hI N C k (fun x1 x2 S h8 => hk (x1, x2, S) _ h8 rfl) (h9.trans (congrArg some hq))) n (x1, x2, S) _ h rfl
def f_X4_fewestBarring (N : Nat) (S : St) : Option (Int32 × St) :=
  bd (some (S 3 5)) fun y1 => lpI (F_X4_fewestBarring_10 N) N (y1, 0, S)
theorem t_X4_fewestBarring_0 {rr : Int32} {SS : St} (hI : aI 49 a) (N : Nat) (C : bC D E RX4 cX4_fewestBarring 4 (some .int) p s m args meth c) {S : St} (h : f_X4_fewestBarring N S = some (rr, SS)) : gU D (Wu E a) (aA 49 a) p l e (bRm 5 112) s m args below meth c 4 (qU D below (aA 49 a) (Wu E a SS) rr args s) 0 [(0, .ref (a 0))] [] S := by
  obtain ⟨hx, hb, hml, hown, hts, hK, hr, hlocks⟩ := id C
  intro H locs hP hS ls hl
  unfold f_X4_fewestBarring at h
  refine lv_aload_n (pc := 0) hx hb dX4_fewestBarring_0 rfl (lv_at hl 0 rfl) ?_
  refine va_get (pc := 1) (v := .ref (a 3)) hx hb hts inB4 hown hK.1 hP 0 wu0 rfl 1 (by decide) (hts _ wd_218) (fun _ h9 => h9) rfl dX4_fewestBarring_1 ?_
  refine va_get (pc := 4) (v := .int (S 3 5)) hx hb hts inB3 hown hK.1 hP 3 wu3 rfl 5 (by decide) (hts _ wd_157) (fun _ h9 => h9) rfl dX4_fewestBarring_4 ?_
  refine lv_topi (fun y1 ey1 => ?_)
  have h := bd_y ey1 h
  refine lv_istore_n (lv' := [(1, .int y1), (0, .ref (a 0))]) (pc := 7) hx hb dX4_fewestBarring_7 rfl hl (by decide) rfl (fun ls hl => ?_)
  refine lv_iconst (v := 0) (pc := 8) hx hb dX4_fewestBarring_8 (by decide) ?_
  refine lv_istore_n (lv' := [(2, .int 0), (1, .int y1), (0, .ref (a 0))]) (pc := 9) hx hb dX4_fewestBarring_9 rfl hl (by decide) rfl (fun ls hl => ?_)
  exact t_X4_fewestBarring_10 hI N C h H locs hP hS ls (lv_sub hl [2, 1, 0] rfl)
theorem c_X4_fewestBarring {l : Launch} {D : va_G} {E : bE} {a : Nat → Nat} (hI : aI 49 a) (N : Nat) {rr : Int32} {S : St} {SS : St} (h : f_X4_fewestBarring N S = some (rr, SS)) : cU l D E yX4_fewestBarring cX4_fewestBarring 4 (some .int) 5 112 (aA 49 a) (Wu E a S) (Wu E a SS) [.ref (a 0)] rr := cU_of (by decide) (Nat.le_of_ble_eq_true rfl) (fun p e s m args below meth c C => t_X4_fewestBarring_0 hI N C h)
/-! X4_bar -/
def f_X4_bar (N : Nat) (S : St) : Option (Int32 × St) :=
  bd (f_X3_spin N S) fun S1 => bd2 (f_X3_someGoodWith N (S1 3 5) S1) fun r1 S2 => if r1 = 0 then (bd2 (f_X4_fewestBarring N S2) fun r2 S3 => some (r2, S3)) else (some ((-3), S2))
theorem t_X4_bar_0 {rr : Int32} {SS : St} (hI : aI 49 a) (N : Nat) (C : bC D E RX4 cX4_bar 1 (some .int) p s m args meth c) {S : St} (h : f_X4_bar N S = some (rr, SS)) : gU D (Wu E a) (aA 49 a) p l e (bRm 6 135) s m args below meth c 1 (qU D below (aA 49 a) (Wu E a SS) rr args s) 0 [(0, .ref (a 0))] [] S := by
  obtain ⟨hx, hb, hml, hown, hts, hK, hr, hlocks⟩ := id C
  intro H locs hP hS ls hl
  unfold f_X4_bar at h
  refine lv_aload_n (pc := 0) hx hb dX4_bar_0 rfl (lv_at hl 0 rfl) ?_
  refine va_get (pc := 1) (v := .ref (a 3)) hx hb hts inB4 hown hK.1 hP 0 wu0 rfl 1 (by decide) (hts _ wd_218) (fun _ h9 => h9) rfl dX4_bar_1 ?_
  obtain ⟨S1, hS1, h⟩ := bd_some h
  refine r_callV (pc := 4) C hP hS (c_X3_spin hI N hS1) k_X3_spin wd_331 (q0 := 3) wu3 rfl rfl ⟨Nat.le_of_ble_eq_true rfl, Nat.le_of_ble_eq_true rfl⟩ rfl hl.1 rfl (Nat.le_of_ble_eq_true rfl) dX4_bar_4 ⟨Nat.zero_le _, Nat.zero_le _⟩ (fun H locs hP hS => ?_)
  refine lv_aload_n (pc := 7) hx hb dX4_bar_7 rfl (lv_at hl 0 rfl) ?_
  refine va_get (pc := 8) (v := .ref (a 3)) hx hb hts inB4 hown hK.1 hP 0 wu0 rfl 1 (by decide) (hts _ wd_218) (fun _ h9 => h9) rfl dX4_bar_8 ?_
  refine lv_aload_n (pc := 11) hx hb dX4_bar_11 rfl (lv_at hl 0 rfl) ?_
  refine va_get (pc := 12) (v := .ref (a 3)) hx hb hts inB4 hown hK.1 hP 0 wu0 rfl 1 (by decide) (hts _ wd_218) (fun _ h9 => h9) rfl dX4_bar_12 ?_
  refine va_get (pc := 15) (v := .int (S1 3 5)) hx hb hts inB3 hown hK.1 hP 3 wu3 rfl 5 (by decide) (hts _ wd_157) (fun _ h9 => h9) rfl dX4_bar_15 ?_
  obtain ⟨r1, S2, hr1, h⟩ := bd2_some h
  refine r_callU (pc := 18) C hP hS (c_X3_someGoodWith hI N hr1) k_X3_someGoodWith wd_439 (q0 := 3) wu3 rfl rfl ⟨Nat.le_of_ble_eq_true rfl, Nat.le_of_ble_eq_true rfl⟩ rfl hl.1 rfl (Nat.le_of_ble_eq_true rfl) dX4_bar_18 ⟨Nat.zero_le _, Nat.zero_le _⟩ (fun H locs hP hS => ?_)
  refine lv_if_eq (tgt := 27) (pc := 21) hx hb dX4_bar_21 (by decide) (fun hc => ?_) (fun hc => ?_)
  · have h := if_y hc h
    refine lv_aload_n (pc := 27) hx hb dX4_bar_27 rfl (lv_at hl 0 rfl) ?_
    obtain ⟨r2, S3, hr2, h⟩ := bd2_some h
    refine r_callU (pc := 28) C hP hS (c_X4_fewestBarring hI N hr2) k_X4_fewestBarring wd_443 (q0 := 0) wu0 rfl rfl ⟨Nat.le_of_ble_eq_true rfl, Nat.le_of_ble_eq_true rfl⟩ rfl hl.1 rfl (Nat.le_of_ble_eq_true rfl) dX4_bar_28 ⟨Nat.zero_le _, Nat.zero_le _⟩ (fun H locs hP hS => ?_)
    exact r_retU (pc := 31) (𝓦 := Wu E a) C h hP hS dX4_bar_31
  · have h := if_n hc h
    refine lv_bipush (v := (-3)) (pc := 24) hx hb dX4_bar_24 (by decide) ?_
    exact r_retU (pc := 26) (𝓦 := Wu E a) C h hP hS dX4_bar_26
theorem c_X4_bar {l : Launch} {D : va_G} {E : bE} {a : Nat → Nat} (hI : aI 49 a) (N : Nat) {rr : Int32} {S : St} {SS : St} (h : f_X4_bar N S = some (rr, SS)) : cU l D E yX4_bar cX4_bar 1 (some .int) 6 135 (aA 49 a) (Wu E a S) (Wu E a SS) [.ref (a 0)] rr := cU_of (by decide) (Nat.le_of_ble_eq_true rfl) (fun p e s m args below meth c C => t_X4_bar_0 hI N C h)
/-! X4_costOf -/
def FB_X4_costOf_4 (N : Nat) (S : St) (k4 : Int32 × Int32 × Int32 → Option (Int32)) (x1 : Int32) (x2 : Int32) (x3 : Int32) : Option (Int32) :=
  if 6 ≤ x3 then (some x2) else (bd (f_X4_has x1 x3) fun r1 => if r1 = 0 then (k4 (x1, x2, (x3 + 1))) else (gd (ix x3 6) (bd (some (x2 + (S 16 (Int32.toNatClampNeg x3)))) fun y2 => k4 (x1, y2, (x3 + 1)))))
def F_X4_costOf_4 (N : Nat) (S : St) (k4 : Int32 × Int32 × Int32 → Option (Int32)) (v : Int32 × Int32 × Int32) : Option (Int32) := FB_X4_costOf_4 N S k4 v.1 v.2.1 v.2.2
theorem s_X4_costOf_4 {rr : Int32} (hI : aI 49 a) (N : Nat) (C : bC D E RX4 cX4_costOf 4 (some .int) p s m args meth c) {S : St} (hP : va_P D vwCl (Wu E a S) s.heap) (k4 : Int32 × Int32 × Int32 → Option (Int32)) (hk4 : ∀ (x1 : Int32) (x2 : Int32) (x3 : Int32), k4 (x1, x2, x3) = some rr → gR p l e (bRm 1 21) s m args below meth c 4 (qS below rr args s) 4 [(0, .ref (a 0)), (1, .int x1), (2, .int x2), (3, .int x3)] []) {x1 : Int32} {x2 : Int32} {x3 : Int32} (h : FB_X4_costOf_4 N S k4 x1 x2 x3 = some rr) : gR p l e (bRm 1 21) s m args below meth c 4 (qS below rr args s) 4 [(0, .ref (a 0)), (1, .int x1), (2, .int x2), (3, .int x3)] [] := by
  obtain ⟨hx, hb, hml, hown, hts, hK, hr, hlocks⟩ := id C
  intro ls hl
  unfold FB_X4_costOf_4 at h
  refine lv_iload_n (pc := 4) hx hb dX4_costOf_4 rfl (lv_at hl 3 rfl) ?_
  refine lv_bipush (v := 6) (pc := 5) hx hb dX4_costOf_5 (by decide) ?_
  refine lv_icmp_ge (tgt := 36) (pc := 7) hx hb dX4_costOf_7 (by decide) (fun hc => ?_) (fun hc => ?_)
  · have h := if_y hc h
    refine lv_iload_n (pc := 36) hx hb dX4_costOf_36 rfl (lv_at hl 2 rfl) ?_
    exact r_retS (pc := 37) C h dX4_costOf_37
  · have h := if_n hc h
    refine lv_iload_n (pc := 10) hx hb dX4_costOf_10 rfl (lv_at hl 1 rfl) ?_
    refine lv_iload_n (pc := 11) hx hb dX4_costOf_11 rfl (lv_at hl 3 rfl) ?_
    obtain ⟨r1, hr1, h⟩ := bd_some h
    refine r_callS (pc := 12) C (c_X4_has hr1) k_X4_has wd_366 ⟨Nat.le_of_ble_eq_true rfl, Nat.le_of_ble_eq_true rfl⟩ rfl hl.1 rfl (Nat.le_of_ble_eq_true rfl) dX4_costOf_12 ⟨Nat.zero_le _, Nat.zero_le _⟩ ?_
    refine lv_if_eq (tgt := 30) (pc := 15) hx hb dX4_costOf_15 (by decide) (fun hc => ?_) (fun hc => ?_)
    · have h := if_y hc h
      refine lv_iinc (v := (x3 + 1)) (lv' := [(3, .int (x3 + 1)), (0, .ref (a 0)), (1, .int x1), (2, .int x2)]) (pc := 30) hx hb dX4_costOf_30 hl (k := 3) rfl (ii1 _) (by decide) rfl (fun ls hl => ?_)
      refine lv_goto (tgt := 4) (pc := 33) hx hb dX4_costOf_33 (by decide) ?_
      exact hk4 _ _ _ h ls (lv_sub hl [1, 2, 3, 0] rfl)
    · have h := if_n hc h
      refine lv_iload_n (pc := 18) hx hb dX4_costOf_18 rfl (lv_at hl 2 rfl) ?_
      refine lv_aload_n (pc := 19) hx hb dX4_costOf_19 rfl (lv_at hl 0 rfl) ?_
      refine va_get (pc := 20) (v := .ref (a 2)) hx hb hts inB4 hown hK.1 hP 0 wu0 rfl 2 (by decide) (hts _ wd_219) (fun _ h9 => h9) rfl dX4_costOf_20 ?_
      refine va_get (pc := 23) (v := .ref (a 16)) hx hb hts inB0 hown hK.1 hP 2 wu2 rfl 7 (by decide) (hts _ wd_114) (fun _ h9 => h9) rfl dX4_costOf_23 ?_
      refine lv_iload_n (pc := 26) hx hb dX4_costOf_26 rfl (lv_at hl 3 rfl) ?_
      obtain ⟨hin, h⟩ := gd_some h
      refine r_ald (pc := 27) hx hb hK hP 16 wu16 hin dX4_costOf_27 ?_
      refine lv_iadd (pc := 28) hx hb dX4_costOf_28 ?_
      refine lv_topi (fun y2 ey2 => ?_)
      have h := bd_y ey2 h
      refine lv_istore_n (lv' := [(2, .int y2), (0, .ref (a 0)), (1, .int x1), (3, .int x3)]) (pc := 29) hx hb dX4_costOf_29 rfl hl (by decide) rfl (fun ls hl => ?_)
      refine lv_iinc (v := (x3 + 1)) (lv' := [(3, .int (x3 + 1)), (2, .int y2), (0, .ref (a 0)), (1, .int x1)]) (pc := 30) hx hb dX4_costOf_30 hl (k := 3) rfl (ii1 _) (by decide) rfl (fun ls hl => ?_)
      refine lv_goto (tgt := 4) (pc := 33) hx hb dX4_costOf_33 (by decide) ?_
      exact hk4 _ _ _ h ls (lv_sub hl [2, 3, 1, 0] rfl)
theorem t_X4_costOf_4 {rr : Int32} (hI : aI 49 a) (N : Nat) (C : bC D E RX4 cX4_costOf 4 (some .int) p s m args meth c) {S : St} (hP : va_P D vwCl (Wu E a S) s.heap) {n : Nat} {x1 : Int32} {x2 : Int32} {x3 : Int32} (h : lpI (F_X4_costOf_4 N S) n (x1, x2, x3) = some rr) : gR p l e (bRm 1 21) s m args below meth c 4 (qS below rr args s) 4 [(0, .ref (a 0)), (1, .int x1), (2, .int x2), (3, .int x3)] [] := by
  exact lpI_ind (P := fun v q => q = rr → gR p l e (bRm 1 21) s m args below meth c 4 (qS below rr args s) 4 [(0, .ref (a 0)), (1, .int v.1), (2, .int v.2.1), (3, .int v.2.2)] []) (fun k hk v q h9 hq => s_X4_costOf_4 hI N C hP k (fun x1 x2 x3 h8 => hk (x1, x2, x3) _ h8 rfl) (h9.trans (congrArg some hq))) n (x1, x2, x3) _ h rfl
def f_X4_costOf (N : Nat) (x1 : Int32) (S : St) : Option (Int32) :=
  lpI (F_X4_costOf_4 N S) N (x1, 0, 0)
theorem t_X4_costOf_0 {rr : Int32} (hI : aI 49 a) (N : Nat) (C : bC D E RX4 cX4_costOf 4 (some .int) p s m args meth c) {S : St} (hP : va_P D vwCl (Wu E a S) s.heap) {x1 : Int32} (h : f_X4_costOf N x1 S = some rr) : gR p l e (bRm 1 21) s m args below meth c 4 (qS below rr args s) 0 [(0, .ref (a 0)), (1, .int x1)] [] := by
  obtain ⟨hx, hb, hml, hown, hts, hK, hr, hlocks⟩ := id C
  intro ls hl
  unfold f_X4_costOf at h
  refine lv_iconst (v := 0) (pc := 0) hx hb dX4_costOf_0 (by decide) ?_
  refine lv_istore_n (lv' := [(2, .int 0), (0, .ref (a 0)), (1, .int x1)]) (pc := 1) hx hb dX4_costOf_1 rfl hl (by decide) rfl (fun ls hl => ?_)
  refine lv_iconst (v := 0) (pc := 2) hx hb dX4_costOf_2 (by decide) ?_
  refine lv_istore_n (lv' := [(3, .int 0), (2, .int 0), (0, .ref (a 0)), (1, .int x1)]) (pc := 3) hx hb dX4_costOf_3 rfl hl (by decide) rfl (fun ls hl => ?_)
  exact t_X4_costOf_4 hI N C hP h ls (lv_sub hl [2, 3, 1, 0] rfl)
theorem c_X4_costOf {l : Launch} {D : va_G} {E : bE} {a : Nat → Nat} (hI : aI 49 a) (N : Nat) {rr : Int32} {S : St} {x1 : Int32} (h : f_X4_costOf N x1 S = some rr) : cR l D E yX4_costOf cX4_costOf 4 (some .int) 1 21 (Wu E a S) [.ref (a 0), .int x1] rr := cR_of (by decide) (Nat.le_of_ble_eq_true rfl) (fun p e s m args below meth c C hP => t_X4_costOf_0 hI N C hP h)
