variable {p : Program} {l : Launch} {e : Env} {s : State} {m : MethodId} {args : Array Value} {below : List Frame} {meth : Method} {c : Code} {D : va_G} {E : bE} {a : Nat → Nat}
/-! X5_coinOf -/
def FB_X5_coinOf_4 (N : Nat) (S : St) (k4 : Int32 × Int32 × Int32 → Option (Int32)) (x1 : Int32) (x2 : Int32) (x3 : Int32) : Option (Int32) :=
  if 6 ≤ x3 then (some x2) else (bd (f_X5_has x1 x3) fun r1 => if r1 = 0 then (bd (some (x2 + 0)) fun y2 => k4 (x1, y2, (x3 + 1))) else (gd (ix ((4 * x3) + 3) 24) (bd (some (x2 + (S 6 (Int32.toNatClampNeg ((4 * x3) + 3))))) fun y3 => k4 (x1, y3, (x3 + 1)))))
def F_X5_coinOf_4 (N : Nat) (S : St) (k4 : Int32 × Int32 × Int32 → Option (Int32)) (v : Int32 × Int32 × Int32) : Option (Int32) := FB_X5_coinOf_4 N S k4 v.1 v.2.1 v.2.2
theorem s_X5_coinOf_4 {rr : Int32} (hI : aI 18 a) (N : Nat) (C : bC D E RX5 cX5_coinOf 4 (some .int) p s m args meth c) {S : St} (hP : va_P D vwCl (Wm E a S) s.heap) (k4 : Int32 × Int32 × Int32 → Option (Int32)) (hk4 : ∀ (x1 : Int32) (x2 : Int32) (x3 : Int32), k4 (x1, x2, x3) = some rr → gR p l e (bRm 1 21) s m args below meth c 4 (qS below rr args s) 4 [(0, .ref (a 0)), (1, .int x1), (2, .int x2), (3, .int x3)] []) {x1 : Int32} {x2 : Int32} {x3 : Int32} (h : FB_X5_coinOf_4 N S k4 x1 x2 x3 = some rr) : gR p l e (bRm 1 21) s m args below meth c 4 (qS below rr args s) 4 [(0, .ref (a 0)), (1, .int x1), (2, .int x2), (3, .int x3)] [] := by
  obtain ⟨hx, hb, hml, hown, hts, hK, hr, hlocks⟩ := id C
  intro ls hl
  unfold FB_X5_coinOf_4 at h
  refine lv_iload_n (pc := 4) hx hb dX5_coinOf_4 rfl (lv_at hl 3 rfl) ?_
  refine lv_bipush (v := 6) (pc := 5) hx hb dX5_coinOf_5 (by decide) ?_
  refine lv_icmp_ge (tgt := 41) (pc := 7) hx hb dX5_coinOf_7 (by decide) (fun hc => ?_) (fun hc => ?_)
  · have h := if_y hc h
    refine lv_iload_n (pc := 41) hx hb dX5_coinOf_41 rfl (lv_at hl 2 rfl) ?_
    exact r_retS (pc := 42) C h dX5_coinOf_42
  · have h := if_n hc h
    refine lv_iload_n (pc := 10) hx hb dX5_coinOf_10 rfl (lv_at hl 2 rfl) ?_
    refine lv_iload_n (pc := 11) hx hb dX5_coinOf_11 rfl (lv_at hl 1 rfl) ?_
    refine lv_iload_n (pc := 12) hx hb dX5_coinOf_12 rfl (lv_at hl 3 rfl) ?_
    obtain ⟨r1, hr1, h⟩ := bd_some h
    refine r_callS (pc := 13) C (c_X5_has hr1) k_X5_has wd_689 ⟨Nat.le_of_ble_eq_true rfl, Nat.le_of_ble_eq_true rfl⟩ rfl hl.1 rfl (Nat.le_of_ble_eq_true rfl) dX5_coinOf_13 ⟨Nat.zero_le _, Nat.zero_le _⟩ ?_
    refine lv_if_eq (tgt := 32) (pc := 16) hx hb dX5_coinOf_16 (by decide) (fun hc => ?_) (fun hc => ?_)
    · have h := if_y hc h
      refine lv_iconst (v := 0) (pc := 32) hx hb dX5_coinOf_32 (by decide) ?_
      refine lv_iadd (pc := 33) hx hb dX5_coinOf_33 ?_
      refine lv_topi (fun y2 ey2 => ?_)
      have h := bd_y ey2 h
      refine lv_istore_n (lv' := [(2, .int y2), (0, .ref (a 0)), (1, .int x1), (3, .int x3)]) (pc := 34) hx hb dX5_coinOf_34 rfl hl (by decide) rfl (fun ls hl => ?_)
      refine lv_iinc (v := (x3 + 1)) (lv' := [(3, .int (x3 + 1)), (2, .int y2), (0, .ref (a 0)), (1, .int x1)]) (pc := 35) hx hb dX5_coinOf_35 hl (k := 3) rfl (ii1 _) (by decide) rfl (fun ls hl => ?_)
      refine lv_goto (tgt := 4) (pc := 38) hx hb dX5_coinOf_38 (by decide) ?_
      exact hk4 _ _ _ h ls (lv_sub hl [2, 3, 1, 0] rfl)
    · have h := if_n hc h
      refine lv_aload_n (pc := 19) hx hb dX5_coinOf_19 rfl (lv_at hl 0 rfl) ?_
      refine va_get (pc := 20) (v := .ref (a 6)) hx hb hts inB5 hown hK.1 hP 0 wm0 rfl 6 (by decide) (hts _ wd_557) (fun _ h9 => h9) rfl dX5_coinOf_20 ?_
      refine lv_iconst (v := 4) (pc := 23) hx hb dX5_coinOf_23 (by decide) ?_
      refine lv_iload_n (pc := 24) hx hb dX5_coinOf_24 rfl (lv_at hl 3 rfl) ?_
      refine lv_imul (pc := 25) hx hb dX5_coinOf_25 ?_
      refine lv_iconst (v := 3) (pc := 26) hx hb dX5_coinOf_26 (by decide) ?_
      refine lv_iadd (pc := 27) hx hb dX5_coinOf_27 ?_
      obtain ⟨hin, h⟩ := gd_some h
      refine r_ald (pc := 28) hx hb hK hP 6 wm6 hin dX5_coinOf_28 ?_
      refine lv_goto (tgt := 33) (pc := 29) hx hb dX5_coinOf_29 (by decide) ?_
      refine lv_iadd (pc := 33) hx hb dX5_coinOf_33 ?_
      refine lv_topi (fun y3 ey3 => ?_)
      have h := bd_y ey3 h
      refine lv_istore_n (lv' := [(2, .int y3), (0, .ref (a 0)), (1, .int x1), (3, .int x3)]) (pc := 34) hx hb dX5_coinOf_34 rfl hl (by decide) rfl (fun ls hl => ?_)
      refine lv_iinc (v := (x3 + 1)) (lv' := [(3, .int (x3 + 1)), (2, .int y3), (0, .ref (a 0)), (1, .int x1)]) (pc := 35) hx hb dX5_coinOf_35 hl (k := 3) rfl (ii1 _) (by decide) rfl (fun ls hl => ?_)
      refine lv_goto (tgt := 4) (pc := 38) hx hb dX5_coinOf_38 (by decide) ?_
      exact hk4 _ _ _ h ls (lv_sub hl [2, 3, 1, 0] rfl)
theorem t_X5_coinOf_4 {rr : Int32} (hI : aI 18 a) (N : Nat) (C : bC D E RX5 cX5_coinOf 4 (some .int) p s m args meth c) {S : St} (hP : va_P D vwCl (Wm E a S) s.heap) {n : Nat} {x1 : Int32} {x2 : Int32} {x3 : Int32} (h : lpI (F_X5_coinOf_4 N S) n (x1, x2, x3) = some rr) : gR p l e (bRm 1 21) s m args below meth c 4 (qS below rr args s) 4 [(0, .ref (a 0)), (1, .int x1), (2, .int x2), (3, .int x3)] [] := by
  exact lpI_ind (P := fun v q => q = rr → gR p l e (bRm 1 21) s m args below meth c 4 (qS below rr args s) 4 [(0, .ref (a 0)), (1, .int v.1), (2, .int v.2.1), (3, .int v.2.2)] []) (fun k hk v q h9 hq => s_X5_coinOf_4 hI N C hP k (fun x1 x2 x3 h8 => hk (x1, x2, x3) _ h8 rfl) (h9.trans (congrArg some hq))) n (x1, x2, x3) _ h rfl
def f_X5_coinOf (N : Nat) (x1 : Int32) (S : St) : Option (Int32) :=
  lpI (F_X5_coinOf_4 N S) N (x1, 0, 0)
theorem t_X5_coinOf_0 {rr : Int32} (hI : aI 18 a) (N : Nat) (C : bC D E RX5 cX5_coinOf 4 (some .int) p s m args meth c) {S : St} (hP : va_P D vwCl (Wm E a S) s.heap) {x1 : Int32} (h : f_X5_coinOf N x1 S = some rr) : gR p l e (bRm 1 21) s m args below meth c 4 (qS below rr args s) 0 [(0, .ref (a 0)), (1, .int x1)] [] := by
  obtain ⟨hx, hb, hml, hown, hts, hK, hr, hlocks⟩ := id C
  intro ls hl
  unfold f_X5_coinOf at h
  refine lv_iconst (v := 0) (pc := 0) hx hb dX5_coinOf_0 (by decide) ?_
  refine lv_istore_n (lv' := [(2, .int 0), (0, .ref (a 0)), (1, .int x1)]) (pc := 1) hx hb dX5_coinOf_1 rfl hl (by decide) rfl (fun ls hl => ?_)
  refine lv_iconst (v := 0) (pc := 2) hx hb dX5_coinOf_2 (by decide) ?_
  refine lv_istore_n (lv' := [(3, .int 0), (2, .int 0), (0, .ref (a 0)), (1, .int x1)]) (pc := 3) hx hb dX5_coinOf_3 rfl hl (by decide) rfl (fun ls hl => ?_)
  exact t_X5_coinOf_4 hI N C hP h ls (lv_sub hl [2, 3, 1, 0] rfl)
theorem c_X5_coinOf {l : Launch} {D : va_G} {E : bE} {a : Nat → Nat} (hI : aI 18 a) (N : Nat) {rr : Int32} {S : St} {x1 : Int32} (h : f_X5_coinOf N x1 S = some rr) : cR l D E yX5_coinOf cX5_coinOf 4 (some .int) 1 21 (Wm E a S) [.ref (a 0), .int x1] rr := cR_of (by decide) (Nat.le_of_ble_eq_true rfl) (fun p e s m args below meth c C hP => t_X5_coinOf_0 hI N C hP h)
/-! X5_anew -/
def B_X5_anew_84 (N : Nat) (k21 : Int32 × Int32 × Int32 × St → Option (Int32 × St)) (x1 : Int32) (x2 : Int32) (x3 : Int32) (z0 : Int32) (S : St) : Option (Int32 × St) :=
  bd (some (sto S 0 15 x3)) fun S1 => if z0 = 0 then (k21 (x1, x2, (x3 + 1), S1)) else (bd2 (f_X5_someGood N S1) fun r1 S2 => if r1 = 0 then (k21 (x1, x2, (x3 + 1), S2)) else (k21 (x1, x3, (x3 + 1), S2)))
theorem t_X5_anew_84 {rr : Int32} {SS : St} (hI : aI 18 a) (N : Nat) (C : bC D E RX5 cX5_anew 5 (some .int) p s m args meth c) (k21 : Int32 × Int32 × Int32 × St → Option (Int32 × St)) (hk21 : ∀ (x1 : Int32) (x2 : Int32) (x3 : Int32) (S : St), k21 (x1, x2, x3, S) = some (rr, SS) → gU D (Wm E a) (aA 18 a) p l e (bRm 5 107) s m args below meth c 5 (qU D below (aA 18 a) (Wm E a SS) rr args s) 21 [(0, .ref (a 0)), (1, .int x1), (2, .int x2), (3, .int x3)] [] S) {x1 : Int32} {x2 : Int32} {x3 : Int32} {z0 : Int32} {S : St} (h : B_X5_anew_84 N k21 x1 x2 x3 z0 S = some (rr, SS)) : gU D (Wm E a) (aA 18 a) p l e (bRm 5 107) s m args below meth c 5 (qU D below (aA 18 a) (Wm E a SS) rr args s) 84 [(0, .ref (a 0)), (1, .int x1), (2, .int x2), (3, .int x3)] [.int z0] S := by
  obtain ⟨hx, hb, hml, hown, hts, hK, hr, hlocks⟩ := id C
  intro H locs hP hS ls hl
  unfold B_X5_anew_84 at h
  refine lv_istore (lv' := [(4, .int z0), (0, .ref (a 0)), (1, .int x1), (2, .int x2), (3, .int x3)]) (pc := 84) hx hb dX5_anew_84 hl (by decide) rfl (fun ls hl => ?_)
  refine lv_aload_n (pc := 86) hx hb dX5_anew_86 rfl (lv_at hl 1 rfl) ?_
  refine lv_iload_n (pc := 87) hx hb dX5_anew_87 rfl (lv_at hl 4 rfl) ?_
  refine r_put (pc := 88) (𝓦 := Wm E a) hx hb hts hown hK inB5 tyX5 tyX5_ok nmX5 hP (dM hI _) hS 0 wm0 rfl 15 (by decide) wd_566 rfl (by decide +kernel) (Nat.le_of_ble_eq_true rfl) (wm0p15 _) dX5_anew_88 (fun H locs S1 eS1 hP hS => ?_)
  have h := bd_y eS1 h
  refine lv_iload (pc := 91) hx hb dX5_anew_91 (lv_at hl 0 rfl) ?_
  refine lv_if_eq (tgt := 107) (pc := 93) hx hb dX5_anew_93 (by decide) (fun hc => ?_) (fun hc => ?_)
  · have h := if_y hc h
    refine lv_iload_n (pc := 107) hx hb dX5_anew_107 rfl (lv_at hl 3 rfl) ?_
    refine lv_istore_n (lv' := [(2, .int x2), (4, .int z0), (0, .ref (a 0)), (1, .int x1), (3, .int x3)]) (pc := 108) hx hb dX5_anew_108 rfl hl (by decide) rfl (fun ls hl => ?_)
    refine lv_iinc (v := (x3 + 1)) (lv' := [(3, .int (x3 + 1)), (2, .int x2), (4, .int z0), (0, .ref (a 0)), (1, .int x1)]) (pc := 109) hx hb dX5_anew_109 hl (k := 4) rfl (ii1 _) (by decide) rfl (fun ls hl => ?_)
    refine lv_goto (tgt := 21) (pc := 112) hx hb dX5_anew_112 (by decide) ?_
    exact hk21 _ _ _ _ h H locs hP hS ls (lv_sub hl [3, 4, 1, 0] rfl)
  · have h := if_n hc h
    refine lv_aload_n (pc := 96) hx hb dX5_anew_96 rfl (lv_at hl 1 rfl) ?_
    obtain ⟨r1, S2, hr1, h⟩ := bd2_some h
    refine r_callU (pc := 97) C hP hS (c_X5_someGood hI N hr1) k_X5_someGood wd_761 (q0 := 0) wm0 rfl rfl ⟨Nat.le_of_ble_eq_true rfl, Nat.le_of_ble_eq_true rfl⟩ rfl hl.1 rfl (Nat.le_of_ble_eq_true rfl) dX5_anew_97 ⟨Nat.zero_le _, Nat.zero_le _⟩ (fun H locs hP hS => ?_)
    refine lv_if_eq (tgt := 107) (pc := 100) hx hb dX5_anew_100 (by decide) (fun hc => ?_) (fun hc => ?_)
    · have h := if_y hc h
      refine lv_iload_n (pc := 107) hx hb dX5_anew_107 rfl (lv_at hl 3 rfl) ?_
      refine lv_istore_n (lv' := [(2, .int x2), (4, .int z0), (0, .ref (a 0)), (1, .int x1), (3, .int x3)]) (pc := 108) hx hb dX5_anew_108 rfl hl (by decide) rfl (fun ls hl => ?_)
      refine lv_iinc (v := (x3 + 1)) (lv' := [(3, .int (x3 + 1)), (2, .int x2), (4, .int z0), (0, .ref (a 0)), (1, .int x1)]) (pc := 109) hx hb dX5_anew_109 hl (k := 4) rfl (ii1 _) (by decide) rfl (fun ls hl => ?_)
      refine lv_goto (tgt := 21) (pc := 112) hx hb dX5_anew_112 (by decide) ?_
      exact hk21 _ _ _ _ h H locs hP hS ls (lv_sub hl [3, 4, 1, 0] rfl)
    · have h := if_n hc h
      refine lv_iload_n (pc := 103) hx hb dX5_anew_103 rfl (lv_at hl 4 rfl) ?_
      refine lv_goto (tgt := 108) (pc := 104) hx hb dX5_anew_104 (by decide) ?_
      refine lv_istore_n (lv' := [(2, .int x3), (4, .int z0), (0, .ref (a 0)), (1, .int x1), (3, .int x3)]) (pc := 108) hx hb dX5_anew_108 rfl hl (by decide) rfl (fun ls hl => ?_)
      refine lv_iinc (v := (x3 + 1)) (lv' := [(3, .int (x3 + 1)), (2, .int x3), (4, .int z0), (0, .ref (a 0)), (1, .int x1)]) (pc := 109) hx hb dX5_anew_109 hl (k := 4) rfl (ii1 _) (by decide) rfl (fun ls hl => ?_)
      refine lv_goto (tgt := 21) (pc := 112) hx hb dX5_anew_112 (by decide) ?_
      exact hk21 _ _ _ _ h H locs hP hS ls (lv_sub hl [3, 4, 1, 0] rfl)
def FB_X5_anew_21 (N : Nat) (k21 : Int32 × Int32 × Int32 × St → Option (Int32 × St)) (x1 : Int32) (x2 : Int32) (x3 : Int32) (S : St) : Option (Int32 × St) :=
  if 64 ≤ x3 then (if x1 = 0 then (some (x2, S)) else (bd (f_X5_coinOf N x2 S) fun r1 => some (r1, S))) else (bd (f_X5_inside S) fun r2 => if (x3 &&& (r2 ^^^ (-1))) = 0 then (if x2 < 0 then (B_X5_anew_84 N k21 x1 x2 x3 1 S) else (bd (f_X5_coinOf N x3 S) fun r3 => bd (f_X5_coinOf N x2 S) fun r4 => if r3 < r4 then (B_X5_anew_84 N k21 x1 x2 x3 1 S) else (bd (f_X5_coinOf N x3 S) fun r5 => bd (f_X5_coinOf N x2 S) fun r6 => if r5 = r6 then (bd (f_X5_bits N x3) fun r7 => bd (f_X5_bits N x2) fun r8 => if r8 ≤ r7 then (B_X5_anew_84 N k21 x1 x2 x3 0 S) else (B_X5_anew_84 N k21 x1 x2 x3 1 S)) else (B_X5_anew_84 N k21 x1 x2 x3 0 S)))) else (k21 (x1, x2, (x3 + 1), S)))
def F_X5_anew_21 (N : Nat) (k21 : Int32 × Int32 × Int32 × St → Option (Int32 × St)) (v : Int32 × Int32 × Int32 × St) : Option (Int32 × St) := FB_X5_anew_21 N k21 v.1 v.2.1 v.2.2.1 v.2.2.2
theorem s_X5_anew_21 {rr : Int32} {SS : St} (hI : aI 18 a) (N : Nat) (C : bC D E RX5 cX5_anew 5 (some .int) p s m args meth c) (k21 : Int32 × Int32 × Int32 × St → Option (Int32 × St)) (hk21 : ∀ (x1 : Int32) (x2 : Int32) (x3 : Int32) (S : St), k21 (x1, x2, x3, S) = some (rr, SS) → gU D (Wm E a) (aA 18 a) p l e (bRm 5 107) s m args below meth c 5 (qU D below (aA 18 a) (Wm E a SS) rr args s) 21 [(0, .ref (a 0)), (1, .int x1), (2, .int x2), (3, .int x3)] [] S) {x1 : Int32} {x2 : Int32} {x3 : Int32} {S : St} (h : FB_X5_anew_21 N k21 x1 x2 x3 S = some (rr, SS)) : gU D (Wm E a) (aA 18 a) p l e (bRm 5 107) s m args below meth c 5 (qU D below (aA 18 a) (Wm E a SS) rr args s) 21 [(0, .ref (a 0)), (1, .int x1), (2, .int x2), (3, .int x3)] [] S := by
  obtain ⟨hx, hb, hml, hown, hts, hK, hr, hlocks⟩ := id C
  intro H locs hP hS ls hl
  unfold FB_X5_anew_21 at h
  refine lv_iload_n (pc := 21) hx hb dX5_anew_21 rfl (lv_at hl 3 rfl) ?_
  refine lv_bipush (v := 64) (pc := 22) hx hb dX5_anew_22 (by decide) ?_
  refine lv_icmp_ge (tgt := 115) (pc := 24) hx hb dX5_anew_24 (by decide) (fun hc => ?_) (fun hc => ?_)
  · have h := if_y hc h
    refine lv_iload_n (pc := 115) hx hb dX5_anew_115 rfl (lv_at hl 1 rfl) ?_
    refine lv_if_ne (tgt := 123) (pc := 116) hx hb dX5_anew_116 (by decide) (fun hc => ?_) (fun hc => ?_)
    · have h := if_n hc h
      refine lv_aload_n (pc := 123) hx hb dX5_anew_123 rfl (lv_at hl 0 rfl) ?_
      refine lv_iload_n (pc := 124) hx hb dX5_anew_124 rfl (lv_at hl 2 rfl) ?_
      obtain ⟨r1, hr1, h⟩ := bd_some h
      refine r_callR (pc := 125) C hP (c_X5_coinOf hI N hr1) k_X5_coinOf wd_773 (q0 := 0) wm0 rfl rfl ⟨Nat.le_of_ble_eq_true rfl, Nat.le_of_ble_eq_true rfl⟩ rfl hl.1 rfl (Nat.le_of_ble_eq_true rfl) dX5_anew_125 ⟨Nat.zero_le _, Nat.zero_le _⟩ ?_
      exact r_retU (pc := 128) (𝓦 := Wm E a) C h hP hS dX5_anew_128
    · have h := if_y hc h
      refine lv_iload_n (pc := 119) hx hb dX5_anew_119 rfl (lv_at hl 2 rfl) ?_
      refine lv_goto (tgt := 128) (pc := 120) hx hb dX5_anew_120 (by decide) ?_
      exact r_retU (pc := 128) (𝓦 := Wm E a) C h hP hS dX5_anew_128
  · have h := if_n hc h
    refine lv_iload_n (pc := 27) hx hb dX5_anew_27 rfl (lv_at hl 3 rfl) ?_
    refine lv_aload_n (pc := 28) hx hb dX5_anew_28 rfl (lv_at hl 0 rfl) ?_
    obtain ⟨r2, hr2, h⟩ := bd_some h
    refine r_callR (pc := 29) C hP (c_X5_inside hI hr2) k_X5_inside wd_765 (q0 := 0) wm0 rfl rfl ⟨Nat.le_of_ble_eq_true rfl, Nat.le_of_ble_eq_true rfl⟩ rfl hl.1 rfl (Nat.le_of_ble_eq_true rfl) dX5_anew_29 ⟨Nat.zero_le _, Nat.zero_le _⟩ ?_
    refine lv_iconst (v := (-1)) (pc := 32) hx hb dX5_anew_32 (by decide) ?_
    refine lv_ixor (pc := 33) hx hb dX5_anew_33 ?_
    refine lv_iand (pc := 34) hx hb dX5_anew_34 ?_
    refine lv_if_ne (tgt := 109) (pc := 35) hx hb dX5_anew_35 (by decide) (fun hc => ?_) (fun hc => ?_)
    · have h := if_n hc h
      refine lv_iinc (v := (x3 + 1)) (lv' := [(3, .int (x3 + 1)), (0, .ref (a 0)), (1, .int x1), (2, .int x2)]) (pc := 109) hx hb dX5_anew_109 hl (k := 3) rfl (ii1 _) (by decide) rfl (fun ls hl => ?_)
      refine lv_goto (tgt := 21) (pc := 112) hx hb dX5_anew_112 (by decide) ?_
      exact hk21 _ _ _ _ h H locs hP hS ls (lv_sub hl [1, 2, 3, 0] rfl)
    · have h := if_y hc h
      refine lv_iload_n (pc := 38) hx hb dX5_anew_38 rfl (lv_at hl 2 rfl) ?_
      refine lv_if_lt (tgt := 79) (pc := 39) hx hb dX5_anew_39 (by decide) (fun hc => ?_) (fun hc => ?_)
      · have h := if_y hc h
        refine lv_iconst (v := 1) (pc := 79) hx hb dX5_anew_79 (by decide) ?_
        refine lv_goto (tgt := 84) (pc := 80) hx hb dX5_anew_80 (by decide) ?_
        exact t_X5_anew_84 hI N C k21 hk21 h H locs hP hS ls (lv_sub hl [0, 1, 2, 3] rfl)
      · have h := if_n hc h
        refine lv_aload_n (pc := 42) hx hb dX5_anew_42 rfl (lv_at hl 0 rfl) ?_
        refine lv_iload_n (pc := 43) hx hb dX5_anew_43 rfl (lv_at hl 3 rfl) ?_
        obtain ⟨r3, hr3, h⟩ := bd_some h
        refine r_callR (pc := 44) C hP (c_X5_coinOf hI N hr3) k_X5_coinOf wd_773 (q0 := 0) wm0 rfl rfl ⟨Nat.le_of_ble_eq_true rfl, Nat.le_of_ble_eq_true rfl⟩ rfl hl.1 rfl (Nat.le_of_ble_eq_true rfl) dX5_anew_44 ⟨Nat.zero_le _, Nat.zero_le _⟩ ?_
        refine lv_aload_n (pc := 47) hx hb dX5_anew_47 rfl (lv_at hl 0 rfl) ?_
        refine lv_iload_n (pc := 48) hx hb dX5_anew_48 rfl (lv_at hl 2 rfl) ?_
        obtain ⟨r4, hr4, h⟩ := bd_some h
        refine r_callR (pc := 49) C hP (c_X5_coinOf hI N hr4) k_X5_coinOf wd_773 (q0 := 0) wm0 rfl rfl ⟨Nat.le_of_ble_eq_true rfl, Nat.le_of_ble_eq_true rfl⟩ rfl hl.1 rfl (Nat.le_of_ble_eq_true rfl) dX5_anew_49 ⟨Nat.zero_le _, Nat.zero_le _⟩ ?_
        refine lv_icmp_lt (tgt := 79) (pc := 52) hx hb dX5_anew_52 (by decide) (fun hc => ?_) (fun hc => ?_)
        · have h := if_y hc h
          refine lv_iconst (v := 1) (pc := 79) hx hb dX5_anew_79 (by decide) ?_
          refine lv_goto (tgt := 84) (pc := 80) hx hb dX5_anew_80 (by decide) ?_
          exact t_X5_anew_84 hI N C k21 hk21 h H locs hP hS ls (lv_sub hl [0, 1, 2, 3] rfl)
        · have h := if_n hc h
          refine lv_aload_n (pc := 55) hx hb dX5_anew_55 rfl (lv_at hl 0 rfl) ?_
          refine lv_iload_n (pc := 56) hx hb dX5_anew_56 rfl (lv_at hl 3 rfl) ?_
          obtain ⟨r5, hr5, h⟩ := bd_some h
          refine r_callR (pc := 57) C hP (c_X5_coinOf hI N hr5) k_X5_coinOf wd_773 (q0 := 0) wm0 rfl rfl ⟨Nat.le_of_ble_eq_true rfl, Nat.le_of_ble_eq_true rfl⟩ rfl hl.1 rfl (Nat.le_of_ble_eq_true rfl) dX5_anew_57 ⟨Nat.zero_le _, Nat.zero_le _⟩ ?_
          refine lv_aload_n (pc := 60) hx hb dX5_anew_60 rfl (lv_at hl 0 rfl) ?_
          refine lv_iload_n (pc := 61) hx hb dX5_anew_61 rfl (lv_at hl 2 rfl) ?_
          obtain ⟨r6, hr6, h⟩ := bd_some h
          refine r_callR (pc := 62) C hP (c_X5_coinOf hI N hr6) k_X5_coinOf wd_773 (q0 := 0) wm0 rfl rfl ⟨Nat.le_of_ble_eq_true rfl, Nat.le_of_ble_eq_true rfl⟩ rfl hl.1 rfl (Nat.le_of_ble_eq_true rfl) dX5_anew_62 ⟨Nat.zero_le _, Nat.zero_le _⟩ ?_
          refine lv_icmp_ne (tgt := 83) (pc := 65) hx hb dX5_anew_65 (by decide) (fun hc => ?_) (fun hc => ?_)
          · have h := if_n hc h
            refine lv_iconst (v := 0) (pc := 83) hx hb dX5_anew_83 (by decide) ?_
            exact t_X5_anew_84 hI N C k21 hk21 h H locs hP hS ls (lv_sub hl [0, 1, 2, 3] rfl)
          · have h := if_y hc h
            refine lv_iload_n (pc := 68) hx hb dX5_anew_68 rfl (lv_at hl 3 rfl) ?_
            obtain ⟨r7, hr7, h⟩ := bd_some h
            refine r_callS (pc := 69) C (c_X5_bits N hr7) k_X5_bits wd_746 ⟨Nat.le_of_ble_eq_true rfl, Nat.le_of_ble_eq_true rfl⟩ rfl hl.1 rfl (Nat.le_of_ble_eq_true rfl) dX5_anew_69 ⟨Nat.zero_le _, Nat.zero_le _⟩ ?_
            refine lv_iload_n (pc := 72) hx hb dX5_anew_72 rfl (lv_at hl 2 rfl) ?_
            obtain ⟨r8, hr8, h⟩ := bd_some h
            refine r_callS (pc := 73) C (c_X5_bits N hr8) k_X5_bits wd_746 ⟨Nat.le_of_ble_eq_true rfl, Nat.le_of_ble_eq_true rfl⟩ rfl hl.1 rfl (Nat.le_of_ble_eq_true rfl) dX5_anew_73 ⟨Nat.zero_le _, Nat.zero_le _⟩ ?_
            refine lv_icmp_ge (tgt := 83) (pc := 76) hx hb dX5_anew_76 (by decide) (fun hc => ?_) (fun hc => ?_)
            · have h := if_y hc h
              refine lv_iconst (v := 0) (pc := 83) hx hb dX5_anew_83 (by decide) ?_
              exact t_X5_anew_84 hI N C k21 hk21 h H locs hP hS ls (lv_sub hl [0, 1, 2, 3] rfl)
            · have h := if_n hc h
              refine lv_iconst (v := 1) (pc := 79) hx hb dX5_anew_79 (by decide) ?_
              refine lv_goto (tgt := 84) (pc := 80) hx hb dX5_anew_80 (by decide) ?_
              exact t_X5_anew_84 hI N C k21 hk21 h H locs hP hS ls (lv_sub hl [0, 1, 2, 3] rfl)
theorem t_X5_anew_21 {rr : Int32} {SS : St} (hI : aI 18 a) (N : Nat) (C : bC D E RX5 cX5_anew 5 (some .int) p s m args meth c) {n : Nat} {x1 : Int32} {x2 : Int32} {x3 : Int32} {S : St} (h : lpI (F_X5_anew_21 N) n (x1, x2, x3, S) = some (rr, SS)) : gU D (Wm E a) (aA 18 a) p l e (bRm 5 107) s m args below meth c 5 (qU D below (aA 18 a) (Wm E a SS) rr args s) 21 [(0, .ref (a 0)), (1, .int x1), (2, .int x2), (3, .int x3)] [] S := by
  exact lpI_ind (P := fun v q => q = (rr, SS) → gU D (Wm E a) (aA 18 a) p l e (bRm 5 107) s m args below meth c 5 (qU D below (aA 18 a) (Wm E a SS) rr args s) 21 [(0, .ref (a 0)), (1, .int v.1), (2, .int v.2.1), (3, .int v.2.2.1)] [] v.2.2.2) (fun k hk v q h9 hq => s_X5_anew_21 hI N C k (fun x1 x2 x3 S h8 => hk (x1, x2, x3, S) _ h8 rfl) (h9.trans (congrArg some hq))) n (x1, x2, x3, S) _ h rfl
def f_X5_anew (N : Nat) (x1 : Int32) (S : St) : Option (Int32 × St) :=
  bd (f_X5_in x1 0 1) fun r1 => if r1 = 0 then (some ((-2), S)) else (bd (f_X5_lay N S) fun S1 => lpI (F_X5_anew_21 N) N (x1, (-6), 0, S1))
theorem t_X5_anew_0 {rr : Int32} {SS : St} (hI : aI 18 a) (N : Nat) (C : bC D E RX5 cX5_anew 5 (some .int) p s m args meth c) {x1 : Int32} {S : St} (h : f_X5_anew N x1 S = some (rr, SS)) : gU D (Wm E a) (aA 18 a) p l e (bRm 5 107) s m args below meth c 5 (qU D below (aA 18 a) (Wm E a SS) rr args s) 0 [(0, .ref (a 0)), (1, .int x1)] [] S := by
  obtain ⟨hx, hb, hml, hown, hts, hK, hr, hlocks⟩ := id C
  intro H locs hP hS ls hl
  unfold f_X5_anew at h
  refine lv_iload_n (pc := 0) hx hb dX5_anew_0 rfl (lv_at hl 1 rfl) ?_
  refine lv_iconst (v := 0) (pc := 1) hx hb dX5_anew_1 (by decide) ?_
  refine lv_iconst (v := 1) (pc := 2) hx hb dX5_anew_2 (by decide) ?_
  obtain ⟨r1, hr1, h⟩ := bd_some h
  refine r_callS (pc := 3) C (c_X5_in hr1) k_X5_in wd_634 ⟨Nat.le_of_ble_eq_true rfl, Nat.le_of_ble_eq_true rfl⟩ rfl hl.1 rfl (Nat.le_of_ble_eq_true rfl) dX5_anew_3 ⟨Nat.zero_le _, Nat.zero_le _⟩ ?_
  refine lv_if_ne (tgt := 12) (pc := 6) hx hb dX5_anew_6 (by decide) (fun hc => ?_) (fun hc => ?_)
  · have h := if_n hc h
    refine lv_aload_n (pc := 12) hx hb dX5_anew_12 rfl (lv_at hl 0 rfl) ?_
    obtain ⟨S1, hS1, h⟩ := bd_some h
    refine r_callV (pc := 13) C hP hS (c_X5_lay hI N hS1) k_X5_lay wd_704 (q0 := 0) wm0 rfl rfl ⟨Nat.le_of_ble_eq_true rfl, Nat.le_of_ble_eq_true rfl⟩ rfl hl.1 rfl (Nat.le_of_ble_eq_true rfl) dX5_anew_13 ⟨Nat.zero_le _, Nat.zero_le _⟩ (fun H locs hP hS => ?_)
    refine lv_bipush (v := (-6)) (pc := 16) hx hb dX5_anew_16 (by decide) ?_
    refine lv_istore_n (lv' := [(2, .int (-6)), (0, .ref (a 0)), (1, .int x1)]) (pc := 18) hx hb dX5_anew_18 rfl hl (by decide) rfl (fun ls hl => ?_)
    refine lv_iconst (v := 0) (pc := 19) hx hb dX5_anew_19 (by decide) ?_
    refine lv_istore_n (lv' := [(3, .int 0), (2, .int (-6)), (0, .ref (a 0)), (1, .int x1)]) (pc := 20) hx hb dX5_anew_20 rfl hl (by decide) rfl (fun ls hl => ?_)
    exact t_X5_anew_21 hI N C h H locs hP hS ls (lv_sub hl [2, 3, 1, 0] rfl)
  · have h := if_y hc h
    refine lv_bipush (v := (-2)) (pc := 9) hx hb dX5_anew_9 (by decide) ?_
    exact r_retU (pc := 11) (𝓦 := Wm E a) C h hP hS dX5_anew_11
theorem c_X5_anew {l : Launch} {D : va_G} {E : bE} {a : Nat → Nat} (hI : aI 18 a) (N : Nat) {rr : Int32} {S : St} {SS : St} {x1 : Int32} (h : f_X5_anew N x1 S = some (rr, SS)) : cU l D E yX5_anew cX5_anew 5 (some .int) 5 107 (aA 18 a) (Wm E a S) (Wm E a SS) [.ref (a 0), .int x1] rr := cU_of (by decide) (Nat.le_of_ble_eq_true rfl) (fun p e s m args below meth c C => t_X5_anew_0 hI N C h)
/-! X5_usesOf -/
def FB_X5_usesOf_13 (N : Nat) (k4 : Int32 × Int32 × Int32 → Option (Int32)) (S : St) (k13 : Int32 × Int32 × Int32 × Int32 → Option (Int32)) (x1 : Int32) (x2 : Int32) (x3 : Int32) (x4 : Int32) : Option (Int32) :=
  if x3 ≤ x4 then (k4 (x1, x2, (x3 + 1))) else (gd (ix 3 4) (bd (f_X5_has (S 8 (Int32.toNatClampNeg 3)) x3) fun r1 => if r1 = 0 then (k4 (x1, x2, (x3 + 1))) else (gd (ix ((6 * x3) + x4) 36) (if (S 7 (Int32.toNatClampNeg ((6 * x3) + x4))) = x1 then (bd (some (x2 + 1)) fun y3 => k13 (x1, y3, x3, (x4 + 1))) else (bd (some (x2 + 0)) fun y2 => k13 (x1, y2, x3, (x4 + 1)))))))
def F_X5_usesOf_13 (N : Nat) (k4 : Int32 × Int32 × Int32 → Option (Int32)) (S : St) (k13 : Int32 × Int32 × Int32 × Int32 → Option (Int32)) (v : Int32 × Int32 × Int32 × Int32) : Option (Int32) := FB_X5_usesOf_13 N k4 S k13 v.1 v.2.1 v.2.2.1 v.2.2.2
theorem s_X5_usesOf_13 {rr : Int32} (hI : aI 18 a) (N : Nat) (C : bC D E RX5 cX5_usesOf 5 (some .int) p s m args meth c) {S : St} (hP : va_P D vwCl (Wm E a S) s.heap) (k4 : Int32 × Int32 × Int32 → Option (Int32)) (hk4 : ∀ (x1 : Int32) (x2 : Int32) (x3 : Int32), k4 (x1, x2, x3) = some rr → gR p l e (bRm 1 21) s m args below meth c 5 (qS below rr args s) 4 [(0, .ref (a 0)), (1, .int x1), (2, .int x2), (3, .int x3)] []) (k13 : Int32 × Int32 × Int32 × Int32 → Option (Int32)) (hk13 : ∀ (x1 : Int32) (x2 : Int32) (x3 : Int32) (x4 : Int32), k13 (x1, x2, x3, x4) = some rr → gR p l e (bRm 1 21) s m args below meth c 5 (qS below rr args s) 13 [(0, .ref (a 0)), (1, .int x1), (2, .int x2), (3, .int x3), (4, .int x4)] []) {x1 : Int32} {x2 : Int32} {x3 : Int32} {x4 : Int32} (h : FB_X5_usesOf_13 N k4 S k13 x1 x2 x3 x4 = some rr) : gR p l e (bRm 1 21) s m args below meth c 5 (qS below rr args s) 13 [(0, .ref (a 0)), (1, .int x1), (2, .int x2), (3, .int x3), (4, .int x4)] [] := by
  obtain ⟨hx, hb, hml, hown, hts, hK, hr, hlocks⟩ := id C
  intro ls hl
  unfold FB_X5_usesOf_13 at h
  refine lv_iload (pc := 13) hx hb dX5_usesOf_13 (lv_at hl 4 rfl) ?_
  refine lv_iload_n (pc := 15) hx hb dX5_usesOf_15 rfl (lv_at hl 3 rfl) ?_
  refine lv_icmp_ge (tgt := 62) (pc := 16) hx hb dX5_usesOf_16 (by decide) (fun hc => ?_) (fun hc => ?_)
  · have h := if_y hc h
    refine lv_iinc (v := (x3 + 1)) (lv' := [(3, .int (x3 + 1)), (0, .ref (a 0)), (1, .int x1), (2, .int x2), (4, .int x4)]) (pc := 62) hx hb dX5_usesOf_62 hl (k := 3) rfl (ii1 _) (by decide) rfl (fun ls hl => ?_)
    refine lv_goto (tgt := 4) (pc := 65) hx hb dX5_usesOf_65 (by decide) ?_
    exact hk4 _ _ _ h ls (lv_sub hl [1, 2, 3, 0] rfl)
  · have h := if_n hc h
    refine lv_aload_n (pc := 19) hx hb dX5_usesOf_19 rfl (lv_at hl 0 rfl) ?_
    refine va_get (pc := 20) (v := .ref (a 8)) hx hb hts inB5 hown hK.1 hP 0 wm0 rfl 13 (by decide) (hts _ wd_564) (fun _ h9 => h9) rfl dX5_usesOf_20 ?_
    refine lv_iconst (v := 3) (pc := 23) hx hb dX5_usesOf_23 (by decide) ?_
    obtain ⟨hin, h⟩ := gd_some h
    refine r_ald (pc := 24) hx hb hK hP 8 wm8 hin dX5_usesOf_24 ?_
    refine lv_iload_n (pc := 25) hx hb dX5_usesOf_25 rfl (lv_at hl 3 rfl) ?_
    obtain ⟨r1, hr1, h⟩ := bd_some h
    refine r_callS (pc := 26) C (c_X5_has hr1) k_X5_has wd_689 ⟨Nat.le_of_ble_eq_true rfl, Nat.le_of_ble_eq_true rfl⟩ rfl hl.1 rfl (Nat.le_of_ble_eq_true rfl) dX5_usesOf_26 ⟨Nat.zero_le _, Nat.zero_le _⟩ ?_
    refine lv_if_eq (tgt := 62) (pc := 29) hx hb dX5_usesOf_29 (by decide) (fun hc => ?_) (fun hc => ?_)
    · have h := if_y hc h
      refine lv_iinc (v := (x3 + 1)) (lv' := [(3, .int (x3 + 1)), (0, .ref (a 0)), (1, .int x1), (2, .int x2), (4, .int x4)]) (pc := 62) hx hb dX5_usesOf_62 hl (k := 3) rfl (ii1 _) (by decide) rfl (fun ls hl => ?_)
      refine lv_goto (tgt := 4) (pc := 65) hx hb dX5_usesOf_65 (by decide) ?_
      exact hk4 _ _ _ h ls (lv_sub hl [1, 2, 3, 0] rfl)
    · have h := if_n hc h
      refine lv_iload_n (pc := 32) hx hb dX5_usesOf_32 rfl (lv_at hl 2 rfl) ?_
      refine lv_aload_n (pc := 33) hx hb dX5_usesOf_33 rfl (lv_at hl 0 rfl) ?_
      refine va_get (pc := 34) (v := .ref (a 7)) hx hb hts inB5 hown hK.1 hP 0 wm0 rfl 7 (by decide) (hts _ wd_558) (fun _ h9 => h9) rfl dX5_usesOf_34 ?_
      refine lv_bipush (v := 6) (pc := 37) hx hb dX5_usesOf_37 (by decide) ?_
      refine lv_iload_n (pc := 39) hx hb dX5_usesOf_39 rfl (lv_at hl 3 rfl) ?_
      refine lv_imul (pc := 40) hx hb dX5_usesOf_40 ?_
      refine lv_iload (pc := 41) hx hb dX5_usesOf_41 (lv_at hl 4 rfl) ?_
      refine lv_iadd (pc := 43) hx hb dX5_usesOf_43 ?_
      obtain ⟨hin, h⟩ := gd_some h
      refine r_ald (pc := 44) hx hb hK hP 7 wm7 hin dX5_usesOf_44 ?_
      refine lv_iload_n (pc := 45) hx hb dX5_usesOf_45 rfl (lv_at hl 1 rfl) ?_
      refine lv_icmp_ne (tgt := 53) (pc := 46) hx hb dX5_usesOf_46 (by decide) (fun hc => ?_) (fun hc => ?_)
      · have h := if_n hc h
        refine lv_iconst (v := 0) (pc := 53) hx hb dX5_usesOf_53 (by decide) ?_
        refine lv_iadd (pc := 54) hx hb dX5_usesOf_54 ?_
        refine lv_topi (fun y2 ey2 => ?_)
        have h := bd_y ey2 h
        refine lv_istore_n (lv' := [(2, .int y2), (0, .ref (a 0)), (1, .int x1), (3, .int x3), (4, .int x4)]) (pc := 55) hx hb dX5_usesOf_55 rfl hl (by decide) rfl (fun ls hl => ?_)
        refine lv_iinc (v := (x4 + 1)) (lv' := [(4, .int (x4 + 1)), (2, .int y2), (0, .ref (a 0)), (1, .int x1), (3, .int x3)]) (pc := 56) hx hb dX5_usesOf_56 hl (k := 4) rfl (ii1 _) (by decide) rfl (fun ls hl => ?_)
        refine lv_goto (tgt := 13) (pc := 59) hx hb dX5_usesOf_59 (by decide) ?_
        exact hk13 _ _ _ _ h ls (lv_sub hl [2, 3, 1, 4, 0] rfl)
      · have h := if_y hc h
        refine lv_iconst (v := 1) (pc := 49) hx hb dX5_usesOf_49 (by decide) ?_
        refine lv_goto (tgt := 54) (pc := 50) hx hb dX5_usesOf_50 (by decide) ?_
        refine lv_iadd (pc := 54) hx hb dX5_usesOf_54 ?_
        refine lv_topi (fun y3 ey3 => ?_)
        have h := bd_y ey3 h
        refine lv_istore_n (lv' := [(2, .int y3), (0, .ref (a 0)), (1, .int x1), (3, .int x3), (4, .int x4)]) (pc := 55) hx hb dX5_usesOf_55 rfl hl (by decide) rfl (fun ls hl => ?_)
        refine lv_iinc (v := (x4 + 1)) (lv' := [(4, .int (x4 + 1)), (2, .int y3), (0, .ref (a 0)), (1, .int x1), (3, .int x3)]) (pc := 56) hx hb dX5_usesOf_56 hl (k := 4) rfl (ii1 _) (by decide) rfl (fun ls hl => ?_)
        refine lv_goto (tgt := 13) (pc := 59) hx hb dX5_usesOf_59 (by decide) ?_
        exact hk13 _ _ _ _ h ls (lv_sub hl [2, 3, 1, 4, 0] rfl)
theorem t_X5_usesOf_13 {rr : Int32} (hI : aI 18 a) (N : Nat) (C : bC D E RX5 cX5_usesOf 5 (some .int) p s m args meth c) {S : St} (hP : va_P D vwCl (Wm E a S) s.heap) (k4 : Int32 × Int32 × Int32 → Option (Int32)) (hk4 : ∀ (x1 : Int32) (x2 : Int32) (x3 : Int32), k4 (x1, x2, x3) = some rr → gR p l e (bRm 1 21) s m args below meth c 5 (qS below rr args s) 4 [(0, .ref (a 0)), (1, .int x1), (2, .int x2), (3, .int x3)] []) {n : Nat} {x1 : Int32} {x2 : Int32} {x3 : Int32} {x4 : Int32} (h : lpI (F_X5_usesOf_13 N k4 S) n (x1, x2, x3, x4) = some rr) : gR p l e (bRm 1 21) s m args below meth c 5 (qS below rr args s) 13 [(0, .ref (a 0)), (1, .int x1), (2, .int x2), (3, .int x3), (4, .int x4)] [] := by
  exact lpI_ind (P := fun v q => q = rr → gR p l e (bRm 1 21) s m args below meth c 5 (qS below rr args s) 13 [(0, .ref (a 0)), (1, .int v.1), (2, .int v.2.1), (3, .int v.2.2.1), (4, .int v.2.2.2)] []) (fun k hk v q h9 hq => s_X5_usesOf_13 hI N C hP k4 hk4 k (fun x1 x2 x3 x4 h8 => hk (x1, x2, x3, x4) _ h8 rfl) (h9.trans (congrArg some hq))) n (x1, x2, x3, x4) _ h rfl
def FB_X5_usesOf_4 (N : Nat) (S : St) (k4 : Int32 × Int32 × Int32 → Option (Int32)) (x1 : Int32) (x2 : Int32) (x3 : Int32) : Option (Int32) :=
  if 6 ≤ x3 then (some x2) else (lpI (F_X5_usesOf_13 N k4 S) N (x1, x2, x3, 0))
def F_X5_usesOf_4 (N : Nat) (S : St) (k4 : Int32 × Int32 × Int32 → Option (Int32)) (v : Int32 × Int32 × Int32) : Option (Int32) := FB_X5_usesOf_4 N S k4 v.1 v.2.1 v.2.2
theorem s_X5_usesOf_4 {rr : Int32} (hI : aI 18 a) (N : Nat) (C : bC D E RX5 cX5_usesOf 5 (some .int) p s m args meth c) {S : St} (hP : va_P D vwCl (Wm E a S) s.heap) (k4 : Int32 × Int32 × Int32 → Option (Int32)) (hk4 : ∀ (x1 : Int32) (x2 : Int32) (x3 : Int32), k4 (x1, x2, x3) = some rr → gR p l e (bRm 1 21) s m args below meth c 5 (qS below rr args s) 4 [(0, .ref (a 0)), (1, .int x1), (2, .int x2), (3, .int x3)] []) {x1 : Int32} {x2 : Int32} {x3 : Int32} (h : FB_X5_usesOf_4 N S k4 x1 x2 x3 = some rr) : gR p l e (bRm 1 21) s m args below meth c 5 (qS below rr args s) 4 [(0, .ref (a 0)), (1, .int x1), (2, .int x2), (3, .int x3)] [] := by
  obtain ⟨hx, hb, hml, hown, hts, hK, hr, hlocks⟩ := id C
  intro ls hl
  unfold FB_X5_usesOf_4 at h
  refine lv_iload_n (pc := 4) hx hb dX5_usesOf_4 rfl (lv_at hl 3 rfl) ?_
  refine lv_bipush (v := 6) (pc := 5) hx hb dX5_usesOf_5 (by decide) ?_
  refine lv_icmp_ge (tgt := 68) (pc := 7) hx hb dX5_usesOf_7 (by decide) (fun hc => ?_) (fun hc => ?_)
  · have h := if_y hc h
    refine lv_iload_n (pc := 68) hx hb dX5_usesOf_68 rfl (lv_at hl 2 rfl) ?_
    exact r_retS (pc := 69) C h dX5_usesOf_69
  · have h := if_n hc h
    refine lv_iconst (v := 0) (pc := 10) hx hb dX5_usesOf_10 (by decide) ?_
    refine lv_istore (lv' := [(4, .int 0), (0, .ref (a 0)), (1, .int x1), (2, .int x2), (3, .int x3)]) (pc := 11) hx hb dX5_usesOf_11 hl (by decide) rfl (fun ls hl => ?_)
    exact t_X5_usesOf_13 hI N C hP k4 hk4 h ls (lv_sub hl [1, 2, 3, 4, 0] rfl)
theorem t_X5_usesOf_4 {rr : Int32} (hI : aI 18 a) (N : Nat) (C : bC D E RX5 cX5_usesOf 5 (some .int) p s m args meth c) {S : St} (hP : va_P D vwCl (Wm E a S) s.heap) {n : Nat} {x1 : Int32} {x2 : Int32} {x3 : Int32} (h : lpI (F_X5_usesOf_4 N S) n (x1, x2, x3) = some rr) : gR p l e (bRm 1 21) s m args below meth c 5 (qS below rr args s) 4 [(0, .ref (a 0)), (1, .int x1), (2, .int x2), (3, .int x3)] [] := by
  exact lpI_ind (P := fun v q => q = rr → gR p l e (bRm 1 21) s m args below meth c 5 (qS below rr args s) 4 [(0, .ref (a 0)), (1, .int v.1), (2, .int v.2.1), (3, .int v.2.2)] []) (fun k hk v q h9 hq => s_X5_usesOf_4 hI N C hP k (fun x1 x2 x3 h8 => hk (x1, x2, x3) _ h8 rfl) (h9.trans (congrArg some hq))) n (x1, x2, x3) _ h rfl
def f_X5_usesOf (N : Nat) (x1 : Int32) (S : St) : Option (Int32) :=
  lpI (F_X5_usesOf_4 N S) N (x1, 0, 0)
theorem t_X5_usesOf_0 {rr : Int32} (hI : aI 18 a) (N : Nat) (C : bC D E RX5 cX5_usesOf 5 (some .int) p s m args meth c) {S : St} (hP : va_P D vwCl (Wm E a S) s.heap) {x1 : Int32} (h : f_X5_usesOf N x1 S = some rr) : gR p l e (bRm 1 21) s m args below meth c 5 (qS below rr args s) 0 [(0, .ref (a 0)), (1, .int x1)] [] := by
  obtain ⟨hx, hb, hml, hown, hts, hK, hr, hlocks⟩ := id C
  intro ls hl
  unfold f_X5_usesOf at h
  refine lv_iconst (v := 0) (pc := 0) hx hb dX5_usesOf_0 (by decide) ?_
  refine lv_istore_n (lv' := [(2, .int 0), (0, .ref (a 0)), (1, .int x1)]) (pc := 1) hx hb dX5_usesOf_1 rfl hl (by decide) rfl (fun ls hl => ?_)
  refine lv_iconst (v := 0) (pc := 2) hx hb dX5_usesOf_2 (by decide) ?_
  refine lv_istore_n (lv' := [(3, .int 0), (2, .int 0), (0, .ref (a 0)), (1, .int x1)]) (pc := 3) hx hb dX5_usesOf_3 rfl hl (by decide) rfl (fun ls hl => ?_)
  exact t_X5_usesOf_4 hI N C hP h ls (lv_sub hl [2, 3, 1, 0] rfl)
theorem c_X5_usesOf {l : Launch} {D : va_G} {E : bE} {a : Nat → Nat} (hI : aI 18 a) (N : Nat) {rr : Int32} {S : St} {x1 : Int32} (h : f_X5_usesOf N x1 S = some rr) : cR l D E yX5_usesOf cX5_usesOf 5 (some .int) 1 21 (Wm E a S) [.ref (a 0), .int x1] rr := cR_of (by decide) (Nat.le_of_ble_eq_true rfl) (fun p e s m args below meth c C hP => t_X5_usesOf_0 hI N C hP h)
/-! X5_loosen -/
def FB_X5_loosen_20 (N : Nat) (k10 : Int32 × Int32 × Int32 × Int32 × St → Option (St)) (k20 : Int32 × Int32 × Int32 × Int32 × Int32 × St → Option (St)) (x1 : Int32) (x2 : Int32) (x3 : Int32) (x4 : Int32) (x5 : Int32) (S : St) : Option (St) :=
  if x4 ≤ x5 then (k10 (x1, x2, x3, (x4 + 1), S)) else (bd (f_X5_has x3 x4) fun r1 => if r1 = 0 then (k10 (x1, x2, x3, (x4 + 1), S)) else (gd (ix ((6 * x4) + x5) 36) (if (S 7 (Int32.toNatClampNeg ((6 * x4) + x5))) = x1 then (gd (ix ((6 * x4) + x5) 36) (bd (some (sto S 7 (Int32.toNatClampNeg ((6 * x4) + x5)) x2)) fun S2 => k20 (x1, x2, x3, x4, (x5 + 1), S2))) else (gd (ix ((6 * x4) + x5) 36) (gd (ix ((6 * x4) + x5) 36) (bd (some (sto S 7 (Int32.toNatClampNeg ((6 * x4) + x5)) (S 7 (Int32.toNatClampNeg ((6 * x4) + x5))))) fun S1 => k20 (x1, x2, x3, x4, (x5 + 1), S1)))))))
def F_X5_loosen_20 (N : Nat) (k10 : Int32 × Int32 × Int32 × Int32 × St → Option (St)) (k20 : Int32 × Int32 × Int32 × Int32 × Int32 × St → Option (St)) (v : Int32 × Int32 × Int32 × Int32 × Int32 × St) : Option (St) := FB_X5_loosen_20 N k10 k20 v.1 v.2.1 v.2.2.1 v.2.2.2.1 v.2.2.2.2.1 v.2.2.2.2.2
theorem s_X5_loosen_20 {SS : St} (hI : aI 18 a) (N : Nat) (C : bC D E RX5 cX5_loosen 6 none p s m args meth c) (k10 : Int32 × Int32 × Int32 × Int32 × St → Option (St)) (hk10 : ∀ (x1 : Int32) (x2 : Int32) (x3 : Int32) (x4 : Int32) (S : St), k10 (x1, x2, x3, x4, S) = some SS → gU D (Wm E a) (aA 18 a) p l e (bRm 1 21) s m args below meth c 6 (qV D below (aA 18 a) (Wm E a SS) args s) 10 [(0, .ref (a 0)), (1, .int x1), (2, .int x2), (3, .int x3), (4, .int x4)] [] S) (k20 : Int32 × Int32 × Int32 × Int32 × Int32 × St → Option (St)) (hk20 : ∀ (x1 : Int32) (x2 : Int32) (x3 : Int32) (x4 : Int32) (x5 : Int32) (S : St), k20 (x1, x2, x3, x4, x5, S) = some SS → gU D (Wm E a) (aA 18 a) p l e (bRm 1 21) s m args below meth c 6 (qV D below (aA 18 a) (Wm E a SS) args s) 20 [(0, .ref (a 0)), (1, .int x1), (2, .int x2), (3, .int x3), (4, .int x4), (5, .int x5)] [] S) {x1 : Int32} {x2 : Int32} {x3 : Int32} {x4 : Int32} {x5 : Int32} {S : St} (h : FB_X5_loosen_20 N k10 k20 x1 x2 x3 x4 x5 S = some SS) : gU D (Wm E a) (aA 18 a) p l e (bRm 1 21) s m args below meth c 6 (qV D below (aA 18 a) (Wm E a SS) args s) 20 [(0, .ref (a 0)), (1, .int x1), (2, .int x2), (3, .int x3), (4, .int x4), (5, .int x5)] [] S := by
  obtain ⟨hx, hb, hml, hown, hts, hK, hr, hlocks⟩ := id C
  intro H locs hP hS ls hl
  unfold FB_X5_loosen_20 at h
  refine lv_iload (pc := 20) hx hb dX5_loosen_20 (lv_at hl 5 rfl) ?_
  refine lv_iload (pc := 22) hx hb dX5_loosen_22 (lv_at hl 4 rfl) ?_
  refine lv_icmp_ge (tgt := 89) (pc := 24) hx hb dX5_loosen_24 (by decide) (fun hc => ?_) (fun hc => ?_)
  · have h := if_y hc h
    refine lv_iinc (v := (x4 + 1)) (lv' := [(4, .int (x4 + 1)), (0, .ref (a 0)), (1, .int x1), (2, .int x2), (3, .int x3), (5, .int x5)]) (pc := 89) hx hb dX5_loosen_89 hl (k := 4) rfl (ii1 _) (by decide) rfl (fun ls hl => ?_)
    refine lv_goto (tgt := 10) (pc := 92) hx hb dX5_loosen_92 (by decide) ?_
    exact hk10 _ _ _ _ _ h H locs hP hS ls (lv_sub hl [1, 2, 3, 4, 0] rfl)
  · have h := if_n hc h
    refine lv_iload_n (pc := 27) hx hb dX5_loosen_27 rfl (lv_at hl 3 rfl) ?_
    refine lv_iload (pc := 28) hx hb dX5_loosen_28 (lv_at hl 4 rfl) ?_
    obtain ⟨r1, hr1, h⟩ := bd_some h
    refine r_callS (pc := 30) C (c_X5_has hr1) k_X5_has wd_689 ⟨Nat.le_of_ble_eq_true rfl, Nat.le_of_ble_eq_true rfl⟩ rfl hl.1 rfl (Nat.le_of_ble_eq_true rfl) dX5_loosen_30 ⟨Nat.zero_le _, Nat.zero_le _⟩ ?_
    refine lv_if_eq (tgt := 89) (pc := 33) hx hb dX5_loosen_33 (by decide) (fun hc => ?_) (fun hc => ?_)
    · have h := if_y hc h
      refine lv_iinc (v := (x4 + 1)) (lv' := [(4, .int (x4 + 1)), (0, .ref (a 0)), (1, .int x1), (2, .int x2), (3, .int x3), (5, .int x5)]) (pc := 89) hx hb dX5_loosen_89 hl (k := 4) rfl (ii1 _) (by decide) rfl (fun ls hl => ?_)
      refine lv_goto (tgt := 10) (pc := 92) hx hb dX5_loosen_92 (by decide) ?_
      exact hk10 _ _ _ _ _ h H locs hP hS ls (lv_sub hl [1, 2, 3, 4, 0] rfl)
    · have h := if_n hc h
      refine lv_aload_n (pc := 36) hx hb dX5_loosen_36 rfl (lv_at hl 0 rfl) ?_
      refine va_get (pc := 37) (v := .ref (a 7)) hx hb hts inB5 hown hK.1 hP 0 wm0 rfl 7 (by decide) (hts _ wd_558) (fun _ h9 => h9) rfl dX5_loosen_37 ?_
      refine lv_bipush (v := 6) (pc := 40) hx hb dX5_loosen_40 (by decide) ?_
      refine lv_iload (pc := 42) hx hb dX5_loosen_42 (lv_at hl 4 rfl) ?_
      refine lv_imul (pc := 44) hx hb dX5_loosen_44 ?_
      refine lv_iload (pc := 45) hx hb dX5_loosen_45 (lv_at hl 5 rfl) ?_
      refine lv_iadd (pc := 47) hx hb dX5_loosen_47 ?_
      refine lv_aload_n (pc := 48) hx hb dX5_loosen_48 rfl (lv_at hl 0 rfl) ?_
      refine va_get (pc := 49) (v := .ref (a 7)) hx hb hts inB5 hown hK.1 hP 0 wm0 rfl 7 (by decide) (hts _ wd_558) (fun _ h9 => h9) rfl dX5_loosen_49 ?_
      refine lv_bipush (v := 6) (pc := 52) hx hb dX5_loosen_52 (by decide) ?_
      refine lv_iload (pc := 54) hx hb dX5_loosen_54 (lv_at hl 4 rfl) ?_
      refine lv_imul (pc := 56) hx hb dX5_loosen_56 ?_
      refine lv_iload (pc := 57) hx hb dX5_loosen_57 (lv_at hl 5 rfl) ?_
      refine lv_iadd (pc := 59) hx hb dX5_loosen_59 ?_
      obtain ⟨hin, h⟩ := gd_some h
      refine r_ald (pc := 60) hx hb hK hP 7 wm7 hin dX5_loosen_60 ?_
      refine lv_iload_n (pc := 61) hx hb dX5_loosen_61 rfl (lv_at hl 1 rfl) ?_
      refine lv_icmp_ne (tgt := 69) (pc := 62) hx hb dX5_loosen_62 (by decide) (fun hc => ?_) (fun hc => ?_)
      · have h := if_n hc h
        refine lv_aload_n (pc := 69) hx hb dX5_loosen_69 rfl (lv_at hl 0 rfl) ?_
        refine va_get (pc := 70) (v := .ref (a 7)) hx hb hts inB5 hown hK.1 hP 0 wm0 rfl 7 (by decide) (hts _ wd_558) (fun _ h9 => h9) rfl dX5_loosen_70 ?_
        refine lv_bipush (v := 6) (pc := 73) hx hb dX5_loosen_73 (by decide) ?_
        refine lv_iload (pc := 75) hx hb dX5_loosen_75 (lv_at hl 4 rfl) ?_
        refine lv_imul (pc := 77) hx hb dX5_loosen_77 ?_
        refine lv_iload (pc := 78) hx hb dX5_loosen_78 (lv_at hl 5 rfl) ?_
        refine lv_iadd (pc := 80) hx hb dX5_loosen_80 ?_
        obtain ⟨hin, h⟩ := gd_some h
        refine r_ald (pc := 81) hx hb hK hP 7 wm7 hin dX5_loosen_81 ?_
        obtain ⟨hin, h⟩ := gd_some h
        refine r_ast (pc := 82) (𝓦 := Wm E a) hx hb hK hP (dM hI _) hS 7 wm7 wm7s hin dX5_loosen_82 (fun H locs S1 eS1 hP hS => ?_)
        have h := bd_y eS1 h
        refine lv_iinc (v := (x5 + 1)) (lv' := [(5, .int (x5 + 1)), (0, .ref (a 0)), (1, .int x1), (2, .int x2), (3, .int x3), (4, .int x4)]) (pc := 83) hx hb dX5_loosen_83 hl (k := 5) rfl (ii1 _) (by decide) rfl (fun ls hl => ?_)
        refine lv_goto (tgt := 20) (pc := 86) hx hb dX5_loosen_86 (by decide) ?_
        exact hk20 _ _ _ _ _ _ h H locs hP hS ls (lv_sub hl [1, 2, 3, 4, 5, 0] rfl)
      · have h := if_y hc h
        refine lv_iload_n (pc := 65) hx hb dX5_loosen_65 rfl (lv_at hl 2 rfl) ?_
        refine lv_goto (tgt := 82) (pc := 66) hx hb dX5_loosen_66 (by decide) ?_
        obtain ⟨hin, h⟩ := gd_some h
        refine r_ast (pc := 82) (𝓦 := Wm E a) hx hb hK hP (dM hI _) hS 7 wm7 wm7s hin dX5_loosen_82 (fun H locs S2 eS2 hP hS => ?_)
        have h := bd_y eS2 h
        refine lv_iinc (v := (x5 + 1)) (lv' := [(5, .int (x5 + 1)), (0, .ref (a 0)), (1, .int x1), (2, .int x2), (3, .int x3), (4, .int x4)]) (pc := 83) hx hb dX5_loosen_83 hl (k := 5) rfl (ii1 _) (by decide) rfl (fun ls hl => ?_)
        refine lv_goto (tgt := 20) (pc := 86) hx hb dX5_loosen_86 (by decide) ?_
        exact hk20 _ _ _ _ _ _ h H locs hP hS ls (lv_sub hl [1, 2, 3, 4, 5, 0] rfl)
theorem t_X5_loosen_20 {SS : St} (hI : aI 18 a) (N : Nat) (C : bC D E RX5 cX5_loosen 6 none p s m args meth c) (k10 : Int32 × Int32 × Int32 × Int32 × St → Option (St)) (hk10 : ∀ (x1 : Int32) (x2 : Int32) (x3 : Int32) (x4 : Int32) (S : St), k10 (x1, x2, x3, x4, S) = some SS → gU D (Wm E a) (aA 18 a) p l e (bRm 1 21) s m args below meth c 6 (qV D below (aA 18 a) (Wm E a SS) args s) 10 [(0, .ref (a 0)), (1, .int x1), (2, .int x2), (3, .int x3), (4, .int x4)] [] S) {n : Nat} {x1 : Int32} {x2 : Int32} {x3 : Int32} {x4 : Int32} {x5 : Int32} {S : St} (h : lpI (F_X5_loosen_20 N k10) n (x1, x2, x3, x4, x5, S) = some SS) : gU D (Wm E a) (aA 18 a) p l e (bRm 1 21) s m args below meth c 6 (qV D below (aA 18 a) (Wm E a SS) args s) 20 [(0, .ref (a 0)), (1, .int x1), (2, .int x2), (3, .int x3), (4, .int x4), (5, .int x5)] [] S := by
  exact lpI_ind (P := fun v q => q = SS → gU D (Wm E a) (aA 18 a) p l e (bRm 1 21) s m args below meth c 6 (qV D below (aA 18 a) (Wm E a SS) args s) 20 [(0, .ref (a 0)), (1, .int v.1), (2, .int v.2.1), (3, .int v.2.2.1), (4, .int v.2.2.2.1), (5, .int v.2.2.2.2.1)] [] v.2.2.2.2.2) (fun k hk v q h9 hq => s_X5_loosen_20 hI N C k10 hk10 k (fun x1 x2 x3 x4 x5 S h8 => hk (x1, x2, x3, x4, x5, S) _ h8 rfl) (h9.trans (congrArg some hq))) n (x1, x2, x3, x4, x5, S) _ h rfl
def FB_X5_loosen_10 (N : Nat) (k10 : Int32 × Int32 × Int32 × Int32 × St → Option (St)) (x1 : Int32) (x2 : Int32) (x3 : Int32) (x4 : Int32) (S : St) : Option (St) :=
  if 6 ≤ x4 then (some S) else (lpI (F_X5_loosen_20 N k10) N (x1, x2, x3, x4, 0, S))
def F_X5_loosen_10 (N : Nat) (k10 : Int32 × Int32 × Int32 × Int32 × St → Option (St)) (v : Int32 × Int32 × Int32 × Int32 × St) : Option (St) := FB_X5_loosen_10 N k10 v.1 v.2.1 v.2.2.1 v.2.2.2.1 v.2.2.2.2
theorem s_X5_loosen_10 {SS : St} (hI : aI 18 a) (N : Nat) (C : bC D E RX5 cX5_loosen 6 none p s m args meth c) (k10 : Int32 × Int32 × Int32 × Int32 × St → Option (St)) (hk10 : ∀ (x1 : Int32) (x2 : Int32) (x3 : Int32) (x4 : Int32) (S : St), k10 (x1, x2, x3, x4, S) = some SS → gU D (Wm E a) (aA 18 a) p l e (bRm 1 21) s m args below meth c 6 (qV D below (aA 18 a) (Wm E a SS) args s) 10 [(0, .ref (a 0)), (1, .int x1), (2, .int x2), (3, .int x3), (4, .int x4)] [] S) {x1 : Int32} {x2 : Int32} {x3 : Int32} {x4 : Int32} {S : St} (h : FB_X5_loosen_10 N k10 x1 x2 x3 x4 S = some SS) : gU D (Wm E a) (aA 18 a) p l e (bRm 1 21) s m args below meth c 6 (qV D below (aA 18 a) (Wm E a SS) args s) 10 [(0, .ref (a 0)), (1, .int x1), (2, .int x2), (3, .int x3), (4, .int x4)] [] S := by
  obtain ⟨hx, hb, hml, hown, hts, hK, hr, hlocks⟩ := id C
  intro H locs hP hS ls hl
  unfold FB_X5_loosen_10 at h
  refine lv_iload (pc := 10) hx hb dX5_loosen_10 (lv_at hl 4 rfl) ?_
  refine lv_bipush (v := 6) (pc := 12) hx hb dX5_loosen_12 (by decide) ?_
  refine lv_icmp_ge (tgt := 95) (pc := 14) hx hb dX5_loosen_14 (by decide) (fun hc => ?_) (fun hc => ?_)
  · have h := if_y hc h
    exact r_retV (pc := 95) (𝓦 := Wm E a) C h hP hS dX5_loosen_95
  · have h := if_n hc h
    refine lv_iconst (v := 0) (pc := 17) hx hb dX5_loosen_17 (by decide) ?_
    refine lv_istore (lv' := [(5, .int 0), (0, .ref (a 0)), (1, .int x1), (2, .int x2), (3, .int x3), (4, .int x4)]) (pc := 18) hx hb dX5_loosen_18 hl (by decide) rfl (fun ls hl => ?_)
    exact t_X5_loosen_20 hI N C k10 hk10 h H locs hP hS ls (lv_sub hl [1, 2, 3, 4, 5, 0] rfl)
theorem t_X5_loosen_10 {SS : St} (hI : aI 18 a) (N : Nat) (C : bC D E RX5 cX5_loosen 6 none p s m args meth c) {n : Nat} {x1 : Int32} {x2 : Int32} {x3 : Int32} {x4 : Int32} {S : St} (h : lpI (F_X5_loosen_10 N) n (x1, x2, x3, x4, S) = some SS) : gU D (Wm E a) (aA 18 a) p l e (bRm 1 21) s m args below meth c 6 (qV D below (aA 18 a) (Wm E a SS) args s) 10 [(0, .ref (a 0)), (1, .int x1), (2, .int x2), (3, .int x3), (4, .int x4)] [] S := by
  exact lpI_ind (P := fun v q => q = SS → gU D (Wm E a) (aA 18 a) p l e (bRm 1 21) s m args below meth c 6 (qV D below (aA 18 a) (Wm E a SS) args s) 10 [(0, .ref (a 0)), (1, .int v.1), (2, .int v.2.1), (3, .int v.2.2.1), (4, .int v.2.2.2.1)] [] v.2.2.2.2) (fun k hk v q h9 hq => s_X5_loosen_10 hI N C k (fun x1 x2 x3 x4 S h8 => hk (x1, x2, x3, x4, S) _ h8 rfl) (h9.trans (congrArg some hq))) n (x1, x2, x3, x4, S) _ h rfl
def f_X5_loosen (N : Nat) (x1 : Int32) (x2 : Int32) (S : St) : Option (St) :=
  gd (ix 3 4) (bd (some (S 8 (Int32.toNatClampNeg 3))) fun y1 => lpI (F_X5_loosen_10 N) N (x1, x2, y1, 0, S))
theorem t_X5_loosen_0 {SS : St} (hI : aI 18 a) (N : Nat) (C : bC D E RX5 cX5_loosen 6 none p s m args meth c) {x1 : Int32} {x2 : Int32} {S : St} (h : f_X5_loosen N x1 x2 S = some SS) : gU D (Wm E a) (aA 18 a) p l e (bRm 1 21) s m args below meth c 6 (qV D below (aA 18 a) (Wm E a SS) args s) 0 [(0, .ref (a 0)), (1, .int x1), (2, .int x2)] [] S := by
  obtain ⟨hx, hb, hml, hown, hts, hK, hr, hlocks⟩ := id C
  intro H locs hP hS ls hl
  unfold f_X5_loosen at h
  refine lv_aload_n (pc := 0) hx hb dX5_loosen_0 rfl (lv_at hl 0 rfl) ?_
  refine va_get (pc := 1) (v := .ref (a 8)) hx hb hts inB5 hown hK.1 hP 0 wm0 rfl 13 (by decide) (hts _ wd_564) (fun _ h9 => h9) rfl dX5_loosen_1 ?_
  refine lv_iconst (v := 3) (pc := 4) hx hb dX5_loosen_4 (by decide) ?_
  obtain ⟨hin, h⟩ := gd_some h
  refine r_ald (pc := 5) hx hb hK hP 8 wm8 hin dX5_loosen_5 ?_
  refine lv_topi (fun y1 ey1 => ?_)
  have h := bd_y ey1 h
  refine lv_istore_n (lv' := [(3, .int y1), (0, .ref (a 0)), (1, .int x1), (2, .int x2)]) (pc := 6) hx hb dX5_loosen_6 rfl hl (by decide) rfl (fun ls hl => ?_)
  refine lv_iconst (v := 0) (pc := 7) hx hb dX5_loosen_7 (by decide) ?_
  refine lv_istore (lv' := [(4, .int 0), (3, .int y1), (0, .ref (a 0)), (1, .int x1), (2, .int x2)]) (pc := 8) hx hb dX5_loosen_8 hl (by decide) rfl (fun ls hl => ?_)
  exact t_X5_loosen_10 hI N C h H locs hP hS ls (lv_sub hl [2, 3, 4, 1, 0] rfl)
theorem c_X5_loosen {l : Launch} {D : va_G} {E : bE} {a : Nat → Nat} (hI : aI 18 a) (N : Nat) {S : St} {SS : St} {x1 : Int32} {x2 : Int32} (h : f_X5_loosen N x1 x2 S = some SS) : cV l D E yX5_loosen cX5_loosen 6 1 21 (aA 18 a) (Wm E a S) (Wm E a SS) [.ref (a 0), .int x1, .int x2] := cV_of (by decide) (Nat.le_of_ble_eq_true rfl) (fun p e s m args below meth c C => t_X5_loosen_0 hI N C h)
/-! X5_looser -/
def FB_X5_looser_144 (N : Nat) (k59 : Int32 × Int32 × Int32 × Int32 × St → Option (Int32 × St)) (k71 : Int32 × Int32 × Int32 × Int32 × Int32 × St → Option (Int32 × St)) (k144 : Int32 × Int32 × Int32 × Int32 × Int32 × Int32 × St → Option (Int32 × St)) (x1 : Int32) (x2 : Int32) (x3 : Int32) (x4 : Int32) (x5 : Int32) (x7 : Int32) (S : St) : Option (Int32 × St) :=
  if 36 ≤ x7 then (k71 (x1, x2, x3, x4, (x5 + 1), S)) else (gd (ix x7 36) (gd (ix x7 36) (bd (some (sto S 7 (Int32.toNatClampNeg x7) (S 12 (Int32.toNatClampNeg x7)))) fun S1 => k144 (x1, x2, x3, x4, x5, (x7 + 1), S1))))
def F_X5_looser_144 (N : Nat) (k59 : Int32 × Int32 × Int32 × Int32 × St → Option (Int32 × St)) (k71 : Int32 × Int32 × Int32 × Int32 × Int32 × St → Option (Int32 × St)) (k144 : Int32 × Int32 × Int32 × Int32 × Int32 × Int32 × St → Option (Int32 × St)) (v : Int32 × Int32 × Int32 × Int32 × Int32 × Int32 × St) : Option (Int32 × St) := FB_X5_looser_144 N k59 k71 k144 v.1 v.2.1 v.2.2.1 v.2.2.2.1 v.2.2.2.2.1 v.2.2.2.2.2.1 v.2.2.2.2.2.2
theorem s_X5_looser_144 {rr : Int32} {SS : St} (hI : aI 18 a) (N : Nat) (C : bC D E RX5 cX5_looser 8 (some .int) p s m args meth c) (k59 : Int32 × Int32 × Int32 × Int32 × St → Option (Int32 × St)) (hk59 : ∀ (x1 : Int32) (x2 : Int32) (x3 : Int32) (x4 : Int32) (S : St), k59 (x1, x2, x3, x4, S) = some (rr, SS) → gU D (Wm E a) (aA 18 a) p l e (bRm 5 107) s m args below meth c 8 (qU D below (aA 18 a) (Wm E a SS) rr args s) 59 [(0, .ref (a 0)), (1, .int x1), (2, .int x2), (3, .int x3), (4, .int x4)] [] S) (k71 : Int32 × Int32 × Int32 × Int32 × Int32 × St → Option (Int32 × St)) (hk71 : ∀ (x1 : Int32) (x2 : Int32) (x3 : Int32) (x4 : Int32) (x5 : Int32) (S : St), k71 (x1, x2, x3, x4, x5, S) = some (rr, SS) → gU D (Wm E a) (aA 18 a) p l e (bRm 5 107) s m args below meth c 8 (qU D below (aA 18 a) (Wm E a SS) rr args s) 71 [(0, .ref (a 0)), (1, .int x1), (2, .int x2), (3, .int x3), (4, .int x4), (5, .int x5)] [] S) (k144 : Int32 × Int32 × Int32 × Int32 × Int32 × Int32 × St → Option (Int32 × St)) (hk144 : ∀ (x1 : Int32) (x2 : Int32) (x3 : Int32) (x4 : Int32) (x5 : Int32) (x7 : Int32) (S : St), k144 (x1, x2, x3, x4, x5, x7, S) = some (rr, SS) → gU D (Wm E a) (aA 18 a) p l e (bRm 5 107) s m args below meth c 8 (qU D below (aA 18 a) (Wm E a SS) rr args s) 144 [(0, .ref (a 0)), (1, .int x1), (2, .int x2), (3, .int x3), (4, .int x4), (5, .int x5), (7, .int x7)] [] S) {x1 : Int32} {x2 : Int32} {x3 : Int32} {x4 : Int32} {x5 : Int32} {x7 : Int32} {S : St} (h : FB_X5_looser_144 N k59 k71 k144 x1 x2 x3 x4 x5 x7 S = some (rr, SS)) : gU D (Wm E a) (aA 18 a) p l e (bRm 5 107) s m args below meth c 8 (qU D below (aA 18 a) (Wm E a SS) rr args s) 144 [(0, .ref (a 0)), (1, .int x1), (2, .int x2), (3, .int x3), (4, .int x4), (5, .int x5), (7, .int x7)] [] S := by
  obtain ⟨hx, hb, hml, hown, hts, hK, hr, hlocks⟩ := id C
  intro H locs hP hS ls hl
  unfold FB_X5_looser_144 at h
  refine lv_iload (pc := 144) hx hb dX5_looser_144 (lv_at hl 6 rfl) ?_
  refine lv_bipush (v := 36) (pc := 146) hx hb dX5_looser_146 (by decide) ?_
  refine lv_icmp_ge (tgt := 171) (pc := 148) hx hb dX5_looser_148 (by decide) (fun hc => ?_) (fun hc => ?_)
  · have h := if_y hc h
    refine lv_iinc (v := (x5 + 1)) (lv' := [(5, .int (x5 + 1)), (0, .ref (a 0)), (1, .int x1), (2, .int x2), (3, .int x3), (4, .int x4), (7, .int x7)]) (pc := 171) hx hb dX5_looser_171 hl (k := 5) rfl (ii1 _) (by decide) rfl (fun ls hl => ?_)
    refine lv_goto (tgt := 71) (pc := 174) hx hb dX5_looser_174 (by decide) ?_
    exact hk71 _ _ _ _ _ _ h H locs hP hS ls (lv_sub hl [1, 2, 3, 4, 5, 0] rfl)
  · have h := if_n hc h
    refine lv_aload_n (pc := 151) hx hb dX5_looser_151 rfl (lv_at hl 0 rfl) ?_
    refine va_get (pc := 152) (v := .ref (a 7)) hx hb hts inB5 hown hK.1 hP 0 wm0 rfl 7 (by decide) (hts _ wd_558) (fun _ h9 => h9) rfl dX5_looser_152 ?_
    refine lv_iload (pc := 155) hx hb dX5_looser_155 (lv_at hl 6 rfl) ?_
    refine lv_aload_n (pc := 157) hx hb dX5_looser_157 rfl (lv_at hl 0 rfl) ?_
    refine va_get (pc := 158) (v := .ref (a 12)) hx hb hts inB5 hown hK.1 hP 0 wm0 rfl 20 (by decide) (hts _ wd_571) (fun _ h9 => h9) rfl dX5_looser_158 ?_
    refine lv_iload (pc := 161) hx hb dX5_looser_161 (lv_at hl 6 rfl) ?_
    obtain ⟨hin, h⟩ := gd_some h
    refine r_ald (pc := 163) hx hb hK hP 12 wm12 hin dX5_looser_163 ?_
    obtain ⟨hin, h⟩ := gd_some h
    refine r_ast (pc := 164) (𝓦 := Wm E a) hx hb hK hP (dM hI _) hS 7 wm7 wm7s hin dX5_looser_164 (fun H locs S1 eS1 hP hS => ?_)
    have h := bd_y eS1 h
    refine lv_iinc (v := (x7 + 1)) (lv' := [(7, .int (x7 + 1)), (0, .ref (a 0)), (1, .int x1), (2, .int x2), (3, .int x3), (4, .int x4), (5, .int x5)]) (pc := 165) hx hb dX5_looser_165 hl (k := 6) rfl (ii1 _) (by decide) rfl (fun ls hl => ?_)
    refine lv_goto (tgt := 144) (pc := 168) hx hb dX5_looser_168 (by decide) ?_
    exact hk144 _ _ _ _ _ _ _ h H locs hP hS ls (lv_sub hl [1, 2, 3, 4, 5, 6, 0] rfl)
theorem t_X5_looser_144 {rr : Int32} {SS : St} (hI : aI 18 a) (N : Nat) (C : bC D E RX5 cX5_looser 8 (some .int) p s m args meth c) (k59 : Int32 × Int32 × Int32 × Int32 × St → Option (Int32 × St)) (hk59 : ∀ (x1 : Int32) (x2 : Int32) (x3 : Int32) (x4 : Int32) (S : St), k59 (x1, x2, x3, x4, S) = some (rr, SS) → gU D (Wm E a) (aA 18 a) p l e (bRm 5 107) s m args below meth c 8 (qU D below (aA 18 a) (Wm E a SS) rr args s) 59 [(0, .ref (a 0)), (1, .int x1), (2, .int x2), (3, .int x3), (4, .int x4)] [] S) (k71 : Int32 × Int32 × Int32 × Int32 × Int32 × St → Option (Int32 × St)) (hk71 : ∀ (x1 : Int32) (x2 : Int32) (x3 : Int32) (x4 : Int32) (x5 : Int32) (S : St), k71 (x1, x2, x3, x4, x5, S) = some (rr, SS) → gU D (Wm E a) (aA 18 a) p l e (bRm 5 107) s m args below meth c 8 (qU D below (aA 18 a) (Wm E a SS) rr args s) 71 [(0, .ref (a 0)), (1, .int x1), (2, .int x2), (3, .int x3), (4, .int x4), (5, .int x5)] [] S) {n : Nat} {x1 : Int32} {x2 : Int32} {x3 : Int32} {x4 : Int32} {x5 : Int32} {x7 : Int32} {S : St} (h : lpI (F_X5_looser_144 N k59 k71) n (x1, x2, x3, x4, x5, x7, S) = some (rr, SS)) : gU D (Wm E a) (aA 18 a) p l e (bRm 5 107) s m args below meth c 8 (qU D below (aA 18 a) (Wm E a SS) rr args s) 144 [(0, .ref (a 0)), (1, .int x1), (2, .int x2), (3, .int x3), (4, .int x4), (5, .int x5), (7, .int x7)] [] S := by
  exact lpI_ind (P := fun v q => q = (rr, SS) → gU D (Wm E a) (aA 18 a) p l e (bRm 5 107) s m args below meth c 8 (qU D below (aA 18 a) (Wm E a SS) rr args s) 144 [(0, .ref (a 0)), (1, .int v.1), (2, .int v.2.1), (3, .int v.2.2.1), (4, .int v.2.2.2.1), (5, .int v.2.2.2.2.1), (7, .int v.2.2.2.2.2.1)] [] v.2.2.2.2.2.2) (fun k hk v q h9 hq => s_X5_looser_144 hI N C k59 hk59 k71 hk71 k (fun x1 x2 x3 x4 x5 x7 S h8 => hk (x1, x2, x3, x4, x5, x7, S) _ h8 rfl) (h9.trans (congrArg some hq))) n (x1, x2, x3, x4, x5, x7, S) _ h rfl
def B_X5_looser_110 (N : Nat) (k59 : Int32 × Int32 × Int32 × Int32 × St → Option (Int32 × St)) (k71 : Int32 × Int32 × Int32 × Int32 × Int32 × St → Option (Int32 × St)) (x1 : Int32) (x2 : Int32) (x3 : Int32) (x4 : Int32) (x5 : Int32) (x6 : Int32) (S : St) : Option (Int32 × St) :=
  bd (f_X5_loosen N x4 x5 S) fun S1 => bd (f_X5_lay N S1) fun S2 => bd2 (f_X5_someGood N S2) fun r1 S3 => if r1 = 0 then (lpI (F_X5_looser_144 N k59 k71) N (x1, x2, x3, x4, x5, 0, S3)) else (bd (some ((10 * x4) + x5)) fun y2 => lpI (F_X5_looser_144 N k59 k71) N (x1, y2, x6, x4, x5, 0, S3))
theorem t_X5_looser_110 {rr : Int32} {SS : St} (hI : aI 18 a) (N : Nat) (C : bC D E RX5 cX5_looser 8 (some .int) p s m args meth c) (k59 : Int32 × Int32 × Int32 × Int32 × St → Option (Int32 × St)) (hk59 : ∀ (x1 : Int32) (x2 : Int32) (x3 : Int32) (x4 : Int32) (S : St), k59 (x1, x2, x3, x4, S) = some (rr, SS) → gU D (Wm E a) (aA 18 a) p l e (bRm 5 107) s m args below meth c 8 (qU D below (aA 18 a) (Wm E a SS) rr args s) 59 [(0, .ref (a 0)), (1, .int x1), (2, .int x2), (3, .int x3), (4, .int x4)] [] S) (k71 : Int32 × Int32 × Int32 × Int32 × Int32 × St → Option (Int32 × St)) (hk71 : ∀ (x1 : Int32) (x2 : Int32) (x3 : Int32) (x4 : Int32) (x5 : Int32) (S : St), k71 (x1, x2, x3, x4, x5, S) = some (rr, SS) → gU D (Wm E a) (aA 18 a) p l e (bRm 5 107) s m args below meth c 8 (qU D below (aA 18 a) (Wm E a SS) rr args s) 71 [(0, .ref (a 0)), (1, .int x1), (2, .int x2), (3, .int x3), (4, .int x4), (5, .int x5)] [] S) {x1 : Int32} {x2 : Int32} {x3 : Int32} {x4 : Int32} {x5 : Int32} {x6 : Int32} {S : St} (h : B_X5_looser_110 N k59 k71 x1 x2 x3 x4 x5 x6 S = some (rr, SS)) : gU D (Wm E a) (aA 18 a) p l e (bRm 5 107) s m args below meth c 8 (qU D below (aA 18 a) (Wm E a SS) rr args s) 110 [(0, .ref (a 0)), (1, .int x1), (2, .int x2), (3, .int x3), (4, .int x4), (5, .int x5), (6, .int x6)] [] S := by
  obtain ⟨hx, hb, hml, hown, hts, hK, hr, hlocks⟩ := id C
  intro H locs hP hS ls hl
  unfold B_X5_looser_110 at h
  refine lv_aload_n (pc := 110) hx hb dX5_looser_110 rfl (lv_at hl 0 rfl) ?_
  refine lv_iload (pc := 111) hx hb dX5_looser_111 (lv_at hl 4 rfl) ?_
  refine lv_iload (pc := 113) hx hb dX5_looser_113 (lv_at hl 5 rfl) ?_
  obtain ⟨S1, hS1, h⟩ := bd_some h
  refine r_callV (pc := 115) C hP hS (c_X5_loosen hI N hS1) k_X5_loosen wd_785 (q0 := 0) wm0 rfl rfl ⟨Nat.le_of_ble_eq_true rfl, Nat.le_of_ble_eq_true rfl⟩ rfl hl.1 rfl (Nat.le_of_ble_eq_true rfl) dX5_looser_115 ⟨Nat.zero_le _, Nat.zero_le _⟩ (fun H locs hP hS => ?_)
  refine lv_aload_n (pc := 118) hx hb dX5_looser_118 rfl (lv_at hl 0 rfl) ?_
  obtain ⟨S2, hS2, h⟩ := bd_some h
  refine r_callV (pc := 119) C hP hS (c_X5_lay hI N hS2) k_X5_lay wd_704 (q0 := 0) wm0 rfl rfl ⟨Nat.le_of_ble_eq_true rfl, Nat.le_of_ble_eq_true rfl⟩ rfl hl.1 rfl (Nat.le_of_ble_eq_true rfl) dX5_looser_119 ⟨Nat.zero_le _, Nat.zero_le _⟩ (fun H locs hP hS => ?_)
  refine lv_aload_n (pc := 122) hx hb dX5_looser_122 rfl (lv_at hl 0 rfl) ?_
  obtain ⟨r1, S3, hr1, h⟩ := bd2_some h
  refine r_callU (pc := 123) C hP hS (c_X5_someGood hI N hr1) k_X5_someGood wd_761 (q0 := 0) wm0 rfl rfl ⟨Nat.le_of_ble_eq_true rfl, Nat.le_of_ble_eq_true rfl⟩ rfl hl.1 rfl (Nat.le_of_ble_eq_true rfl) dX5_looser_123 ⟨Nat.zero_le _, Nat.zero_le _⟩ (fun H locs hP hS => ?_)
  refine lv_if_eq (tgt := 141) (pc := 126) hx hb dX5_looser_126 (by decide) (fun hc => ?_) (fun hc => ?_)
  · have h := if_y hc h
    refine lv_iconst (v := 0) (pc := 141) hx hb dX5_looser_141 (by decide) ?_
    refine lv_istore (lv' := [(7, .int 0), (0, .ref (a 0)), (1, .int x1), (2, .int x2), (3, .int x3), (4, .int x4), (5, .int x5), (6, .int x6)]) (pc := 142) hx hb dX5_looser_142 hl (by decide) rfl (fun ls hl => ?_)
    exact t_X5_looser_144 hI N C k59 hk59 k71 hk71 h H locs hP hS ls (lv_sub hl [1, 2, 3, 4, 5, 6, 0] rfl)
  · have h := if_n hc h
    refine lv_bipush (v := 10) (pc := 129) hx hb dX5_looser_129 (by decide) ?_
    refine lv_iload (pc := 131) hx hb dX5_looser_131 (lv_at hl 4 rfl) ?_
    refine lv_imul (pc := 133) hx hb dX5_looser_133 ?_
    refine lv_iload (pc := 134) hx hb dX5_looser_134 (lv_at hl 5 rfl) ?_
    refine lv_iadd (pc := 136) hx hb dX5_looser_136 ?_
    refine lv_topi (fun y2 ey2 => ?_)
    have h := bd_y ey2 h
    refine lv_istore_n (lv' := [(2, .int y2), (0, .ref (a 0)), (1, .int x1), (3, .int x3), (4, .int x4), (5, .int x5), (6, .int x6)]) (pc := 137) hx hb dX5_looser_137 rfl hl (by decide) rfl (fun ls hl => ?_)
    refine lv_iload (pc := 138) hx hb dX5_looser_138 (lv_at hl 6 rfl) ?_
    refine lv_istore_n (lv' := [(3, .int x6), (2, .int y2), (0, .ref (a 0)), (1, .int x1), (4, .int x4), (5, .int x5), (6, .int x6)]) (pc := 140) hx hb dX5_looser_140 rfl hl (by decide) rfl (fun ls hl => ?_)
    refine lv_iconst (v := 0) (pc := 141) hx hb dX5_looser_141 (by decide) ?_
    refine lv_istore (lv' := [(7, .int 0), (3, .int x6), (2, .int y2), (0, .ref (a 0)), (1, .int x1), (4, .int x4), (5, .int x5), (6, .int x6)]) (pc := 142) hx hb dX5_looser_142 hl (by decide) rfl (fun ls hl => ?_)
    exact t_X5_looser_144 hI N C k59 hk59 k71 hk71 h H locs hP hS ls (lv_sub hl [3, 4, 2, 1, 5, 6, 0] rfl)
def FB_X5_looser_71 (N : Nat) (k59 : Int32 × Int32 × Int32 × Int32 × St → Option (Int32 × St)) (k71 : Int32 × Int32 × Int32 × Int32 × Int32 × St → Option (Int32 × St)) (x1 : Int32) (x2 : Int32) (x3 : Int32) (x4 : Int32) (x5 : Int32) (S : St) : Option (Int32 × St) :=
  if 4 ≤ x5 then (k59 (x1, x2, x3, (x4 + 1), S)) else (bd (f_X5_lay N S) fun S1 => bd (f_X5_usesOf N x4 S1) fun r1 => bd (some (((x5 - x4) * (S1 0 9)) * r1)) fun y2 => if x2 < 0 then (B_X5_looser_110 N k59 k71 x1 x2 x3 x4 x5 y2 S1) else (if x3 ≤ y2 then (k71 (x1, x2, x3, x4, (x5 + 1), S1)) else (B_X5_looser_110 N k59 k71 x1 x2 x3 x4 x5 y2 S1)))
def F_X5_looser_71 (N : Nat) (k59 : Int32 × Int32 × Int32 × Int32 × St → Option (Int32 × St)) (k71 : Int32 × Int32 × Int32 × Int32 × Int32 × St → Option (Int32 × St)) (v : Int32 × Int32 × Int32 × Int32 × Int32 × St) : Option (Int32 × St) := FB_X5_looser_71 N k59 k71 v.1 v.2.1 v.2.2.1 v.2.2.2.1 v.2.2.2.2.1 v.2.2.2.2.2
theorem s_X5_looser_71 {rr : Int32} {SS : St} (hI : aI 18 a) (N : Nat) (C : bC D E RX5 cX5_looser 8 (some .int) p s m args meth c) (k59 : Int32 × Int32 × Int32 × Int32 × St → Option (Int32 × St)) (hk59 : ∀ (x1 : Int32) (x2 : Int32) (x3 : Int32) (x4 : Int32) (S : St), k59 (x1, x2, x3, x4, S) = some (rr, SS) → gU D (Wm E a) (aA 18 a) p l e (bRm 5 107) s m args below meth c 8 (qU D below (aA 18 a) (Wm E a SS) rr args s) 59 [(0, .ref (a 0)), (1, .int x1), (2, .int x2), (3, .int x3), (4, .int x4)] [] S) (k71 : Int32 × Int32 × Int32 × Int32 × Int32 × St → Option (Int32 × St)) (hk71 : ∀ (x1 : Int32) (x2 : Int32) (x3 : Int32) (x4 : Int32) (x5 : Int32) (S : St), k71 (x1, x2, x3, x4, x5, S) = some (rr, SS) → gU D (Wm E a) (aA 18 a) p l e (bRm 5 107) s m args below meth c 8 (qU D below (aA 18 a) (Wm E a SS) rr args s) 71 [(0, .ref (a 0)), (1, .int x1), (2, .int x2), (3, .int x3), (4, .int x4), (5, .int x5)] [] S) {x1 : Int32} {x2 : Int32} {x3 : Int32} {x4 : Int32} {x5 : Int32} {S : St} (h : FB_X5_looser_71 N k59 k71 x1 x2 x3 x4 x5 S = some (rr, SS)) : gU D (Wm E a) (aA 18 a) p l e (bRm 5 107) s m args below meth c 8 (qU D below (aA 18 a) (Wm E a SS) rr args s) 71 [(0, .ref (a 0)), (1, .int x1), (2, .int x2), (3, .int x3), (4, .int x4), (5, .int x5)] [] S := by
  obtain ⟨hx, hb, hml, hown, hts, hK, hr, hlocks⟩ := id C
  intro H locs hP hS ls hl
  unfold FB_X5_looser_71 at h
  refine lv_iload (pc := 71) hx hb dX5_looser_71 (lv_at hl 5 rfl) ?_
  refine lv_iconst (v := 4) (pc := 73) hx hb dX5_looser_73 (by decide) ?_
  refine lv_icmp_ge (tgt := 177) (pc := 74) hx hb dX5_looser_74 (by decide) (fun hc => ?_) (fun hc => ?_)
  · have h := if_y hc h
    refine lv_iinc (v := (x4 + 1)) (lv' := [(4, .int (x4 + 1)), (0, .ref (a 0)), (1, .int x1), (2, .int x2), (3, .int x3), (5, .int x5)]) (pc := 177) hx hb dX5_looser_177 hl (k := 4) rfl (ii1 _) (by decide) rfl (fun ls hl => ?_)
    refine lv_goto (tgt := 59) (pc := 180) hx hb dX5_looser_180 (by decide) ?_
    exact hk59 _ _ _ _ _ h H locs hP hS ls (lv_sub hl [1, 2, 3, 4, 0] rfl)
  · have h := if_n hc h
    refine lv_aload_n (pc := 77) hx hb dX5_looser_77 rfl (lv_at hl 0 rfl) ?_
    obtain ⟨S1, hS1, h⟩ := bd_some h
    refine r_callV (pc := 78) C hP hS (c_X5_lay hI N hS1) k_X5_lay wd_704 (q0 := 0) wm0 rfl rfl ⟨Nat.le_of_ble_eq_true rfl, Nat.le_of_ble_eq_true rfl⟩ rfl hl.1 rfl (Nat.le_of_ble_eq_true rfl) dX5_looser_78 ⟨Nat.zero_le _, Nat.zero_le _⟩ (fun H locs hP hS => ?_)
    refine lv_iload (pc := 81) hx hb dX5_looser_81 (lv_at hl 5 rfl) ?_
    refine lv_iload (pc := 83) hx hb dX5_looser_83 (lv_at hl 4 rfl) ?_
    refine lv_isub (pc := 85) hx hb dX5_looser_85 ?_
    refine lv_aload_n (pc := 86) hx hb dX5_looser_86 rfl (lv_at hl 0 rfl) ?_
    refine va_get (pc := 87) (v := .int (S1 0 9)) hx hb hts inB5 hown hK.1 hP 0 wm0 rfl 9 (by decide) (hts _ wd_560) (fun _ h9 => h9) rfl dX5_looser_87 ?_
    refine lv_imul (pc := 90) hx hb dX5_looser_90 ?_
    refine lv_aload_n (pc := 91) hx hb dX5_looser_91 rfl (lv_at hl 0 rfl) ?_
    refine lv_iload (pc := 92) hx hb dX5_looser_92 (lv_at hl 4 rfl) ?_
    obtain ⟨r1, hr1, h⟩ := bd_some h
    refine r_callR (pc := 94) C hP (c_X5_usesOf hI N hr1) k_X5_usesOf wd_781 (q0 := 0) wm0 rfl rfl ⟨Nat.le_of_ble_eq_true rfl, Nat.le_of_ble_eq_true rfl⟩ rfl hl.1 rfl (Nat.le_of_ble_eq_true rfl) dX5_looser_94 ⟨Nat.zero_le _, Nat.zero_le _⟩ ?_
    refine lv_imul (pc := 97) hx hb dX5_looser_97 ?_
    refine lv_topi (fun y2 ey2 => ?_)
    have h := bd_y ey2 h
    refine lv_istore (lv' := [(6, .int y2), (0, .ref (a 0)), (1, .int x1), (2, .int x2), (3, .int x3), (4, .int x4), (5, .int x5)]) (pc := 98) hx hb dX5_looser_98 hl (by decide) rfl (fun ls hl => ?_)
    refine lv_iload_n (pc := 100) hx hb dX5_looser_100 rfl (lv_at hl 3 rfl) ?_
    refine lv_if_lt (tgt := 110) (pc := 101) hx hb dX5_looser_101 (by decide) (fun hc => ?_) (fun hc => ?_)
    · have h := if_y hc h
      exact t_X5_looser_110 hI N C k59 hk59 k71 hk71 h H locs hP hS ls (lv_sub hl [1, 2, 3, 4, 5, 6, 0] rfl)
    · have h := if_n hc h
      refine lv_iload (pc := 104) hx hb dX5_looser_104 (lv_at hl 0 rfl) ?_
      refine lv_iload_n (pc := 106) hx hb dX5_looser_106 rfl (lv_at hl 4 rfl) ?_
      refine lv_icmp_ge (tgt := 171) (pc := 107) hx hb dX5_looser_107 (by decide) (fun hc => ?_) (fun hc => ?_)
      · have h := if_y hc h
        refine lv_iinc (v := (x5 + 1)) (lv' := [(5, .int (x5 + 1)), (6, .int y2), (0, .ref (a 0)), (1, .int x1), (2, .int x2), (3, .int x3), (4, .int x4)]) (pc := 171) hx hb dX5_looser_171 hl (k := 6) rfl (ii1 _) (by decide) rfl (fun ls hl => ?_)
        refine lv_goto (tgt := 71) (pc := 174) hx hb dX5_looser_174 (by decide) ?_
        exact hk71 _ _ _ _ _ _ h H locs hP hS ls (lv_sub hl [2, 3, 4, 5, 6, 0] rfl)
      · have h := if_n hc h
        exact t_X5_looser_110 hI N C k59 hk59 k71 hk71 h H locs hP hS ls (lv_sub hl [1, 2, 3, 4, 5, 6, 0] rfl)
theorem t_X5_looser_71 {rr : Int32} {SS : St} (hI : aI 18 a) (N : Nat) (C : bC D E RX5 cX5_looser 8 (some .int) p s m args meth c) (k59 : Int32 × Int32 × Int32 × Int32 × St → Option (Int32 × St)) (hk59 : ∀ (x1 : Int32) (x2 : Int32) (x3 : Int32) (x4 : Int32) (S : St), k59 (x1, x2, x3, x4, S) = some (rr, SS) → gU D (Wm E a) (aA 18 a) p l e (bRm 5 107) s m args below meth c 8 (qU D below (aA 18 a) (Wm E a SS) rr args s) 59 [(0, .ref (a 0)), (1, .int x1), (2, .int x2), (3, .int x3), (4, .int x4)] [] S) {n : Nat} {x1 : Int32} {x2 : Int32} {x3 : Int32} {x4 : Int32} {x5 : Int32} {S : St} (h : lpI (F_X5_looser_71 N k59) n (x1, x2, x3, x4, x5, S) = some (rr, SS)) : gU D (Wm E a) (aA 18 a) p l e (bRm 5 107) s m args below meth c 8 (qU D below (aA 18 a) (Wm E a SS) rr args s) 71 [(0, .ref (a 0)), (1, .int x1), (2, .int x2), (3, .int x3), (4, .int x4), (5, .int x5)] [] S := by
  exact lpI_ind (P := fun v q => q = (rr, SS) → gU D (Wm E a) (aA 18 a) p l e (bRm 5 107) s m args below meth c 8 (qU D below (aA 18 a) (Wm E a SS) rr args s) 71 [(0, .ref (a 0)), (1, .int v.1), (2, .int v.2.1), (3, .int v.2.2.1), (4, .int v.2.2.2.1), (5, .int v.2.2.2.2.1)] [] v.2.2.2.2.2) (fun k hk v q h9 hq => s_X5_looser_71 hI N C k59 hk59 k (fun x1 x2 x3 x4 x5 S h8 => hk (x1, x2, x3, x4, x5, S) _ h8 rfl) (h9.trans (congrArg some hq))) n (x1, x2, x3, x4, x5, S) _ h rfl
def FB_X5_looser_59 (N : Nat) (k59 : Int32 × Int32 × Int32 × Int32 × St → Option (Int32 × St)) (x1 : Int32) (x2 : Int32) (x3 : Int32) (x4 : Int32) (S : St) : Option (Int32 × St) :=
  if 3 ≤ x4 then (if x1 = 0 then (some (x2, S)) else (if 0 ≤ x2 then (some (x3, S)) else (some (x2, S)))) else (bd (some (x4 + 1)) fun y1 => lpI (F_X5_looser_71 N k59) N (x1, x2, x3, x4, y1, S))
def F_X5_looser_59 (N : Nat) (k59 : Int32 × Int32 × Int32 × Int32 × St → Option (Int32 × St)) (v : Int32 × Int32 × Int32 × Int32 × St) : Option (Int32 × St) := FB_X5_looser_59 N k59 v.1 v.2.1 v.2.2.1 v.2.2.2.1 v.2.2.2.2
theorem s_X5_looser_59 {rr : Int32} {SS : St} (hI : aI 18 a) (N : Nat) (C : bC D E RX5 cX5_looser 8 (some .int) p s m args meth c) (k59 : Int32 × Int32 × Int32 × Int32 × St → Option (Int32 × St)) (hk59 : ∀ (x1 : Int32) (x2 : Int32) (x3 : Int32) (x4 : Int32) (S : St), k59 (x1, x2, x3, x4, S) = some (rr, SS) → gU D (Wm E a) (aA 18 a) p l e (bRm 5 107) s m args below meth c 8 (qU D below (aA 18 a) (Wm E a SS) rr args s) 59 [(0, .ref (a 0)), (1, .int x1), (2, .int x2), (3, .int x3), (4, .int x4)] [] S) {x1 : Int32} {x2 : Int32} {x3 : Int32} {x4 : Int32} {S : St} (h : FB_X5_looser_59 N k59 x1 x2 x3 x4 S = some (rr, SS)) : gU D (Wm E a) (aA 18 a) p l e (bRm 5 107) s m args below meth c 8 (qU D below (aA 18 a) (Wm E a SS) rr args s) 59 [(0, .ref (a 0)), (1, .int x1), (2, .int x2), (3, .int x3), (4, .int x4)] [] S := by
  obtain ⟨hx, hb, hml, hown, hts, hK, hr, hlocks⟩ := id C
  intro H locs hP hS ls hl
  unfold FB_X5_looser_59 at h
  refine lv_iload (pc := 59) hx hb dX5_looser_59 (lv_at hl 4 rfl) ?_
  refine lv_iconst (v := 3) (pc := 61) hx hb dX5_looser_61 (by decide) ?_
  refine lv_icmp_ge (tgt := 183) (pc := 62) hx hb dX5_looser_62 (by decide) (fun hc => ?_) (fun hc => ?_)
  · have h := if_y hc h
    refine lv_iload_n (pc := 183) hx hb dX5_looser_183 rfl (lv_at hl 1 rfl) ?_
    refine lv_if_eq (tgt := 191) (pc := 184) hx hb dX5_looser_184 (by decide) (fun hc => ?_) (fun hc => ?_)
    · have h := if_y hc h
      refine lv_iload_n (pc := 191) hx hb dX5_looser_191 rfl (lv_at hl 2 rfl) ?_
      refine lv_goto (tgt := 196) (pc := 192) hx hb dX5_looser_192 (by decide) ?_
      exact r_retU (pc := 196) (𝓦 := Wm E a) C h hP hS dX5_looser_196
    · have h := if_n hc h
      refine lv_iload_n (pc := 187) hx hb dX5_looser_187 rfl (lv_at hl 2 rfl) ?_
      refine lv_if_ge (tgt := 195) (pc := 188) hx hb dX5_looser_188 (by decide) (fun hc => ?_) (fun hc => ?_)
      · have h := if_y hc h
        refine lv_iload_n (pc := 195) hx hb dX5_looser_195 rfl (lv_at hl 3 rfl) ?_
        exact r_retU (pc := 196) (𝓦 := Wm E a) C h hP hS dX5_looser_196
      · have h := if_n hc h
        refine lv_iload_n (pc := 191) hx hb dX5_looser_191 rfl (lv_at hl 2 rfl) ?_
        refine lv_goto (tgt := 196) (pc := 192) hx hb dX5_looser_192 (by decide) ?_
        exact r_retU (pc := 196) (𝓦 := Wm E a) C h hP hS dX5_looser_196
  · have h := if_n hc h
    refine lv_iload (pc := 65) hx hb dX5_looser_65 (lv_at hl 4 rfl) ?_
    refine lv_iconst (v := 1) (pc := 67) hx hb dX5_looser_67 (by decide) ?_
    refine lv_iadd (pc := 68) hx hb dX5_looser_68 ?_
    refine lv_topi (fun y1 ey1 => ?_)
    have h := bd_y ey1 h
    refine lv_istore (lv' := [(5, .int y1), (0, .ref (a 0)), (1, .int x1), (2, .int x2), (3, .int x3), (4, .int x4)]) (pc := 69) hx hb dX5_looser_69 hl (by decide) rfl (fun ls hl => ?_)
    exact t_X5_looser_71 hI N C k59 hk59 h H locs hP hS ls (lv_sub hl [1, 2, 3, 4, 5, 0] rfl)
theorem t_X5_looser_59 {rr : Int32} {SS : St} (hI : aI 18 a) (N : Nat) (C : bC D E RX5 cX5_looser 8 (some .int) p s m args meth c) {n : Nat} {x1 : Int32} {x2 : Int32} {x3 : Int32} {x4 : Int32} {S : St} (h : lpI (F_X5_looser_59 N) n (x1, x2, x3, x4, S) = some (rr, SS)) : gU D (Wm E a) (aA 18 a) p l e (bRm 5 107) s m args below meth c 8 (qU D below (aA 18 a) (Wm E a SS) rr args s) 59 [(0, .ref (a 0)), (1, .int x1), (2, .int x2), (3, .int x3), (4, .int x4)] [] S := by
  exact lpI_ind (P := fun v q => q = (rr, SS) → gU D (Wm E a) (aA 18 a) p l e (bRm 5 107) s m args below meth c 8 (qU D below (aA 18 a) (Wm E a SS) rr args s) 59 [(0, .ref (a 0)), (1, .int v.1), (2, .int v.2.1), (3, .int v.2.2.1), (4, .int v.2.2.2.1)] [] v.2.2.2.2) (fun k hk v q h9 hq => s_X5_looser_59 hI N C k (fun x1 x2 x3 x4 S h8 => hk (x1, x2, x3, x4, S) _ h8 rfl) (h9.trans (congrArg some hq))) n (x1, x2, x3, x4, S) _ h rfl
def FB_X5_looser_27 (N : Nat) (k27 : Int32 × Int32 × St → Option (Int32 × St)) (x1 : Int32) (x2 : Int32) (S : St) : Option (Int32 × St) :=
  if 36 ≤ x2 then (lpI (F_X5_looser_59 N) N (x1, (-6), 0, 0, S)) else (gd (ix x2 36) (gd (ix x2 36) (bd (some (sto S 12 (Int32.toNatClampNeg x2) (S 7 (Int32.toNatClampNeg x2)))) fun S1 => k27 (x1, (x2 + 1), S1))))
def F_X5_looser_27 (N : Nat) (k27 : Int32 × Int32 × St → Option (Int32 × St)) (v : Int32 × Int32 × St) : Option (Int32 × St) := FB_X5_looser_27 N k27 v.1 v.2.1 v.2.2
theorem s_X5_looser_27 {rr : Int32} {SS : St} (hI : aI 18 a) (N : Nat) (C : bC D E RX5 cX5_looser 8 (some .int) p s m args meth c) (k27 : Int32 × Int32 × St → Option (Int32 × St)) (hk27 : ∀ (x1 : Int32) (x2 : Int32) (S : St), k27 (x1, x2, S) = some (rr, SS) → gU D (Wm E a) (aA 18 a) p l e (bRm 5 107) s m args below meth c 8 (qU D below (aA 18 a) (Wm E a SS) rr args s) 27 [(0, .ref (a 0)), (1, .int x1), (2, .int x2)] [] S) {x1 : Int32} {x2 : Int32} {S : St} (h : FB_X5_looser_27 N k27 x1 x2 S = some (rr, SS)) : gU D (Wm E a) (aA 18 a) p l e (bRm 5 107) s m args below meth c 8 (qU D below (aA 18 a) (Wm E a SS) rr args s) 27 [(0, .ref (a 0)), (1, .int x1), (2, .int x2)] [] S := by
  obtain ⟨hx, hb, hml, hown, hts, hK, hr, hlocks⟩ := id C
  intro H locs hP hS ls hl
  unfold FB_X5_looser_27 at h
  refine lv_iload_n (pc := 27) hx hb dX5_looser_27 rfl (lv_at hl 2 rfl) ?_
  refine lv_bipush (v := 36) (pc := 28) hx hb dX5_looser_28 (by decide) ?_
  refine lv_icmp_ge (tgt := 51) (pc := 30) hx hb dX5_looser_30 (by decide) (fun hc => ?_) (fun hc => ?_)
  · have h := if_y hc h
    refine lv_bipush (v := (-6)) (pc := 51) hx hb dX5_looser_51 (by decide) ?_
    refine lv_istore_n (lv' := [(2, .int (-6)), (0, .ref (a 0)), (1, .int x1)]) (pc := 53) hx hb dX5_looser_53 rfl hl (by decide) rfl (fun ls hl => ?_)
    refine lv_iconst (v := 0) (pc := 54) hx hb dX5_looser_54 (by decide) ?_
    refine lv_istore_n (lv' := [(3, .int 0), (2, .int (-6)), (0, .ref (a 0)), (1, .int x1)]) (pc := 55) hx hb dX5_looser_55 rfl hl (by decide) rfl (fun ls hl => ?_)
    refine lv_iconst (v := 0) (pc := 56) hx hb dX5_looser_56 (by decide) ?_
    refine lv_istore (lv' := [(4, .int 0), (3, .int 0), (2, .int (-6)), (0, .ref (a 0)), (1, .int x1)]) (pc := 57) hx hb dX5_looser_57 hl (by decide) rfl (fun ls hl => ?_)
    exact t_X5_looser_59 hI N C h H locs hP hS ls (lv_sub hl [3, 4, 2, 1, 0] rfl)
  · have h := if_n hc h
    refine lv_aload_n (pc := 33) hx hb dX5_looser_33 rfl (lv_at hl 0 rfl) ?_
    refine va_get (pc := 34) (v := .ref (a 12)) hx hb hts inB5 hown hK.1 hP 0 wm0 rfl 20 (by decide) (hts _ wd_571) (fun _ h9 => h9) rfl dX5_looser_34 ?_
    refine lv_iload_n (pc := 37) hx hb dX5_looser_37 rfl (lv_at hl 2 rfl) ?_
    refine lv_aload_n (pc := 38) hx hb dX5_looser_38 rfl (lv_at hl 0 rfl) ?_
    refine va_get (pc := 39) (v := .ref (a 7)) hx hb hts inB5 hown hK.1 hP 0 wm0 rfl 7 (by decide) (hts _ wd_558) (fun _ h9 => h9) rfl dX5_looser_39 ?_
    refine lv_iload_n (pc := 42) hx hb dX5_looser_42 rfl (lv_at hl 2 rfl) ?_
    obtain ⟨hin, h⟩ := gd_some h
    refine r_ald (pc := 43) hx hb hK hP 7 wm7 hin dX5_looser_43 ?_
    obtain ⟨hin, h⟩ := gd_some h
    refine r_ast (pc := 44) (𝓦 := Wm E a) hx hb hK hP (dM hI _) hS 12 wm12 wm12s hin dX5_looser_44 (fun H locs S1 eS1 hP hS => ?_)
    have h := bd_y eS1 h
    refine lv_iinc (v := (x2 + 1)) (lv' := [(2, .int (x2 + 1)), (0, .ref (a 0)), (1, .int x1)]) (pc := 45) hx hb dX5_looser_45 hl (k := 2) rfl (ii1 _) (by decide) rfl (fun ls hl => ?_)
    refine lv_goto (tgt := 27) (pc := 48) hx hb dX5_looser_48 (by decide) ?_
    exact hk27 _ _ _ h H locs hP hS ls (lv_sub hl [1, 2, 0] rfl)
theorem t_X5_looser_27 {rr : Int32} {SS : St} (hI : aI 18 a) (N : Nat) (C : bC D E RX5 cX5_looser 8 (some .int) p s m args meth c) {n : Nat} {x1 : Int32} {x2 : Int32} {S : St} (h : lpI (F_X5_looser_27 N) n (x1, x2, S) = some (rr, SS)) : gU D (Wm E a) (aA 18 a) p l e (bRm 5 107) s m args below meth c 8 (qU D below (aA 18 a) (Wm E a SS) rr args s) 27 [(0, .ref (a 0)), (1, .int x1), (2, .int x2)] [] S := by
  exact lpI_ind (P := fun v q => q = (rr, SS) → gU D (Wm E a) (aA 18 a) p l e (bRm 5 107) s m args below meth c 8 (qU D below (aA 18 a) (Wm E a SS) rr args s) 27 [(0, .ref (a 0)), (1, .int v.1), (2, .int v.2.1)] [] v.2.2) (fun k hk v q h9 hq => s_X5_looser_27 hI N C k (fun x1 x2 S h8 => hk (x1, x2, S) _ h8 rfl) (h9.trans (congrArg some hq))) n (x1, x2, S) _ h rfl
def f_X5_looser (N : Nat) (x1 : Int32) (S : St) : Option (Int32 × St) :=
  bd (f_X5_in x1 0 1) fun r1 => if r1 = 0 then (some ((-2), S)) else (bd (f_X5_lay N S) fun S1 => bd2 (f_X5_someGood N S1) fun r2 S2 => if r2 = 0 then (lpI (F_X5_looser_27 N) N (x1, 0, S2)) else (some (0, S2)))
theorem t_X5_looser_0 {rr : Int32} {SS : St} (hI : aI 18 a) (N : Nat) (C : bC D E RX5 cX5_looser 8 (some .int) p s m args meth c) {x1 : Int32} {S : St} (h : f_X5_looser N x1 S = some (rr, SS)) : gU D (Wm E a) (aA 18 a) p l e (bRm 5 107) s m args below meth c 8 (qU D below (aA 18 a) (Wm E a SS) rr args s) 0 [(0, .ref (a 0)), (1, .int x1)] [] S := by
  obtain ⟨hx, hb, hml, hown, hts, hK, hr, hlocks⟩ := id C
  intro H locs hP hS ls hl
  unfold f_X5_looser at h
  refine lv_iload_n (pc := 0) hx hb dX5_looser_0 rfl (lv_at hl 1 rfl) ?_
  refine lv_iconst (v := 0) (pc := 1) hx hb dX5_looser_1 (by decide) ?_
  refine lv_iconst (v := 1) (pc := 2) hx hb dX5_looser_2 (by decide) ?_
  obtain ⟨r1, hr1, h⟩ := bd_some h
  refine r_callS (pc := 3) C (c_X5_in hr1) k_X5_in wd_634 ⟨Nat.le_of_ble_eq_true rfl, Nat.le_of_ble_eq_true rfl⟩ rfl hl.1 rfl (Nat.le_of_ble_eq_true rfl) dX5_looser_3 ⟨Nat.zero_le _, Nat.zero_le _⟩ ?_
  refine lv_if_ne (tgt := 12) (pc := 6) hx hb dX5_looser_6 (by decide) (fun hc => ?_) (fun hc => ?_)
  · have h := if_n hc h
    refine lv_aload_n (pc := 12) hx hb dX5_looser_12 rfl (lv_at hl 0 rfl) ?_
    obtain ⟨S1, hS1, h⟩ := bd_some h
    refine r_callV (pc := 13) C hP hS (c_X5_lay hI N hS1) k_X5_lay wd_704 (q0 := 0) wm0 rfl rfl ⟨Nat.le_of_ble_eq_true rfl, Nat.le_of_ble_eq_true rfl⟩ rfl hl.1 rfl (Nat.le_of_ble_eq_true rfl) dX5_looser_13 ⟨Nat.zero_le _, Nat.zero_le _⟩ (fun H locs hP hS => ?_)
    refine lv_aload_n (pc := 16) hx hb dX5_looser_16 rfl (lv_at hl 0 rfl) ?_
    obtain ⟨r2, S2, hr2, h⟩ := bd2_some h
    refine r_callU (pc := 17) C hP hS (c_X5_someGood hI N hr2) k_X5_someGood wd_761 (q0 := 0) wm0 rfl rfl ⟨Nat.le_of_ble_eq_true rfl, Nat.le_of_ble_eq_true rfl⟩ rfl hl.1 rfl (Nat.le_of_ble_eq_true rfl) dX5_looser_17 ⟨Nat.zero_le _, Nat.zero_le _⟩ (fun H locs hP hS => ?_)
    refine lv_if_eq (tgt := 25) (pc := 20) hx hb dX5_looser_20 (by decide) (fun hc => ?_) (fun hc => ?_)
    · have h := if_y hc h
      refine lv_iconst (v := 0) (pc := 25) hx hb dX5_looser_25 (by decide) ?_
      refine lv_istore_n (lv' := [(2, .int 0), (0, .ref (a 0)), (1, .int x1)]) (pc := 26) hx hb dX5_looser_26 rfl hl (by decide) rfl (fun ls hl => ?_)
      exact t_X5_looser_27 hI N C h H locs hP hS ls (lv_sub hl [1, 2, 0] rfl)
    · have h := if_n hc h
      refine lv_iconst (v := 0) (pc := 23) hx hb dX5_looser_23 (by decide) ?_
      exact r_retU (pc := 24) (𝓦 := Wm E a) C h hP hS dX5_looser_24
  · have h := if_y hc h
    refine lv_bipush (v := (-2)) (pc := 9) hx hb dX5_looser_9 (by decide) ?_
    exact r_retU (pc := 11) (𝓦 := Wm E a) C h hP hS dX5_looser_11
theorem c_X5_looser {l : Launch} {D : va_G} {E : bE} {a : Nat → Nat} (hI : aI 18 a) (N : Nat) {rr : Int32} {S : St} {SS : St} {x1 : Int32} (h : f_X5_looser N x1 S = some (rr, SS)) : cU l D E yX5_looser cX5_looser 8 (some .int) 5 107 (aA 18 a) (Wm E a S) (Wm E a SS) [.ref (a 0), .int x1] rr := cU_of (by decide) (Nat.le_of_ble_eq_true rfl) (fun p e s m args below meth c C => t_X5_looser_0 hI N C h)
