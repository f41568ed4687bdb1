variable {p : Program} {l : Launch} {e : Env} {s : State} {m : MethodId} {args : Array Value} {below : List Frame} {meth : Method} {c : Code} {D : va_G} {E : bE} {a : Nat → Nat}
/-! X3_reaches -/
def f_X3_reaches (x1 : Int32) (x2 : Int32) (S : St) : Option (Int32) :=
  gd (ix x2 5) (gd (ix (S 10 (Int32.toNatClampNeg x2)) 4) (bd (f_X4_has ((S 3 5) &&& (S 24 (Int32.toNatClampNeg (S 10 (Int32.toNatClampNeg x2))))) x1) fun r1 => gd (r1 &&& 1 = r1) (some r1)))
theorem t_X3_reaches_0 {rr : Int32} (hI : aI 49 a) (C : bC D E RX3 cX3_reaches 3 (some .boolean) p s m args meth c) {S : St} (hP : va_P D vwCl (Wu E a S) s.heap) {x1 : Int32} {x2 : Int32} (h : f_X3_reaches x1 x2 S = some rr) : gR p l e (bRm 1 21) s m args below meth c 3 (qS below rr args s) 0 [(0, .ref (a 3)), (1, .int x1), (2, .int x2)] [] := by
  obtain ⟨hx, hb, hml, hown, hts, hK, hr, hlocks⟩ := id C
  intro ls hl
  unfold f_X3_reaches at h
  refine lv_aload_n (pc := 0) hx hb dX3_reaches_0 rfl (lv_at hl 0 rfl) ?_
  refine va_get (pc := 1) (v := .int (S 3 5)) hx hb hts inB3 hown hK.1 hP 3 wu3 rfl 5 (by decide) (hts _ wd_156) (fun _ h9 => h9) rfl dX3_reaches_1 ?_
  refine lv_aload_n (pc := 4) hx hb dX3_reaches_4 rfl (lv_at hl 0 rfl) ?_
  refine va_get (pc := 5) (v := .ref (a 24)) hx hb hts inB3 hown hK.1 hP 3 wu3 rfl 9 (by decide) (hts _ wd_161) (fun _ h9 => h9) rfl dX3_reaches_5 ?_
  refine lv_aload_n (pc := 8) hx hb dX3_reaches_8 rfl (lv_at hl 0 rfl) ?_
  refine va_get (pc := 9) (v := .ref (a 2)) hx hb hts inB3 hown hK.1 hP 3 wu3 rfl 0 (by decide) (hts _ wd_146) (fun _ h9 => h9) rfl dX3_reaches_9 ?_
  refine va_get (pc := 12) (v := .ref (a 10)) hx hb hts inB0 hown hK.1 hP 2 wu2 rfl 1 (by decide) (hts _ wd_101) (fun _ h9 => h9) rfl dX3_reaches_12 ?_
  refine lv_iload_n (pc := 15) hx hb dX3_reaches_15 rfl (lv_at hl 2 rfl) ?_
  obtain ⟨hin, h⟩ := gd_some h
  refine r_ald (pc := 16) hx hb hK hP 10 wu10 hin dX3_reaches_16 ?_
  obtain ⟨hin, h⟩ := gd_some h
  refine r_ald (pc := 17) hx hb hK hP 24 wu24 hin dX3_reaches_17 ?_
  refine lv_iand (pc := 18) hx hb dX3_reaches_18 ?_
  refine lv_iload_n (pc := 19) hx hb dX3_reaches_19 rfl (lv_at hl 1 rfl) ?_
  obtain ⟨r1, hr1, h⟩ := bd_some h
  refine r_callSN (pc := 20) (host := RX4) C (c_X4_has hr1) k_X4_has nst_6 ⟨Nat.le_of_ble_eq_true rfl, Nat.le_of_ble_eq_true rfl⟩ rfl hl.1 rfl (Nat.le_of_ble_eq_true rfl) dX3_reaches_20 ⟨Nat.zero_le _, Nat.zero_le _⟩ ?_
  exact r_retZ (pc := 23) C h dX3_reaches_23
theorem c_X3_reaches {l : Launch} {D : va_G} {E : bE} {a : Nat → Nat} (hI : aI 49 a) {rr : Int32} {S : St} {x1 : Int32} {x2 : Int32} (h : f_X3_reaches x1 x2 S = some rr) : cR l D E yX3_reaches cX3_reaches 3 (some .boolean) 1 21 (Wu E a S) [.ref (a 3), .int x1, .int x2] rr := cR_of (by decide) (Nat.le_of_ble_eq_true rfl) (fun p e s m args below meth c C hP => t_X3_reaches_0 hI C hP h)
/-! X3_offer -/
def f_X3_offer (x0 : Int32) (x1 : Int32) : Option (Int32) :=
  some ((x0 * 5) + x1)
theorem t_X3_offer_0 {rr : Int32} (C : bC D E RX3 cX3_offer 2 (some .int) p s m args meth c) {x0 : Int32} {x1 : Int32} (h : f_X3_offer x0 x1 = some rr) : gR p l e (bRm 0 0) s m args below meth c 2 (qS below rr args s) 0 [(0, .int x0), (1, .int x1)] [] := by
  obtain ⟨hx, hb, hml, hown, hts, hK, hr, hlocks⟩ := id C
  intro ls hl
  unfold f_X3_offer at h
  refine lv_iload_n (pc := 0) hx hb dX3_offer_0 rfl (lv_at hl 0 rfl) ?_
  refine lv_iconst (v := 5) (pc := 1) hx hb dX3_offer_1 (by decide) ?_
  refine lv_imul (pc := 2) hx hb dX3_offer_2 ?_
  refine lv_iload_n (pc := 3) hx hb dX3_offer_3 rfl (lv_at hl 1 rfl) ?_
  refine lv_iadd (pc := 4) hx hb dX3_offer_4 ?_
  exact r_retS (pc := 5) C h dX3_offer_5
theorem c_X3_offer {l : Launch} {D : va_G} {E : bE} {rr : Int32} {x0 : Int32} {x1 : Int32} (h : f_X3_offer x0 x1 = some rr) : cS l D E yX3_offer cX3_offer 2 (some .int) 0 0 [.int x0, .int x1] rr := cS_of (by decide) (Nat.le_of_ble_eq_true rfl) (fun p e s m args below meth c C => t_X3_offer_0 C h)
/-! X3_spread -/
def B_X3_spread_103 (N : Nat) (k56 : Int32 × St → Option (St)) (k64 : Int32 × Int32 × St → Option (St)) (x1 : Int32) (x2 : Int32) (x3 : Int32) (z0 : Int32) (z1 : Int32) (S : St) : Option (St) :=
  gd (ix z1 30) (bd (some (sto S 22 (Int32.toNatClampNeg z1) z0)) fun S1 => bd (f_X3_offer x1 x2) fun r1 => if x3 = 0 then (gd (ix r1 30) (bd (some (sto S1 23 (Int32.toNatClampNeg r1) 0)) fun S2 => k64 (x1, (x2 + 1), S2))) else (gd (ix x2 5) (gd (ix r1 30) (bd (some (sto S1 23 (Int32.toNatClampNeg r1) (S1 9 (Int32.toNatClampNeg x2)))) fun S3 => k64 (x1, (x2 + 1), S3)))))
theorem t_X3_spread_103 {SS : St} (hI : aI 49 a) (N : Nat) (C : bC D E RX3 cX3_spread 4 none p s m args meth c) (k56 : Int32 × St → Option (St)) (hk56 : ∀ (x1 : Int32) (S : St), k56 (x1, S) = some SS → gU D (Wu E a) (aA 49 a) p l e (bRm 2 46) s m args below meth c 4 (qV D below (aA 49 a) (Wu E a SS) args s) 56 [(0, .ref (a 3)), (1, .int x1)] [] S) (k64 : Int32 × Int32 × St → Option (St)) (hk64 : ∀ (x1 : Int32) (x2 : Int32) (S : St), k64 (x1, x2, S) = some SS → gU D (Wu E a) (aA 49 a) p l e (bRm 2 46) s m args below meth c 4 (qV D below (aA 49 a) (Wu E a SS) args s) 64 [(0, .ref (a 3)), (1, .int x1), (2, .int x2)] [] S) {x1 : Int32} {x2 : Int32} {x3 : Int32} {z0 : Int32} {z1 : Int32} {S : St} (h : B_X3_spread_103 N k56 k64 x1 x2 x3 z0 z1 S = some SS) : gU D (Wu E a) (aA 49 a) p l e (bRm 2 46) s m args below meth c 4 (qV D below (aA 49 a) (Wu E a SS) args s) 103 [(0, .ref (a 3)), (1, .int x1), (2, .int x2), (3, .int x3)] [.int z0, .int z1, .ref (a 22)] S := by
  obtain ⟨hx, hb, hml, hown, hts, hK, hr, hlocks⟩ := id C
  intro H locs hP hS ls hl
  unfold B_X3_spread_103 at h
  obtain ⟨hin, h⟩ := gd_some h
  refine r_ast (pc := 103) (𝓦 := Wu E a) hx hb hK hP (dU hI _) hS 22 wu22 wu22s hin dX3_spread_103 (fun H locs S1 eS1 hP hS => ?_)
  have h := bd_y eS1 h
  refine lv_aload_n (pc := 104) hx hb dX3_spread_104 rfl (lv_at hl 0 rfl) ?_
  refine va_get (pc := 105) (v := .ref (a 23)) hx hb hts inB3 hown hK.1 hP 3 wu3 rfl 8 (by decide) (hts _ wd_160) (fun _ h9 => h9) rfl dX3_spread_105 ?_
  refine lv_iload_n (pc := 108) hx hb dX3_spread_108 rfl (lv_at hl 1 rfl) ?_
  refine lv_iload_n (pc := 109) hx hb dX3_spread_109 rfl (lv_at hl 2 rfl) ?_
  obtain ⟨r1, hr1, h⟩ := bd_some h
  refine r_callS (pc := 110) C (c_X3_offer hr1) k_X3_offer wd_354 ⟨Nat.le_of_ble_eq_true rfl, Nat.le_of_ble_eq_true rfl⟩ rfl hl.1 rfl (Nat.le_of_ble_eq_true rfl) dX3_spread_110 ⟨Nat.zero_le _, Nat.zero_le _⟩ ?_
  refine lv_iload_n (pc := 113) hx hb dX3_spread_113 rfl (lv_at hl 3 rfl) ?_
  refine lv_if_eq (tgt := 129) (pc := 114) hx hb dX3_spread_114 (by decide) (fun hc => ?_) (fun hc => ?_)
  · have h := if_y hc h
    refine lv_iconst (v := 0) (pc := 129) hx hb dX3_spread_129 (by decide) ?_
    obtain ⟨hin, h⟩ := gd_some h
    refine r_ast (pc := 130) (𝓦 := Wu E a) hx hb hK hP (dU hI _) hS 23 wu23 wu23s hin dX3_spread_130 (fun H locs S2 eS2 hP hS => ?_)
    have h := bd_y eS2 h
    refine lv_iinc (v := (x2 + 1)) (lv' := [(2, .int (x2 + 1)), (0, .ref (a 3)), (1, .int x1), (3, .int x3)]) (pc := 131) hx hb dX3_spread_131 hl (k := 2) rfl (ii1 _) (by decide) rfl (fun ls hl => ?_)
    refine lv_goto (tgt := 64) (pc := 134) hx hb dX3_spread_134 (by decide) ?_
    exact hk64 _ _ _ h H locs hP hS ls (lv_sub hl [1, 2, 0] rfl)
  · have h := if_n hc h
    refine lv_aload_n (pc := 117) hx hb dX3_spread_117 rfl (lv_at hl 0 rfl) ?_
    refine va_get (pc := 118) (v := .ref (a 2)) hx hb hts inB3 hown hK.1 hP 3 wu3 rfl 0 (by decide) (hts _ wd_146) (fun _ h9 => h9) rfl dX3_spread_118 ?_
    refine va_get (pc := 121) (v := .ref (a 9)) hx hb hts inB0 hown hK.1 hP 2 wu2 rfl 0 (by decide) (hts _ wd_98) (fun _ h9 => h9) rfl dX3_spread_121 ?_
    refine lv_iload_n (pc := 124) hx hb dX3_spread_124 rfl (lv_at hl 2 rfl) ?_
    obtain ⟨hin, h⟩ := gd_some h
    refine r_ald (pc := 125) hx hb hK hP 9 wu9 hin dX3_spread_125 ?_
    refine lv_goto (tgt := 130) (pc := 126) hx hb dX3_spread_126 (by decide) ?_
    obtain ⟨hin, h⟩ := gd_some h
    refine r_ast (pc := 130) (𝓦 := Wu E a) hx hb hK hP (dU hI _) hS 23 wu23 wu23s hin dX3_spread_130 (fun H locs S3 eS3 hP hS => ?_)
    have h := bd_y eS3 h
    refine lv_iinc (v := (x2 + 1)) (lv' := [(2, .int (x2 + 1)), (0, .ref (a 3)), (1, .int x1), (3, .int x3)]) (pc := 131) hx hb dX3_spread_131 hl (k := 2) rfl (ii1 _) (by decide) rfl (fun ls hl => ?_)
    refine lv_goto (tgt := 64) (pc := 134) hx hb dX3_spread_134 (by decide) ?_
    exact hk64 _ _ _ h H locs hP hS ls (lv_sub hl [1, 2, 0] rfl)
def FB_X3_spread_64 (N : Nat) (k56 : Int32 × St → Option (St)) (k64 : Int32 × Int32 × St → Option (St)) (x1 : Int32) (x2 : Int32) (S : St) : Option (St) :=
  if 5 ≤ x2 then (k56 ((x1 + 1), S)) else (bd (f_X3_reaches x1 x2 S) fun r1 => bd (f_X3_offer x1 x2) fun r2 => if r1 = 0 then (B_X3_spread_103 N k56 k64 x1 x2 r1 31 r2 S) else (gd (ix x2 5) (B_X3_spread_103 N k56 k64 x1 x2 r1 (S 11 (Int32.toNatClampNeg x2)) r2 S)))
def F_X3_spread_64 (N : Nat) (k56 : Int32 × St → Option (St)) (k64 : Int32 × Int32 × St → Option (St)) (v : Int32 × Int32 × St) : Option (St) := FB_X3_spread_64 N k56 k64 v.1 v.2.1 v.2.2
theorem s_X3_spread_64 {SS : St} (hI : aI 49 a) (N : Nat) (C : bC D E RX3 cX3_spread 4 none p s m args meth c) (k56 : Int32 × St → Option (St)) (hk56 : ∀ (x1 : Int32) (S : St), k56 (x1, S) = some SS → gU D (Wu E a) (aA 49 a) p l e (bRm 2 46) s m args below meth c 4 (qV D below (aA 49 a) (Wu E a SS) args s) 56 [(0, .ref (a 3)), (1, .int x1)] [] S) (k64 : Int32 × Int32 × St → Option (St)) (hk64 : ∀ (x1 : Int32) (x2 : Int32) (S : St), k64 (x1, x2, S) = some SS → gU D (Wu E a) (aA 49 a) p l e (bRm 2 46) s m args below meth c 4 (qV D below (aA 49 a) (Wu E a SS) args s) 64 [(0, .ref (a 3)), (1, .int x1), (2, .int x2)] [] S) {x1 : Int32} {x2 : Int32} {S : St} (h : FB_X3_spread_64 N k56 k64 x1 x2 S = some SS) : gU D (Wu E a) (aA 49 a) p l e (bRm 2 46) s m args below meth c 4 (qV D below (aA 49 a) (Wu E a SS) args s) 64 [(0, .ref (a 3)), (1, .int x1), (2, .int x2)] [] S := by
  obtain ⟨hx, hb, hml, hown, hts, hK, hr, hlocks⟩ := id C
  intro H locs hP hS ls hl
  unfold FB_X3_spread_64 at h
  refine lv_iload_n (pc := 64) hx hb dX3_spread_64 rfl (lv_at hl 2 rfl) ?_
  refine lv_iconst (v := 5) (pc := 65) hx hb dX3_spread_65 (by decide) ?_
  refine lv_icmp_ge (tgt := 137) (pc := 66) hx hb dX3_spread_66 (by decide) (fun hc => ?_) (fun hc => ?_)
  · have h := if_y hc h
    refine lv_iinc (v := (x1 + 1)) (lv' := [(1, .int (x1 + 1)), (0, .ref (a 3)), (2, .int x2)]) (pc := 137) hx hb dX3_spread_137 hl (k := 1) rfl (ii1 _) (by decide) rfl (fun ls hl => ?_)
    refine lv_goto (tgt := 56) (pc := 140) hx hb dX3_spread_140 (by decide) ?_
    exact hk56 _ _ h H locs hP hS ls (lv_sub hl [1, 0] rfl)
  · have h := if_n hc h
    refine lv_aload_n (pc := 69) hx hb dX3_spread_69 rfl (lv_at hl 0 rfl) ?_
    refine lv_iload_n (pc := 70) hx hb dX3_spread_70 rfl (lv_at hl 1 rfl) ?_
    refine lv_iload_n (pc := 71) hx hb dX3_spread_71 rfl (lv_at hl 2 rfl) ?_
    obtain ⟨r1, hr1, h⟩ := bd_some h
    refine r_callR (pc := 72) C hP (c_X3_reaches hI hr1) k_X3_reaches wd_350 (q0 := 3) wu3 rfl rfl ⟨Nat.le_of_ble_eq_true rfl, Nat.le_of_ble_eq_true rfl⟩ rfl hl.1 rfl (Nat.le_of_ble_eq_true rfl) dX3_spread_72 ⟨Nat.zero_le _, Nat.zero_le _⟩ ?_
    refine lv_istore_n (lv' := [(3, .int r1), (0, .ref (a 3)), (1, .int x1), (2, .int x2)]) (pc := 75) hx hb dX3_spread_75 rfl hl (by decide) rfl (fun ls hl => ?_)
    refine lv_aload_n (pc := 76) hx hb dX3_spread_76 rfl (lv_at hl 1 rfl) ?_
    refine va_get (pc := 77) (v := .ref (a 22)) hx hb hts inB3 hown hK.1 hP 3 wu3 rfl 7 (by decide) (hts _ wd_159) (fun _ h9 => h9) rfl dX3_spread_77 ?_
    refine lv_iload_n (pc := 80) hx hb dX3_spread_80 rfl (lv_at hl 2 rfl) ?_
    refine lv_iload_n (pc := 81) hx hb dX3_spread_81 rfl (lv_at hl 3 rfl) ?_
    obtain ⟨r2, hr2, h⟩ := bd_some h
    refine r_callS (pc := 82) C (c_X3_offer hr2) k_X3_offer wd_354 ⟨Nat.le_of_ble_eq_true rfl, Nat.le_of_ble_eq_true rfl⟩ rfl hl.1 rfl (Nat.le_of_ble_eq_true rfl) dX3_spread_82 ⟨Nat.zero_le _, Nat.zero_le _⟩ ?_
    refine lv_iload_n (pc := 85) hx hb dX3_spread_85 rfl (lv_at hl 0 rfl) ?_
    refine lv_if_eq (tgt := 101) (pc := 86) hx hb dX3_spread_86 (by decide) (fun hc => ?_) (fun hc => ?_)
    · have h := if_y hc h
      refine lv_bipush (v := 31) (pc := 101) hx hb dX3_spread_101 (by decide) ?_
      exact t_X3_spread_103 hI N C k56 hk56 k64 hk64 h H locs hP hS ls (lv_sub hl [1, 2, 3, 0] rfl)
    · have h := if_n hc h
      refine lv_aload_n (pc := 89) hx hb dX3_spread_89 rfl (lv_at hl 1 rfl) ?_
      refine va_get (pc := 90) (v := .ref (a 2)) hx hb hts inB3 hown hK.1 hP 3 wu3 rfl 0 (by decide) (hts _ wd_146) (fun _ h9 => h9) rfl dX3_spread_90 ?_
      refine va_get (pc := 93) (v := .ref (a 11)) hx hb hts inB0 hown hK.1 hP 2 wu2 rfl 2 (by decide) (hts _ wd_104) (fun _ h9 => h9) rfl dX3_spread_93 ?_
      refine lv_iload_n (pc := 96) hx hb dX3_spread_96 rfl (lv_at hl 3 rfl) ?_
      obtain ⟨hin, h⟩ := gd_some h
      refine r_ald (pc := 97) hx hb hK hP 11 wu11 hin dX3_spread_97 ?_
      refine lv_goto (tgt := 103) (pc := 98) hx hb dX3_spread_98 (by decide) ?_
      exact t_X3_spread_103 hI N C k56 hk56 k64 hk64 h H locs hP hS ls (lv_sub hl [1, 2, 3, 0] rfl)
theorem t_X3_spread_64 {SS : St} (hI : aI 49 a) (N : Nat) (C : bC D E RX3 cX3_spread 4 none p s m args meth c) (k56 : Int32 × St → Option (St)) (hk56 : ∀ (x1 : Int32) (S : St), k56 (x1, S) = some SS → gU D (Wu E a) (aA 49 a) p l e (bRm 2 46) s m args below meth c 4 (qV D below (aA 49 a) (Wu E a SS) args s) 56 [(0, .ref (a 3)), (1, .int x1)] [] S) {n : Nat} {x1 : Int32} {x2 : Int32} {S : St} (h : lpI (F_X3_spread_64 N k56) n (x1, x2, S) = some SS) : gU D (Wu E a) (aA 49 a) p l e (bRm 2 46) s m args below meth c 4 (qV D below (aA 49 a) (Wu E a SS) args s) 64 [(0, .ref (a 3)), (1, .int x1), (2, .int x2)] [] S := by
  exact lpI_ind (P := fun v q => q = SS → gU D (Wu E a) (aA 49 a) p l e (bRm 2 46) s m args below meth c 4 (qV D below (aA 49 a) (Wu E a SS) args s) 64 [(0, .ref (a 3)), (1, .int v.1), (2, .int v.2.1)] [] v.2.2) (fun k hk v q h9 hq => s_X3_spread_64 hI N C k56 hk56 k (fun x1 x2 S h8 => hk (x1, x2, S) _ h8 rfl) (h9.trans (congrArg some hq))) n (x1, x2, S) _ h rfl
def FB_X3_spread_56 (N : Nat) (k56 : Int32 × St → Option (St)) (x1 : Int32) (S : St) : Option (St) :=
  if 6 ≤ x1 then (some S) else (lpI (F_X3_spread_64 N k56) N (x1, 0, S))
def F_X3_spread_56 (N : Nat) (k56 : Int32 × St → Option (St)) (v : Int32 × St) : Option (St) := FB_X3_spread_56 N k56 v.1 v.2
theorem s_X3_spread_56 {SS : St} (hI : aI 49 a) (N : Nat) (C : bC D E RX3 cX3_spread 4 none p s m args meth c) (k56 : Int32 × St → Option (St)) (hk56 : ∀ (x1 : Int32) (S : St), k56 (x1, S) = some SS → gU D (Wu E a) (aA 49 a) p l e (bRm 2 46) s m args below meth c 4 (qV D below (aA 49 a) (Wu E a SS) args s) 56 [(0, .ref (a 3)), (1, .int x1)] [] S) {x1 : Int32} {S : St} (h : FB_X3_spread_56 N k56 x1 S = some SS) : gU D (Wu E a) (aA 49 a) p l e (bRm 2 46) s m args below meth c 4 (qV D below (aA 49 a) (Wu E a SS) args s) 56 [(0, .ref (a 3)), (1, .int x1)] [] S := by
  obtain ⟨hx, hb, hml, hown, hts, hK, hr, hlocks⟩ := id C
  intro H locs hP hS ls hl
  unfold FB_X3_spread_56 at h
  refine lv_iload_n (pc := 56) hx hb dX3_spread_56 rfl (lv_at hl 1 rfl) ?_
  refine lv_bipush (v := 6) (pc := 57) hx hb dX3_spread_57 (by decide) ?_
  refine lv_icmp_ge (tgt := 143) (pc := 59) hx hb dX3_spread_59 (by decide) (fun hc => ?_) (fun hc => ?_)
  · have h := if_y hc h
    exact r_retV (pc := 143) (𝓦 := Wu E a) C h hP hS dX3_spread_143
  · have h := if_n hc h
    refine lv_iconst (v := 0) (pc := 62) hx hb dX3_spread_62 (by decide) ?_
    refine lv_istore_n (lv' := [(2, .int 0), (0, .ref (a 3)), (1, .int x1)]) (pc := 63) hx hb dX3_spread_63 rfl hl (by decide) rfl (fun ls hl => ?_)
    exact t_X3_spread_64 hI N C k56 hk56 h H locs hP hS ls (lv_sub hl [1, 2, 0] rfl)
theorem t_X3_spread_56 {SS : St} (hI : aI 49 a) (N : Nat) (C : bC D E RX3 cX3_spread 4 none p s m args meth c) {n : Nat} {x1 : Int32} {S : St} (h : lpI (F_X3_spread_56 N) n (x1, S) = some SS) : gU D (Wu E a) (aA 49 a) p l e (bRm 2 46) s m args below meth c 4 (qV D below (aA 49 a) (Wu E a SS) args s) 56 [(0, .ref (a 3)), (1, .int x1)] [] S := by
  exact lpI_ind (P := fun v q => q = SS → gU D (Wu E a) (aA 49 a) p l e (bRm 2 46) s m args below meth c 4 (qV D below (aA 49 a) (Wu E a SS) args s) 56 [(0, .ref (a 3)), (1, .int v.1)] [] v.2) (fun k hk v q h9 hq => s_X3_spread_56 hI N C k (fun x1 S h8 => hk (x1, S) _ h8 rfl) (h9.trans (congrArg some hq))) n (x1, S) _ h rfl
def FB_X3_spread_2 (N : Nat) (k2 : Int32 × St → Option (St)) (x1 : Int32) (S : St) : Option (St) :=
  if 3 < x1 then (gd (ix 3 4) (bd (some (sto S 3 4 (S 24 (Int32.toNatClampNeg 3)))) fun S1 => bd (some (sto S1 3 5 ((S1 3 4) &&& ((1 <<< ((S1 2 9) &&& 31)) ^^^ (-1))))) fun S2 => lpI (F_X3_spread_56 N) N (0, S2))) else (bd (f_X3_reachedBy N x1 S) fun r1 => gd (ix x1 4) (bd (some (sto S 24 (Int32.toNatClampNeg x1) r1)) fun S3 => k2 ((x1 + 1), S3)))
def F_X3_spread_2 (N : Nat) (k2 : Int32 × St → Option (St)) (v : Int32 × St) : Option (St) := FB_X3_spread_2 N k2 v.1 v.2
theorem s_X3_spread_2 {SS : St} (hI : aI 49 a) (N : Nat) (C : bC D E RX3 cX3_spread 4 none p s m args meth c) (k2 : Int32 × St → Option (St)) (hk2 : ∀ (x1 : Int32) (S : St), k2 (x1, S) = some SS → gU D (Wu E a) (aA 49 a) p l e (bRm 2 46) s m args below meth c 4 (qV D below (aA 49 a) (Wu E a SS) args s) 2 [(0, .ref (a 3)), (1, .int x1)] [] S) {x1 : Int32} {S : St} (h : FB_X3_spread_2 N k2 x1 S = some SS) : gU D (Wu E a) (aA 49 a) p l e (bRm 2 46) s m args below meth c 4 (qV D below (aA 49 a) (Wu E a SS) args s) 2 [(0, .ref (a 3)), (1, .int x1)] [] S := by
  obtain ⟨hx, hb, hml, hown, hts, hK, hr, hlocks⟩ := id C
  intro H locs hP hS ls hl
  unfold FB_X3_spread_2 at h
  refine lv_iload_n (pc := 2) hx hb dX3_spread_2 rfl (lv_at hl 1 rfl) ?_
  refine lv_iconst (v := 3) (pc := 3) hx hb dX3_spread_3 (by decide) ?_
  refine lv_icmp_gt (tgt := 24) (pc := 4) hx hb dX3_spread_4 (by decide) (fun hc => ?_) (fun hc => ?_)
  · have h := if_y hc h
    refine lv_aload_n (pc := 24) hx hb dX3_spread_24 rfl (lv_at hl 0 rfl) ?_
    refine lv_aload_n (pc := 25) hx hb dX3_spread_25 rfl (lv_at hl 0 rfl) ?_
    refine va_get (pc := 26) (v := .ref (a 24)) hx hb hts inB3 hown hK.1 hP 3 wu3 rfl 9 (by decide) (hts _ wd_161) (fun _ h9 => h9) rfl dX3_spread_26 ?_
    refine lv_iconst (v := 3) (pc := 29) hx hb dX3_spread_29 (by decide) ?_
    obtain ⟨hin, h⟩ := gd_some h
    refine r_ald (pc := 30) hx hb hK hP 24 wu24 hin dX3_spread_30 ?_
    refine r_put (pc := 31) (𝓦 := Wu E a) hx hb hts hown hK inB3 tyX3 tyX3_ok nmX3 hP (dU hI _) hS 3 wu3 rfl 4 (by decide) wd_154 rfl (by decide +kernel) (Nat.le_of_ble_eq_true rfl) (wu3p4 _) dX3_spread_31 (fun H locs S1 eS1 hP hS => ?_)
    have h := bd_y eS1 h
    refine lv_aload_n (pc := 34) hx hb dX3_spread_34 rfl (lv_at hl 0 rfl) ?_
    refine lv_aload_n (pc := 35) hx hb dX3_spread_35 rfl (lv_at hl 0 rfl) ?_
    refine va_get (pc := 36) (v := .int (S1 3 4)) hx hb hts inB3 hown hK.1 hP 3 wu3 rfl 4 (by decide) (hts _ wd_154) (fun _ h9 => h9) rfl dX3_spread_36 ?_
    refine lv_iconst (v := 1) (pc := 39) hx hb dX3_spread_39 (by decide) ?_
    refine lv_aload_n (pc := 40) hx hb dX3_spread_40 rfl (lv_at hl 0 rfl) ?_
    refine va_get (pc := 41) (v := .ref (a 2)) hx hb hts inB3 hown hK.1 hP 3 wu3 rfl 0 (by decide) (hts _ wd_146) (fun _ h9 => h9) rfl dX3_spread_41 ?_
    refine va_get (pc := 44) (v := .int (S1 2 9)) hx hb hts inB0 hown hK.1 hP 2 wu2 rfl 9 (by decide) (hts _ wd_119) (fun _ h9 => h9) rfl dX3_spread_44 ?_
    refine lv_ishl (pc := 47) hx hb dX3_spread_47 ?_
    refine lv_iconst (v := (-1)) (pc := 48) hx hb dX3_spread_48 (by decide) ?_
    refine lv_ixor (pc := 49) hx hb dX3_spread_49 ?_
    refine lv_iand (pc := 50) hx hb dX3_spread_50 ?_
    refine r_put (pc := 51) (𝓦 := Wu E a) hx hb hts hown hK inB3 tyX3 tyX3_ok nmX3 hP (dU hI _) hS 3 wu3 rfl 5 (by decide) wd_156 rfl (by decide +kernel) (Nat.le_of_ble_eq_true rfl) (wu3p5 _) dX3_spread_51 (fun H locs S2 eS2 hP hS => ?_)
    have h := bd_y eS2 h
    refine lv_iconst (v := 0) (pc := 54) hx hb dX3_spread_54 (by decide) ?_
    refine lv_istore_n (lv' := [(1, .int 0), (0, .ref (a 3))]) (pc := 55) hx hb dX3_spread_55 rfl hl (by decide) rfl (fun ls hl => ?_)
    exact t_X3_spread_56 hI N C h H locs hP hS ls (lv_sub hl [1, 0] rfl)
  · have h := if_n hc h
    refine lv_aload_n (pc := 7) hx hb dX3_spread_7 rfl (lv_at hl 0 rfl) ?_
    refine va_get (pc := 8) (v := .ref (a 24)) hx hb hts inB3 hown hK.1 hP 3 wu3 rfl 9 (by decide) (hts _ wd_161) (fun _ h9 => h9) rfl dX3_spread_8 ?_
    refine lv_iload_n (pc := 11) hx hb dX3_spread_11 rfl (lv_at hl 1 rfl) ?_
    refine lv_aload_n (pc := 12) hx hb dX3_spread_12 rfl (lv_at hl 0 rfl) ?_
    refine lv_iload_n (pc := 13) hx hb dX3_spread_13 rfl (lv_at hl 1 rfl) ?_
    obtain ⟨r1, hr1, h⟩ := bd_some h
    refine r_callR (pc := 14) C hP (c_X3_reachedBy hI N hr1) k_X3_reachedBy wd_343 (q0 := 3) wu3 rfl rfl ⟨Nat.le_of_ble_eq_true rfl, Nat.le_of_ble_eq_true rfl⟩ rfl hl.1 rfl (Nat.le_of_ble_eq_true rfl) dX3_spread_14 ⟨Nat.zero_le _, Nat.zero_le _⟩ ?_
    obtain ⟨hin, h⟩ := gd_some h
    refine r_ast (pc := 17) (𝓦 := Wu E a) hx hb hK hP (dU hI _) hS 24 wu24 wu24s hin dX3_spread_17 (fun H locs S3 eS3 hP hS => ?_)
    have h := bd_y eS3 h
    refine lv_iinc (v := (x1 + 1)) (lv' := [(1, .int (x1 + 1)), (0, .ref (a 3))]) (pc := 18) hx hb dX3_spread_18 hl (k := 1) rfl (ii1 _) (by decide) rfl (fun ls hl => ?_)
    refine lv_goto (tgt := 2) (pc := 21) hx hb dX3_spread_21 (by decide) ?_
    exact hk2 _ _ h H locs hP hS ls (lv_sub hl [1, 0] rfl)
theorem t_X3_spread_2 {SS : St} (hI : aI 49 a) (N : Nat) (C : bC D E RX3 cX3_spread 4 none p s m args meth c) {n : Nat} {x1 : Int32} {S : St} (h : lpI (F_X3_spread_2 N) n (x1, S) = some SS) : gU D (Wu E a) (aA 49 a) p l e (bRm 2 46) s m args below meth c 4 (qV D below (aA 49 a) (Wu E a SS) args s) 2 [(0, .ref (a 3)), (1, .int x1)] [] S := by
  exact lpI_ind (P := fun v q => q = SS → gU D (Wu E a) (aA 49 a) p l e (bRm 2 46) s m args below meth c 4 (qV D below (aA 49 a) (Wu E a SS) args s) 2 [(0, .ref (a 3)), (1, .int v.1)] [] v.2) (fun k hk v q h9 hq => s_X3_spread_2 hI N C k (fun x1 S h8 => hk (x1, S) _ h8 rfl) (h9.trans (congrArg some hq))) n (x1, S) _ h rfl
def f_X3_spread (N : Nat) (S : St) : Option (St) :=
  lpI (F_X3_spread_2 N) N (0, S)
theorem t_X3_spread_0 {SS : St} (hI : aI 49 a) (N : Nat) (C : bC D E RX3 cX3_spread 4 none p s m args meth c) {S : St} (h : f_X3_spread N S = some SS) : gU D (Wu E a) (aA 49 a) p l e (bRm 2 46) s m args below meth c 4 (qV D below (aA 49 a) (Wu E a SS) args s) 0 [(0, .ref (a 3))] [] S := by
  obtain ⟨hx, hb, hml, hown, hts, hK, hr, hlocks⟩ := id C
  intro H locs hP hS ls hl
  unfold f_X3_spread at h
  refine lv_iconst (v := 0) (pc := 0) hx hb dX3_spread_0 (by decide) ?_
  refine lv_istore_n (lv' := [(1, .int 0), (0, .ref (a 3))]) (pc := 1) hx hb dX3_spread_1 rfl hl (by decide) rfl (fun ls hl => ?_)
  exact t_X3_spread_2 hI N C h H locs hP hS ls (lv_sub hl [1, 0] rfl)
theorem c_X3_spread {l : Launch} {D : va_G} {E : bE} {a : Nat → Nat} (hI : aI 49 a) (N : Nat) {S : St} {SS : St} (h : f_X3_spread N S = some SS) : cV l D E yX3_spread cX3_spread 4 2 46 (aA 49 a) (Wu E a S) (Wu E a SS) [.ref (a 3)] := cV_of (by decide) (Nat.le_of_ble_eq_true rfl) (fun p e s m args below meth c C => t_X3_spread_0 hI N C h)
/-! X3_spin -/
def FB_X3_spin_20 (N : Nat) (k20 : Int32 × St → Option (St)) (x1 : Int32) (S : St) : Option (St) :=
  if 6 ≤ x1 then (bd (f_X3_spread N S) fun S1 => some S1) else (bd (f_X0_choicesOf N x1 S) fun r1 => gd (ix x1 6) (bd (some (sto S 18 (Int32.toNatClampNeg x1) r1)) fun S2 => k20 ((x1 + 1), S2)))
def F_X3_spin_20 (N : Nat) (k20 : Int32 × St → Option (St)) (v : Int32 × St) : Option (St) := FB_X3_spin_20 N k20 v.1 v.2
theorem s_X3_spin_20 {SS : St} (hI : aI 49 a) (N : Nat) (C : bC D E RX3 cX3_spin 2 none p s m args meth c) (k20 : Int32 × St → Option (St)) (hk20 : ∀ (x1 : Int32) (S : St), k20 (x1, S) = some SS → gU D (Wu E a) (aA 49 a) p l e (bRm 3 69) s m args below meth c 2 (qV D below (aA 49 a) (Wu E a SS) args s) 20 [(0, .ref (a 3)), (1, .int x1)] [] S) {x1 : Int32} {S : St} (h : FB_X3_spin_20 N k20 x1 S = some SS) : gU D (Wu E a) (aA 49 a) p l e (bRm 3 69) s m args below meth c 2 (qV D below (aA 49 a) (Wu E a SS) args s) 20 [(0, .ref (a 3)), (1, .int x1)] [] S := by
  obtain ⟨hx, hb, hml, hown, hts, hK, hr, hlocks⟩ := id C
  intro H locs hP hS ls hl
  unfold FB_X3_spin_20 at h
  refine lv_iload_n (pc := 20) hx hb dX3_spin_20 rfl (lv_at hl 1 rfl) ?_
  refine lv_bipush (v := 6) (pc := 21) hx hb dX3_spin_21 (by decide) ?_
  refine lv_icmp_ge (tgt := 46) (pc := 23) hx hb dX3_spin_23 (by decide) (fun hc => ?_) (fun hc => ?_)
  · have h := if_y hc h
    refine lv_aload_n (pc := 46) hx hb dX3_spin_46 rfl (lv_at hl 0 rfl) ?_
    obtain ⟨S1, hS1, h⟩ := bd_some h
    refine r_callV (pc := 47) C hP hS (c_X3_spread hI N hS1) k_X3_spread wd_339 (q0 := 3) wu3 rfl rfl ⟨Nat.le_of_ble_eq_true rfl, Nat.le_of_ble_eq_true rfl⟩ rfl hl.1 rfl (Nat.le_of_ble_eq_true rfl) dX3_spin_47 ⟨Nat.zero_le _, Nat.zero_le _⟩ (fun H locs hP hS => ?_)
    exact r_retV (pc := 50) (𝓦 := Wu E a) C h hP hS dX3_spin_50
  · have h := if_n hc h
    refine lv_aload_n (pc := 26) hx hb dX3_spin_26 rfl (lv_at hl 0 rfl) ?_
    refine va_get (pc := 27) (v := .ref (a 18)) hx hb hts inB3 hown hK.1 hP 3 wu3 rfl 1 (by decide) (hts _ wd_148) (fun _ h9 => h9) rfl dX3_spin_27 ?_
    refine lv_iload_n (pc := 30) hx hb dX3_spin_30 rfl (lv_at hl 1 rfl) ?_
    refine lv_aload_n (pc := 31) hx hb dX3_spin_31 rfl (lv_at hl 0 rfl) ?_
    refine va_get (pc := 32) (v := .ref (a 2)) hx hb hts inB3 hown hK.1 hP 3 wu3 rfl 0 (by decide) (hts _ wd_146) (fun _ h9 => h9) rfl dX3_spin_32 ?_
    refine lv_iload_n (pc := 35) hx hb dX3_spin_35 rfl (lv_at hl 1 rfl) ?_
    obtain ⟨r1, hr1, h⟩ := bd_some h
    refine r_callR (pc := 36) C hP (c_X0_choicesOf hI N hr1) k_X0_choicesOf wd_338 (q0 := 2) wu2 rfl rfl ⟨Nat.le_of_ble_eq_true rfl, Nat.le_of_ble_eq_true rfl⟩ rfl hl.1 rfl (Nat.le_of_ble_eq_true rfl) dX3_spin_36 ⟨Nat.zero_le _, Nat.zero_le _⟩ ?_
    obtain ⟨hin, h⟩ := gd_some h
    refine r_ast (pc := 39) (𝓦 := Wu E a) hx hb hK hP (dU hI _) hS 18 wu18 wu18s hin dX3_spin_39 (fun H locs S2 eS2 hP hS => ?_)
    have h := bd_y eS2 h
    refine lv_iinc (v := (x1 + 1)) (lv' := [(1, .int (x1 + 1)), (0, .ref (a 3))]) (pc := 40) hx hb dX3_spin_40 hl (k := 1) rfl (ii1 _) (by decide) rfl (fun ls hl => ?_)
    refine lv_goto (tgt := 20) (pc := 43) hx hb dX3_spin_43 (by decide) ?_
    exact hk20 _ _ h H locs hP hS ls (lv_sub hl [1, 0] rfl)
theorem t_X3_spin_20 {SS : St} (hI : aI 49 a) (N : Nat) (C : bC D E RX3 cX3_spin 2 none p s m args meth c) {n : Nat} {x1 : Int32} {S : St} (h : lpI (F_X3_spin_20 N) n (x1, S) = some SS) : gU D (Wu E a) (aA 49 a) p l e (bRm 3 69) s m args below meth c 2 (qV D below (aA 49 a) (Wu E a SS) args s) 20 [(0, .ref (a 3)), (1, .int x1)] [] S := by
  exact lpI_ind (P := fun v q => q = SS → gU D (Wu E a) (aA 49 a) p l e (bRm 3 69) s m args below meth c 2 (qV D below (aA 49 a) (Wu E a SS) args s) 20 [(0, .ref (a 3)), (1, .int v.1)] [] v.2) (fun k hk v q h9 hq => s_X3_spin_20 hI N C k (fun x1 S h8 => hk (x1, S) _ h8 rfl) (h9.trans (congrArg some hq))) n (x1, S) _ h rfl
def f_X3_spin (N : Nat) (S : St) : Option (St) :=
  bd (some (str S 21 (va_cpy (S 17) (S 21) 0 0 (Int32.toNatClampNeg 36)))) fun S1 => lpI (F_X3_spin_20 N) N (0, S1)
theorem t_X3_spin_0 {SS : St} (hI : aI 49 a) (N : Nat) (C : bC D E RX3 cX3_spin 2 none p s m args meth c) {S : St} (h : f_X3_spin N S = some SS) : gU D (Wu E a) (aA 49 a) p l e (bRm 3 69) s m args below meth c 2 (qV D below (aA 49 a) (Wu E a SS) args s) 0 [(0, .ref (a 3))] [] S := by
  obtain ⟨hx, hb, hml, hown, hts, hK, hr, hlocks⟩ := id C
  intro H locs hP hS ls hl
  unfold f_X3_spin at h
  refine lv_aload_n (pc := 0) hx hb dX3_spin_0 rfl (lv_at hl 0 rfl) ?_
  refine va_get (pc := 1) (v := .ref (a 2)) hx hb hts inB3 hown hK.1 hP 3 wu3 rfl 0 (by decide) (hts _ wd_146) (fun _ h9 => h9) rfl dX3_spin_1 ?_
  refine va_get (pc := 4) (v := .ref (a 17)) hx hb hts inB0 hown hK.1 hP 2 wu2 rfl 8 (by decide) (hts _ wd_116) (fun _ h9 => h9) rfl dX3_spin_4 ?_
  refine lv_iconst (v := 0) (pc := 7) hx hb dX3_spin_7 (by decide) ?_
  refine lv_aload_n (pc := 8) hx hb dX3_spin_8 rfl (lv_at hl 0 rfl) ?_
  refine va_get (pc := 9) (v := .ref (a 21)) hx hb hts inB3 hown hK.1 hP 3 wu3 rfl 6 (by decide) (hts _ wd_158) (fun _ h9 => h9) rfl dX3_spin_9 ?_
  refine lv_iconst (v := 0) (pc := 12) hx hb dX3_spin_12 (by decide) ?_
  refine lv_bipush (v := 36) (pc := 13) hx hb dX3_spin_13 (by decide) ?_
  refine r_cpy (pc := 15) (𝓦 := Wu E a) C hP (dU hI _) hS hl.1 wd_335 wd_337 wd_336 wd_46 17 21 wu17 wu21 wu21s (by decide) (by decide) (by decide) (by decide) (by decide) dX3_spin_15 (fun H locs S1 eS1 hP hS => ?_)
  have h := bd_y eS1 h
  refine lv_iconst (v := 0) (pc := 18) hx hb dX3_spin_18 (by decide) ?_
  refine lv_istore_n (lv' := [(1, .int 0), (0, .ref (a 3))]) (pc := 19) hx hb dX3_spin_19 rfl hl (by decide) rfl (fun ls hl => ?_)
  exact t_X3_spin_20 hI N C h H locs hP hS ls (lv_sub hl [1, 0] rfl)
theorem c_X3_spin {l : Launch} {D : va_G} {E : bE} {a : Nat → Nat} (hI : aI 49 a) (N : Nat) {S : St} {SS : St} (h : f_X3_spin N S = some SS) : cV l D E yX3_spin cX3_spin 2 3 69 (aA 49 a) (Wu E a S) (Wu E a SS) [.ref (a 3)] := cV_of (by decide) (Nat.le_of_ble_eq_true rfl) (fun p e s m args below meth c C => t_X3_spin_0 hI N C h)
/-! X4_pieces -/
def f_X4_pieces (N : Nat) (S : St) : Option (Int32 × St) :=
  bd (f_X3_spin N S) fun S1 => some ((S1 3 4), S1)
theorem t_X4_pieces_0 {rr : Int32} {SS : St} (hI : aI 49 a) (N : Nat) (C : bC D E RX4 cX4_pieces 1 (some .int) p s m args meth c) {S : St} (h : f_X4_pieces N S = some (rr, SS)) : gU D (Wu E a) (aA 49 a) p l e (bRm 4 90) s m args below meth c 1 (qU D below (aA 49 a) (Wu E a SS) rr args s) 0 [(0, .ref (a 0))] [] S := by
  obtain ⟨hx, hb, hml, hown, hts, hK, hr, hlocks⟩ := id C
  intro H locs hP hS ls hl
  unfold f_X4_pieces at h
  refine lv_aload_n (pc := 0) hx hb dX4_pieces_0 rfl (lv_at hl 0 rfl) ?_
  refine va_get (pc := 1) (v := .ref (a 3)) hx hb hts inB4 hown hK.1 hP 0 wu0 rfl 1 (by decide) (hts _ wd_218) (fun _ h9 => h9) rfl dX4_pieces_1 ?_
  obtain ⟨S1, hS1, h⟩ := bd_some h
  refine r_callV (pc := 4) C hP hS (c_X3_spin hI N hS1) k_X3_spin wd_331 (q0 := 3) wu3 rfl rfl ⟨Nat.le_of_ble_eq_true rfl, Nat.le_of_ble_eq_true rfl⟩ rfl hl.1 rfl (Nat.le_of_ble_eq_true rfl) dX4_pieces_4 ⟨Nat.zero_le _, Nat.zero_le _⟩ (fun H locs hP hS => ?_)
  refine lv_aload_n (pc := 7) hx hb dX4_pieces_7 rfl (lv_at hl 0 rfl) ?_
  refine va_get (pc := 8) (v := .ref (a 3)) hx hb hts inB4 hown hK.1 hP 0 wu0 rfl 1 (by decide) (hts _ wd_218) (fun _ h9 => h9) rfl dX4_pieces_8 ?_
  refine va_get (pc := 11) (v := .int (S1 3 4)) hx hb hts inB3 hown hK.1 hP 3 wu3 rfl 4 (by decide) (hts _ wd_155) (fun _ h9 => h9) rfl dX4_pieces_11 ?_
  exact r_retU (pc := 14) (𝓦 := Wu E a) C h hP hS dX4_pieces_14
theorem c_X4_pieces {l : Launch} {D : va_G} {E : bE} {a : Nat → Nat} (hI : aI 49 a) (N : Nat) {rr : Int32} {S : St} {SS : St} (h : f_X4_pieces N S = some (rr, SS)) : cU l D E yX4_pieces cX4_pieces 1 (some .int) 4 90 (aA 49 a) (Wu E a S) (Wu E a SS) [.ref (a 0)] rr := cU_of (by decide) (Nat.le_of_ble_eq_true rfl) (fun p e s m args below meth c C => t_X4_pieces_0 hI N C h)
/-! X4_takeDigits -/
def B_X4_takeDigits_48 (N : Nat) (k4 : Int32 × Int32 × St → Option (Int32 × St)) (x2 : Int32) (x3 : Int32) (x4 : Int32) (z0 : Int32) (S : St) : Option (Int32 × St) :=
  bd (f_X4_has z0 x4) fun r1 => if r1 = 0 then (some (0, S)) else (gd (ix x3 6) (bd (some (sto S 28 (Int32.toNatClampNeg x3) x4)) fun S1 => k4 (x2, (x3 + 1), S1)))
theorem t_X4_takeDigits_48 {rr : Int32} {SS : St} (hI : aI 49 a) (N : Nat) (C : bC D E RX4 cX4_takeDigits 6 (some .boolean) p s m args meth c) (k4 : Int32 × Int32 × St → Option (Int32 × St)) (hk4 : ∀ (x2 : Int32) (x3 : Int32) (S : St), k4 (x2, x3, S) = some (rr, SS) → gU D (Wu E a) (aA 49 a) p l e (bRm 1 21) s m args below meth c 6 (qU D below (aA 49 a) (Wu E a SS) rr args s) 4 [(0, .ref (a 0)), (2, .int x2), (3, .int x3)] [] S) {x2 : Int32} {x3 : Int32} {x4 : Int32} {z0 : Int32} {S : St} (h : B_X4_takeDigits_48 N k4 x2 x3 x4 z0 S = some (rr, SS)) : gU D (Wu E a) (aA 49 a) p l e (bRm 1 21) s m args below meth c 6 (qU D below (aA 49 a) (Wu E a SS) rr args s) 48 [(0, .ref (a 0)), (2, .int x2), (3, .int x3), (4, .int x4)] [.int z0] S := by
  obtain ⟨hx, hb, hml, hown, hts, hK, hr, hlocks⟩ := id C
  intro H locs hP hS ls hl
  unfold B_X4_takeDigits_48 at h
  refine lv_istore (lv' := [(5, .int z0), (0, .ref (a 0)), (2, .int x2), (3, .int x3), (4, .int x4)]) (pc := 48) hx hb dX4_takeDigits_48 hl (by decide) rfl (fun ls hl => ?_)
  refine lv_iload (pc := 50) hx hb dX4_takeDigits_50 (lv_at hl 0 rfl) ?_
  refine lv_iload (pc := 52) hx hb dX4_takeDigits_52 (lv_at hl 4 rfl) ?_
  obtain ⟨r1, hr1, h⟩ := bd_some h
  refine r_callS (pc := 54) C (c_X4_has hr1) k_X4_has wd_366 ⟨Nat.le_of_ble_eq_true rfl, Nat.le_of_ble_eq_true rfl⟩ rfl hl.1 rfl (Nat.le_of_ble_eq_true rfl) dX4_takeDigits_54 ⟨Nat.zero_le _, Nat.zero_le _⟩ ?_
  refine lv_if_ne (tgt := 62) (pc := 57) hx hb dX4_takeDigits_57 (by decide) (fun hc => ?_) (fun hc => ?_)
  · have h := if_n hc h
    refine lv_aload_n (pc := 62) hx hb dX4_takeDigits_62 rfl (lv_at hl 1 rfl) ?_
    refine va_get (pc := 63) (v := .ref (a 4)) hx hb hts inB4 hown hK.1 hP 0 wu0 rfl 3 (by decide) (hts _ wd_220) (fun _ h9 => h9) rfl dX4_takeDigits_63 ?_
    refine va_get (pc := 66) (v := .ref (a 28)) hx hb hts inB1 hown hK.1 hP 4 wu4 rfl 0 (by decide) (hts _ wd_199) (fun _ h9 => h9) rfl dX4_takeDigits_66 ?_
    refine lv_iload_n (pc := 69) hx hb dX4_takeDigits_69 rfl (lv_at hl 3 rfl) ?_
    refine lv_iload (pc := 70) hx hb dX4_takeDigits_70 (lv_at hl 4 rfl) ?_
    obtain ⟨hin, h⟩ := gd_some h
    refine r_ast (pc := 72) (𝓦 := Wu E a) hx hb hK hP (dU hI _) hS 28 wu28 wu28s hin dX4_takeDigits_72 (fun H locs S1 eS1 hP hS => ?_)
    have h := bd_y eS1 h
    refine lv_iinc (v := (x3 + 1)) (lv' := [(3, .int (x3 + 1)), (5, .int z0), (0, .ref (a 0)), (2, .int x2), (4, .int x4)]) (pc := 73) hx hb dX4_takeDigits_73 hl (k := 3) rfl (ii1 _) (by decide) rfl (fun ls hl => ?_)
    refine lv_goto (tgt := 4) (pc := 76) hx hb dX4_takeDigits_76 (by decide) ?_
    exact hk4 _ _ _ h H locs hP hS ls (lv_sub hl [2, 3, 0] rfl)
  · have h := if_y hc h
    refine lv_iconst (v := 0) (pc := 60) hx hb dX4_takeDigits_60 (by decide) ?_
    exact r_retUZ (pc := 61) (𝓦 := Wu E a) C (gd_lit (by decide) h) hP hS dX4_takeDigits_61
def FB_X4_takeDigits_4 (N : Nat) (k4 : Int32 × Int32 × St → Option (Int32 × St)) (x2 : Int32) (x3 : Int32) (S : St) : Option (Int32 × St) :=
  if 6 ≤ x3 then (some (1, S)) else (bd (some (x2 - x2 / 10 * 10)) fun y1 => bd (some (x2 / 10)) fun y2 => bd (f_X4_has (S 3 5) x3) fun r3 => if r3 = 0 then (B_X4_takeDigits_48 N k4 y2 x3 y1 1 S) else (gd (ix x3 6) (B_X4_takeDigits_48 N k4 y2 x3 y1 (S 18 (Int32.toNatClampNeg x3)) S)))
def F_X4_takeDigits_4 (N : Nat) (k4 : Int32 × Int32 × St → Option (Int32 × St)) (v : Int32 × Int32 × St) : Option (Int32 × St) := FB_X4_takeDigits_4 N k4 v.1 v.2.1 v.2.2
theorem s_X4_takeDigits_4 {rr : Int32} {SS : St} (hI : aI 49 a) (N : Nat) (C : bC D E RX4 cX4_takeDigits 6 (some .boolean) p s m args meth c) (k4 : Int32 × Int32 × St → Option (Int32 × St)) (hk4 : ∀ (x2 : Int32) (x3 : Int32) (S : St), k4 (x2, x3, S) = some (rr, SS) → gU D (Wu E a) (aA 49 a) p l e (bRm 1 21) s m args below meth c 6 (qU D below (aA 49 a) (Wu E a SS) rr args s) 4 [(0, .ref (a 0)), (2, .int x2), (3, .int x3)] [] S) {x2 : Int32} {x3 : Int32} {S : St} (h : FB_X4_takeDigits_4 N k4 x2 x3 S = some (rr, SS)) : gU D (Wu E a) (aA 49 a) p l e (bRm 1 21) s m args below meth c 6 (qU D below (aA 49 a) (Wu E a SS) rr args s) 4 [(0, .ref (a 0)), (2, .int x2), (3, .int x3)] [] S := by
  obtain ⟨hx, hb, hml, hown, hts, hK, hr, hlocks⟩ := id C
  intro H locs hP hS ls hl
  unfold FB_X4_takeDigits_4 at h
  refine lv_iload_n (pc := 4) hx hb dX4_takeDigits_4 rfl (lv_at hl 2 rfl) ?_
  refine lv_bipush (v := 6) (pc := 5) hx hb dX4_takeDigits_5 (by decide) ?_
  refine lv_icmp_ge (tgt := 79) (pc := 7) hx hb dX4_takeDigits_7 (by decide) (fun hc => ?_) (fun hc => ?_)
  · have h := if_y hc h
    refine lv_iconst (v := 1) (pc := 79) hx hb dX4_takeDigits_79 (by decide) ?_
    exact r_retUZ (pc := 80) (𝓦 := Wu E a) C (gd_lit (by decide) h) hP hS dX4_takeDigits_80
  · have h := if_n hc h
    refine lv_iload_n (pc := 10) hx hb dX4_takeDigits_10 rfl (lv_at hl 1 rfl) ?_
    refine lv_bipush (v := 10) (pc := 11) hx hb dX4_takeDigits_11 (by decide) ?_
    refine lv_irem (pc := 13) hx hb dX4_takeDigits_13 (by decide) ?_
    refine lv_topi (fun y1 ey1 => ?_)
    have h := bd_y ey1 h
    refine lv_istore (lv' := [(4, .int y1), (0, .ref (a 0)), (2, .int x2), (3, .int x3)]) (pc := 14) hx hb dX4_takeDigits_14 hl (by decide) rfl (fun ls hl => ?_)
    refine lv_iload_n (pc := 16) hx hb dX4_takeDigits_16 rfl (lv_at hl 2 rfl) ?_
    refine lv_bipush (v := 10) (pc := 17) hx hb dX4_takeDigits_17 (by decide) ?_
    refine lv_idiv (pc := 19) hx hb dX4_takeDigits_19 (by decide) ?_
    refine lv_topi (fun y2 ey2 => ?_)
    have h := bd_y ey2 h
    refine lv_istore_n (lv' := [(2, .int y2), (4, .int y1), (0, .ref (a 0)), (3, .int x3)]) (pc := 20) hx hb dX4_takeDigits_20 rfl hl (by decide) rfl (fun ls hl => ?_)
    refine lv_aload_n (pc := 21) hx hb dX4_takeDigits_21 rfl (lv_at hl 2 rfl) ?_
    refine va_get (pc := 22) (v := .ref (a 3)) hx hb hts inB4 hown hK.1 hP 0 wu0 rfl 1 (by decide) (hts _ wd_218) (fun _ h9 => h9) rfl dX4_takeDigits_22 ?_
    refine va_get (pc := 25) (v := .int (S 3 5)) hx hb hts inB3 hown hK.1 hP 3 wu3 rfl 5 (by decide) (hts _ wd_157) (fun _ h9 => h9) rfl dX4_takeDigits_25 ?_
    refine lv_iload_n (pc := 28) hx hb dX4_takeDigits_28 rfl (lv_at hl 3 rfl) ?_
    obtain ⟨r3, hr3, h⟩ := bd_some h
    refine r_callS (pc := 29) C (c_X4_has hr3) k_X4_has wd_366 ⟨Nat.le_of_ble_eq_true rfl, Nat.le_of_ble_eq_true rfl⟩ rfl hl.1 rfl (Nat.le_of_ble_eq_true rfl) dX4_takeDigits_29 ⟨Nat.zero_le _, Nat.zero_le _⟩ ?_
    refine lv_if_eq (tgt := 47) (pc := 32) hx hb dX4_takeDigits_32 (by decide) (fun hc => ?_) (fun hc => ?_)
    · have h := if_y hc h
      refine lv_iconst (v := 1) (pc := 47) hx hb dX4_takeDigits_47 (by decide) ?_
      exact t_X4_takeDigits_48 hI N C k4 hk4 h H locs hP hS ls (lv_sub hl [2, 0, 3, 1] rfl)
    · have h := if_n hc h
      refine lv_aload_n (pc := 35) hx hb dX4_takeDigits_35 rfl (lv_at hl 2 rfl) ?_
      refine va_get (pc := 36) (v := .ref (a 3)) hx hb hts inB4 hown hK.1 hP 0 wu0 rfl 1 (by decide) (hts _ wd_218) (fun _ h9 => h9) rfl dX4_takeDigits_36 ?_
      refine va_get (pc := 39) (v := .ref (a 18)) hx hb hts inB3 hown hK.1 hP 3 wu3 rfl 1 (by decide) (hts _ wd_149) (fun _ h9 => h9) rfl dX4_takeDigits_39 ?_
      refine lv_iload_n (pc := 42) hx hb dX4_takeDigits_42 rfl (lv_at hl 3 rfl) ?_
      obtain ⟨hin, h⟩ := gd_some h
      refine r_ald (pc := 43) hx hb hK hP 18 wu18 hin dX4_takeDigits_43 ?_
      refine lv_goto (tgt := 48) (pc := 44) hx hb dX4_takeDigits_44 (by decide) ?_
      exact t_X4_takeDigits_48 hI N C k4 hk4 h H locs hP hS ls (lv_sub hl [2, 0, 3, 1] rfl)
theorem t_X4_takeDigits_4 {rr : Int32} {SS : St} (hI : aI 49 a) (N : Nat) (C : bC D E RX4 cX4_takeDigits 6 (some .boolean) p s m args meth c) {n : Nat} {x2 : Int32} {x3 : Int32} {S : St} (h : lpI (F_X4_takeDigits_4 N) n (x2, x3, S) = some (rr, SS)) : gU D (Wu E a) (aA 49 a) p l e (bRm 1 21) s m args below meth c 6 (qU D below (aA 49 a) (Wu E a SS) rr args s) 4 [(0, .ref (a 0)), (2, .int x2), (3, .int x3)] [] S := by
  exact lpI_ind (P := fun v q => q = (rr, SS) → gU D (Wu E a) (aA 49 a) p l e (bRm 1 21) s m args below meth c 6 (qU D below (aA 49 a) (Wu E a SS) rr args s) 4 [(0, .ref (a 0)), (2, .int v.1), (3, .int v.2.1)] [] v.2.2) (fun k hk v q h9 hq => s_X4_takeDigits_4 hI N C k (fun x2 x3 S h8 => hk (x2, x3, S) _ h8 rfl) (h9.trans (congrArg some hq))) n (x2, x3, S) _ h rfl
def f_X4_takeDigits (N : Nat) (x1 : Int32) (S : St) : Option (Int32 × St) :=
  lpI (F_X4_takeDigits_4 N) N (x1, 0, S)
theorem t_X4_takeDigits_0 {rr : Int32} {SS : St} (hI : aI 49 a) (N : Nat) (C : bC D E RX4 cX4_takeDigits 6 (some .boolean) p s m args meth c) {x1 : Int32} {S : St} (h : f_X4_takeDigits N x1 S = some (rr, SS)) : gU D (Wu E a) (aA 49 a) p l e (bRm 1 21) s m args below meth c 6 (qU D below (aA 49 a) (Wu E a SS) rr args s) 0 [(0, .ref (a 0)), (1, .int x1)] [] S := by
  obtain ⟨hx, hb, hml, hown, hts, hK, hr, hlocks⟩ := id C
  intro H locs hP hS ls hl
  unfold f_X4_takeDigits at h
  refine lv_iload_n (pc := 0) hx hb dX4_takeDigits_0 rfl (lv_at hl 1 rfl) ?_
  refine lv_istore_n (lv' := [(2, .int x1), (0, .ref (a 0)), (1, .int x1)]) (pc := 1) hx hb dX4_takeDigits_1 rfl hl (by decide) rfl (fun ls hl => ?_)
  refine lv_iconst (v := 0) (pc := 2) hx hb dX4_takeDigits_2 (by decide) ?_
  refine lv_istore_n (lv' := [(3, .int 0), (2, .int x1), (0, .ref (a 0)), (1, .int x1)]) (pc := 3) hx hb dX4_takeDigits_3 rfl hl (by decide) rfl (fun ls hl => ?_)
  exact t_X4_takeDigits_4 hI N C h H locs hP hS ls (lv_sub hl [2, 1, 0] rfl)
theorem c_X4_takeDigits {l : Launch} {D : va_G} {E : bE} {a : Nat → Nat} (hI : aI 49 a) (N : Nat) {rr : Int32} {S : St} {SS : St} {x1 : Int32} (h : f_X4_takeDigits N x1 S = some (rr, SS)) : cU l D E yX4_takeDigits cX4_takeDigits 6 (some .boolean) 1 21 (aA 49 a) (Wu E a S) (Wu E a SS) [.ref (a 0), .int x1] rr := cU_of (by decide) (Nat.le_of_ble_eq_true rfl) (fun p e s m args below meth c C => t_X4_takeDigits_0 hI N C h)
/-! X3_reachingBy -/
def FB_X3_reachingBy_4 (N : Nat) (S : St) (k4 : Int32 × Int32 → Option (Int32)) (x2 : Int32) (x3 : Int32) : Option (Int32) :=
  if 6 ≤ x3 then (some x2) else (gd (ix x3 6) (bd (f_X3_reaches x3 (S 28 (Int32.toNatClampNeg x3)) S) fun r1 => if r1 = 0 then (k4 (x2, (x3 + 1))) else (bd (some (x2 ||| (1 <<< (x3 &&& 31)))) fun y2 => k4 (y2, (x3 + 1)))))
def F_X3_reachingBy_4 (N : Nat) (S : St) (k4 : Int32 × Int32 → Option (Int32)) (v : Int32 × Int32) : Option (Int32) := FB_X3_reachingBy_4 N S k4 v.1 v.2
theorem s_X3_reachingBy_4 {rr : Int32} (hI : aI 49 a) (N : Nat) (C : bC D E RX3 cX3_reachingBy 4 (some .int) p s m args meth c) {S : St} (hP : va_P D vwCl (Wu E a S) s.heap) (k4 : Int32 × Int32 → Option (Int32)) (hk4 : ∀ (x2 : Int32) (x3 : Int32), k4 (x2, x3) = some rr → gR p l e (bRm 2 43) s m args below meth c 4 (qS below rr args s) 4 [(0, .ref (a 3)), (1, .ref (a 28)), (2, .int x2), (3, .int x3)] []) {x2 : Int32} {x3 : Int32} (h : FB_X3_reachingBy_4 N S k4 x2 x3 = some rr) : gR p l e (bRm 2 43) s m args below meth c 4 (qS below rr args s) 4 [(0, .ref (a 3)), (1, .ref (a 28)), (2, .int x2), (3, .int x3)] [] := by
  obtain ⟨hx, hb, hml, hown, hts, hK, hr, hlocks⟩ := id C
  intro ls hl
  unfold FB_X3_reachingBy_4 at h
  refine lv_iload_n (pc := 4) hx hb dX3_reachingBy_4 rfl (lv_at hl 3 rfl) ?_
  refine lv_bipush (v := 6) (pc := 5) hx hb dX3_reachingBy_5 (by decide) ?_
  refine lv_icmp_ge (tgt := 33) (pc := 7) hx hb dX3_reachingBy_7 (by decide) (fun hc => ?_) (fun hc => ?_)
  · have h := if_y hc h
    refine lv_iload_n (pc := 33) hx hb dX3_reachingBy_33 rfl (lv_at hl 2 rfl) ?_
    exact r_retS (pc := 34) C h dX3_reachingBy_34
  · have h := if_n hc h
    refine lv_aload_n (pc := 10) hx hb dX3_reachingBy_10 rfl (lv_at hl 0 rfl) ?_
    refine lv_iload_n (pc := 11) hx hb dX3_reachingBy_11 rfl (lv_at hl 3 rfl) ?_
    refine lv_aload_n (pc := 12) hx hb dX3_reachingBy_12 rfl (lv_at hl 1 rfl) ?_
    refine lv_iload_n (pc := 13) hx hb dX3_reachingBy_13 rfl (lv_at hl 3 rfl) ?_
    obtain ⟨hin, h⟩ := gd_some h
    refine r_ald (pc := 14) hx hb hK hP 28 wu28 hin dX3_reachingBy_14 ?_
    obtain ⟨r1, hr1, h⟩ := bd_some h
    refine r_callR (pc := 15) C hP (c_X3_reaches hI hr1) k_X3_reaches wd_350 (q0 := 3) wu3 rfl rfl ⟨Nat.le_of_ble_eq_true rfl, Nat.le_of_ble_eq_true rfl⟩ rfl hl.1 rfl (Nat.le_of_ble_eq_true rfl) dX3_reachingBy_15 ⟨Nat.zero_le _, Nat.zero_le _⟩ ?_
    refine lv_if_eq (tgt := 27) (pc := 18) hx hb dX3_reachingBy_18 (by decide) (fun hc => ?_) (fun hc => ?_)
    · have h := if_y hc h
      refine lv_iinc (v := (x3 + 1)) (lv' := [(3, .int (x3 + 1)), (0, .ref (a 3)), (1, .ref (a 28)), (2, .int x2)]) (pc := 27) hx hb dX3_reachingBy_27 hl (k := 3) rfl (ii1 _) (by decide) rfl (fun ls hl => ?_)
      refine lv_goto (tgt := 4) (pc := 30) hx hb dX3_reachingBy_30 (by decide) ?_
      exact hk4 _ _ h ls (lv_sub hl [1, 2, 3, 0] rfl)
    · have h := if_n hc h
      refine lv_iload_n (pc := 21) hx hb dX3_reachingBy_21 rfl (lv_at hl 2 rfl) ?_
      refine lv_iconst (v := 1) (pc := 22) hx hb dX3_reachingBy_22 (by decide) ?_
      refine lv_iload_n (pc := 23) hx hb dX3_reachingBy_23 rfl (lv_at hl 3 rfl) ?_
      refine lv_ishl (pc := 24) hx hb dX3_reachingBy_24 ?_
      refine lv_ior (pc := 25) hx hb dX3_reachingBy_25 ?_
      refine lv_topi (fun y2 ey2 => ?_)
      have h := bd_y ey2 h
      refine lv_istore_n (lv' := [(2, .int y2), (0, .ref (a 3)), (1, .ref (a 28)), (3, .int x3)]) (pc := 26) hx hb dX3_reachingBy_26 rfl hl (by decide) rfl (fun ls hl => ?_)
      refine lv_iinc (v := (x3 + 1)) (lv' := [(3, .int (x3 + 1)), (2, .int y2), (0, .ref (a 3)), (1, .ref (a 28))]) (pc := 27) hx hb dX3_reachingBy_27 hl (k := 3) rfl (ii1 _) (by decide) rfl (fun ls hl => ?_)
      refine lv_goto (tgt := 4) (pc := 30) hx hb dX3_reachingBy_30 (by decide) ?_
      exact hk4 _ _ h ls (lv_sub hl [2, 3, 1, 0] rfl)
theorem t_X3_reachingBy_4 {rr : Int32} (hI : aI 49 a) (N : Nat) (C : bC D E RX3 cX3_reachingBy 4 (some .int) p s m args meth c) {S : St} (hP : va_P D vwCl (Wu E a S) s.heap) {n : Nat} {x2 : Int32} {x3 : Int32} (h : lpI (F_X3_reachingBy_4 N S) n (x2, x3) = some rr) : gR p l e (bRm 2 43) s m args below meth c 4 (qS below rr args s) 4 [(0, .ref (a 3)), (1, .ref (a 28)), (2, .int x2), (3, .int x3)] [] := by
  exact lpI_ind (P := fun v q => q = rr → gR p l e (bRm 2 43) s m args below meth c 4 (qS below rr args s) 4 [(0, .ref (a 3)), (1, .ref (a 28)), (2, .int v.1), (3, .int v.2)] []) (fun k hk v q h9 hq => s_X3_reachingBy_4 hI N C hP k (fun x2 x3 h8 => hk (x2, x3) _ h8 rfl) (h9.trans (congrArg some hq))) n (x2, x3) _ h rfl
def f_X3_reachingBy (N : Nat) (S : St) : Option (Int32) :=
  lpI (F_X3_reachingBy_4 N S) N (0, 0)
theorem t_X3_reachingBy_0 {rr : Int32} (hI : aI 49 a) (N : Nat) (C : bC D E RX3 cX3_reachingBy 4 (some .int) p s m args meth c) {S : St} (hP : va_P D vwCl (Wu E a S) s.heap) (h : f_X3_reachingBy N S = some rr) : gR p l e (bRm 2 43) s m args below meth c 4 (qS below rr args s) 0 [(0, .ref (a 3)), (1, .ref (a 28))] [] := by
  obtain ⟨hx, hb, hml, hown, hts, hK, hr, hlocks⟩ := id C
  intro ls hl
  unfold f_X3_reachingBy at h
  refine lv_iconst (v := 0) (pc := 0) hx hb dX3_reachingBy_0 (by decide) ?_
  refine lv_istore_n (lv' := [(2, .int 0), (0, .ref (a 3)), (1, .ref (a 28))]) (pc := 1) hx hb dX3_reachingBy_1 rfl hl (by decide) rfl (fun ls hl => ?_)
  refine lv_iconst (v := 0) (pc := 2) hx hb dX3_reachingBy_2 (by decide) ?_
  refine lv_istore_n (lv' := [(3, .int 0), (2, .int 0), (0, .ref (a 3)), (1, .ref (a 28))]) (pc := 3) hx hb dX3_reachingBy_3 rfl hl (by decide) rfl (fun ls hl => ?_)
  exact t_X3_reachingBy_4 hI N C hP h ls (lv_sub hl [2, 3, 1, 0] rfl)
theorem c_X3_reachingBy {l : Launch} {D : va_G} {E : bE} {a : Nat → Nat} (hI : aI 49 a) (N : Nat) {rr : Int32} {S : St} (h : f_X3_reachingBy N S = some rr) : cR l D E yX3_reachingBy cX3_reachingBy 4 (some .int) 2 43 (Wu E a S) [.ref (a 3), .ref (a 28)] rr := cR_of (by decide) (Nat.le_of_ble_eq_true rfl) (fun p e s m args below meth c C hP => t_X3_reachingBy_0 hI N C hP h)
/-! X3_mayGoBy -/
def FB_X3_mayGoBy_15 (N : Nat) (S : St) (k15 : Int32 × Int32 → Option (Int32)) (x2 : Int32) (x3 : Int32) : Option (Int32) :=
  if 6 ≤ x3 then (some x2) else (gd (ix x3 6) (bd (f_X3_offer x3 (S 28 (Int32.toNatClampNeg x3))) fun r1 => gd (ix r1 30) (bd (some (x2 &&& (S 22 (Int32.toNatClampNeg r1)))) fun y2 => k15 (y2, (x3 + 1)))))
def F_X3_mayGoBy_15 (N : Nat) (S : St) (k15 : Int32 × Int32 → Option (Int32)) (v : Int32 × Int32) : Option (Int32) := FB_X3_mayGoBy_15 N S k15 v.1 v.2
theorem s_X3_mayGoBy_15 {rr : Int32} (hI : aI 49 a) (N : Nat) (C : bC D E RX3 cX3_mayGoBy 4 (some .int) p s m args meth c) {S : St} (hP : va_P D vwCl (Wu E a S) s.heap) (k15 : Int32 × Int32 → Option (Int32)) (hk15 : ∀ (x2 : Int32) (x3 : Int32), k15 (x2, x3) = some rr → gR p l e (bRm 1 21) s m args below meth c 4 (qS below rr args s) 15 [(0, .ref (a 3)), (1, .ref (a 28)), (2, .int x2), (3, .int x3)] []) {x2 : Int32} {x3 : Int32} (h : FB_X3_mayGoBy_15 N S k15 x2 x3 = some rr) : gR p l e (bRm 1 21) s m args below meth c 4 (qS below rr args s) 15 [(0, .ref (a 3)), (1, .ref (a 28)), (2, .int x2), (3, .int x3)] [] := by
  obtain ⟨hx, hb, hml, hown, hts, hK, hr, hlocks⟩ := id C
  intro ls hl
  unfold FB_X3_mayGoBy_15 at h
  refine lv_iload_n (pc := 15) hx hb dX3_mayGoBy_15 rfl (lv_at hl 3 rfl) ?_
  refine lv_bipush (v := 6) (pc := 16) hx hb dX3_mayGoBy_16 (by decide) ?_
  refine lv_icmp_ge (tgt := 42) (pc := 18) hx hb dX3_mayGoBy_18 (by decide) (fun hc => ?_) (fun hc => ?_)
  · have h := if_y hc h
    refine lv_iload_n (pc := 42) hx hb dX3_mayGoBy_42 rfl (lv_at hl 2 rfl) ?_
    exact r_retS (pc := 43) C h dX3_mayGoBy_43
  · have h := if_n hc h
    refine lv_iload_n (pc := 21) hx hb dX3_mayGoBy_21 rfl (lv_at hl 2 rfl) ?_
    refine lv_aload_n (pc := 22) hx hb dX3_mayGoBy_22 rfl (lv_at hl 0 rfl) ?_
    refine va_get (pc := 23) (v := .ref (a 22)) hx hb hts inB3 hown hK.1 hP 3 wu3 rfl 7 (by decide) (hts _ wd_159) (fun _ h9 => h9) rfl dX3_mayGoBy_23 ?_
    refine lv_iload_n (pc := 26) hx hb dX3_mayGoBy_26 rfl (lv_at hl 3 rfl) ?_
    refine lv_aload_n (pc := 27) hx hb dX3_mayGoBy_27 rfl (lv_at hl 1 rfl) ?_
    refine lv_iload_n (pc := 28) hx hb dX3_mayGoBy_28 rfl (lv_at hl 3 rfl) ?_
    obtain ⟨hin, h⟩ := gd_some h
    refine r_ald (pc := 29) hx hb hK hP 28 wu28 hin dX3_mayGoBy_29 ?_
    obtain ⟨r1, hr1, h⟩ := bd_some h
    refine r_callS (pc := 30) C (c_X3_offer hr1) k_X3_offer wd_354 ⟨Nat.le_of_ble_eq_true rfl, Nat.le_of_ble_eq_true rfl⟩ rfl hl.1 rfl (Nat.le_of_ble_eq_true rfl) dX3_mayGoBy_30 ⟨Nat.zero_le _, Nat.zero_le _⟩ ?_
    obtain ⟨hin, h⟩ := gd_some h
    refine r_ald (pc := 33) hx hb hK hP 22 wu22 hin dX3_mayGoBy_33 ?_
    refine lv_iand (pc := 34) hx hb dX3_mayGoBy_34 ?_
    refine lv_topi (fun y2 ey2 => ?_)
    have h := bd_y ey2 h
    refine lv_istore_n (lv' := [(2, .int y2), (0, .ref (a 3)), (1, .ref (a 28)), (3, .int x3)]) (pc := 35) hx hb dX3_mayGoBy_35 rfl hl (by decide) rfl (fun ls hl => ?_)
    refine lv_iinc (v := (x3 + 1)) (lv' := [(3, .int (x3 + 1)), (2, .int y2), (0, .ref (a 3)), (1, .ref (a 28))]) (pc := 36) hx hb dX3_mayGoBy_36 hl (k := 3) rfl (ii1 _) (by decide) rfl (fun ls hl => ?_)
    refine lv_goto (tgt := 15) (pc := 39) hx hb dX3_mayGoBy_39 (by decide) ?_
    exact hk15 _ _ h ls (lv_sub hl [2, 3, 1, 0] rfl)
theorem t_X3_mayGoBy_15 {rr : Int32} (hI : aI 49 a) (N : Nat) (C : bC D E RX3 cX3_mayGoBy 4 (some .int) p s m args meth c) {S : St} (hP : va_P D vwCl (Wu E a S) s.heap) {n : Nat} {x2 : Int32} {x3 : Int32} (h : lpI (F_X3_mayGoBy_15 N S) n (x2, x3) = some rr) : gR p l e (bRm 1 21) s m args below meth c 4 (qS below rr args s) 15 [(0, .ref (a 3)), (1, .ref (a 28)), (2, .int x2), (3, .int x3)] [] := by
  exact lpI_ind (P := fun v q => q = rr → gR p l e (bRm 1 21) s m args below meth c 4 (qS below rr args s) 15 [(0, .ref (a 3)), (1, .ref (a 28)), (2, .int v.1), (3, .int v.2)] []) (fun k hk v q h9 hq => s_X3_mayGoBy_15 hI N C hP k (fun x2 x3 h8 => hk (x2, x3) _ h8 rfl) (h9.trans (congrArg some hq))) n (x2, x3) _ h rfl
def f_X3_mayGoBy (N : Nat) (S : St) : Option (Int32) :=
  gd (ix (S 2 9) 6) (bd (some (S 18 (Int32.toNatClampNeg (S 2 9)))) fun y1 => lpI (F_X3_mayGoBy_15 N S) N (y1, 0))
theorem t_X3_mayGoBy_0 {rr : Int32} (hI : aI 49 a) (N : Nat) (C : bC D E RX3 cX3_mayGoBy 4 (some .int) p s m args meth c) {S : St} (hP : va_P D vwCl (Wu E a S) s.heap) (h : f_X3_mayGoBy N S = some rr) : gR p l e (bRm 1 21) s m args below meth c 4 (qS below rr args s) 0 [(0, .ref (a 3)), (1, .ref (a 28))] [] := by
  obtain ⟨hx, hb, hml, hown, hts, hK, hr, hlocks⟩ := id C
  intro ls hl
  unfold f_X3_mayGoBy at h
  refine lv_aload_n (pc := 0) hx hb dX3_mayGoBy_0 rfl (lv_at hl 0 rfl) ?_
  refine va_get (pc := 1) (v := .ref (a 18)) hx hb hts inB3 hown hK.1 hP 3 wu3 rfl 1 (by decide) (hts _ wd_148) (fun _ h9 => h9) rfl dX3_mayGoBy_1 ?_
  refine lv_aload_n (pc := 4) hx hb dX3_mayGoBy_4 rfl (lv_at hl 0 rfl) ?_
  refine va_get (pc := 5) (v := .ref (a 2)) hx hb hts inB3 hown hK.1 hP 3 wu3 rfl 0 (by decide) (hts _ wd_146) (fun _ h9 => h9) rfl dX3_mayGoBy_5 ?_
  refine va_get (pc := 8) (v := .int (S 2 9)) hx hb hts inB0 hown hK.1 hP 2 wu2 rfl 9 (by decide) (hts _ wd_119) (fun _ h9 => h9) rfl dX3_mayGoBy_8 ?_
  obtain ⟨hin, h⟩ := gd_some h
  refine r_ald (pc := 11) hx hb hK hP 18 wu18 hin dX3_mayGoBy_11 ?_
  refine lv_topi (fun y1 ey1 => ?_)
  have h := bd_y ey1 h
  refine lv_istore_n (lv' := [(2, .int y1), (0, .ref (a 3)), (1, .ref (a 28))]) (pc := 12) hx hb dX3_mayGoBy_12 rfl hl (by decide) rfl (fun ls hl => ?_)
  refine lv_iconst (v := 0) (pc := 13) hx hb dX3_mayGoBy_13 (by decide) ?_
  refine lv_istore_n (lv' := [(3, .int 0), (2, .int y1), (0, .ref (a 3)), (1, .ref (a 28))]) (pc := 14) hx hb dX3_mayGoBy_14 rfl hl (by decide) rfl (fun ls hl => ?_)
  exact t_X3_mayGoBy_15 hI N C hP h ls (lv_sub hl [2, 3, 1, 0] rfl)
theorem c_X3_mayGoBy {l : Launch} {D : va_G} {E : bE} {a : Nat → Nat} (hI : aI 49 a) (N : Nat) {rr : Int32} {S : St} (h : f_X3_mayGoBy N S = some rr) : cR l D E yX3_mayGoBy cX3_mayGoBy 4 (some .int) 1 21 (Wu E a S) [.ref (a 3), .ref (a 28)] rr := cR_of (by decide) (Nat.le_of_ble_eq_true rfl) (fun p e s m args below meth c C hP => t_X3_mayGoBy_0 hI N C hP h)
/-! X3_askedBy -/
def f_X3_askedBy (x0 : Int32) : Option (Int32) :=
  if x0 = 0 then (some 31) else (if x0 = 1 then (some 22) else (some 4))
theorem t_X3_askedBy_0 {rr : Int32} (C : bC D E RX3 cX3_askedBy 1 (some .int) p s m args meth c) {x0 : Int32} (h : f_X3_askedBy x0 = some rr) : gR p l e (bRm 0 0) s m args below meth c 1 (qS below rr args s) 0 [(0, .int x0)] [] := by
  obtain ⟨hx, hb, hml, hown, hts, hK, hr, hlocks⟩ := id C
  intro ls hl
  unfold f_X3_askedBy at h
  refine lv_iload_n (pc := 0) hx hb dX3_askedBy_0 rfl (lv_at hl 0 rfl) ?_
  by_cases hc0 : x0 = 0
  · refine r_lookIn (pc := 1) (v := 0) (off := 27) (tgt := 28) hx hb dX3_askedBy_1 (by decide +kernel) hc0 (by decide +kernel) (by decide) ?_
    have h := if_y hc0 h
    refine lv_bipush (v := 31) (pc := 28) hx hb dX3_askedBy_28 (by decide) ?_
    exact r_retS (pc := 30) C h dX3_askedBy_30
  have h := if_n hc0 h
  by_cases hc1 : x0 = 1
  · refine r_lookIn (pc := 1) (v := 1) (off := 30) (tgt := 31) hx hb dX3_askedBy_1 (by decide +kernel) hc1 (by decide +kernel) (by decide) ?_
    have h := if_y hc1 h
    refine lv_bipush (v := 22) (pc := 31) hx hb dX3_askedBy_31 (by decide) ?_
    exact r_retS (pc := 33) C h dX3_askedBy_33
  have h := if_n hc1 h
  refine lv_lookup (pc := 1) (off := 33) (tgt := 34) hx hb dX3_askedBy_1 (by decide +kernel) ((lv_osw (k := 0) hc0 (by decide)).trans ((lv_osw (k := 1) hc1 (by decide)).trans (rfl))) (by decide) ?_
  refine lv_iconst (v := 4) (pc := 34) hx hb dX3_askedBy_34 (by decide) ?_
  exact r_retS (pc := 35) C h dX3_askedBy_35
theorem c_X3_askedBy {l : Launch} {D : va_G} {E : bE} {rr : Int32} {x0 : Int32} (h : f_X3_askedBy x0 = some rr) : cS l D E yX3_askedBy cX3_askedBy 1 (some .int) 0 0 [.int x0] rr := cS_of (by decide) (Nat.le_of_ble_eq_true rfl) (fun p e s m args below meth c C => t_X3_askedBy_0 C h)
/-! X3_mustsBy -/
def FB_X3_mustsBy_5 (N : Nat) (S : St) (k5 : Int32 × Int32 × Int32 → Option (Int32)) (x2 : Int32) (x3 : Int32) (x4 : Int32) : Option (Int32) :=
  if 6 ≤ x4 then (bd (f_X3_askedBy x2) fun r1 => some (x3 &&& r1)) else (gd (ix x4 6) (bd (f_X3_offer x4 (S 28 (Int32.toNatClampNeg x4))) fun r2 => gd (ix r2 30) (bd (some (x3 ||| (S 23 (Int32.toNatClampNeg r2)))) fun y3 => k5 (x2, y3, (x4 + 1)))))
def F_X3_mustsBy_5 (N : Nat) (S : St) (k5 : Int32 × Int32 × Int32 → Option (Int32)) (v : Int32 × Int32 × Int32) : Option (Int32) := FB_X3_mustsBy_5 N S k5 v.1 v.2.1 v.2.2
theorem s_X3_mustsBy_5 {rr : Int32} (hI : aI 49 a) (N : Nat) (C : bC D E RX3 cX3_mustsBy 5 (some .int) p s m args meth c) {S : St} (hP : va_P D vwCl (Wu E a S) s.heap) (k5 : Int32 × Int32 × Int32 → Option (Int32)) (hk5 : ∀ (x2 : Int32) (x3 : Int32) (x4 : Int32), k5 (x2, x3, x4) = some rr → gR p l e (bRm 1 21) s m args below meth c 5 (qS below rr args s) 5 [(0, .ref (a 3)), (1, .ref (a 28)), (2, .int x2), (3, .int x3), (4, .int x4)] []) {x2 : Int32} {x3 : Int32} {x4 : Int32} (h : FB_X3_mustsBy_5 N S k5 x2 x3 x4 = some rr) : gR p l e (bRm 1 21) s m args below meth c 5 (qS below rr args s) 5 [(0, .ref (a 3)), (1, .ref (a 28)), (2, .int x2), (3, .int x3), (4, .int x4)] [] := by
  obtain ⟨hx, hb, hml, hown, hts, hK, hr, hlocks⟩ := id C
  intro ls hl
  unfold FB_X3_mustsBy_5 at h
  refine lv_iload (pc := 5) hx hb dX3_mustsBy_5 (lv_at hl 4 rfl) ?_
  refine lv_bipush (v := 6) (pc := 7) hx hb dX3_mustsBy_7 (by decide) ?_
  refine lv_icmp_ge (tgt := 35) (pc := 9) hx hb dX3_mustsBy_9 (by decide) (fun hc => ?_) (fun hc => ?_)
  · have h := if_y hc h
    refine lv_iload_n (pc := 35) hx hb dX3_mustsBy_35 rfl (lv_at hl 3 rfl) ?_
    refine lv_iload_n (pc := 36) hx hb dX3_mustsBy_36 rfl (lv_at hl 2 rfl) ?_
    obtain ⟨r1, hr1, h⟩ := bd_some h
    refine r_callS (pc := 37) C (c_X3_askedBy hr1) k_X3_askedBy wd_379 ⟨Nat.le_of_ble_eq_true rfl, Nat.le_of_ble_eq_true rfl⟩ rfl hl.1 rfl (Nat.le_of_ble_eq_true rfl) dX3_mustsBy_37 ⟨Nat.zero_le _, Nat.zero_le _⟩ ?_
    refine lv_iand (pc := 40) hx hb dX3_mustsBy_40 ?_
    exact r_retS (pc := 41) C h dX3_mustsBy_41
  · have h := if_n hc h
    refine lv_iload_n (pc := 12) hx hb dX3_mustsBy_12 rfl (lv_at hl 3 rfl) ?_
    refine lv_aload_n (pc := 13) hx hb dX3_mustsBy_13 rfl (lv_at hl 0 rfl) ?_
    refine va_get (pc := 14) (v := .ref (a 23)) hx hb hts inB3 hown hK.1 hP 3 wu3 rfl 8 (by decide) (hts _ wd_160) (fun _ h9 => h9) rfl dX3_mustsBy_14 ?_
    refine lv_iload (pc := 17) hx hb dX3_mustsBy_17 (lv_at hl 4 rfl) ?_
    refine lv_aload_n (pc := 19) hx hb dX3_mustsBy_19 rfl (lv_at hl 1 rfl) ?_
    refine lv_iload (pc := 20) hx hb dX3_mustsBy_20 (lv_at hl 4 rfl) ?_
    obtain ⟨hin, h⟩ := gd_some h
    refine r_ald (pc := 22) hx hb hK hP 28 wu28 hin dX3_mustsBy_22 ?_
    obtain ⟨r2, hr2, h⟩ := bd_some h
    refine r_callS (pc := 23) C (c_X3_offer hr2) k_X3_offer wd_354 ⟨Nat.le_of_ble_eq_true rfl, Nat.le_of_ble_eq_true rfl⟩ rfl hl.1 rfl (Nat.le_of_ble_eq_true rfl) dX3_mustsBy_23 ⟨Nat.zero_le _, Nat.zero_le _⟩ ?_
    obtain ⟨hin, h⟩ := gd_some h
    refine r_ald (pc := 26) hx hb hK hP 23 wu23 hin dX3_mustsBy_26 ?_
    refine lv_ior (pc := 27) hx hb dX3_mustsBy_27 ?_
    refine lv_topi (fun y3 ey3 => ?_)
    have h := bd_y ey3 h
    refine lv_istore_n (lv' := [(3, .int y3), (0, .ref (a 3)), (1, .ref (a 28)), (2, .int x2), (4, .int x4)]) (pc := 28) hx hb dX3_mustsBy_28 rfl hl (by decide) rfl (fun ls hl => ?_)
    refine lv_iinc (v := (x4 + 1)) (lv' := [(4, .int (x4 + 1)), (3, .int y3), (0, .ref (a 3)), (1, .ref (a 28)), (2, .int x2)]) (pc := 29) hx hb dX3_mustsBy_29 hl (k := 4) rfl (ii1 _) (by decide) rfl (fun ls hl => ?_)
    refine lv_goto (tgt := 5) (pc := 32) hx hb dX3_mustsBy_32 (by decide) ?_
    exact hk5 _ _ _ h ls (lv_sub hl [2, 3, 4, 1, 0] rfl)
theorem t_X3_mustsBy_5 {rr : Int32} (hI : aI 49 a) (N : Nat) (C : bC D E RX3 cX3_mustsBy 5 (some .int) p s m args meth c) {S : St} (hP : va_P D vwCl (Wu E a S) s.heap) {n : Nat} {x2 : Int32} {x3 : Int32} {x4 : Int32} (h : lpI (F_X3_mustsBy_5 N S) n (x2, x3, x4) = some rr) : gR p l e (bRm 1 21) s m args below meth c 5 (qS below rr args s) 5 [(0, .ref (a 3)), (1, .ref (a 28)), (2, .int x2), (3, .int x3), (4, .int x4)] [] := by
  exact lpI_ind (P := fun v q => q = rr → gR p l e (bRm 1 21) s m args below meth c 5 (qS below rr args s) 5 [(0, .ref (a 3)), (1, .ref (a 28)), (2, .int v.1), (3, .int v.2.1), (4, .int v.2.2)] []) (fun k hk v q h9 hq => s_X3_mustsBy_5 hI N C hP k (fun x2 x3 x4 h8 => hk (x2, x3, x4) _ h8 rfl) (h9.trans (congrArg some hq))) n (x2, x3, x4) _ h rfl
def f_X3_mustsBy (N : Nat) (x2 : Int32) (S : St) : Option (Int32) :=
  lpI (F_X3_mustsBy_5 N S) N (x2, 0, 0)
theorem t_X3_mustsBy_0 {rr : Int32} (hI : aI 49 a) (N : Nat) (C : bC D E RX3 cX3_mustsBy 5 (some .int) p s m args meth c) {S : St} (hP : va_P D vwCl (Wu E a S) s.heap) {x2 : Int32} (h : f_X3_mustsBy N x2 S = some rr) : gR p l e (bRm 1 21) s m args below meth c 5 (qS below rr args s) 0 [(0, .ref (a 3)), (1, .ref (a 28)), (2, .int x2)] [] := by
  obtain ⟨hx, hb, hml, hown, hts, hK, hr, hlocks⟩ := id C
  intro ls hl
  unfold f_X3_mustsBy at h
  refine lv_iconst (v := 0) (pc := 0) hx hb dX3_mustsBy_0 (by decide) ?_
  refine lv_istore_n (lv' := [(3, .int 0), (0, .ref (a 3)), (1, .ref (a 28)), (2, .int x2)]) (pc := 1) hx hb dX3_mustsBy_1 rfl hl (by decide) rfl (fun ls hl => ?_)
  refine lv_iconst (v := 0) (pc := 2) hx hb dX3_mustsBy_2 (by decide) ?_
  refine lv_istore (lv' := [(4, .int 0), (3, .int 0), (0, .ref (a 3)), (1, .ref (a 28)), (2, .int x2)]) (pc := 3) hx hb dX3_mustsBy_3 hl (by decide) rfl (fun ls hl => ?_)
  exact t_X3_mustsBy_5 hI N C hP h ls (lv_sub hl [2, 3, 4, 1, 0] rfl)
theorem c_X3_mustsBy {l : Launch} {D : va_G} {E : bE} {a : Nat → Nat} (hI : aI 49 a) (N : Nat) {rr : Int32} {S : St} {x2 : Int32} (h : f_X3_mustsBy N x2 S = some rr) : cR l D E yX3_mustsBy cX3_mustsBy 5 (some .int) 1 21 (Wu E a S) [.ref (a 3), .ref (a 28), .int x2] rr := cR_of (by decide) (Nat.le_of_ble_eq_true rfl) (fun p e s m args below meth c C hP => t_X3_mustsBy_0 hI N C hP h)
