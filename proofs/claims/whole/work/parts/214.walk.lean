variable {p : Program} {l : Launch} {e : Env} {s : State} {m : MethodId} {args : Array Value} {below : List Frame} {meth : Method} {c : Code} {D : va_G} {E : bE} {a : Nat → Nat}
/-! X5_image -/
def FB_X5_image_127 (N : Nat) (k127 : Int32 × Int32 × Int32 × St → Option (Int32 × St)) (x1 : Int32) (x2 : Int32) (x3 : Int32) (S : St) : Option (Int32 × St) :=
  if 36 ≤ x3 then (gd (ix (x2 + 80) 164) (bd (some (sto S 16 (Int32.toNatClampNeg (x2 + 80)) (S 0 8))) fun S1 => gd (ix (x2 + 81) 164) (bd (some (sto S1 16 (Int32.toNatClampNeg (x2 + 81)) (S1 0 9))) fun S2 => gd (ix x1 2) (bd (some (sto S2 17 (Int32.toNatClampNeg x1) (vp_nar .boolean 1))) fun S3 => some (1, S3))))) else (gd (ix x3 36) (gd (ix ((x2 + 44) + x3) 164) (bd (some (sto S 16 (Int32.toNatClampNeg ((x2 + 44) + x3)) (S 7 (Int32.toNatClampNeg x3)))) fun S4 => k127 (x1, x2, (x3 + 1), S4))))
def F_X5_image_127 (N : Nat) (k127 : Int32 × Int32 × Int32 × St → Option (Int32 × St)) (v : Int32 × Int32 × Int32 × St) : Option (Int32 × St) := FB_X5_image_127 N k127 v.1 v.2.1 v.2.2.1 v.2.2.2
theorem s_X5_image_127 {rr : Int32} {SS : St} (hI : aI 18 a) (N : Nat) (C : bC D E RX5 cX5_image 4 (some .int) p s m args meth c) (k127 : Int32 × Int32 × Int32 × St → Option (Int32 × St)) (hk127 : ∀ (x1 : Int32) (x2 : Int32) (x3 : Int32) (S : St), k127 (x1, x2, x3, S) = some (rr, SS) → gU D (Wm E a) (aA 18 a) p l e (bRm 1 22) s m args below meth c 4 (qU D below (aA 18 a) (Wm E a SS) rr args s) 127 [(0, .ref (a 0)), (1, .int x1), (2, .int x2), (3, .int x3)] [] S) {x1 : Int32} {x2 : Int32} {x3 : Int32} {S : St} (h : FB_X5_image_127 N k127 x1 x2 x3 S = some (rr, SS)) : gU D (Wm E a) (aA 18 a) p l e (bRm 1 22) s m args below meth c 4 (qU D below (aA 18 a) (Wm E a SS) rr args s) 127 [(0, .ref (a 0)), (1, .int x1), (2, .int x2), (3, .int x3)] [] S := by
  obtain ⟨hx, hb, hml, hown, hts, hK, hr, hlocks⟩ := id C
  intro H locs hP hS ls hl
  unfold FB_X5_image_127 at h
  refine lv_iload_n (pc := 127) hx hb dX5_image_127 rfl (lv_at hl 3 rfl) ?_
  refine lv_bipush (v := 36) (pc := 128) hx hb dX5_image_128 (by decide) ?_
  refine lv_icmp_ge (tgt := 156) (pc := 130) hx hb dX5_image_130 (by decide) (fun hc => ?_) (fun hc => ?_)
  · have h := if_y hc h
    refine lv_aload_n (pc := 156) hx hb dX5_image_156 rfl (lv_at hl 0 rfl) ?_
    refine va_get (pc := 157) (v := .ref (a 16)) hx hb hts inB5 hown hK.1 hP 0 wm0 rfl 24 (by decide) (hts _ wd_575) (fun _ h9 => h9) rfl dX5_image_157 ?_
    refine lv_iload_n (pc := 160) hx hb dX5_image_160 rfl (lv_at hl 2 rfl) ?_
    refine lv_bipush (v := 80) (pc := 161) hx hb dX5_image_161 (by decide) ?_
    refine lv_iadd (pc := 163) hx hb dX5_image_163 ?_
    refine lv_aload_n (pc := 164) hx hb dX5_image_164 rfl (lv_at hl 0 rfl) ?_
    refine va_get (pc := 165) (v := .int (S 0 8)) hx hb hts inB5 hown hK.1 hP 0 wm0 rfl 8 (by decide) (hts _ wd_559) (fun _ h9 => h9) rfl dX5_image_165 ?_
    obtain ⟨hin, h⟩ := gd_some h
    refine r_ast (pc := 168) (𝓦 := Wm E a) hx hb hK hP (dM hI _) hS 16 wm16 wm16s hin dX5_image_168 (fun H locs S1 eS1 hP hS => ?_)
    have h := bd_y eS1 h
    refine lv_aload_n (pc := 169) hx hb dX5_image_169 rfl (lv_at hl 0 rfl) ?_
    refine va_get (pc := 170) (v := .ref (a 16)) hx hb hts inB5 hown hK.1 hP 0 wm0 rfl 24 (by decide) (hts _ wd_575) (fun _ h9 => h9) rfl dX5_image_170 ?_
    refine lv_iload_n (pc := 173) hx hb dX5_image_173 rfl (lv_at hl 2 rfl) ?_
    refine lv_bipush (v := 81) (pc := 174) hx hb dX5_image_174 (by decide) ?_
    refine lv_iadd (pc := 176) hx hb dX5_image_176 ?_
    refine lv_aload_n (pc := 177) hx hb dX5_image_177 rfl (lv_at hl 0 rfl) ?_
    refine va_get (pc := 178) (v := .int (S1 0 9)) hx hb hts inB5 hown hK.1 hP 0 wm0 rfl 9 (by decide) (hts _ wd_560) (fun _ h9 => h9) rfl dX5_image_178 ?_
    obtain ⟨hin, h⟩ := gd_some h
    refine r_ast (pc := 181) (𝓦 := Wm E a) hx hb hK hP (dM hI _) hS 16 wm16 wm16s hin dX5_image_181 (fun H locs S2 eS2 hP hS => ?_)
    have h := bd_y eS2 h
    refine lv_aload_n (pc := 182) hx hb dX5_image_182 rfl (lv_at hl 0 rfl) ?_
    refine va_get (pc := 183) (v := .ref (a 17)) hx hb hts inB5 hown hK.1 hP 0 wm0 rfl 25 (by decide) (hts _ wd_576) (fun _ h9 => h9) rfl dX5_image_183 ?_
    refine lv_iload_n (pc := 186) hx hb dX5_image_186 rfl (lv_at hl 1 rfl) ?_
    refine lv_iconst (v := 1) (pc := 187) hx hb dX5_image_187 (by decide) ?_
    obtain ⟨hin, h⟩ := gd_some h
    refine r_zst (pc := 188) (𝓦 := Wm E a) hx hb hK hP (dM hI _) hS 17 wm17 wm17s hin dX5_image_188 (fun H locs S3 eS3 hP hS => ?_)
    have h := bd_y eS3 h
    refine lv_iconst (v := 1) (pc := 189) hx hb dX5_image_189 (by decide) ?_
    exact r_retU (pc := 190) (𝓦 := Wm E a) C h hP hS dX5_image_190
  · have h := if_n hc h
    refine lv_aload_n (pc := 133) hx hb dX5_image_133 rfl (lv_at hl 0 rfl) ?_
    refine va_get (pc := 134) (v := .ref (a 16)) hx hb hts inB5 hown hK.1 hP 0 wm0 rfl 24 (by decide) (hts _ wd_575) (fun _ h9 => h9) rfl dX5_image_134 ?_
    refine lv_iload_n (pc := 137) hx hb dX5_image_137 rfl (lv_at hl 2 rfl) ?_
    refine lv_bipush (v := 44) (pc := 138) hx hb dX5_image_138 (by decide) ?_
    refine lv_iadd (pc := 140) hx hb dX5_image_140 ?_
    refine lv_iload_n (pc := 141) hx hb dX5_image_141 rfl (lv_at hl 3 rfl) ?_
    refine lv_iadd (pc := 142) hx hb dX5_image_142 ?_
    refine lv_aload_n (pc := 143) hx hb dX5_image_143 rfl (lv_at hl 0 rfl) ?_
    refine va_get (pc := 144) (v := .ref (a 7)) hx hb hts inB5 hown hK.1 hP 0 wm0 rfl 7 (by decide) (hts _ wd_558) (fun _ h9 => h9) rfl dX5_image_144 ?_
    refine lv_iload_n (pc := 147) hx hb dX5_image_147 rfl (lv_at hl 3 rfl) ?_
    obtain ⟨hin, h⟩ := gd_some h
    refine r_ald (pc := 148) hx hb hK hP 7 wm7 hin dX5_image_148 ?_
    obtain ⟨hin, h⟩ := gd_some h
    refine r_ast (pc := 149) (𝓦 := Wm E a) hx hb hK hP (dM hI _) hS 16 wm16 wm16s hin dX5_image_149 (fun H locs S4 eS4 hP hS => ?_)
    have h := bd_y eS4 h
    refine lv_iinc (v := (x3 + 1)) (lv' := [(3, .int (x3 + 1)), (0, .ref (a 0)), (1, .int x1), (2, .int x2)]) (pc := 150) hx hb dX5_image_150 hl (k := 3) rfl (ii1 _) (by decide) rfl (fun ls hl => ?_)
    refine lv_goto (tgt := 127) (pc := 153) hx hb dX5_image_153 (by decide) ?_
    exact hk127 _ _ _ _ h H locs hP hS ls (lv_sub hl [1, 2, 3, 0] rfl)
theorem t_X5_image_127 {rr : Int32} {SS : St} (hI : aI 18 a) (N : Nat) (C : bC D E RX5 cX5_image 4 (some .int) p s m args meth c) {n : Nat} {x1 : Int32} {x2 : Int32} {x3 : Int32} {S : St} (h : lpI (F_X5_image_127 N) n (x1, x2, x3, S) = some (rr, SS)) : gU D (Wm E a) (aA 18 a) p l e (bRm 1 22) s m args below meth c 4 (qU D below (aA 18 a) (Wm E a SS) rr args s) 127 [(0, .ref (a 0)), (1, .int x1), (2, .int x2), (3, .int x3)] [] S := by
  exact lpI_ind (P := fun v q => q = (rr, SS) → gU D (Wm E a) (aA 18 a) p l e (bRm 1 22) s m args below meth c 4 (qU D below (aA 18 a) (Wm E a SS) rr args s) 127 [(0, .ref (a 0)), (1, .int v.1), (2, .int v.2.1), (3, .int v.2.2.1)] [] v.2.2.2) (fun k hk v q h9 hq => s_X5_image_127 hI N C k (fun x1 x2 x3 S h8 => hk (x1, x2, x3, S) _ h8 rfl) (h9.trans (congrArg some hq))) n (x1, x2, x3, S) _ h rfl
def FB_X5_image_96 (N : Nat) (k96 : Int32 × Int32 × Int32 × St → Option (Int32 × St)) (x1 : Int32) (x2 : Int32) (x3 : Int32) (S : St) : Option (Int32 × St) :=
  if 24 ≤ x3 then (lpI (F_X5_image_127 N) N (x1, x2, 0, S)) else (gd (ix x3 24) (gd (ix ((x2 + 20) + x3) 164) (bd (some (sto S 16 (Int32.toNatClampNeg ((x2 + 20) + x3)) (S 6 (Int32.toNatClampNeg x3)))) fun S1 => k96 (x1, x2, (x3 + 1), S1))))
def F_X5_image_96 (N : Nat) (k96 : Int32 × Int32 × Int32 × St → Option (Int32 × St)) (v : Int32 × Int32 × Int32 × St) : Option (Int32 × St) := FB_X5_image_96 N k96 v.1 v.2.1 v.2.2.1 v.2.2.2
theorem s_X5_image_96 {rr : Int32} {SS : St} (hI : aI 18 a) (N : Nat) (C : bC D E RX5 cX5_image 4 (some .int) p s m args meth c) (k96 : Int32 × Int32 × Int32 × St → Option (Int32 × St)) (hk96 : ∀ (x1 : Int32) (x2 : Int32) (x3 : Int32) (S : St), k96 (x1, x2, x3, S) = some (rr, SS) → gU D (Wm E a) (aA 18 a) p l e (bRm 1 22) s m args below meth c 4 (qU D below (aA 18 a) (Wm E a SS) rr args s) 96 [(0, .ref (a 0)), (1, .int x1), (2, .int x2), (3, .int x3)] [] S) {x1 : Int32} {x2 : Int32} {x3 : Int32} {S : St} (h : FB_X5_image_96 N k96 x1 x2 x3 S = some (rr, SS)) : gU D (Wm E a) (aA 18 a) p l e (bRm 1 22) s m args below meth c 4 (qU D below (aA 18 a) (Wm E a SS) rr args s) 96 [(0, .ref (a 0)), (1, .int x1), (2, .int x2), (3, .int x3)] [] S := by
  obtain ⟨hx, hb, hml, hown, hts, hK, hr, hlocks⟩ := id C
  intro H locs hP hS ls hl
  unfold FB_X5_image_96 at h
  refine lv_iload_n (pc := 96) hx hb dX5_image_96 rfl (lv_at hl 3 rfl) ?_
  refine lv_bipush (v := 24) (pc := 97) hx hb dX5_image_97 (by decide) ?_
  refine lv_icmp_ge (tgt := 125) (pc := 99) hx hb dX5_image_99 (by decide) (fun hc => ?_) (fun hc => ?_)
  · have h := if_y hc h
    refine lv_iconst (v := 0) (pc := 125) hx hb dX5_image_125 (by decide) ?_
    refine lv_istore_n (lv' := [(3, .int 0), (0, .ref (a 0)), (1, .int x1), (2, .int x2)]) (pc := 126) hx hb dX5_image_126 rfl hl (by decide) rfl (fun ls hl => ?_)
    exact t_X5_image_127 hI N C h H locs hP hS ls (lv_sub hl [1, 2, 3, 0] rfl)
  · have h := if_n hc h
    refine lv_aload_n (pc := 102) hx hb dX5_image_102 rfl (lv_at hl 0 rfl) ?_
    refine va_get (pc := 103) (v := .ref (a 16)) hx hb hts inB5 hown hK.1 hP 0 wm0 rfl 24 (by decide) (hts _ wd_575) (fun _ h9 => h9) rfl dX5_image_103 ?_
    refine lv_iload_n (pc := 106) hx hb dX5_image_106 rfl (lv_at hl 2 rfl) ?_
    refine lv_bipush (v := 20) (pc := 107) hx hb dX5_image_107 (by decide) ?_
    refine lv_iadd (pc := 109) hx hb dX5_image_109 ?_
    refine lv_iload_n (pc := 110) hx hb dX5_image_110 rfl (lv_at hl 3 rfl) ?_
    refine lv_iadd (pc := 111) hx hb dX5_image_111 ?_
    refine lv_aload_n (pc := 112) hx hb dX5_image_112 rfl (lv_at hl 0 rfl) ?_
    refine va_get (pc := 113) (v := .ref (a 6)) hx hb hts inB5 hown hK.1 hP 0 wm0 rfl 6 (by decide) (hts _ wd_557) (fun _ h9 => h9) rfl dX5_image_113 ?_
    refine lv_iload_n (pc := 116) hx hb dX5_image_116 rfl (lv_at hl 3 rfl) ?_
    obtain ⟨hin, h⟩ := gd_some h
    refine r_ald (pc := 117) hx hb hK hP 6 wm6 hin dX5_image_117 ?_
    obtain ⟨hin, h⟩ := gd_some h
    refine r_ast (pc := 118) (𝓦 := Wm E a) hx hb hK hP (dM hI _) hS 16 wm16 wm16s hin dX5_image_118 (fun H locs S1 eS1 hP hS => ?_)
    have h := bd_y eS1 h
    refine lv_iinc (v := (x3 + 1)) (lv' := [(3, .int (x3 + 1)), (0, .ref (a 0)), (1, .int x1), (2, .int x2)]) (pc := 119) hx hb dX5_image_119 hl (k := 3) rfl (ii1 _) (by decide) rfl (fun ls hl => ?_)
    refine lv_goto (tgt := 96) (pc := 122) hx hb dX5_image_122 (by decide) ?_
    exact hk96 _ _ _ _ h H locs hP hS ls (lv_sub hl [1, 2, 3, 0] rfl)
theorem t_X5_image_96 {rr : Int32} {SS : St} (hI : aI 18 a) (N : Nat) (C : bC D E RX5 cX5_image 4 (some .int) p s m args meth c) {n : Nat} {x1 : Int32} {x2 : Int32} {x3 : Int32} {S : St} (h : lpI (F_X5_image_96 N) n (x1, x2, x3, S) = some (rr, SS)) : gU D (Wm E a) (aA 18 a) p l e (bRm 1 22) s m args below meth c 4 (qU D below (aA 18 a) (Wm E a SS) rr args s) 96 [(0, .ref (a 0)), (1, .int x1), (2, .int x2), (3, .int x3)] [] S := by
  exact lpI_ind (P := fun v q => q = (rr, SS) → gU D (Wm E a) (aA 18 a) p l e (bRm 1 22) s m args below meth c 4 (qU D below (aA 18 a) (Wm E a SS) rr args s) 96 [(0, .ref (a 0)), (1, .int v.1), (2, .int v.2.1), (3, .int v.2.2.1)] [] v.2.2.2) (fun k hk v q h9 hq => s_X5_image_96 hI N C k (fun x1 x2 x3 S h8 => hk (x1, x2, x3, S) _ h8 rfl) (h9.trans (congrArg some hq))) n (x1, x2, x3, S) _ h rfl
def FB_X5_image_19 (N : Nat) (k19 : Int32 × Int32 × Int32 × St → Option (Int32 × St)) (x1 : Int32) (x2 : Int32) (x3 : Int32) (S : St) : Option (Int32 × St) :=
  if 5 ≤ x3 then (lpI (F_X5_image_96 N) N (x1, x2, 0, S)) else (gd (ix x3 5) (gd (ix (x2 + x3) 164) (bd (some (sto S 16 (Int32.toNatClampNeg (x2 + x3)) (S 2 (Int32.toNatClampNeg x3)))) fun S1 => gd (ix x3 5) (gd (ix ((x2 + 5) + x3) 164) (bd (some (sto S1 16 (Int32.toNatClampNeg ((x2 + 5) + x3)) (S1 3 (Int32.toNatClampNeg x3)))) fun S2 => gd (ix x3 5) (gd (ix ((x2 + 10) + x3) 164) (bd (some (sto S2 16 (Int32.toNatClampNeg ((x2 + 10) + x3)) (S2 4 (Int32.toNatClampNeg x3)))) fun S3 => gd (ix x3 5) (gd (ix ((x2 + 15) + x3) 164) (bd (some (sto S3 16 (Int32.toNatClampNeg ((x2 + 15) + x3)) (S3 5 (Int32.toNatClampNeg x3)))) fun S4 => k19 (x1, x2, (x3 + 1), S4))))))))))
def F_X5_image_19 (N : Nat) (k19 : Int32 × Int32 × Int32 × St → Option (Int32 × St)) (v : Int32 × Int32 × Int32 × St) : Option (Int32 × St) := FB_X5_image_19 N k19 v.1 v.2.1 v.2.2.1 v.2.2.2
theorem s_X5_image_19 {rr : Int32} {SS : St} (hI : aI 18 a) (N : Nat) (C : bC D E RX5 cX5_image 4 (some .int) p s m args meth c) (k19 : Int32 × Int32 × Int32 × St → Option (Int32 × St)) (hk19 : ∀ (x1 : Int32) (x2 : Int32) (x3 : Int32) (S : St), k19 (x1, x2, x3, S) = some (rr, SS) → gU D (Wm E a) (aA 18 a) p l e (bRm 1 22) s m args below meth c 4 (qU D below (aA 18 a) (Wm E a SS) rr args s) 19 [(0, .ref (a 0)), (1, .int x1), (2, .int x2), (3, .int x3)] [] S) {x1 : Int32} {x2 : Int32} {x3 : Int32} {S : St} (h : FB_X5_image_19 N k19 x1 x2 x3 S = some (rr, SS)) : gU D (Wm E a) (aA 18 a) p l e (bRm 1 22) s m args below meth c 4 (qU D below (aA 18 a) (Wm E a SS) rr args s) 19 [(0, .ref (a 0)), (1, .int x1), (2, .int x2), (3, .int x3)] [] S := by
  obtain ⟨hx, hb, hml, hown, hts, hK, hr, hlocks⟩ := id C
  intro H locs hP hS ls hl
  unfold FB_X5_image_19 at h
  refine lv_iload_n (pc := 19) hx hb dX5_image_19 rfl (lv_at hl 3 rfl) ?_
  refine lv_iconst (v := 5) (pc := 20) hx hb dX5_image_20 (by decide) ?_
  refine lv_icmp_ge (tgt := 94) (pc := 21) hx hb dX5_image_21 (by decide) (fun hc => ?_) (fun hc => ?_)
  · have h := if_y hc h
    refine lv_iconst (v := 0) (pc := 94) hx hb dX5_image_94 (by decide) ?_
    refine lv_istore_n (lv' := [(3, .int 0), (0, .ref (a 0)), (1, .int x1), (2, .int x2)]) (pc := 95) hx hb dX5_image_95 rfl hl (by decide) rfl (fun ls hl => ?_)
    exact t_X5_image_96 hI N C h H locs hP hS ls (lv_sub hl [1, 2, 3, 0] rfl)
  · have h := if_n hc h
    refine lv_aload_n (pc := 24) hx hb dX5_image_24 rfl (lv_at hl 0 rfl) ?_
    refine va_get (pc := 25) (v := .ref (a 16)) hx hb hts inB5 hown hK.1 hP 0 wm0 rfl 24 (by decide) (hts _ wd_575) (fun _ h9 => h9) rfl dX5_image_25 ?_
    refine lv_iload_n (pc := 28) hx hb dX5_image_28 rfl (lv_at hl 2 rfl) ?_
    refine lv_iload_n (pc := 29) hx hb dX5_image_29 rfl (lv_at hl 3 rfl) ?_
    refine lv_iadd (pc := 30) hx hb dX5_image_30 ?_
    refine lv_aload_n (pc := 31) hx hb dX5_image_31 rfl (lv_at hl 0 rfl) ?_
    refine va_get (pc := 32) (v := .ref (a 2)) hx hb hts inB5 hown hK.1 hP 0 wm0 rfl 2 (by decide) (hts _ wd_553) (fun _ h9 => h9) rfl dX5_image_32 ?_
    refine lv_iload_n (pc := 35) hx hb dX5_image_35 rfl (lv_at hl 3 rfl) ?_
    obtain ⟨hin, h⟩ := gd_some h
    refine r_ald (pc := 36) hx hb hK hP 2 wm2 hin dX5_image_36 ?_
    obtain ⟨hin, h⟩ := gd_some h
    refine r_ast (pc := 37) (𝓦 := Wm E a) hx hb hK hP (dM hI _) hS 16 wm16 wm16s hin dX5_image_37 (fun H locs S1 eS1 hP hS => ?_)
    have h := bd_y eS1 h
    refine lv_aload_n (pc := 38) hx hb dX5_image_38 rfl (lv_at hl 0 rfl) ?_
    refine va_get (pc := 39) (v := .ref (a 16)) hx hb hts inB5 hown hK.1 hP 0 wm0 rfl 24 (by decide) (hts _ wd_575) (fun _ h9 => h9) rfl dX5_image_39 ?_
    refine lv_iload_n (pc := 42) hx hb dX5_image_42 rfl (lv_at hl 2 rfl) ?_
    refine lv_iconst (v := 5) (pc := 43) hx hb dX5_image_43 (by decide) ?_
    refine lv_iadd (pc := 44) hx hb dX5_image_44 ?_
    refine lv_iload_n (pc := 45) hx hb dX5_image_45 rfl (lv_at hl 3 rfl) ?_
    refine lv_iadd (pc := 46) hx hb dX5_image_46 ?_
    refine lv_aload_n (pc := 47) hx hb dX5_image_47 rfl (lv_at hl 0 rfl) ?_
    refine va_get (pc := 48) (v := .ref (a 3)) hx hb hts inB5 hown hK.1 hP 0 wm0 rfl 3 (by decide) (hts _ wd_554) (fun _ h9 => h9) rfl dX5_image_48 ?_
    refine lv_iload_n (pc := 51) hx hb dX5_image_51 rfl (lv_at hl 3 rfl) ?_
    obtain ⟨hin, h⟩ := gd_some h
    refine r_ald (pc := 52) hx hb hK hP 3 wm3 hin dX5_image_52 ?_
    obtain ⟨hin, h⟩ := gd_some h
    refine r_ast (pc := 53) (𝓦 := Wm E a) hx hb hK hP (dM hI _) hS 16 wm16 wm16s hin dX5_image_53 (fun H locs S2 eS2 hP hS => ?_)
    have h := bd_y eS2 h
    refine lv_aload_n (pc := 54) hx hb dX5_image_54 rfl (lv_at hl 0 rfl) ?_
    refine va_get (pc := 55) (v := .ref (a 16)) hx hb hts inB5 hown hK.1 hP 0 wm0 rfl 24 (by decide) (hts _ wd_575) (fun _ h9 => h9) rfl dX5_image_55 ?_
    refine lv_iload_n (pc := 58) hx hb dX5_image_58 rfl (lv_at hl 2 rfl) ?_
    refine lv_bipush (v := 10) (pc := 59) hx hb dX5_image_59 (by decide) ?_
    refine lv_iadd (pc := 61) hx hb dX5_image_61 ?_
    refine lv_iload_n (pc := 62) hx hb dX5_image_62 rfl (lv_at hl 3 rfl) ?_
    refine lv_iadd (pc := 63) hx hb dX5_image_63 ?_
    refine lv_aload_n (pc := 64) hx hb dX5_image_64 rfl (lv_at hl 0 rfl) ?_
    refine va_get (pc := 65) (v := .ref (a 4)) hx hb hts inB5 hown hK.1 hP 0 wm0 rfl 4 (by decide) (hts _ wd_555) (fun _ h9 => h9) rfl dX5_image_65 ?_
    refine lv_iload_n (pc := 68) hx hb dX5_image_68 rfl (lv_at hl 3 rfl) ?_
    obtain ⟨hin, h⟩ := gd_some h
    refine r_ald (pc := 69) hx hb hK hP 4 wm4 hin dX5_image_69 ?_
    obtain ⟨hin, h⟩ := gd_some h
    refine r_ast (pc := 70) (𝓦 := Wm E a) hx hb hK hP (dM hI _) hS 16 wm16 wm16s hin dX5_image_70 (fun H locs S3 eS3 hP hS => ?_)
    have h := bd_y eS3 h
    refine lv_aload_n (pc := 71) hx hb dX5_image_71 rfl (lv_at hl 0 rfl) ?_
    refine va_get (pc := 72) (v := .ref (a 16)) hx hb hts inB5 hown hK.1 hP 0 wm0 rfl 24 (by decide) (hts _ wd_575) (fun _ h9 => h9) rfl dX5_image_72 ?_
    refine lv_iload_n (pc := 75) hx hb dX5_image_75 rfl (lv_at hl 2 rfl) ?_
    refine lv_bipush (v := 15) (pc := 76) hx hb dX5_image_76 (by decide) ?_
    refine lv_iadd (pc := 78) hx hb dX5_image_78 ?_
    refine lv_iload_n (pc := 79) hx hb dX5_image_79 rfl (lv_at hl 3 rfl) ?_
    refine lv_iadd (pc := 80) hx hb dX5_image_80 ?_
    refine lv_aload_n (pc := 81) hx hb dX5_image_81 rfl (lv_at hl 0 rfl) ?_
    refine va_get (pc := 82) (v := .ref (a 5)) hx hb hts inB5 hown hK.1 hP 0 wm0 rfl 5 (by decide) (hts _ wd_556) (fun _ h9 => h9) rfl dX5_image_82 ?_
    refine lv_iload_n (pc := 85) hx hb dX5_image_85 rfl (lv_at hl 3 rfl) ?_
    obtain ⟨hin, h⟩ := gd_some h
    refine r_ald (pc := 86) hx hb hK hP 5 wm5 hin dX5_image_86 ?_
    obtain ⟨hin, h⟩ := gd_some h
    refine r_ast (pc := 87) (𝓦 := Wm E a) hx hb hK hP (dM hI _) hS 16 wm16 wm16s hin dX5_image_87 (fun H locs S4 eS4 hP hS => ?_)
    have h := bd_y eS4 h
    refine lv_iinc (v := (x3 + 1)) (lv' := [(3, .int (x3 + 1)), (0, .ref (a 0)), (1, .int x1), (2, .int x2)]) (pc := 88) hx hb dX5_image_88 hl (k := 3) rfl (ii1 _) (by decide) rfl (fun ls hl => ?_)
    refine lv_goto (tgt := 19) (pc := 91) hx hb dX5_image_91 (by decide) ?_
    exact hk19 _ _ _ _ h H locs hP hS ls (lv_sub hl [1, 2, 3, 0] rfl)
theorem t_X5_image_19 {rr : Int32} {SS : St} (hI : aI 18 a) (N : Nat) (C : bC D E RX5 cX5_image 4 (some .int) p s m args meth c) {n : Nat} {x1 : Int32} {x2 : Int32} {x3 : Int32} {S : St} (h : lpI (F_X5_image_19 N) n (x1, x2, x3, S) = some (rr, SS)) : gU D (Wm E a) (aA 18 a) p l e (bRm 1 22) s m args below meth c 4 (qU D below (aA 18 a) (Wm E a SS) rr args s) 19 [(0, .ref (a 0)), (1, .int x1), (2, .int x2), (3, .int x3)] [] S := by
  exact lpI_ind (P := fun v q => q = (rr, SS) → gU D (Wm E a) (aA 18 a) p l e (bRm 1 22) s m args below meth c 4 (qU D below (aA 18 a) (Wm E a SS) rr args s) 19 [(0, .ref (a 0)), (1, .int v.1), (2, .int v.2.1), (3, .int v.2.2.1)] [] v.2.2.2) (fun k hk v q h9 hq => s_X5_image_19 hI N C k (fun x1 x2 x3 S h8 => hk (x1, x2, x3, S) _ h8 rfl) (h9.trans (congrArg some hq))) n (x1, x2, x3, S) _ h rfl
def f_X5_image (N : Nat) (x1 : Int32) (S : St) : Option (Int32 × St) :=
  bd (f_X5_in x1 0 1) fun r1 => if r1 = 0 then (some ((-2), S)) else (bd (some (82 * x1)) fun y2 => lpI (F_X5_image_19 N) N (x1, y2, 0, S))
theorem t_X5_image_0 {rr : Int32} {SS : St} (hI : aI 18 a) (N : Nat) (C : bC D E RX5 cX5_image 4 (some .int) p s m args meth c) {x1 : Int32} {S : St} (h : f_X5_image N x1 S = some (rr, SS)) : gU D (Wm E a) (aA 18 a) p l e (bRm 1 22) s m args below meth c 4 (qU D below (aA 18 a) (Wm E a SS) rr args s) 0 [(0, .ref (a 0)), (1, .int x1)] [] S := by
  obtain ⟨hx, hb, hml, hown, hts, hK, hr, hlocks⟩ := id C
  intro H locs hP hS ls hl
  unfold f_X5_image at h
  refine lv_iload_n (pc := 0) hx hb dX5_image_0 rfl (lv_at hl 1 rfl) ?_
  refine lv_iconst (v := 0) (pc := 1) hx hb dX5_image_1 (by decide) ?_
  refine lv_iconst (v := 1) (pc := 2) hx hb dX5_image_2 (by decide) ?_
  obtain ⟨r1, hr1, h⟩ := bd_some h
  refine r_callS (pc := 3) C (c_X5_in hr1) k_X5_in wd_634 ⟨Nat.le_of_ble_eq_true rfl, Nat.le_of_ble_eq_true rfl⟩ rfl hl.1 rfl (Nat.le_of_ble_eq_true rfl) dX5_image_3 ⟨Nat.zero_le _, Nat.zero_le _⟩ ?_
  refine lv_if_ne (tgt := 12) (pc := 6) hx hb dX5_image_6 (by decide) (fun hc => ?_) (fun hc => ?_)
  · have h := if_n hc h
    refine lv_bipush (v := 82) (pc := 12) hx hb dX5_image_12 (by decide) ?_
    refine lv_iload_n (pc := 14) hx hb dX5_image_14 rfl (lv_at hl 1 rfl) ?_
    refine lv_imul (pc := 15) hx hb dX5_image_15 ?_
    refine lv_topi (fun y2 ey2 => ?_)
    have h := bd_y ey2 h
    refine lv_istore_n (lv' := [(2, .int y2), (0, .ref (a 0)), (1, .int x1)]) (pc := 16) hx hb dX5_image_16 rfl hl (by decide) rfl (fun ls hl => ?_)
    refine lv_iconst (v := 0) (pc := 17) hx hb dX5_image_17 (by decide) ?_
    refine lv_istore_n (lv' := [(3, .int 0), (2, .int y2), (0, .ref (a 0)), (1, .int x1)]) (pc := 18) hx hb dX5_image_18 rfl hl (by decide) rfl (fun ls hl => ?_)
    exact t_X5_image_19 hI N C h H locs hP hS ls (lv_sub hl [2, 3, 1, 0] rfl)
  · have h := if_y hc h
    refine lv_bipush (v := (-2)) (pc := 9) hx hb dX5_image_9 (by decide) ?_
    exact r_retU (pc := 11) (𝓦 := Wm E a) C h hP hS dX5_image_11
theorem c_X5_image {l : Launch} {D : va_G} {E : bE} {a : Nat → Nat} (hI : aI 18 a) (N : Nat) {rr : Int32} {S : St} {SS : St} {x1 : Int32} (h : f_X5_image N x1 S = some (rr, SS)) : cU l D E yX5_image cX5_image 4 (some .int) 1 22 (aA 18 a) (Wm E a S) (Wm E a SS) [.ref (a 0), .int x1] rr := cU_of (by decide) (Nat.le_of_ble_eq_true rfl) (fun p e s m args below meth c C => t_X5_image_0 hI N C h)
/-! X5_restore -/
def FB_X5_restore_139 (N : Nat) (k139 : Int32 × Int32 × St → Option (Int32 × St)) (x2 : Int32) (x3 : Int32) (S : St) : Option (Int32 × St) :=
  if 36 ≤ x3 then (gd (ix (x2 + 80) 164) (bd (some (sto S 0 8 (S 16 (Int32.toNatClampNeg (x2 + 80))))) fun S1 => gd (ix (x2 + 81) 164) (bd (some (sto S1 0 9 (S1 16 (Int32.toNatClampNeg (x2 + 81))))) fun S2 => some (1, S2)))) else (gd (ix ((x2 + 44) + x3) 164) (gd (ix x3 36) (bd (some (sto S 7 (Int32.toNatClampNeg x3) (S 16 (Int32.toNatClampNeg ((x2 + 44) + x3))))) fun S3 => k139 (x2, (x3 + 1), S3))))
def F_X5_restore_139 (N : Nat) (k139 : Int32 × Int32 × St → Option (Int32 × St)) (v : Int32 × Int32 × St) : Option (Int32 × St) := FB_X5_restore_139 N k139 v.1 v.2.1 v.2.2
theorem s_X5_restore_139 {rr : Int32} {SS : St} (hI : aI 18 a) (N : Nat) (C : bC D E RX5 cX5_restore 4 (some .int) p s m args meth c) (k139 : Int32 × Int32 × St → Option (Int32 × St)) (hk139 : ∀ (x2 : Int32) (x3 : Int32) (S : St), k139 (x2, x3, S) = some (rr, SS) → gU D (Wm E a) (aA 18 a) p l e (bRm 1 22) s m args below meth c 4 (qU D below (aA 18 a) (Wm E a SS) rr args s) 139 [(0, .ref (a 0)), (2, .int x2), (3, .int x3)] [] S) {x2 : Int32} {x3 : Int32} {S : St} (h : FB_X5_restore_139 N k139 x2 x3 S = some (rr, SS)) : gU D (Wm E a) (aA 18 a) p l e (bRm 1 22) s m args below meth c 4 (qU D below (aA 18 a) (Wm E a SS) rr args s) 139 [(0, .ref (a 0)), (2, .int x2), (3, .int x3)] [] S := by
  obtain ⟨hx, hb, hml, hown, hts, hK, hr, hlocks⟩ := id C
  intro H locs hP hS ls hl
  unfold FB_X5_restore_139 at h
  refine lv_iload_n (pc := 139) hx hb dX5_restore_139 rfl (lv_at hl 2 rfl) ?_
  refine lv_bipush (v := 36) (pc := 140) hx hb dX5_restore_140 (by decide) ?_
  refine lv_icmp_ge (tgt := 168) (pc := 142) hx hb dX5_restore_142 (by decide) (fun hc => ?_) (fun hc => ?_)
  · have h := if_y hc h
    refine lv_aload_n (pc := 168) hx hb dX5_restore_168 rfl (lv_at hl 0 rfl) ?_
    refine lv_aload_n (pc := 169) hx hb dX5_restore_169 rfl (lv_at hl 0 rfl) ?_
    refine va_get (pc := 170) (v := .ref (a 16)) hx hb hts inB5 hown hK.1 hP 0 wm0 rfl 24 (by decide) (hts _ wd_575) (fun _ h9 => h9) rfl dX5_restore_170 ?_
    refine lv_iload_n (pc := 173) hx hb dX5_restore_173 rfl (lv_at hl 1 rfl) ?_
    refine lv_bipush (v := 80) (pc := 174) hx hb dX5_restore_174 (by decide) ?_
    refine lv_iadd (pc := 176) hx hb dX5_restore_176 ?_
    obtain ⟨hin, h⟩ := gd_some h
    refine r_ald (pc := 177) hx hb hK hP 16 wm16 hin dX5_restore_177 ?_
    refine r_put (pc := 178) (𝓦 := Wm E a) hx hb hts hown hK inB5 tyX5 tyX5_ok nmX5 hP (dM hI _) hS 0 wm0 rfl 8 (by decide) wd_559 rfl (by decide +kernel) (Nat.le_of_ble_eq_true rfl) (wm0p8 _) dX5_restore_178 (fun H locs S1 eS1 hP hS => ?_)
    have h := bd_y eS1 h
    refine lv_aload_n (pc := 181) hx hb dX5_restore_181 rfl (lv_at hl 0 rfl) ?_
    refine lv_aload_n (pc := 182) hx hb dX5_restore_182 rfl (lv_at hl 0 rfl) ?_
    refine va_get (pc := 183) (v := .ref (a 16)) hx hb hts inB5 hown hK.1 hP 0 wm0 rfl 24 (by decide) (hts _ wd_575) (fun _ h9 => h9) rfl dX5_restore_183 ?_
    refine lv_iload_n (pc := 186) hx hb dX5_restore_186 rfl (lv_at hl 1 rfl) ?_
    refine lv_bipush (v := 81) (pc := 187) hx hb dX5_restore_187 (by decide) ?_
    refine lv_iadd (pc := 189) hx hb dX5_restore_189 ?_
    obtain ⟨hin, h⟩ := gd_some h
    refine r_ald (pc := 190) hx hb hK hP 16 wm16 hin dX5_restore_190 ?_
    refine r_put (pc := 191) (𝓦 := Wm E a) hx hb hts hown hK inB5 tyX5 tyX5_ok nmX5 hP (dM hI _) hS 0 wm0 rfl 9 (by decide) wd_560 rfl (by decide +kernel) (Nat.le_of_ble_eq_true rfl) (wm0p9 _) dX5_restore_191 (fun H locs S2 eS2 hP hS => ?_)
    have h := bd_y eS2 h
    refine lv_iconst (v := 1) (pc := 194) hx hb dX5_restore_194 (by decide) ?_
    exact r_retU (pc := 195) (𝓦 := Wm E a) C h hP hS dX5_restore_195
  · have h := if_n hc h
    refine lv_aload_n (pc := 145) hx hb dX5_restore_145 rfl (lv_at hl 0 rfl) ?_
    refine va_get (pc := 146) (v := .ref (a 7)) hx hb hts inB5 hown hK.1 hP 0 wm0 rfl 7 (by decide) (hts _ wd_558) (fun _ h9 => h9) rfl dX5_restore_146 ?_
    refine lv_iload_n (pc := 149) hx hb dX5_restore_149 rfl (lv_at hl 2 rfl) ?_
    refine lv_aload_n (pc := 150) hx hb dX5_restore_150 rfl (lv_at hl 0 rfl) ?_
    refine va_get (pc := 151) (v := .ref (a 16)) hx hb hts inB5 hown hK.1 hP 0 wm0 rfl 24 (by decide) (hts _ wd_575) (fun _ h9 => h9) rfl dX5_restore_151 ?_
    refine lv_iload_n (pc := 154) hx hb dX5_restore_154 rfl (lv_at hl 1 rfl) ?_
    refine lv_bipush (v := 44) (pc := 155) hx hb dX5_restore_155 (by decide) ?_
    refine lv_iadd (pc := 157) hx hb dX5_restore_157 ?_
    refine lv_iload_n (pc := 158) hx hb dX5_restore_158 rfl (lv_at hl 2 rfl) ?_
    refine lv_iadd (pc := 159) hx hb dX5_restore_159 ?_
    obtain ⟨hin, h⟩ := gd_some h
    refine r_ald (pc := 160) hx hb hK hP 16 wm16 hin dX5_restore_160 ?_
    obtain ⟨hin, h⟩ := gd_some h
    refine r_ast (pc := 161) (𝓦 := Wm E a) hx hb hK hP (dM hI _) hS 7 wm7 wm7s hin dX5_restore_161 (fun H locs S3 eS3 hP hS => ?_)
    have h := bd_y eS3 h
    refine lv_iinc (v := (x3 + 1)) (lv' := [(3, .int (x3 + 1)), (0, .ref (a 0)), (2, .int x2)]) (pc := 162) hx hb dX5_restore_162 hl (k := 2) rfl (ii1 _) (by decide) rfl (fun ls hl => ?_)
    refine lv_goto (tgt := 139) (pc := 165) hx hb dX5_restore_165 (by decide) ?_
    exact hk139 _ _ _ h H locs hP hS ls (lv_sub hl [1, 2, 0] rfl)
theorem t_X5_restore_139 {rr : Int32} {SS : St} (hI : aI 18 a) (N : Nat) (C : bC D E RX5 cX5_restore 4 (some .int) p s m args meth c) {n : Nat} {x2 : Int32} {x3 : Int32} {S : St} (h : lpI (F_X5_restore_139 N) n (x2, x3, S) = some (rr, SS)) : gU D (Wm E a) (aA 18 a) p l e (bRm 1 22) s m args below meth c 4 (qU D below (aA 18 a) (Wm E a SS) rr args s) 139 [(0, .ref (a 0)), (2, .int x2), (3, .int x3)] [] S := by
  exact lpI_ind (P := fun v q => q = (rr, SS) → gU D (Wm E a) (aA 18 a) p l e (bRm 1 22) s m args below meth c 4 (qU D below (aA 18 a) (Wm E a SS) rr args s) 139 [(0, .ref (a 0)), (2, .int v.1), (3, .int v.2.1)] [] v.2.2) (fun k hk v q h9 hq => s_X5_restore_139 hI N C k (fun x2 x3 S h8 => hk (x2, x3, S) _ h8 rfl) (h9.trans (congrArg some hq))) n (x2, x3, S) _ h rfl
def FB_X5_restore_108 (N : Nat) (k108 : Int32 × Int32 × St → Option (Int32 × St)) (x2 : Int32) (x3 : Int32) (S : St) : Option (Int32 × St) :=
  if 24 ≤ x3 then (lpI (F_X5_restore_139 N) N (x2, 0, S)) else (gd (ix ((x2 + 20) + x3) 164) (gd (ix x3 24) (bd (some (sto S 6 (Int32.toNatClampNeg x3) (S 16 (Int32.toNatClampNeg ((x2 + 20) + x3))))) fun S1 => k108 (x2, (x3 + 1), S1))))
def F_X5_restore_108 (N : Nat) (k108 : Int32 × Int32 × St → Option (Int32 × St)) (v : Int32 × Int32 × St) : Option (Int32 × St) := FB_X5_restore_108 N k108 v.1 v.2.1 v.2.2
theorem s_X5_restore_108 {rr : Int32} {SS : St} (hI : aI 18 a) (N : Nat) (C : bC D E RX5 cX5_restore 4 (some .int) p s m args meth c) (k108 : Int32 × Int32 × St → Option (Int32 × St)) (hk108 : ∀ (x2 : Int32) (x3 : Int32) (S : St), k108 (x2, x3, S) = some (rr, SS) → gU D (Wm E a) (aA 18 a) p l e (bRm 1 22) s m args below meth c 4 (qU D below (aA 18 a) (Wm E a SS) rr args s) 108 [(0, .ref (a 0)), (2, .int x2), (3, .int x3)] [] S) {x2 : Int32} {x3 : Int32} {S : St} (h : FB_X5_restore_108 N k108 x2 x3 S = some (rr, SS)) : gU D (Wm E a) (aA 18 a) p l e (bRm 1 22) s m args below meth c 4 (qU D below (aA 18 a) (Wm E a SS) rr args s) 108 [(0, .ref (a 0)), (2, .int x2), (3, .int x3)] [] S := by
  obtain ⟨hx, hb, hml, hown, hts, hK, hr, hlocks⟩ := id C
  intro H locs hP hS ls hl
  unfold FB_X5_restore_108 at h
  refine lv_iload_n (pc := 108) hx hb dX5_restore_108 rfl (lv_at hl 2 rfl) ?_
  refine lv_bipush (v := 24) (pc := 109) hx hb dX5_restore_109 (by decide) ?_
  refine lv_icmp_ge (tgt := 137) (pc := 111) hx hb dX5_restore_111 (by decide) (fun hc => ?_) (fun hc => ?_)
  · have h := if_y hc h
    refine lv_iconst (v := 0) (pc := 137) hx hb dX5_restore_137 (by decide) ?_
    refine lv_istore_n (lv' := [(3, .int 0), (0, .ref (a 0)), (2, .int x2)]) (pc := 138) hx hb dX5_restore_138 rfl hl (by decide) rfl (fun ls hl => ?_)
    exact t_X5_restore_139 hI N C h H locs hP hS ls (lv_sub hl [1, 2, 0] rfl)
  · have h := if_n hc h
    refine lv_aload_n (pc := 114) hx hb dX5_restore_114 rfl (lv_at hl 0 rfl) ?_
    refine va_get (pc := 115) (v := .ref (a 6)) hx hb hts inB5 hown hK.1 hP 0 wm0 rfl 6 (by decide) (hts _ wd_557) (fun _ h9 => h9) rfl dX5_restore_115 ?_
    refine lv_iload_n (pc := 118) hx hb dX5_restore_118 rfl (lv_at hl 2 rfl) ?_
    refine lv_aload_n (pc := 119) hx hb dX5_restore_119 rfl (lv_at hl 0 rfl) ?_
    refine va_get (pc := 120) (v := .ref (a 16)) hx hb hts inB5 hown hK.1 hP 0 wm0 rfl 24 (by decide) (hts _ wd_575) (fun _ h9 => h9) rfl dX5_restore_120 ?_
    refine lv_iload_n (pc := 123) hx hb dX5_restore_123 rfl (lv_at hl 1 rfl) ?_
    refine lv_bipush (v := 20) (pc := 124) hx hb dX5_restore_124 (by decide) ?_
    refine lv_iadd (pc := 126) hx hb dX5_restore_126 ?_
    refine lv_iload_n (pc := 127) hx hb dX5_restore_127 rfl (lv_at hl 2 rfl) ?_
    refine lv_iadd (pc := 128) hx hb dX5_restore_128 ?_
    obtain ⟨hin, h⟩ := gd_some h
    refine r_ald (pc := 129) hx hb hK hP 16 wm16 hin dX5_restore_129 ?_
    obtain ⟨hin, h⟩ := gd_some h
    refine r_ast (pc := 130) (𝓦 := Wm E a) hx hb hK hP (dM hI _) hS 6 wm6 wm6s hin dX5_restore_130 (fun H locs S1 eS1 hP hS => ?_)
    have h := bd_y eS1 h
    refine lv_iinc (v := (x3 + 1)) (lv' := [(3, .int (x3 + 1)), (0, .ref (a 0)), (2, .int x2)]) (pc := 131) hx hb dX5_restore_131 hl (k := 2) rfl (ii1 _) (by decide) rfl (fun ls hl => ?_)
    refine lv_goto (tgt := 108) (pc := 134) hx hb dX5_restore_134 (by decide) ?_
    exact hk108 _ _ _ h H locs hP hS ls (lv_sub hl [1, 2, 0] rfl)
theorem t_X5_restore_108 {rr : Int32} {SS : St} (hI : aI 18 a) (N : Nat) (C : bC D E RX5 cX5_restore 4 (some .int) p s m args meth c) {n : Nat} {x2 : Int32} {x3 : Int32} {S : St} (h : lpI (F_X5_restore_108 N) n (x2, x3, S) = some (rr, SS)) : gU D (Wm E a) (aA 18 a) p l e (bRm 1 22) s m args below meth c 4 (qU D below (aA 18 a) (Wm E a SS) rr args s) 108 [(0, .ref (a 0)), (2, .int x2), (3, .int x3)] [] S := by
  exact lpI_ind (P := fun v q => q = (rr, SS) → gU D (Wm E a) (aA 18 a) p l e (bRm 1 22) s m args below meth c 4 (qU D below (aA 18 a) (Wm E a SS) rr args s) 108 [(0, .ref (a 0)), (2, .int v.1), (3, .int v.2.1)] [] v.2.2) (fun k hk v q h9 hq => s_X5_restore_108 hI N C k (fun x2 x3 S h8 => hk (x2, x3, S) _ h8 rfl) (h9.trans (congrArg some hq))) n (x2, x3, S) _ h rfl
def FB_X5_restore_31 (N : Nat) (k31 : Int32 × Int32 × St → Option (Int32 × St)) (x2 : Int32) (x3 : Int32) (S : St) : Option (Int32 × St) :=
  if 5 ≤ x3 then (lpI (F_X5_restore_108 N) N (x2, 0, S)) else (gd (ix (x2 + x3) 164) (gd (ix x3 5) (bd (some (sto S 2 (Int32.toNatClampNeg x3) (S 16 (Int32.toNatClampNeg (x2 + x3))))) fun S1 => gd (ix ((x2 + 5) + x3) 164) (gd (ix x3 5) (bd (some (sto S1 3 (Int32.toNatClampNeg x3) (S1 16 (Int32.toNatClampNeg ((x2 + 5) + x3))))) fun S2 => gd (ix ((x2 + 10) + x3) 164) (gd (ix x3 5) (bd (some (sto S2 4 (Int32.toNatClampNeg x3) (S2 16 (Int32.toNatClampNeg ((x2 + 10) + x3))))) fun S3 => gd (ix ((x2 + 15) + x3) 164) (gd (ix x3 5) (bd (some (sto S3 5 (Int32.toNatClampNeg x3) (S3 16 (Int32.toNatClampNeg ((x2 + 15) + x3))))) fun S4 => k31 (x2, (x3 + 1), S4))))))))))
def F_X5_restore_31 (N : Nat) (k31 : Int32 × Int32 × St → Option (Int32 × St)) (v : Int32 × Int32 × St) : Option (Int32 × St) := FB_X5_restore_31 N k31 v.1 v.2.1 v.2.2
theorem s_X5_restore_31 {rr : Int32} {SS : St} (hI : aI 18 a) (N : Nat) (C : bC D E RX5 cX5_restore 4 (some .int) p s m args meth c) (k31 : Int32 × Int32 × St → Option (Int32 × St)) (hk31 : ∀ (x2 : Int32) (x3 : Int32) (S : St), k31 (x2, x3, S) = some (rr, SS) → gU D (Wm E a) (aA 18 a) p l e (bRm 1 22) s m args below meth c 4 (qU D below (aA 18 a) (Wm E a SS) rr args s) 31 [(0, .ref (a 0)), (2, .int x2), (3, .int x3)] [] S) {x2 : Int32} {x3 : Int32} {S : St} (h : FB_X5_restore_31 N k31 x2 x3 S = some (rr, SS)) : gU D (Wm E a) (aA 18 a) p l e (bRm 1 22) s m args below meth c 4 (qU D below (aA 18 a) (Wm E a SS) rr args s) 31 [(0, .ref (a 0)), (2, .int x2), (3, .int x3)] [] S := by
  obtain ⟨hx, hb, hml, hown, hts, hK, hr, hlocks⟩ := id C
  intro H locs hP hS ls hl
  unfold FB_X5_restore_31 at h
  refine lv_iload_n (pc := 31) hx hb dX5_restore_31 rfl (lv_at hl 2 rfl) ?_
  refine lv_iconst (v := 5) (pc := 32) hx hb dX5_restore_32 (by decide) ?_
  refine lv_icmp_ge (tgt := 106) (pc := 33) hx hb dX5_restore_33 (by decide) (fun hc => ?_) (fun hc => ?_)
  · have h := if_y hc h
    refine lv_iconst (v := 0) (pc := 106) hx hb dX5_restore_106 (by decide) ?_
    refine lv_istore_n (lv' := [(3, .int 0), (0, .ref (a 0)), (2, .int x2)]) (pc := 107) hx hb dX5_restore_107 rfl hl (by decide) rfl (fun ls hl => ?_)
    exact t_X5_restore_108 hI N C h H locs hP hS ls (lv_sub hl [1, 2, 0] rfl)
  · have h := if_n hc h
    refine lv_aload_n (pc := 36) hx hb dX5_restore_36 rfl (lv_at hl 0 rfl) ?_
    refine va_get (pc := 37) (v := .ref (a 2)) hx hb hts inB5 hown hK.1 hP 0 wm0 rfl 2 (by decide) (hts _ wd_553) (fun _ h9 => h9) rfl dX5_restore_37 ?_
    refine lv_iload_n (pc := 40) hx hb dX5_restore_40 rfl (lv_at hl 2 rfl) ?_
    refine lv_aload_n (pc := 41) hx hb dX5_restore_41 rfl (lv_at hl 0 rfl) ?_
    refine va_get (pc := 42) (v := .ref (a 16)) hx hb hts inB5 hown hK.1 hP 0 wm0 rfl 24 (by decide) (hts _ wd_575) (fun _ h9 => h9) rfl dX5_restore_42 ?_
    refine lv_iload_n (pc := 45) hx hb dX5_restore_45 rfl (lv_at hl 1 rfl) ?_
    refine lv_iload_n (pc := 46) hx hb dX5_restore_46 rfl (lv_at hl 2 rfl) ?_
    refine lv_iadd (pc := 47) hx hb dX5_restore_47 ?_
    obtain ⟨hin, h⟩ := gd_some h
    refine r_ald (pc := 48) hx hb hK hP 16 wm16 hin dX5_restore_48 ?_
    obtain ⟨hin, h⟩ := gd_some h
    refine r_ast (pc := 49) (𝓦 := Wm E a) hx hb hK hP (dM hI _) hS 2 wm2 wm2s hin dX5_restore_49 (fun H locs S1 eS1 hP hS => ?_)
    have h := bd_y eS1 h
    refine lv_aload_n (pc := 50) hx hb dX5_restore_50 rfl (lv_at hl 0 rfl) ?_
    refine va_get (pc := 51) (v := .ref (a 3)) hx hb hts inB5 hown hK.1 hP 0 wm0 rfl 3 (by decide) (hts _ wd_554) (fun _ h9 => h9) rfl dX5_restore_51 ?_
    refine lv_iload_n (pc := 54) hx hb dX5_restore_54 rfl (lv_at hl 2 rfl) ?_
    refine lv_aload_n (pc := 55) hx hb dX5_restore_55 rfl (lv_at hl 0 rfl) ?_
    refine va_get (pc := 56) (v := .ref (a 16)) hx hb hts inB5 hown hK.1 hP 0 wm0 rfl 24 (by decide) (hts _ wd_575) (fun _ h9 => h9) rfl dX5_restore_56 ?_
    refine lv_iload_n (pc := 59) hx hb dX5_restore_59 rfl (lv_at hl 1 rfl) ?_
    refine lv_iconst (v := 5) (pc := 60) hx hb dX5_restore_60 (by decide) ?_
    refine lv_iadd (pc := 61) hx hb dX5_restore_61 ?_
    refine lv_iload_n (pc := 62) hx hb dX5_restore_62 rfl (lv_at hl 2 rfl) ?_
    refine lv_iadd (pc := 63) hx hb dX5_restore_63 ?_
    obtain ⟨hin, h⟩ := gd_some h
    refine r_ald (pc := 64) hx hb hK hP 16 wm16 hin dX5_restore_64 ?_
    obtain ⟨hin, h⟩ := gd_some h
    refine r_ast (pc := 65) (𝓦 := Wm E a) hx hb hK hP (dM hI _) hS 3 wm3 wm3s hin dX5_restore_65 (fun H locs S2 eS2 hP hS => ?_)
    have h := bd_y eS2 h
    refine lv_aload_n (pc := 66) hx hb dX5_restore_66 rfl (lv_at hl 0 rfl) ?_
    refine va_get (pc := 67) (v := .ref (a 4)) hx hb hts inB5 hown hK.1 hP 0 wm0 rfl 4 (by decide) (hts _ wd_555) (fun _ h9 => h9) rfl dX5_restore_67 ?_
    refine lv_iload_n (pc := 70) hx hb dX5_restore_70 rfl (lv_at hl 2 rfl) ?_
    refine lv_aload_n (pc := 71) hx hb dX5_restore_71 rfl (lv_at hl 0 rfl) ?_
    refine va_get (pc := 72) (v := .ref (a 16)) hx hb hts inB5 hown hK.1 hP 0 wm0 rfl 24 (by decide) (hts _ wd_575) (fun _ h9 => h9) rfl dX5_restore_72 ?_
    refine lv_iload_n (pc := 75) hx hb dX5_restore_75 rfl (lv_at hl 1 rfl) ?_
    refine lv_bipush (v := 10) (pc := 76) hx hb dX5_restore_76 (by decide) ?_
    refine lv_iadd (pc := 78) hx hb dX5_restore_78 ?_
    refine lv_iload_n (pc := 79) hx hb dX5_restore_79 rfl (lv_at hl 2 rfl) ?_
    refine lv_iadd (pc := 80) hx hb dX5_restore_80 ?_
    obtain ⟨hin, h⟩ := gd_some h
    refine r_ald (pc := 81) hx hb hK hP 16 wm16 hin dX5_restore_81 ?_
    obtain ⟨hin, h⟩ := gd_some h
    refine r_ast (pc := 82) (𝓦 := Wm E a) hx hb hK hP (dM hI _) hS 4 wm4 wm4s hin dX5_restore_82 (fun H locs S3 eS3 hP hS => ?_)
    have h := bd_y eS3 h
    refine lv_aload_n (pc := 83) hx hb dX5_restore_83 rfl (lv_at hl 0 rfl) ?_
    refine va_get (pc := 84) (v := .ref (a 5)) hx hb hts inB5 hown hK.1 hP 0 wm0 rfl 5 (by decide) (hts _ wd_556) (fun _ h9 => h9) rfl dX5_restore_84 ?_
    refine lv_iload_n (pc := 87) hx hb dX5_restore_87 rfl (lv_at hl 2 rfl) ?_
    refine lv_aload_n (pc := 88) hx hb dX5_restore_88 rfl (lv_at hl 0 rfl) ?_
    refine va_get (pc := 89) (v := .ref (a 16)) hx hb hts inB5 hown hK.1 hP 0 wm0 rfl 24 (by decide) (hts _ wd_575) (fun _ h9 => h9) rfl dX5_restore_89 ?_
    refine lv_iload_n (pc := 92) hx hb dX5_restore_92 rfl (lv_at hl 1 rfl) ?_
    refine lv_bipush (v := 15) (pc := 93) hx hb dX5_restore_93 (by decide) ?_
    refine lv_iadd (pc := 95) hx hb dX5_restore_95 ?_
    refine lv_iload_n (pc := 96) hx hb dX5_restore_96 rfl (lv_at hl 2 rfl) ?_
    refine lv_iadd (pc := 97) hx hb dX5_restore_97 ?_
    obtain ⟨hin, h⟩ := gd_some h
    refine r_ald (pc := 98) hx hb hK hP 16 wm16 hin dX5_restore_98 ?_
    obtain ⟨hin, h⟩ := gd_some h
    refine r_ast (pc := 99) (𝓦 := Wm E a) hx hb hK hP (dM hI _) hS 5 wm5 wm5s hin dX5_restore_99 (fun H locs S4 eS4 hP hS => ?_)
    have h := bd_y eS4 h
    refine lv_iinc (v := (x3 + 1)) (lv' := [(3, .int (x3 + 1)), (0, .ref (a 0)), (2, .int x2)]) (pc := 100) hx hb dX5_restore_100 hl (k := 2) rfl (ii1 _) (by decide) rfl (fun ls hl => ?_)
    refine lv_goto (tgt := 31) (pc := 103) hx hb dX5_restore_103 (by decide) ?_
    exact hk31 _ _ _ h H locs hP hS ls (lv_sub hl [1, 2, 0] rfl)
theorem t_X5_restore_31 {rr : Int32} {SS : St} (hI : aI 18 a) (N : Nat) (C : bC D E RX5 cX5_restore 4 (some .int) p s m args meth c) {n : Nat} {x2 : Int32} {x3 : Int32} {S : St} (h : lpI (F_X5_restore_31 N) n (x2, x3, S) = some (rr, SS)) : gU D (Wm E a) (aA 18 a) p l e (bRm 1 22) s m args below meth c 4 (qU D below (aA 18 a) (Wm E a SS) rr args s) 31 [(0, .ref (a 0)), (2, .int x2), (3, .int x3)] [] S := by
  exact lpI_ind (P := fun v q => q = (rr, SS) → gU D (Wm E a) (aA 18 a) p l e (bRm 1 22) s m args below meth c 4 (qU D below (aA 18 a) (Wm E a SS) rr args s) 31 [(0, .ref (a 0)), (2, .int v.1), (3, .int v.2.1)] [] v.2.2) (fun k hk v q h9 hq => s_X5_restore_31 hI N C k (fun x2 x3 S h8 => hk (x2, x3, S) _ h8 rfl) (h9.trans (congrArg some hq))) n (x2, x3, S) _ h rfl
def f_X5_restore (N : Nat) (x1 : Int32) (S : St) : Option (Int32 × St) :=
  bd (f_X5_in x1 0 1) fun r1 => if r1 = 0 then (some ((-2), S)) else (gd (ix x1 2) (if (S 17 (Int32.toNatClampNeg x1)) = 0 then (some ((-3), S)) else (bd (some (82 * x1)) fun y2 => lpI (F_X5_restore_31 N) N (y2, 0, S))))
theorem t_X5_restore_0 {rr : Int32} {SS : St} (hI : aI 18 a) (N : Nat) (C : bC D E RX5 cX5_restore 4 (some .int) p s m args meth c) {x1 : Int32} {S : St} (h : f_X5_restore N x1 S = some (rr, SS)) : gU D (Wm E a) (aA 18 a) p l e (bRm 1 22) s m args below meth c 4 (qU D below (aA 18 a) (Wm E a SS) rr args s) 0 [(0, .ref (a 0)), (1, .int x1)] [] S := by
  obtain ⟨hx, hb, hml, hown, hts, hK, hr, hlocks⟩ := id C
  intro H locs hP hS ls hl
  unfold f_X5_restore at h
  refine lv_iload_n (pc := 0) hx hb dX5_restore_0 rfl (lv_at hl 1 rfl) ?_
  refine lv_iconst (v := 0) (pc := 1) hx hb dX5_restore_1 (by decide) ?_
  refine lv_iconst (v := 1) (pc := 2) hx hb dX5_restore_2 (by decide) ?_
  obtain ⟨r1, hr1, h⟩ := bd_some h
  refine r_callS (pc := 3) C (c_X5_in hr1) k_X5_in wd_634 ⟨Nat.le_of_ble_eq_true rfl, Nat.le_of_ble_eq_true rfl⟩ rfl hl.1 rfl (Nat.le_of_ble_eq_true rfl) dX5_restore_3 ⟨Nat.zero_le _, Nat.zero_le _⟩ ?_
  refine lv_if_ne (tgt := 12) (pc := 6) hx hb dX5_restore_6 (by decide) (fun hc => ?_) (fun hc => ?_)
  · have h := if_n hc h
    refine lv_aload_n (pc := 12) hx hb dX5_restore_12 rfl (lv_at hl 0 rfl) ?_
    refine va_get (pc := 13) (v := .ref (a 17)) hx hb hts inB5 hown hK.1 hP 0 wm0 rfl 25 (by decide) (hts _ wd_576) (fun _ h9 => h9) rfl dX5_restore_13 ?_
    refine lv_iload_n (pc := 16) hx hb dX5_restore_16 rfl (lv_at hl 1 rfl) ?_
    obtain ⟨hin, h⟩ := gd_some h
    refine r_zld (pc := 17) hx hb hK hP 17 wm17 hin dX5_restore_17 ?_
    refine lv_if_ne (tgt := 24) (pc := 18) hx hb dX5_restore_18 (by decide) (fun hc => ?_) (fun hc => ?_)
    · have h := if_n hc h
      refine lv_bipush (v := 82) (pc := 24) hx hb dX5_restore_24 (by decide) ?_
      refine lv_iload_n (pc := 26) hx hb dX5_restore_26 rfl (lv_at hl 1 rfl) ?_
      refine lv_imul (pc := 27) hx hb dX5_restore_27 ?_
      refine lv_topi (fun y2 ey2 => ?_)
      have h := bd_y ey2 h
      refine lv_istore_n (lv' := [(2, .int y2), (0, .ref (a 0)), (1, .int x1)]) (pc := 28) hx hb dX5_restore_28 rfl hl (by decide) rfl (fun ls hl => ?_)
      refine lv_iconst (v := 0) (pc := 29) hx hb dX5_restore_29 (by decide) ?_
      refine lv_istore_n (lv' := [(3, .int 0), (2, .int y2), (0, .ref (a 0)), (1, .int x1)]) (pc := 30) hx hb dX5_restore_30 rfl hl (by decide) rfl (fun ls hl => ?_)
      exact t_X5_restore_31 hI N C h H locs hP hS ls (lv_sub hl [2, 1, 0] rfl)
    · have h := if_y hc h
      refine lv_bipush (v := (-3)) (pc := 21) hx hb dX5_restore_21 (by decide) ?_
      exact r_retU (pc := 23) (𝓦 := Wm E a) C h hP hS dX5_restore_23
  · have h := if_y hc h
    refine lv_bipush (v := (-2)) (pc := 9) hx hb dX5_restore_9 (by decide) ?_
    exact r_retU (pc := 11) (𝓦 := Wm E a) C h hP hS dX5_restore_11
theorem c_X5_restore {l : Launch} {D : va_G} {E : bE} {a : Nat → Nat} (hI : aI 18 a) (N : Nat) {rr : Int32} {S : St} {SS : St} {x1 : Int32} (h : f_X5_restore N x1 S = some (rr, SS)) : cU l D E yX5_restore cX5_restore 4 (some .int) 1 22 (aA 18 a) (Wm E a S) (Wm E a SS) [.ref (a 0), .int x1] rr := cU_of (by decide) (Nat.le_of_ble_eq_true rfl) (fun p e s m args below meth c C => t_X5_restore_0 hI N C h)
/-! X5_told -/
def B_X5_told_139 (x1 : Int32) (S : St) : Option (Int32) :=
  if x1 = 0 then (some (S 0 0)) else (if x1 = 1 then (some (S 0 8)) else (if x1 = 2 then (some (S 0 9)) else (some (-2))))
theorem t_X5_told_139 {rr : Int32} (hI : aI 18 a) (C : bC D E RX5 cX5_told 3 (some .int) p s m args meth c) {S : St} (hP : va_P D vwCl (Wm E a S) s.heap) {x1 : Int32} (h : B_X5_told_139 x1 S = some rr) : gR p l e (bRm 1 22) s m args below meth c 3 (qS below rr args s) 139 [(0, .ref (a 0)), (1, .int x1)] [] := by
  obtain ⟨hx, hb, hml, hown, hts, hK, hr, hlocks⟩ := id C
  intro ls hl
  unfold B_X5_told_139 at h
  refine lv_iload_n (pc := 139) hx hb dX5_told_139 rfl (lv_at hl 1 rfl) ?_
  refine lv_if_ne (tgt := 150) (pc := 140) hx hb dX5_told_140 (by decide) (fun hc => ?_) (fun hc => ?_)
  · have h := if_n hc h
    refine lv_iload_n (pc := 150) hx hb dX5_told_150 rfl (lv_at hl 1 rfl) ?_
    refine lv_iconst (v := 1) (pc := 151) hx hb dX5_told_151 (by decide) ?_
    refine lv_icmp_ne (tgt := 162) (pc := 152) hx hb dX5_told_152 (by decide) (fun hc => ?_) (fun hc => ?_)
    · have h := if_n hc h
      refine lv_iload_n (pc := 162) hx hb dX5_told_162 rfl (lv_at hl 1 rfl) ?_
      refine lv_iconst (v := 2) (pc := 163) hx hb dX5_told_163 (by decide) ?_
      refine lv_icmp_ne (tgt := 174) (pc := 164) hx hb dX5_told_164 (by decide) (fun hc => ?_) (fun hc => ?_)
      · have h := if_n hc h
        refine lv_bipush (v := (-2)) (pc := 174) hx hb dX5_told_174 (by decide) ?_
        exact r_retS (pc := 176) C h dX5_told_176
      · have h := if_y hc h
        refine lv_aload_n (pc := 167) hx hb dX5_told_167 rfl (lv_at hl 0 rfl) ?_
        refine va_get (pc := 168) (v := .int (S 0 9)) hx hb hts inB5 hown hK.1 hP 0 wm0 rfl 9 (by decide) (hts _ wd_560) (fun _ h9 => h9) rfl dX5_told_168 ?_
        refine lv_goto (tgt := 176) (pc := 171) hx hb dX5_told_171 (by decide) ?_
        exact r_retS (pc := 176) C h dX5_told_176
    · have h := if_y hc h
      refine lv_aload_n (pc := 155) hx hb dX5_told_155 rfl (lv_at hl 0 rfl) ?_
      refine va_get (pc := 156) (v := .int (S 0 8)) hx hb hts inB5 hown hK.1 hP 0 wm0 rfl 8 (by decide) (hts _ wd_559) (fun _ h9 => h9) rfl dX5_told_156 ?_
      refine lv_goto (tgt := 176) (pc := 159) hx hb dX5_told_159 (by decide) ?_
      exact r_retS (pc := 176) C h dX5_told_176
  · have h := if_y hc h
    refine lv_aload_n (pc := 143) hx hb dX5_told_143 rfl (lv_at hl 0 rfl) ?_
    refine va_get (pc := 144) (v := .int (S 0 0)) hx hb hts inB5 hown hK.1 hP 0 wm0 rfl 0 (by decide) (hts _ wd_551) (fun _ h9 => h9) rfl dX5_told_144 ?_
    refine lv_goto (tgt := 176) (pc := 147) hx hb dX5_told_147 (by decide) ?_
    exact r_retS (pc := 176) C h dX5_told_176
def f_X5_told (x1 : Int32) (S : St) : Option (Int32) :=
  bd (some (x1 - x1 / 10 * 10)) fun y1 => bd (f_X5_in x1 10 15) fun r2 => if r2 = 0 then (bd (f_X5_in x1 20 25) fun r3 => if r3 = 0 then (bd (f_X5_in x1 30 35) fun r4 => if r4 = 0 then (bd (f_X5_in x1 40 45) fun r5 => if r5 = 0 then (bd (f_X5_in x1 100 145) fun r6 => if r6 = 0 then (B_X5_told_139 x1 S) else (if 6 ≤ ((x1 - 100) - (x1 - 100) / 8 * 8) then (B_X5_told_139 x1 S) else (gd (ix ((6 * ((x1 - 100) / 8)) + ((x1 - 100) - (x1 - 100) / 8 * 8)) 36) (some (S 7 (Int32.toNatClampNeg ((6 * ((x1 - 100) / 8)) + ((x1 - 100) - (x1 - 100) / 8 * 8)))))))) else (gd (ix ((4 * y1) + 1) 24) (some (S 6 (Int32.toNatClampNeg ((4 * y1) + 1)))))) else (gd (ix ((4 * y1) + 3) 24) (some (S 6 (Int32.toNatClampNeg ((4 * y1) + 3)))))) else (gd (ix ((4 * y1) + 2) 24) (some (S 6 (Int32.toNatClampNeg ((4 * y1) + 2)))))) else (gd (ix (4 * y1) 24) (some (S 6 (Int32.toNatClampNeg (4 * y1)))))
theorem t_X5_told_0 {rr : Int32} (hI : aI 18 a) (C : bC D E RX5 cX5_told 3 (some .int) p s m args meth c) {S : St} (hP : va_P D vwCl (Wm E a S) s.heap) {x1 : Int32} (h : f_X5_told x1 S = some rr) : gR p l e (bRm 1 22) s m args below meth c 3 (qS below rr args s) 0 [(0, .ref (a 0)), (1, .int x1)] [] := by
  obtain ⟨hx, hb, hml, hown, hts, hK, hr, hlocks⟩ := id C
  intro ls hl
  unfold f_X5_told at h
  refine lv_iload_n (pc := 0) hx hb dX5_told_0 rfl (lv_at hl 1 rfl) ?_
  refine lv_bipush (v := 10) (pc := 1) hx hb dX5_told_1 (by decide) ?_
  refine lv_irem (pc := 3) hx hb dX5_told_3 (by decide) ?_
  refine lv_topi (fun y1 ey1 => ?_)
  have h := bd_y ey1 h
  refine lv_istore_n (lv' := [(2, .int y1), (0, .ref (a 0)), (1, .int x1)]) (pc := 4) hx hb dX5_told_4 rfl hl (by decide) rfl (fun ls hl => ?_)
  refine lv_iload_n (pc := 5) hx hb dX5_told_5 rfl (lv_at hl 2 rfl) ?_
  refine lv_bipush (v := 10) (pc := 6) hx hb dX5_told_6 (by decide) ?_
  refine lv_bipush (v := 15) (pc := 8) hx hb dX5_told_8 (by decide) ?_
  obtain ⟨r2, hr2, h⟩ := bd_some h
  refine r_callS (pc := 10) C (c_X5_in hr2) k_X5_in wd_634 ⟨Nat.le_of_ble_eq_true rfl, Nat.le_of_ble_eq_true rfl⟩ rfl hl.1 rfl (Nat.le_of_ble_eq_true rfl) dX5_told_10 ⟨Nat.zero_le _, Nat.zero_le _⟩ ?_
  refine lv_if_eq (tgt := 25) (pc := 13) hx hb dX5_told_13 (by decide) (fun hc => ?_) (fun hc => ?_)
  · have h := if_y hc h
    refine lv_iload_n (pc := 25) hx hb dX5_told_25 rfl (lv_at hl 2 rfl) ?_
    refine lv_bipush (v := 20) (pc := 26) hx hb dX5_told_26 (by decide) ?_
    refine lv_bipush (v := 25) (pc := 28) hx hb dX5_told_28 (by decide) ?_
    obtain ⟨r3, hr3, h⟩ := bd_some h
    refine r_callS (pc := 30) C (c_X5_in hr3) k_X5_in wd_634 ⟨Nat.le_of_ble_eq_true rfl, Nat.le_of_ble_eq_true rfl⟩ rfl hl.1 rfl (Nat.le_of_ble_eq_true rfl) dX5_told_30 ⟨Nat.zero_le _, Nat.zero_le _⟩ ?_
    refine lv_if_eq (tgt := 47) (pc := 33) hx hb dX5_told_33 (by decide) (fun hc => ?_) (fun hc => ?_)
    · have h := if_y hc h
      refine lv_iload_n (pc := 47) hx hb dX5_told_47 rfl (lv_at hl 2 rfl) ?_
      refine lv_bipush (v := 30) (pc := 48) hx hb dX5_told_48 (by decide) ?_
      refine lv_bipush (v := 35) (pc := 50) hx hb dX5_told_50 (by decide) ?_
      obtain ⟨r4, hr4, h⟩ := bd_some h
      refine r_callS (pc := 52) C (c_X5_in hr4) k_X5_in wd_634 ⟨Nat.le_of_ble_eq_true rfl, Nat.le_of_ble_eq_true rfl⟩ rfl hl.1 rfl (Nat.le_of_ble_eq_true rfl) dX5_told_52 ⟨Nat.zero_le _, Nat.zero_le _⟩ ?_
      refine lv_if_eq (tgt := 69) (pc := 55) hx hb dX5_told_55 (by decide) (fun hc => ?_) (fun hc => ?_)
      · have h := if_y hc h
        refine lv_iload_n (pc := 69) hx hb dX5_told_69 rfl (lv_at hl 2 rfl) ?_
        refine lv_bipush (v := 40) (pc := 70) hx hb dX5_told_70 (by decide) ?_
        refine lv_bipush (v := 45) (pc := 72) hx hb dX5_told_72 (by decide) ?_
        obtain ⟨r5, hr5, h⟩ := bd_some h
        refine r_callS (pc := 74) C (c_X5_in hr5) k_X5_in wd_634 ⟨Nat.le_of_ble_eq_true rfl, Nat.le_of_ble_eq_true rfl⟩ rfl hl.1 rfl (Nat.le_of_ble_eq_true rfl) dX5_told_74 ⟨Nat.zero_le _, Nat.zero_le _⟩ ?_
        refine lv_if_eq (tgt := 91) (pc := 77) hx hb dX5_told_77 (by decide) (fun hc => ?_) (fun hc => ?_)
        · have h := if_y hc h
          refine lv_iload_n (pc := 91) hx hb dX5_told_91 rfl (lv_at hl 2 rfl) ?_
          refine lv_bipush (v := 100) (pc := 92) hx hb dX5_told_92 (by decide) ?_
          refine lv_sipush (v := 145) (pc := 94) hx hb dX5_told_94 (by decide) ?_
          obtain ⟨r6, hr6, h⟩ := bd_some h
          refine r_callS (pc := 97) C (c_X5_in hr6) k_X5_in wd_634 ⟨Nat.le_of_ble_eq_true rfl, Nat.le_of_ble_eq_true rfl⟩ rfl hl.1 rfl (Nat.le_of_ble_eq_true rfl) dX5_told_97 ⟨Nat.zero_le _, Nat.zero_le _⟩ ?_
          refine lv_if_eq (tgt := 139) (pc := 100) hx hb dX5_told_100 (by decide) (fun hc => ?_) (fun hc => ?_)
          · have h := if_y hc h
            exact t_X5_told_139 hI C hP h ls (lv_sub hl [1, 2] rfl)
          · have h := if_n hc h
            refine lv_iload_n (pc := 103) hx hb dX5_told_103 rfl (lv_at hl 2 rfl) ?_
            refine lv_bipush (v := 100) (pc := 104) hx hb dX5_told_104 (by decide) ?_
            refine lv_isub (pc := 106) hx hb dX5_told_106 ?_
            refine lv_bipush (v := 8) (pc := 107) hx hb dX5_told_107 (by decide) ?_
            refine lv_irem (pc := 109) hx hb dX5_told_109 (by decide) ?_
            refine lv_bipush (v := 6) (pc := 110) hx hb dX5_told_110 (by decide) ?_
            refine lv_icmp_ge (tgt := 139) (pc := 112) hx hb dX5_told_112 (by decide) (fun hc => ?_) (fun hc => ?_)
            · have h := if_y hc h
              exact t_X5_told_139 hI C hP h ls (lv_sub hl [1, 2] rfl)
            · have h := if_n hc h
              refine lv_aload_n (pc := 115) hx hb dX5_told_115 rfl (lv_at hl 1 rfl) ?_
              refine va_get (pc := 116) (v := .ref (a 7)) hx hb hts inB5 hown hK.1 hP 0 wm0 rfl 7 (by decide) (hts _ wd_558) (fun _ h9 => h9) rfl dX5_told_116 ?_
              refine lv_bipush (v := 6) (pc := 119) hx hb dX5_told_119 (by decide) ?_
              refine lv_iload_n (pc := 121) hx hb dX5_told_121 rfl (lv_at hl 2 rfl) ?_
              refine lv_bipush (v := 100) (pc := 122) hx hb dX5_told_122 (by decide) ?_
              refine lv_isub (pc := 124) hx hb dX5_told_124 ?_
              refine lv_bipush (v := 8) (pc := 125) hx hb dX5_told_125 (by decide) ?_
              refine lv_idiv (pc := 127) hx hb dX5_told_127 (by decide) ?_
              refine lv_imul (pc := 128) hx hb dX5_told_128 ?_
              refine lv_iload_n (pc := 129) hx hb dX5_told_129 rfl (lv_at hl 2 rfl) ?_
              refine lv_bipush (v := 100) (pc := 130) hx hb dX5_told_130 (by decide) ?_
              refine lv_isub (pc := 132) hx hb dX5_told_132 ?_
              refine lv_bipush (v := 8) (pc := 133) hx hb dX5_told_133 (by decide) ?_
              refine lv_irem (pc := 135) hx hb dX5_told_135 (by decide) ?_
              refine lv_iadd (pc := 136) hx hb dX5_told_136 ?_
              obtain ⟨hin, h⟩ := gd_some h
              refine r_ald (pc := 137) hx hb hK hP 7 wm7 hin dX5_told_137 ?_
              exact r_retS (pc := 138) C h dX5_told_138
        · have h := if_n hc h
          refine lv_aload_n (pc := 80) hx hb dX5_told_80 rfl (lv_at hl 1 rfl) ?_
          refine va_get (pc := 81) (v := .ref (a 6)) hx hb hts inB5 hown hK.1 hP 0 wm0 rfl 6 (by decide) (hts _ wd_557) (fun _ h9 => h9) rfl dX5_told_81 ?_
          refine lv_iconst (v := 4) (pc := 84) hx hb dX5_told_84 (by decide) ?_
          refine lv_iload_n (pc := 85) hx hb dX5_told_85 rfl (lv_at hl 0 rfl) ?_
          refine lv_imul (pc := 86) hx hb dX5_told_86 ?_
          refine lv_iconst (v := 1) (pc := 87) hx hb dX5_told_87 (by decide) ?_
          refine lv_iadd (pc := 88) hx hb dX5_told_88 ?_
          obtain ⟨hin, h⟩ := gd_some h
          refine r_ald (pc := 89) hx hb hK hP 6 wm6 hin dX5_told_89 ?_
          exact r_retS (pc := 90) C h dX5_told_90
      · have h := if_n hc h
        refine lv_aload_n (pc := 58) hx hb dX5_told_58 rfl (lv_at hl 1 rfl) ?_
        refine va_get (pc := 59) (v := .ref (a 6)) hx hb hts inB5 hown hK.1 hP 0 wm0 rfl 6 (by decide) (hts _ wd_557) (fun _ h9 => h9) rfl dX5_told_59 ?_
        refine lv_iconst (v := 4) (pc := 62) hx hb dX5_told_62 (by decide) ?_
        refine lv_iload_n (pc := 63) hx hb dX5_told_63 rfl (lv_at hl 0 rfl) ?_
        refine lv_imul (pc := 64) hx hb dX5_told_64 ?_
        refine lv_iconst (v := 3) (pc := 65) hx hb dX5_told_65 (by decide) ?_
        refine lv_iadd (pc := 66) hx hb dX5_told_66 ?_
        obtain ⟨hin, h⟩ := gd_some h
        refine r_ald (pc := 67) hx hb hK hP 6 wm6 hin dX5_told_67 ?_
        exact r_retS (pc := 68) C h dX5_told_68
    · have h := if_n hc h
      refine lv_aload_n (pc := 36) hx hb dX5_told_36 rfl (lv_at hl 1 rfl) ?_
      refine va_get (pc := 37) (v := .ref (a 6)) hx hb hts inB5 hown hK.1 hP 0 wm0 rfl 6 (by decide) (hts _ wd_557) (fun _ h9 => h9) rfl dX5_told_37 ?_
      refine lv_iconst (v := 4) (pc := 40) hx hb dX5_told_40 (by decide) ?_
      refine lv_iload_n (pc := 41) hx hb dX5_told_41 rfl (lv_at hl 0 rfl) ?_
      refine lv_imul (pc := 42) hx hb dX5_told_42 ?_
      refine lv_iconst (v := 2) (pc := 43) hx hb dX5_told_43 (by decide) ?_
      refine lv_iadd (pc := 44) hx hb dX5_told_44 ?_
      obtain ⟨hin, h⟩ := gd_some h
      refine r_ald (pc := 45) hx hb hK hP 6 wm6 hin dX5_told_45 ?_
      exact r_retS (pc := 46) C h dX5_told_46
  · have h := if_n hc h
    refine lv_aload_n (pc := 16) hx hb dX5_told_16 rfl (lv_at hl 1 rfl) ?_
    refine va_get (pc := 17) (v := .ref (a 6)) hx hb hts inB5 hown hK.1 hP 0 wm0 rfl 6 (by decide) (hts _ wd_557) (fun _ h9 => h9) rfl dX5_told_17 ?_
    refine lv_iconst (v := 4) (pc := 20) hx hb dX5_told_20 (by decide) ?_
    refine lv_iload_n (pc := 21) hx hb dX5_told_21 rfl (lv_at hl 0 rfl) ?_
    refine lv_imul (pc := 22) hx hb dX5_told_22 ?_
    obtain ⟨hin, h⟩ := gd_some h
    refine r_ald (pc := 23) hx hb hK hP 6 wm6 hin dX5_told_23 ?_
    exact r_retS (pc := 24) C h dX5_told_24
theorem c_X5_told {l : Launch} {D : va_G} {E : bE} {a : Nat → Nat} (hI : aI 18 a) {rr : Int32} {S : St} {x1 : Int32} (h : f_X5_told x1 S = some rr) : cR l D E yX5_told cX5_told 3 (some .int) 1 22 (Wm E a S) [.ref (a 0), .int x1] rr := cR_of (by decide) (Nat.le_of_ble_eq_true rfl) (fun p e s m args below meth c C hP => t_X5_told_0 hI C hP h)
