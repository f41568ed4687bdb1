variable {p : Program} {l : Launch} {e : Env} {R : Room} {s : State} {m : MethodId} {args : Array Value} {below : List Frame} {meth : Method} {c : Code} {cells slots : Nat} {Q : State → Prop} {D : va_G} {E : bE} {A : Nat → Prop} {a : Nat → Nat}
theorem va_D.addr {A : Nat → Prop} {ws ws' : va_W} (h : ws.map Prod.fst = ws'.map Prod.fst) (hD : va_D A ws) : va_D A ws' := by
  have key : ∀ (k : Nat) (q : Nat × va_E), ws'[k]? = some q → ∃ q0, ws[k]? = some q0 ∧ q0.1 = q.1 := by
    intro k q hk
    have e : (ws'.map Prod.fst)[k]? = some q.1 := by rw [List.getElem?_map, hk]; rfl
    rw [← h, List.getElem?_map] at e
    cases hq : ws[k]? with
    | none => rw [hq] at e; cases e
    | some q0 => rw [hq] at e; exact ⟨q0, rfl, Option.some.inj e⟩
  refine ⟨fun i j x y hi hj hxy => ?_, fun k q hk => ?_⟩
  · obtain ⟨x0, h1, h2⟩ := key i x hi
    obtain ⟨y0, h3, h4⟩ := key j y hj
    exact hD.1 i j x0 y0 h1 h3 (by rw [h2, h4]; exact hxy)
  · obtain ⟨q0, h1, h2⟩ := key k q hk
    rw [← h2]; exact hD.2 k q0 h1
theorem bBlindN {D : va_G} {E : bE} {av : List Value} {ws : va_W} {sz : Nat} : FrameBlind (va_Pc av (fun U => U.heap.size = sz ∧ va_P D vwCl ws U.heap ∧ bPre D E U)) := fun a U g mk q => ⟨q.1, q.2.1, q.2.2.1, bPre.same (s := U) (U := U.calling g mk a) rfl q.2.2.2⟩
theorem arrV_agree {cA : ClassId} {N : Nat} {f g : Nat → Value} (h : ∀ j, j < N → f j = g j) : arrV cA N f = arrV cA N g := by
  have e : (fun j : Fin N => f j.val) = fun j : Fin N => g j.val := funext fun j => h j.val j.isLt
  unfold arrV
  rw [e]
theorem img_cell {cA : ClassId} {a : Nat → Nat} {x y : Nat} (h0 : im a 0 = some x) (h1 : im a 1 = some y) : vp_cell cA (2, .inr (.inr (.inr (.inr (va_up (va_up (fun _ => none) (Int32.toNatClampNeg 0) (some x)) (Int32.toNatClampNeg 1) (some y)))))) = vp_cell cA (2, .inr (.inr (.inr (.inr (im a))))) := by
  show arrV cA 2 (fun j => va_rf (va_up (va_up (fun _ => none) (Int32.toNatClampNeg 0) (some x)) (Int32.toNatClampNeg 1) (some y) j)) = arrV cA 2 (fun j => va_rf (im a j))
  refine arrV_agree (fun j hj => ?_)
  rcases (show j = 0 ∨ j = 1 by omega) with rfl | rfl
  · show va_rf (some x) = va_rf (im a 0); rw [h0]
  · show va_rf (some y) = va_rf (im a 1); rw [h1]
def zB : St := fun k => if k = 0 then (fun j => if j = 9 then 5 else if j = 10 then 5 else 0) else fun _ => 0
def zM : St := fun k => if k = 0 then (fun j => if j = 8 then 5 else if j = 9 then 5 else 0) else fun _ => 0
def wPad (E : bE) (a : Nat → Nat) : va_W := [((a 0), .inr (2, [.ref (a 1), .int 0, .int 0, .int 0, .int 0])), ((a 1), .inl (E.1, 20, .inl (fun _ => 0)))]
theorem c_X2_init {l : Launch} {D : va_G} {E : bE} (h0 sz : Nat) : cN l D E yX2_init cX2_init 1 1 1 20 12 h0 sz (.inr (2, [.null, .int 0, .int 0, .int 0, .int 0])) [] (fun a => a 0 = h0) (wPad E) := by
  refine cN_of (by decide) (Nat.le_of_ble_eq_true rfl) rfl ?_
  intro p e s m args below meth c A C hin hA hP hD hS ls hl
  obtain ⟨hx, hb, hml, hown, hts, hK, hr, hlocks⟩ := id C
  refine lv_aload_n (pc := 0) hx hb dX2_init_0 rfl (lv_at hl 0 rfl) ?_
  refine W.objInit hx hb hown (hts _ wd_62) (hts _ wd_55) (hts _ wd_56) rfl (by rw [hml]; exact hl.1) rfl dX2_init_1 (Nat.le_of_ble_eq_true rfl) (Nat.le_of_ble_eq_true rfl) ?_
  refine W.eq (g2 := F0 m 4 ls []) rfl ?_
  refine lv_aload_n (pc := 4) hx hb dX2_init_4 rfl (lv_at hl 0 rfl) ?_
  refine lv_bipush (v := 20) (pc := 5) hx hb dX2_init_5 (by decide) ?_
  refine r_newI (pc := 7) 20 hx hb hts wd_83 hK hP hD hS hA (by decide) (by decide) (by decide) (Nat.le_of_ble_eq_true rfl) (Nat.le_of_ble_eq_true rfl) dX2_init_7 (fun q1 H hP hD hS => ?_)
  have hP : va_P D vwCl [(h0, .inr (2, [.null, .int 0, .int 0, .int 0, .int 0])), (q1, .inl (E.1, 20, .inl (fun _ => 0)))] H := hP
  have hD : va_D A [(h0, .inr (2, [.null, .int 0, .int 0, .int 0, .int 0])), (q1, .inl (E.1, 20, .inl (fun _ => 0)))] := hD
  refine va_putF (pc := 9) (v := .ref q1) (ty := (.array .int)) hx hb hts inB2 tyX2 tyX2_ok nmX2 hown hK.1 hP hD hS 0 rfl rfl 0 (by decide) (hts _ wd_63) (fun _ h9 => h9) rfl hin rfl (by decide +kernel) rfl rfl (Nat.le_of_ble_eq_true rfl) dX2_init_9 (fun H locs hP hD hS => ?_)
  have hP : va_P D vwCl [(h0, .inr (2, [.ref q1, .int 0, .int 0, .int 0, .int 0])), (q1, .inl (E.1, 20, .inl (fun _ => 0)))] H := hP
  have hD : va_D A [(h0, .inr (2, [.ref q1, .int 0, .int 0, .int 0, .int 0])), (q1, .inl (E.1, 20, .inl (fun _ => 0)))] := hD
  refine lv_aload_n (pc := 12) hx hb dX2_init_12 rfl (lv_at hl 0 rfl) ?_
  refine lv_iconst (v := 0) (pc := 13) hx hb dX2_init_13 (by decide) ?_
  refine va_put (pc := 14) (v := .int 0) (ty := .int) hx hb hts inB2 tyX2 tyX2_ok nmX2 hown hK.1 hP hD hS 0 rfl rfl 1 (by decide) (hts _ wd_64) (fun _ h9 => h9) rfl (by decide +kernel) rfl rfl (Nat.le_of_ble_eq_true rfl) dX2_init_14 (fun H locs hP hD hS => ?_)
  have hP : va_P D vwCl [(h0, .inr (2, [.ref q1, .int 0, .int 0, .int 0, .int 0])), (q1, .inl (E.1, 20, .inl (fun _ => 0)))] H := hP
  have hD : va_D A [(h0, .inr (2, [.ref q1, .int 0, .int 0, .int 0, .int 0])), (q1, .inl (E.1, 20, .inl (fun _ => 0)))] := hD
  refine lv_aload_n (pc := 17) hx hb dX2_init_17 rfl (lv_at hl 0 rfl) ?_
  refine lv_iconst (v := 0) (pc := 18) hx hb dX2_init_18 (by decide) ?_
  refine va_put (pc := 19) (v := .int 0) (ty := .int) hx hb hts inB2 tyX2 tyX2_ok nmX2 hown hK.1 hP hD hS 0 rfl rfl 2 (by decide) (hts _ wd_66) (fun _ h9 => h9) rfl (by decide +kernel) rfl rfl (Nat.le_of_ble_eq_true rfl) dX2_init_19 (fun H locs hP hD hS => ?_)
  have hP : va_P D vwCl [(h0, .inr (2, [.ref q1, .int 0, .int 0, .int 0, .int 0])), (q1, .inl (E.1, 20, .inl (fun _ => 0)))] H := hP
  have hD : va_D A [(h0, .inr (2, [.ref q1, .int 0, .int 0, .int 0, .int 0])), (q1, .inl (E.1, 20, .inl (fun _ => 0)))] := hD
  refine lv_aload_n (pc := 22) hx hb dX2_init_22 rfl (lv_at hl 0 rfl) ?_
  refine lv_iconst (v := 0) (pc := 23) hx hb dX2_init_23 (by decide) ?_
  refine va_put (pc := 24) (v := .int 0) (ty := .int) hx hb hts inB2 tyX2 tyX2_ok nmX2 hown hK.1 hP hD hS 0 rfl rfl 3 (by decide) (hts _ wd_68) (fun _ h9 => h9) rfl (by decide +kernel) rfl rfl (Nat.le_of_ble_eq_true rfl) dX2_init_24 (fun H locs hP hD hS => ?_)
  have hP : va_P D vwCl [(h0, .inr (2, [.ref q1, .int 0, .int 0, .int 0, .int 0])), (q1, .inl (E.1, 20, .inl (fun _ => 0)))] H := hP
  have hD : va_D A [(h0, .inr (2, [.ref q1, .int 0, .int 0, .int 0, .int 0])), (q1, .inl (E.1, 20, .inl (fun _ => 0)))] := hD
  refine lv_aload_n (pc := 27) hx hb dX2_init_27 rfl (lv_at hl 0 rfl) ?_
  refine lv_iconst (v := 0) (pc := 28) hx hb dX2_init_28 (by decide) ?_
  refine va_put (pc := 29) (v := .int 0) (ty := .int) hx hb hts inB2 tyX2 tyX2_ok nmX2 hown hK.1 hP hD hS 0 rfl rfl 4 (by decide) (hts _ wd_70) (fun _ h9 => h9) rfl (by decide +kernel) rfl rfl (Nat.le_of_ble_eq_true rfl) dX2_init_29 (fun H locs hP hD hS => ?_)
  have hP : va_P D vwCl [(h0, .inr (2, [.ref q1, .int 0, .int 0, .int 0, .int 0])), (q1, .inl (E.1, 20, .inl (fun _ => 0)))] H := hP
  have hD : va_D A [(h0, .inr (2, [.ref q1, .int 0, .int 0, .int 0, .int 0])), (q1, .inl (E.1, 20, .inl (fun _ => 0)))] := hD
  exact W.vret hx hb hr (fun t ht hW => ⟨⟨(fun k => match k with | 0 => h0 | _ => q1), rfl, rfl, by subst ht; exact ⟨hP, hD⟩⟩, hS.F ht⟩) hS.2.2 dX2_init_32
def wCho (E : bE) (a : Nat → Nat) : va_W := [((a 0), .inr (1, [.ref (a 1), .int 0, .int 0])), ((a 1), .inl (E.1, 6, .inl (fun _ => 0)))]
theorem c_X1_init {l : Launch} {D : va_G} {E : bE} (h0 sz : Nat) : cN l D E yX1_init cX1_init 1 1 1 6 12 h0 sz (.inr (1, [.null, .int 0, .int 0])) [] (fun a => a 0 = h0) (wCho E) := by
  refine cN_of (by decide) (Nat.le_of_ble_eq_true rfl) rfl ?_
  intro p e s m args below meth c A C hin hA hP hD hS ls hl
  obtain ⟨hx, hb, hml, hown, hts, hK, hr, hlocks⟩ := id C
  refine lv_aload_n (pc := 0) hx hb dX1_init_0 rfl (lv_at hl 0 rfl) ?_
  refine W.objInit hx hb hown (hts _ wd_196) (hts _ wd_55) (hts _ wd_56) rfl (by rw [hml]; exact hl.1) rfl dX1_init_1 (Nat.le_of_ble_eq_true rfl) (Nat.le_of_ble_eq_true rfl) ?_
  refine W.eq (g2 := F0 m 4 ls []) rfl ?_
  refine lv_aload_n (pc := 4) hx hb dX1_init_4 rfl (lv_at hl 0 rfl) ?_
  refine lv_bipush (v := 6) (pc := 5) hx hb dX1_init_5 (by decide) ?_
  refine r_newI (pc := 7) 6 hx hb hts wd_83 hK hP hD hS hA (by decide) (by decide) (by decide) (Nat.le_of_ble_eq_true rfl) (Nat.le_of_ble_eq_true rfl) dX1_init_7 (fun q1 H hP hD hS => ?_)
  have hP : va_P D vwCl [(h0, .inr (1, [.null, .int 0, .int 0])), (q1, .inl (E.1, 6, .inl (fun _ => 0)))] H := hP
  have hD : va_D A [(h0, .inr (1, [.null, .int 0, .int 0])), (q1, .inl (E.1, 6, .inl (fun _ => 0)))] := hD
  refine va_putF (pc := 9) (v := .ref q1) (ty := (.array .int)) hx hb hts inB1 tyX1 tyX1_ok nmX1 hown hK.1 hP hD hS 0 rfl rfl 0 (by decide) (hts _ wd_197) (fun _ h9 => h9) rfl hin rfl (by decide +kernel) rfl rfl (Nat.le_of_ble_eq_true rfl) dX1_init_9 (fun H locs hP hD hS => ?_)
  have hP : va_P D vwCl [(h0, .inr (1, [.ref q1, .int 0, .int 0])), (q1, .inl (E.1, 6, .inl (fun _ => 0)))] H := hP
  have hD : va_D A [(h0, .inr (1, [.ref q1, .int 0, .int 0])), (q1, .inl (E.1, 6, .inl (fun _ => 0)))] := hD
  refine lv_aload_n (pc := 12) hx hb dX1_init_12 rfl (lv_at hl 0 rfl) ?_
  refine lv_iconst (v := 0) (pc := 13) hx hb dX1_init_13 (by decide) ?_
  refine va_put (pc := 14) (v := .int 0) (ty := .int) hx hb hts inB1 tyX1 tyX1_ok nmX1 hown hK.1 hP hD hS 0 rfl rfl 1 (by decide) (hts _ wd_200) (fun _ h9 => h9) rfl (by decide +kernel) rfl rfl (Nat.le_of_ble_eq_true rfl) dX1_init_14 (fun H locs hP hD hS => ?_)
  have hP : va_P D vwCl [(h0, .inr (1, [.ref q1, .int 0, .int 0])), (q1, .inl (E.1, 6, .inl (fun _ => 0)))] H := hP
  have hD : va_D A [(h0, .inr (1, [.ref q1, .int 0, .int 0])), (q1, .inl (E.1, 6, .inl (fun _ => 0)))] := hD
  refine lv_aload_n (pc := 17) hx hb dX1_init_17 rfl (lv_at hl 0 rfl) ?_
  refine lv_iconst (v := 0) (pc := 18) hx hb dX1_init_18 (by decide) ?_
  refine va_put (pc := 19) (v := .int 0) (ty := .int) hx hb hts inB1 tyX1 tyX1_ok nmX1 hown hK.1 hP hD hS 0 rfl rfl 2 (by decide) (hts _ wd_203) (fun _ h9 => h9) rfl (by decide +kernel) rfl rfl (Nat.le_of_ble_eq_true rfl) dX1_init_19 (fun H locs hP hD hS => ?_)
  have hP : va_P D vwCl [(h0, .inr (1, [.ref q1, .int 0, .int 0])), (q1, .inl (E.1, 6, .inl (fun _ => 0)))] H := hP
  have hD : va_D A [(h0, .inr (1, [.ref q1, .int 0, .int 0])), (q1, .inl (E.1, 6, .inl (fun _ => 0)))] := hD
  exact W.vret hx hb hr (fun t ht hW => ⟨⟨(fun k => match k with | 0 => h0 | _ => q1), rfl, rfl, by subst ht; exact ⟨hP, hD⟩⟩, hS.F ht⟩) hS.2.2 dX1_init_22
def wWeb (E : bE) (b : Nat) (a : Nat → Nat) : va_W := [((a 0), .inr (3, [.ref b, .ref (a 1), .ref (a 2), .ref (a 3), .int 0, .int 0, .ref (a 4), .ref (a 5), .ref (a 6), .ref (a 7), .ref (a 8), .ref (a 9), .ref (a 10)])), ((a 1), .inl (E.1, 6, .inl (fun _ => 0))), ((a 2), .inl (E.1, 6, .inl (fun _ => 0))), ((a 3), .inl (E.1, 6, .inl (fun _ => 0))), ((a 4), .inl (E.1, 36, .inl (fun _ => 0))), ((a 5), .inl (E.1, 30, .inl (fun _ => 0))), ((a 6), .inl (E.1, 30, .inl (fun _ => 0))), ((a 7), .inl (E.1, 4, .inl (fun _ => 0))), ((a 8), .inl (E.1, 6, .inl (fun _ => 0))), ((a 9), .inl (E.1, 32, .inl (fun _ => 0))), ((a 10), .inl (E.1, 32, .inl (fun _ => 0)))]
theorem c_X3_init {l : Launch} {D : va_G} {E : bE} (h0 sz : Nat) (b : Nat) : cN l D E yX3_init cX3_init 2 1 10 188 12 h0 sz (.inr (3, [.null, .null, .null, .null, .int 0, .int 0, .null, .null, .null, .null, .null, .null, .null])) [.ref b] (fun a => a 0 = h0) (wWeb E b) := by
  refine cN_of (by decide) (Nat.le_of_ble_eq_true rfl) rfl ?_
  intro p e s m args below meth c A C hin hA hP hD hS ls hl
  obtain ⟨hx, hb, hml, hown, hts, hK, hr, hlocks⟩ := id C
  refine lv_aload_n (pc := 0) hx hb dX3_init_0 rfl (lv_at hl 0 rfl) ?_
  refine W.objInit hx hb hown (hts _ wd_145) (hts _ wd_55) (hts _ wd_56) rfl (by rw [hml]; exact hl.1) rfl dX3_init_1 (Nat.le_of_ble_eq_true rfl) (Nat.le_of_ble_eq_true rfl) ?_
  refine W.eq (g2 := F0 m 4 ls []) rfl ?_
  refine lv_aload_n (pc := 4) hx hb dX3_init_4 rfl (lv_at hl 0 rfl) ?_
  refine lv_bipush (v := 6) (pc := 5) hx hb dX3_init_5 (by decide) ?_
  refine r_newI (pc := 7) 6 hx hb hts wd_83 hK hP hD hS hA (by decide) (by decide) (by decide) (Nat.le_of_ble_eq_true rfl) (Nat.le_of_ble_eq_true rfl) dX3_init_7 (fun q1 H hP hD hS => ?_)
  have hP : va_P D vwCl [(h0, .inr (3, [.null, .null, .null, .null, .int 0, .int 0, .null, .null, .null, .null, .null, .null, .null])), (q1, .inl (E.1, 6, .inl (fun _ => 0)))] H := hP
  have hD : va_D A [(h0, .inr (3, [.null, .null, .null, .null, .int 0, .int 0, .null, .null, .null, .null, .null, .null, .null])), (q1, .inl (E.1, 6, .inl (fun _ => 0)))] := hD
  refine va_putF (pc := 9) (v := .ref q1) (ty := (.array .int)) hx hb hts inB3 tyX3 tyX3_ok nmX3 hown hK.1 hP hD hS 0 rfl rfl 1 (by decide) (hts _ wd_147) (fun _ h9 => h9) rfl hin rfl (by decide +kernel) rfl rfl (Nat.le_of_ble_eq_true rfl) dX3_init_9 (fun H locs hP hD hS => ?_)
  have hP : va_P D vwCl [(h0, .inr (3, [.null, .ref q1, .null, .null, .int 0, .int 0, .null, .null, .null, .null, .null, .null, .null])), (q1, .inl (E.1, 6, .inl (fun _ => 0)))] H := hP
  have hD : va_D A [(h0, .inr (3, [.null, .ref q1, .null, .null, .int 0, .int 0, .null, .null, .null, .null, .null, .null, .null])), (q1, .inl (E.1, 6, .inl (fun _ => 0)))] := hD
  refine lv_aload_n (pc := 12) hx hb dX3_init_12 rfl (lv_at hl 0 rfl) ?_
  refine lv_bipush (v := 6) (pc := 13) hx hb dX3_init_13 (by decide) ?_
  refine r_newI (pc := 15) 6 hx hb hts wd_83 hK hP hD hS hA (by decide) (by decide) (by decide) (Nat.le_of_ble_eq_true rfl) (Nat.le_of_ble_eq_true rfl) dX3_init_15 (fun q2 H hP hD hS => ?_)
  have hP : va_P D vwCl [(h0, .inr (3, [.null, .ref q1, .null, .null, .int 0, .int 0, .null, .null, .null, .null, .null, .null, .null])), (q1, .inl (E.1, 6, .inl (fun _ => 0))), (q2, .inl (E.1, 6, .inl (fun _ => 0)))] H := hP
  have hD : va_D A [(h0, .inr (3, [.null, .ref q1, .null, .null, .int 0, .int 0, .null, .null, .null, .null, .null, .null, .null])), (q1, .inl (E.1, 6, .inl (fun _ => 0))), (q2, .inl (E.1, 6, .inl (fun _ => 0)))] := hD
  refine va_putF (pc := 17) (v := .ref q2) (ty := (.array .int)) hx hb hts inB3 tyX3 tyX3_ok nmX3 hown hK.1 hP hD hS 0 rfl rfl 2 (by decide) (hts _ wd_149) (fun _ h9 => h9) rfl hin rfl (by decide +kernel) rfl rfl (Nat.le_of_ble_eq_true rfl) dX3_init_17 (fun H locs hP hD hS => ?_)
  have hP : va_P D vwCl [(h0, .inr (3, [.null, .ref q1, .ref q2, .null, .int 0, .int 0, .null, .null, .null, .null, .null, .null, .null])), (q1, .inl (E.1, 6, .inl (fun _ => 0))), (q2, .inl (E.1, 6, .inl (fun _ => 0)))] H := hP
  have hD : va_D A [(h0, .inr (3, [.null, .ref q1, .ref q2, .null, .int 0, .int 0, .null, .null, .null, .null, .null, .null, .null])), (q1, .inl (E.1, 6, .inl (fun _ => 0))), (q2, .inl (E.1, 6, .inl (fun _ => 0)))] := hD
  refine lv_aload_n (pc := 20) hx hb dX3_init_20 rfl (lv_at hl 0 rfl) ?_
  refine lv_bipush (v := 6) (pc := 21) hx hb dX3_init_21 (by decide) ?_
  refine r_newI (pc := 23) 6 hx hb hts wd_83 hK hP hD hS hA (by decide) (by decide) (by decide) (Nat.le_of_ble_eq_true rfl) (Nat.le_of_ble_eq_true rfl) dX3_init_23 (fun q3 H hP hD hS => ?_)
  have hP : va_P D vwCl [(h0, .inr (3, [.null, .ref q1, .ref q2, .null, .int 0, .int 0, .null, .null, .null, .null, .null, .null, .null])), (q1, .inl (E.1, 6, .inl (fun _ => 0))), (q2, .inl (E.1, 6, .inl (fun _ => 0))), (q3, .inl (E.1, 6, .inl (fun _ => 0)))] H := hP
  have hD : va_D A [(h0, .inr (3, [.null, .ref q1, .ref q2, .null, .int 0, .int 0, .null, .null, .null, .null, .null, .null, .null])), (q1, .inl (E.1, 6, .inl (fun _ => 0))), (q2, .inl (E.1, 6, .inl (fun _ => 0))), (q3, .inl (E.1, 6, .inl (fun _ => 0)))] := hD
  refine va_putF (pc := 25) (v := .ref q3) (ty := (.array .int)) hx hb hts inB3 tyX3 tyX3_ok nmX3 hown hK.1 hP hD hS 0 rfl rfl 3 (by decide) (hts _ wd_151) (fun _ h9 => h9) rfl hin rfl (by decide +kernel) rfl rfl (Nat.le_of_ble_eq_true rfl) dX3_init_25 (fun H locs hP hD hS => ?_)
  have hP : va_P D vwCl [(h0, .inr (3, [.null, .ref q1, .ref q2, .ref q3, .int 0, .int 0, .null, .null, .null, .null, .null, .null, .null])), (q1, .inl (E.1, 6, .inl (fun _ => 0))), (q2, .inl (E.1, 6, .inl (fun _ => 0))), (q3, .inl (E.1, 6, .inl (fun _ => 0)))] H := hP
  have hD : va_D A [(h0, .inr (3, [.null, .ref q1, .ref q2, .ref q3, .int 0, .int 0, .null, .null, .null, .null, .null, .null, .null])), (q1, .inl (E.1, 6, .inl (fun _ => 0))), (q2, .inl (E.1, 6, .inl (fun _ => 0))), (q3, .inl (E.1, 6, .inl (fun _ => 0)))] := hD
  refine lv_aload_n (pc := 28) hx hb dX3_init_28 rfl (lv_at hl 0 rfl) ?_
  refine lv_iconst (v := 0) (pc := 29) hx hb dX3_init_29 (by decide) ?_
  refine va_put (pc := 30) (v := .int 0) (ty := .int) hx hb hts inB3 tyX3 tyX3_ok nmX3 hown hK.1 hP hD hS 0 rfl rfl 4 (by decide) (hts _ wd_153) (fun _ h9 => h9) rfl (by decide +kernel) rfl rfl (Nat.le_of_ble_eq_true rfl) dX3_init_30 (fun H locs hP hD hS => ?_)
  have hP : va_P D vwCl [(h0, .inr (3, [.null, .ref q1, .ref q2, .ref q3, .int 0, .int 0, .null, .null, .null, .null, .null, .null, .null])), (q1, .inl (E.1, 6, .inl (fun _ => 0))), (q2, .inl (E.1, 6, .inl (fun _ => 0))), (q3, .inl (E.1, 6, .inl (fun _ => 0)))] H := hP
  have hD : va_D A [(h0, .inr (3, [.null, .ref q1, .ref q2, .ref q3, .int 0, .int 0, .null, .null, .null, .null, .null, .null, .null])), (q1, .inl (E.1, 6, .inl (fun _ => 0))), (q2, .inl (E.1, 6, .inl (fun _ => 0))), (q3, .inl (E.1, 6, .inl (fun _ => 0)))] := hD
  refine lv_aload_n (pc := 33) hx hb dX3_init_33 rfl (lv_at hl 0 rfl) ?_
  refine lv_iconst (v := 0) (pc := 34) hx hb dX3_init_34 (by decide) ?_
  refine va_put (pc := 35) (v := .int 0) (ty := .int) hx hb hts inB3 tyX3 tyX3_ok nmX3 hown hK.1 hP hD hS 0 rfl rfl 5 (by decide) (hts _ wd_155) (fun _ h9 => h9) rfl (by decide +kernel) rfl rfl (Nat.le_of_ble_eq_true rfl) dX3_init_35 (fun H locs hP hD hS => ?_)
  have hP : va_P D vwCl [(h0, .inr (3, [.null, .ref q1, .ref q2, .ref q3, .int 0, .int 0, .null, .null, .null, .null, .null, .null, .null])), (q1, .inl (E.1, 6, .inl (fun _ => 0))), (q2, .inl (E.1, 6, .inl (fun _ => 0))), (q3, .inl (E.1, 6, .inl (fun _ => 0)))] H := hP
  have hD : va_D A [(h0, .inr (3, [.null, .ref q1, .ref q2, .ref q3, .int 0, .int 0, .null, .null, .null, .null, .null, .null, .null])), (q1, .inl (E.1, 6, .inl (fun _ => 0))), (q2, .inl (E.1, 6, .inl (fun _ => 0))), (q3, .inl (E.1, 6, .inl (fun _ => 0)))] := hD
  refine lv_aload_n (pc := 38) hx hb dX3_init_38 rfl (lv_at hl 0 rfl) ?_
  refine lv_bipush (v := 36) (pc := 39) hx hb dX3_init_39 (by decide) ?_
  refine r_newI (pc := 41) 36 hx hb hts wd_83 hK hP hD hS hA (by decide) (by decide) (by decide) (Nat.le_of_ble_eq_true rfl) (Nat.le_of_ble_eq_true rfl) dX3_init_41 (fun q4 H hP hD hS => ?_)
  have hP : va_P D vwCl [(h0, .inr (3, [.null, .ref q1, .ref q2, .ref q3, .int 0, .int 0, .null, .null, .null, .null, .null, .null, .null])), (q1, .inl (E.1, 6, .inl (fun _ => 0))), (q2, .inl (E.1, 6, .inl (fun _ => 0))), (q3, .inl (E.1, 6, .inl (fun _ => 0))), (q4, .inl (E.1, 36, .inl (fun _ => 0)))] H := hP
  have hD : va_D A [(h0, .inr (3, [.null, .ref q1, .ref q2, .ref q3, .int 0, .int 0, .null, .null, .null, .null, .null, .null, .null])), (q1, .inl (E.1, 6, .inl (fun _ => 0))), (q2, .inl (E.1, 6, .inl (fun _ => 0))), (q3, .inl (E.1, 6, .inl (fun _ => 0))), (q4, .inl (E.1, 36, .inl (fun _ => 0)))] := hD
  refine va_putF (pc := 43) (v := .ref q4) (ty := (.array .int)) hx hb hts inB3 tyX3 tyX3_ok nmX3 hown hK.1 hP hD hS 0 rfl rfl 6 (by decide) (hts _ wd_157) (fun _ h9 => h9) rfl hin rfl (by decide +kernel) rfl rfl (Nat.le_of_ble_eq_true rfl) dX3_init_43 (fun H locs hP hD hS => ?_)
  have hP : va_P D vwCl [(h0, .inr (3, [.null, .ref q1, .ref q2, .ref q3, .int 0, .int 0, .ref q4, .null, .null, .null, .null, .null, .null])), (q1, .inl (E.1, 6, .inl (fun _ => 0))), (q2, .inl (E.1, 6, .inl (fun _ => 0))), (q3, .inl (E.1, 6, .inl (fun _ => 0))), (q4, .inl (E.1, 36, .inl (fun _ => 0)))] H := hP
  have hD : va_D A [(h0, .inr (3, [.null, .ref q1, .ref q2, .ref q3, .int 0, .int 0, .ref q4, .null, .null, .null, .null, .null, .null])), (q1, .inl (E.1, 6, .inl (fun _ => 0))), (q2, .inl (E.1, 6, .inl (fun _ => 0))), (q3, .inl (E.1, 6, .inl (fun _ => 0))), (q4, .inl (E.1, 36, .inl (fun _ => 0)))] := hD
  refine lv_aload_n (pc := 46) hx hb dX3_init_46 rfl (lv_at hl 0 rfl) ?_
  refine lv_bipush (v := 30) (pc := 47) hx hb dX3_init_47 (by decide) ?_
  refine r_newI (pc := 49) 30 hx hb hts wd_83 hK hP hD hS hA (by decide) (by decide) (by decide) (Nat.le_of_ble_eq_true rfl) (Nat.le_of_ble_eq_true rfl) dX3_init_49 (fun q5 H hP hD hS => ?_)
  have hP : va_P D vwCl [(h0, .inr (3, [.null, .ref q1, .ref q2, .ref q3, .int 0, .int 0, .ref q4, .null, .null, .null, .null, .null, .null])), (q1, .inl (E.1, 6, .inl (fun _ => 0))), (q2, .inl (E.1, 6, .inl (fun _ => 0))), (q3, .inl (E.1, 6, .inl (fun _ => 0))), (q4, .inl (E.1, 36, .inl (fun _ => 0))), (q5, .inl (E.1, 30, .inl (fun _ => 0)))] H := hP
  have hD : va_D A [(h0, .inr (3, [.null, .ref q1, .ref q2, .ref q3, .int 0, .int 0, .ref q4, .null, .null, .null, .null, .null, .null])), (q1, .inl (E.1, 6, .inl (fun _ => 0))), (q2, .inl (E.1, 6, .inl (fun _ => 0))), (q3, .inl (E.1, 6, .inl (fun _ => 0))), (q4, .inl (E.1, 36, .inl (fun _ => 0))), (q5, .inl (E.1, 30, .inl (fun _ => 0)))] := hD
  refine va_putF (pc := 51) (v := .ref q5) (ty := (.array .int)) hx hb hts inB3 tyX3 tyX3_ok nmX3 hown hK.1 hP hD hS 0 rfl rfl 7 (by decide) (hts _ wd_158) (fun _ h9 => h9) rfl hin rfl (by decide +kernel) rfl rfl (Nat.le_of_ble_eq_true rfl) dX3_init_51 (fun H locs hP hD hS => ?_)
  have hP : va_P D vwCl [(h0, .inr (3, [.null, .ref q1, .ref q2, .ref q3, .int 0, .int 0, .ref q4, .ref q5, .null, .null, .null, .null, .null])), (q1, .inl (E.1, 6, .inl (fun _ => 0))), (q2, .inl (E.1, 6, .inl (fun _ => 0))), (q3, .inl (E.1, 6, .inl (fun _ => 0))), (q4, .inl (E.1, 36, .inl (fun _ => 0))), (q5, .inl (E.1, 30, .inl (fun _ => 0)))] H := hP
  have hD : va_D A [(h0, .inr (3, [.null, .ref q1, .ref q2, .ref q3, .int 0, .int 0, .ref q4, .ref q5, .null, .null, .null, .null, .null])), (q1, .inl (E.1, 6, .inl (fun _ => 0))), (q2, .inl (E.1, 6, .inl (fun _ => 0))), (q3, .inl (E.1, 6, .inl (fun _ => 0))), (q4, .inl (E.1, 36, .inl (fun _ => 0))), (q5, .inl (E.1, 30, .inl (fun _ => 0)))] := hD
  refine lv_aload_n (pc := 54) hx hb dX3_init_54 rfl (lv_at hl 0 rfl) ?_
  refine lv_bipush (v := 30) (pc := 55) hx hb dX3_init_55 (by decide) ?_
  refine r_newI (pc := 57) 30 hx hb hts wd_83 hK hP hD hS hA (by decide) (by decide) (by decide) (Nat.le_of_ble_eq_true rfl) (Nat.le_of_ble_eq_true rfl) dX3_init_57 (fun q6 H hP hD hS => ?_)
  have hP : va_P D vwCl [(h0, .inr (3, [.null, .ref q1, .ref q2, .ref q3, .int 0, .int 0, .ref q4, .ref q5, .null, .null, .null, .null, .null])), (q1, .inl (E.1, 6, .inl (fun _ => 0))), (q2, .inl (E.1, 6, .inl (fun _ => 0))), (q3, .inl (E.1, 6, .inl (fun _ => 0))), (q4, .inl (E.1, 36, .inl (fun _ => 0))), (q5, .inl (E.1, 30, .inl (fun _ => 0))), (q6, .inl (E.1, 30, .inl (fun _ => 0)))] H := hP
  have hD : va_D A [(h0, .inr (3, [.null, .ref q1, .ref q2, .ref q3, .int 0, .int 0, .ref q4, .ref q5, .null, .null, .null, .null, .null])), (q1, .inl (E.1, 6, .inl (fun _ => 0))), (q2, .inl (E.1, 6, .inl (fun _ => 0))), (q3, .inl (E.1, 6, .inl (fun _ => 0))), (q4, .inl (E.1, 36, .inl (fun _ => 0))), (q5, .inl (E.1, 30, .inl (fun _ => 0))), (q6, .inl (E.1, 30, .inl (fun _ => 0)))] := hD
  refine va_putF (pc := 59) (v := .ref q6) (ty := (.array .int)) hx hb hts inB3 tyX3 tyX3_ok nmX3 hown hK.1 hP hD hS 0 rfl rfl 8 (by decide) (hts _ wd_159) (fun _ h9 => h9) rfl hin rfl (by decide +kernel) rfl rfl (Nat.le_of_ble_eq_true rfl) dX3_init_59 (fun H locs hP hD hS => ?_)
  have hP : va_P D vwCl [(h0, .inr (3, [.null, .ref q1, .ref q2, .ref q3, .int 0, .int 0, .ref q4, .ref q5, .ref q6, .null, .null, .null, .null])), (q1, .inl (E.1, 6, .inl (fun _ => 0))), (q2, .inl (E.1, 6, .inl (fun _ => 0))), (q3, .inl (E.1, 6, .inl (fun _ => 0))), (q4, .inl (E.1, 36, .inl (fun _ => 0))), (q5, .inl (E.1, 30, .inl (fun _ => 0))), (q6, .inl (E.1, 30, .inl (fun _ => 0)))] H := hP
  have hD : va_D A [(h0, .inr (3, [.null, .ref q1, .ref q2, .ref q3, .int 0, .int 0, .ref q4, .ref q5, .ref q6, .null, .null, .null, .null])), (q1, .inl (E.1, 6, .inl (fun _ => 0))), (q2, .inl (E.1, 6, .inl (fun _ => 0))), (q3, .inl (E.1, 6, .inl (fun _ => 0))), (q4, .inl (E.1, 36, .inl (fun _ => 0))), (q5, .inl (E.1, 30, .inl (fun _ => 0))), (q6, .inl (E.1, 30, .inl (fun _ => 0)))] := hD
  refine lv_aload_n (pc := 62) hx hb dX3_init_62 rfl (lv_at hl 0 rfl) ?_
  refine lv_iconst (v := 4) (pc := 63) hx hb dX3_init_63 (by decide) ?_
  refine r_newI (pc := 64) 4 hx hb hts wd_83 hK hP hD hS hA (by decide) (by decide) (by decide) (Nat.le_of_ble_eq_true rfl) (Nat.le_of_ble_eq_true rfl) dX3_init_64 (fun q7 H hP hD hS => ?_)
  have hP : va_P D vwCl [(h0, .inr (3, [.null, .ref q1, .ref q2, .ref q3, .int 0, .int 0, .ref q4, .ref q5, .ref q6, .null, .null, .null, .null])), (q1, .inl (E.1, 6, .inl (fun _ => 0))), (q2, .inl (E.1, 6, .inl (fun _ => 0))), (q3, .inl (E.1, 6, .inl (fun _ => 0))), (q4, .inl (E.1, 36, .inl (fun _ => 0))), (q5, .inl (E.1, 30, .inl (fun _ => 0))), (q6, .inl (E.1, 30, .inl (fun _ => 0))), (q7, .inl (E.1, 4, .inl (fun _ => 0)))] H := hP
  have hD : va_D A [(h0, .inr (3, [.null, .ref q1, .ref q2, .ref q3, .int 0, .int 0, .ref q4, .ref q5, .ref q6, .null, .null, .null, .null])), (q1, .inl (E.1, 6, .inl (fun _ => 0))), (q2, .inl (E.1, 6, .inl (fun _ => 0))), (q3, .inl (E.1, 6, .inl (fun _ => 0))), (q4, .inl (E.1, 36, .inl (fun _ => 0))), (q5, .inl (E.1, 30, .inl (fun _ => 0))), (q6, .inl (E.1, 30, .inl (fun _ => 0))), (q7, .inl (E.1, 4, .inl (fun _ => 0)))] := hD
  refine va_putF (pc := 66) (v := .ref q7) (ty := (.array .int)) hx hb hts inB3 tyX3 tyX3_ok nmX3 hown hK.1 hP hD hS 0 rfl rfl 9 (by decide) (hts _ wd_160) (fun _ h9 => h9) rfl hin rfl (by decide +kernel) rfl rfl (Nat.le_of_ble_eq_true rfl) dX3_init_66 (fun H locs hP hD hS => ?_)
  have hP : va_P D vwCl [(h0, .inr (3, [.null, .ref q1, .ref q2, .ref q3, .int 0, .int 0, .ref q4, .ref q5, .ref q6, .ref q7, .null, .null, .null])), (q1, .inl (E.1, 6, .inl (fun _ => 0))), (q2, .inl (E.1, 6, .inl (fun _ => 0))), (q3, .inl (E.1, 6, .inl (fun _ => 0))), (q4, .inl (E.1, 36, .inl (fun _ => 0))), (q5, .inl (E.1, 30, .inl (fun _ => 0))), (q6, .inl (E.1, 30, .inl (fun _ => 0))), (q7, .inl (E.1, 4, .inl (fun _ => 0)))] H := hP
  have hD : va_D A [(h0, .inr (3, [.null, .ref q1, .ref q2, .ref q3, .int 0, .int 0, .ref q4, .ref q5, .ref q6, .ref q7, .null, .null, .null])), (q1, .inl (E.1, 6, .inl (fun _ => 0))), (q2, .inl (E.1, 6, .inl (fun _ => 0))), (q3, .inl (E.1, 6, .inl (fun _ => 0))), (q4, .inl (E.1, 36, .inl (fun _ => 0))), (q5, .inl (E.1, 30, .inl (fun _ => 0))), (q6, .inl (E.1, 30, .inl (fun _ => 0))), (q7, .inl (E.1, 4, .inl (fun _ => 0)))] := hD
  refine lv_aload_n (pc := 69) hx hb dX3_init_69 rfl (lv_at hl 0 rfl) ?_
  refine lv_bipush (v := 6) (pc := 70) hx hb dX3_init_70 (by decide) ?_
  refine r_newI (pc := 72) 6 hx hb hts wd_83 hK hP hD hS hA (by decide) (by decide) (by decide) (Nat.le_of_ble_eq_true rfl) (Nat.le_of_ble_eq_true rfl) dX3_init_72 (fun q8 H hP hD hS => ?_)
  have hP : va_P D vwCl [(h0, .inr (3, [.null, .ref q1, .ref q2, .ref q3, .int 0, .int 0, .ref q4, .ref q5, .ref q6, .ref q7, .null, .null, .null])), (q1, .inl (E.1, 6, .inl (fun _ => 0))), (q2, .inl (E.1, 6, .inl (fun _ => 0))), (q3, .inl (E.1, 6, .inl (fun _ => 0))), (q4, .inl (E.1, 36, .inl (fun _ => 0))), (q5, .inl (E.1, 30, .inl (fun _ => 0))), (q6, .inl (E.1, 30, .inl (fun _ => 0))), (q7, .inl (E.1, 4, .inl (fun _ => 0))), (q8, .inl (E.1, 6, .inl (fun _ => 0)))] H := hP
  have hD : va_D A [(h0, .inr (3, [.null, .ref q1, .ref q2, .ref q3, .int 0, .int 0, .ref q4, .ref q5, .ref q6, .ref q7, .null, .null, .null])), (q1, .inl (E.1, 6, .inl (fun _ => 0))), (q2, .inl (E.1, 6, .inl (fun _ => 0))), (q3, .inl (E.1, 6, .inl (fun _ => 0))), (q4, .inl (E.1, 36, .inl (fun _ => 0))), (q5, .inl (E.1, 30, .inl (fun _ => 0))), (q6, .inl (E.1, 30, .inl (fun _ => 0))), (q7, .inl (E.1, 4, .inl (fun _ => 0))), (q8, .inl (E.1, 6, .inl (fun _ => 0)))] := hD
  refine va_putF (pc := 74) (v := .ref q8) (ty := (.array .int)) hx hb hts inB3 tyX3 tyX3_ok nmX3 hown hK.1 hP hD hS 0 rfl rfl 10 (by decide) (hts _ wd_161) (fun _ h9 => h9) rfl hin rfl (by decide +kernel) rfl rfl (Nat.le_of_ble_eq_true rfl) dX3_init_74 (fun H locs hP hD hS => ?_)
  have hP : va_P D vwCl [(h0, .inr (3, [.null, .ref q1, .ref q2, .ref q3, .int 0, .int 0, .ref q4, .ref q5, .ref q6, .ref q7, .ref q8, .null, .null])), (q1, .inl (E.1, 6, .inl (fun _ => 0))), (q2, .inl (E.1, 6, .inl (fun _ => 0))), (q3, .inl (E.1, 6, .inl (fun _ => 0))), (q4, .inl (E.1, 36, .inl (fun _ => 0))), (q5, .inl (E.1, 30, .inl (fun _ => 0))), (q6, .inl (E.1, 30, .inl (fun _ => 0))), (q7, .inl (E.1, 4, .inl (fun _ => 0))), (q8, .inl (E.1, 6, .inl (fun _ => 0)))] H := hP
  have hD : va_D A [(h0, .inr (3, [.null, .ref q1, .ref q2, .ref q3, .int 0, .int 0, .ref q4, .ref q5, .ref q6, .ref q7, .ref q8, .null, .null])), (q1, .inl (E.1, 6, .inl (fun _ => 0))), (q2, .inl (E.1, 6, .inl (fun _ => 0))), (q3, .inl (E.1, 6, .inl (fun _ => 0))), (q4, .inl (E.1, 36, .inl (fun _ => 0))), (q5, .inl (E.1, 30, .inl (fun _ => 0))), (q6, .inl (E.1, 30, .inl (fun _ => 0))), (q7, .inl (E.1, 4, .inl (fun _ => 0))), (q8, .inl (E.1, 6, .inl (fun _ => 0)))] := hD
  refine lv_aload_n (pc := 77) hx hb dX3_init_77 rfl (lv_at hl 0 rfl) ?_
  refine lv_bipush (v := 32) (pc := 78) hx hb dX3_init_78 (by decide) ?_
  refine r_newI (pc := 80) 32 hx hb hts wd_83 hK hP hD hS hA (by decide) (by decide) (by decide) (Nat.le_of_ble_eq_true rfl) (Nat.le_of_ble_eq_true rfl) dX3_init_80 (fun q9 H hP hD hS => ?_)
  have hP : va_P D vwCl [(h0, .inr (3, [.null, .ref q1, .ref q2, .ref q3, .int 0, .int 0, .ref q4, .ref q5, .ref q6, .ref q7, .ref q8, .null, .null])), (q1, .inl (E.1, 6, .inl (fun _ => 0))), (q2, .inl (E.1, 6, .inl (fun _ => 0))), (q3, .inl (E.1, 6, .inl (fun _ => 0))), (q4, .inl (E.1, 36, .inl (fun _ => 0))), (q5, .inl (E.1, 30, .inl (fun _ => 0))), (q6, .inl (E.1, 30, .inl (fun _ => 0))), (q7, .inl (E.1, 4, .inl (fun _ => 0))), (q8, .inl (E.1, 6, .inl (fun _ => 0))), (q9, .inl (E.1, 32, .inl (fun _ => 0)))] H := hP
  have hD : va_D A [(h0, .inr (3, [.null, .ref q1, .ref q2, .ref q3, .int 0, .int 0, .ref q4, .ref q5, .ref q6, .ref q7, .ref q8, .null, .null])), (q1, .inl (E.1, 6, .inl (fun _ => 0))), (q2, .inl (E.1, 6, .inl (fun _ => 0))), (q3, .inl (E.1, 6, .inl (fun _ => 0))), (q4, .inl (E.1, 36, .inl (fun _ => 0))), (q5, .inl (E.1, 30, .inl (fun _ => 0))), (q6, .inl (E.1, 30, .inl (fun _ => 0))), (q7, .inl (E.1, 4, .inl (fun _ => 0))), (q8, .inl (E.1, 6, .inl (fun _ => 0))), (q9, .inl (E.1, 32, .inl (fun _ => 0)))] := hD
  refine va_put (pc := 82) (v := .ref q9) (ty := (.array .int)) hx hb hts inB3 tyX3 tyX3_ok nmX3 hown hK.1 hP hD hS 0 rfl rfl 11 (by decide) (hts _ wd_162) (fun _ h9 => h9) rfl (by decide +kernel) rfl rfl (Nat.le_of_ble_eq_true rfl) dX3_init_82 (fun H locs hP hD hS => ?_)
  have hP : va_P D vwCl [(h0, .inr (3, [.null, .ref q1, .ref q2, .ref q3, .int 0, .int 0, .ref q4, .ref q5, .ref q6, .ref q7, .ref q8, .ref q9, .null])), (q1, .inl (E.1, 6, .inl (fun _ => 0))), (q2, .inl (E.1, 6, .inl (fun _ => 0))), (q3, .inl (E.1, 6, .inl (fun _ => 0))), (q4, .inl (E.1, 36, .inl (fun _ => 0))), (q5, .inl (E.1, 30, .inl (fun _ => 0))), (q6, .inl (E.1, 30, .inl (fun _ => 0))), (q7, .inl (E.1, 4, .inl (fun _ => 0))), (q8, .inl (E.1, 6, .inl (fun _ => 0))), (q9, .inl (E.1, 32, .inl (fun _ => 0)))] H := hP
  have hD : va_D A [(h0, .inr (3, [.null, .ref q1, .ref q2, .ref q3, .int 0, .int 0, .ref q4, .ref q5, .ref q6, .ref q7, .ref q8, .ref q9, .null])), (q1, .inl (E.1, 6, .inl (fun _ => 0))), (q2, .inl (E.1, 6, .inl (fun _ => 0))), (q3, .inl (E.1, 6, .inl (fun _ => 0))), (q4, .inl (E.1, 36, .inl (fun _ => 0))), (q5, .inl (E.1, 30, .inl (fun _ => 0))), (q6, .inl (E.1, 30, .inl (fun _ => 0))), (q7, .inl (E.1, 4, .inl (fun _ => 0))), (q8, .inl (E.1, 6, .inl (fun _ => 0))), (q9, .inl (E.1, 32, .inl (fun _ => 0)))] := hD
  refine lv_aload_n (pc := 85) hx hb dX3_init_85 rfl (lv_at hl 0 rfl) ?_
  refine lv_bipush (v := 32) (pc := 86) hx hb dX3_init_86 (by decide) ?_
  refine r_newI (pc := 88) 32 hx hb hts wd_83 hK hP hD hS hA (by decide) (by decide) (by decide) (Nat.le_of_ble_eq_true rfl) (Nat.le_of_ble_eq_true rfl) dX3_init_88 (fun q10 H hP hD hS => ?_)
  have hP : va_P D vwCl [(h0, .inr (3, [.null, .ref q1, .ref q2, .ref q3, .int 0, .int 0, .ref q4, .ref q5, .ref q6, .ref q7, .ref q8, .ref q9, .null])), (q1, .inl (E.1, 6, .inl (fun _ => 0))), (q2, .inl (E.1, 6, .inl (fun _ => 0))), (q3, .inl (E.1, 6, .inl (fun _ => 0))), (q4, .inl (E.1, 36, .inl (fun _ => 0))), (q5, .inl (E.1, 30, .inl (fun _ => 0))), (q6, .inl (E.1, 30, .inl (fun _ => 0))), (q7, .inl (E.1, 4, .inl (fun _ => 0))), (q8, .inl (E.1, 6, .inl (fun _ => 0))), (q9, .inl (E.1, 32, .inl (fun _ => 0))), (q10, .inl (E.1, 32, .inl (fun _ => 0)))] H := hP
  have hD : va_D A [(h0, .inr (3, [.null, .ref q1, .ref q2, .ref q3, .int 0, .int 0, .ref q4, .ref q5, .ref q6, .ref q7, .ref q8, .ref q9, .null])), (q1, .inl (E.1, 6, .inl (fun _ => 0))), (q2, .inl (E.1, 6, .inl (fun _ => 0))), (q3, .inl (E.1, 6, .inl (fun _ => 0))), (q4, .inl (E.1, 36, .inl (fun _ => 0))), (q5, .inl (E.1, 30, .inl (fun _ => 0))), (q6, .inl (E.1, 30, .inl (fun _ => 0))), (q7, .inl (E.1, 4, .inl (fun _ => 0))), (q8, .inl (E.1, 6, .inl (fun _ => 0))), (q9, .inl (E.1, 32, .inl (fun _ => 0))), (q10, .inl (E.1, 32, .inl (fun _ => 0)))] := hD
  refine va_put (pc := 90) (v := .ref q10) (ty := (.array .int)) hx hb hts inB3 tyX3 tyX3_ok nmX3 hown hK.1 hP hD hS 0 rfl rfl 12 (by decide) (hts _ wd_163) (fun _ h9 => h9) rfl (by decide +kernel) rfl rfl (Nat.le_of_ble_eq_true rfl) dX3_init_90 (fun H locs hP hD hS => ?_)
  have hP : va_P D vwCl [(h0, .inr (3, [.null, .ref q1, .ref q2, .ref q3, .int 0, .int 0, .ref q4, .ref q5, .ref q6, .ref q7, .ref q8, .ref q9, .ref q10])), (q1, .inl (E.1, 6, .inl (fun _ => 0))), (q2, .inl (E.1, 6, .inl (fun _ => 0))), (q3, .inl (E.1, 6, .inl (fun _ => 0))), (q4, .inl (E.1, 36, .inl (fun _ => 0))), (q5, .inl (E.1, 30, .inl (fun _ => 0))), (q6, .inl (E.1, 30, .inl (fun _ => 0))), (q7, .inl (E.1, 4, .inl (fun _ => 0))), (q8, .inl (E.1, 6, .inl (fun _ => 0))), (q9, .inl (E.1, 32, .inl (fun _ => 0))), (q10, .inl (E.1, 32, .inl (fun _ => 0)))] H := hP
  have hD : va_D A [(h0, .inr (3, [.null, .ref q1, .ref q2, .ref q3, .int 0, .int 0, .ref q4, .ref q5, .ref q6, .ref q7, .ref q8, .ref q9, .ref q10])), (q1, .inl (E.1, 6, .inl (fun _ => 0))), (q2, .inl (E.1, 6, .inl (fun _ => 0))), (q3, .inl (E.1, 6, .inl (fun _ => 0))), (q4, .inl (E.1, 36, .inl (fun _ => 0))), (q5, .inl (E.1, 30, .inl (fun _ => 0))), (q6, .inl (E.1, 30, .inl (fun _ => 0))), (q7, .inl (E.1, 4, .inl (fun _ => 0))), (q8, .inl (E.1, 6, .inl (fun _ => 0))), (q9, .inl (E.1, 32, .inl (fun _ => 0))), (q10, .inl (E.1, 32, .inl (fun _ => 0)))] := hD
  refine lv_aload_n (pc := 93) hx hb dX3_init_93 rfl (lv_at hl 0 rfl) ?_
  refine lv_aload_n (pc := 94) hx hb dX3_init_94 rfl (lv_at hl 1 rfl) ?_
  refine va_putF (pc := 95) (v := .ref b) (ty := (.object "UnderTerms$Book")) hx hb hts inB3 tyX3 tyX3_ok nmX3 hown hK.1 hP hD hS 0 rfl rfl 0 (by decide) (hts _ wd_146) (fun _ h9 => h9) rfl hin rfl (by decide +kernel) rfl rfl (Nat.le_of_ble_eq_true rfl) dX3_init_95 (fun H locs hP hD hS => ?_)
  have hP : va_P D vwCl [(h0, .inr (3, [.ref b, .ref q1, .ref q2, .ref q3, .int 0, .int 0, .ref q4, .ref q5, .ref q6, .ref q7, .ref q8, .ref q9, .ref q10])), (q1, .inl (E.1, 6, .inl (fun _ => 0))), (q2, .inl (E.1, 6, .inl (fun _ => 0))), (q3, .inl (E.1, 6, .inl (fun _ => 0))), (q4, .inl (E.1, 36, .inl (fun _ => 0))), (q5, .inl (E.1, 30, .inl (fun _ => 0))), (q6, .inl (E.1, 30, .inl (fun _ => 0))), (q7, .inl (E.1, 4, .inl (fun _ => 0))), (q8, .inl (E.1, 6, .inl (fun _ => 0))), (q9, .inl (E.1, 32, .inl (fun _ => 0))), (q10, .inl (E.1, 32, .inl (fun _ => 0)))] H := hP
  have hD : va_D A [(h0, .inr (3, [.ref b, .ref q1, .ref q2, .ref q3, .int 0, .int 0, .ref q4, .ref q5, .ref q6, .ref q7, .ref q8, .ref q9, .ref q10])), (q1, .inl (E.1, 6, .inl (fun _ => 0))), (q2, .inl (E.1, 6, .inl (fun _ => 0))), (q3, .inl (E.1, 6, .inl (fun _ => 0))), (q4, .inl (E.1, 36, .inl (fun _ => 0))), (q5, .inl (E.1, 30, .inl (fun _ => 0))), (q6, .inl (E.1, 30, .inl (fun _ => 0))), (q7, .inl (E.1, 4, .inl (fun _ => 0))), (q8, .inl (E.1, 6, .inl (fun _ => 0))), (q9, .inl (E.1, 32, .inl (fun _ => 0))), (q10, .inl (E.1, 32, .inl (fun _ => 0)))] := hD
  exact W.vret hx hb hr (fun t ht hW => ⟨⟨(fun k => match k with | 0 => h0 | 1 => q1 | 2 => q2 | 3 => q3 | 4 => q4 | 5 => q5 | 6 => q6 | 7 => q7 | 8 => q8 | 9 => q9 | _ => q10), rfl, rfl, by subst ht; exact ⟨hP, hD⟩⟩, hS.F ht⟩) hS.2.2 dX3_init_98
