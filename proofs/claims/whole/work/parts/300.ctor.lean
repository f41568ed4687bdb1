variable {p : Program} {l : Launch} {e : Env} {R : Room} {s : State} {m : MethodId} {args : Array Value} {below : List Frame} {meth : Method} {c : Code} {cells slots : Nat} {Q : State → Prop} {D : va_G} {E : bE} {A : Nat → Prop} {a : Nat → Nat}
theorem va_D.addr {A : Nat → Prop} {ws ws' : va_W} (h : ws.map Prod.fst = ws'.map Prod.fst) (hD : va_D A ws) : va_D A ws' := by
  have key : ∀ (k : Nat) (q : Nat × va_E), ws'[k]? = some q → ∃ q0, ws[k]? = some q0 ∧ q0.1 = q.1 := by
    intro k q hk
    have e : (ws'.map Prod.fst)[k]? = some q.1 := by rw [List.getElem?_map, hk]; rfl
    rw [← h, List.getElem?_map] at e
    cases hq : ws[k]? with
    | none => rw [hq] at e; cases e
    | some q0 => rw [hq] at e; exact ⟨q0, rfl, Option.some.inj e⟩
  refine ⟨fun i j x y hi hj hxy => ?_, fun k q hk => ?_⟩
  · obtain ⟨x0, h1, h2⟩ := key i x hi
    obtain ⟨y0, h3, h4⟩ := key j y hj
    exact hD.1 i j x0 y0 h1 h3 (by rw [h2, h4]; exact hxy)
  · obtain ⟨q0, h1, h2⟩ := key k q hk
    rw [← h2]; exact hD.2 k q0 h1
theorem bBlindN {D : va_G} {E : bE} {av : List Value} {ws : va_W} {sz : Nat} : FrameBlind (va_Pc av (fun U => U.heap.size = sz ∧ va_P D vwCl ws U.heap ∧ bPre D E U)) := fun a U g mk q => ⟨q.1, q.2.1, q.2.2.1, bPre.same (s := U) (U := U.calling g mk a) rfl q.2.2.2⟩
theorem arrV_agree {cA : ClassId} {N : Nat} {f g : Nat → Value} (h : ∀ j, j < N → f j = g j) : arrV cA N f = arrV cA N g := by
  have e : (fun j : Fin N => f j.val) = fun j : Fin N => g j.val := funext fun j => h j.val j.isLt
  unfold arrV
  rw [e]
theorem img_cell {cA : ClassId} {a : Nat → Nat} {x y : Nat} (h0 : im a 0 = some x) (h1 : im a 1 = some y) : vp_cell cA (2, .inr (.inr (.inr (.inr (va_up (va_up (fun _ => none) (Int32.toNatClampNeg 0) (some x)) (Int32.toNatClampNeg 1) (some y)))))) = vp_cell cA (2, .inr (.inr (.inr (.inr (im a))))) := by
  show arrV cA 2 (fun j => va_rf (va_up (va_up (fun _ => none) (Int32.toNatClampNeg 0) (some x)) (Int32.toNatClampNeg 1) (some y) j)) = arrV cA 2 (fun j => va_rf (im a j))
  refine arrV_agree (fun j hj => ?_)
  rcases (show j = 0 ∨ j = 1 by omega) with rfl | rfl
  · show va_rf (some x) = va_rf (im a 0); rw [h0]
  · show va_rf (some y) = va_rf (im a 1); rw [h1]
def zB : St := fun k => if k = 0 then (fun j => if j = 9 then 5 else if j = 10 then 5 else 0) else fun _ => 0
def zM : St := fun k => if k = 0 then (fun j => if j = 8 then 5 else if j = 9 then 5 else 0) else fun _ => 0
def wPad (E : bE) (a : Nat → Nat) : va_W := [((a 0), .inr (2, [.ref (a 1), .int 0, .int 0, .int 0, .int 0])), ((a 1), .inl (E.1, 20, .inl (fun _ => 0)))]
theorem c_X2_init {l : Launch} {D : va_G} {E : bE} (h0 sz : Nat) : cN l D E yX2_init cX2_init 1 1 1 20 12 h0 sz (.inr (2, [.null, .int 0, .int 0, .int 0, .int 0])) [] (fun a => a 0 = h0) (wPad E) := by
  refine cN_of (by decide) (Nat.le_of_ble_eq_true rfl) rfl ?_
  intro p e s m args below meth c A C hin hA hP hD hS ls hl
  obtain ⟨hx, hb, hml, hown, hts, hK, hr, hlocks⟩ := id C
  refine lv_aload_n (pc := 0) hx hb dX2_init_0 rfl (lv_at hl 0 rfl) ?_
  refine W.objInit hx hb hown (hts _ wd_62) (hts _ wd_55) (hts _ wd_56) rfl (by rw [hml]; exact hl.1) rfl dX2_init_1 (Nat.le_of_ble_eq_true rfl) (Nat.le_of_ble_eq_true rfl) ?_
  refine W.eq (g2 := F0 m 4 ls []) rfl ?_
  refine lv_aload_n (pc := 4) hx hb dX2_init_4 rfl (lv_at hl 0 rfl) ?_
  refine lv_bipush (v := 20) (pc := 5) hx hb dX2_init_5 (by decide) ?_
  refine r_newI (pc := 7) 20 hx hb hts wd_83 hK hP hD hS hA (by decide) (by decide) (by decide) (Nat.le_of_ble_eq_true rfl) (Nat.le_of_ble_eq_true rfl) dX2_init_7 (fun q1 H hP hD hS => ?_)
  have hP : va_P D vwCl [(h0, .inr (2, [.null, .int 0, .int 0, .int 0, .int 0])), (q1, .inl (E.1, 20, .inl (fun _ => 0)))] H := hP
  have hD : va_D A [(h0, .inr (2, [.null, .int 0, .int 0, .int 0, .int 0])), (q1, .inl (E.1, 20, .inl (fun _ => 0)))] := hD
  refine va_putF (pc := 9) (v := .ref q1) (ty := (.array .int)) hx hb hts inB2 tyX2 tyX2_ok nmX2 hown hK.1 hP hD hS 0 rfl rfl 0 (by decide) (hts _ wd_63) (fun _ h9 => h9) rfl hin rfl (by decide +kernel) rfl rfl (Nat.le_of_ble_eq_true rfl) dX2_init_9 (fun H locs hP hD hS => ?_)
  have hP : va_P D vwCl [(h0, .inr (2, [.ref q1, .int 0, .int 0, .int 0, .int 0])), (q1, .inl (E.1, 20, .inl (fun _ => 0)))] H := hP
  have hD : va_D A [(h0, .inr (2, [.ref q1, .int 0, .int 0, .int 0, .int 0])), (q1, .inl (E.1, 20, .inl (fun _ => 0)))] := hD
  refine lv_aload_n (pc := 12) hx hb dX2_init_12 rfl (lv_at hl 0 rfl) ?_
  refine lv_iconst (v := 0) (pc := 13) hx hb dX2_init_13 (by decide) ?_
  refine va_put (pc := 14) (v := .int 0) (ty := .int) hx hb hts inB2 tyX2 tyX2_ok nmX2 hown hK.1 hP hD hS 0 rfl rfl 1 (by decide) (hts _ wd_64) (fun _ h9 => h9) rfl (by decide +kernel) rfl rfl (Nat.le_of_ble_eq_true rfl) dX2_init_14 (fun H locs hP hD hS => ?_)
  have hP : va_P D vwCl [(h0, .inr (2, [.ref q1, .int 0, .int 0, .int 0, .int 0])), (q1, .inl (E.1, 20, .inl (fun _ => 0)))] H := hP
  have hD : va_D A [(h0, .inr (2, [.ref q1, .int 0, .int 0, .int 0, .int 0])), (q1, .inl (E.1, 20, .inl (fun _ => 0)))] := hD
  refine lv_aload_n (pc := 17) hx hb dX2_init_17 rfl (lv_at hl 0 rfl) ?_
  refine lv_iconst (v := 0) (pc := 18) hx hb dX2_init_18 (by decide) ?_
  refine va_put (pc := 19) (v := .int 0) (ty := .int) hx hb hts inB2 tyX2 tyX2_ok nmX2 hown hK.1 hP hD hS 0 rfl rfl 2 (by decide) (hts _ wd_66) (fun _ h9 => h9) rfl (by decide +kernel) rfl rfl (Nat.le_of_ble_eq_true rfl) dX2_init_19 (fun H locs hP hD hS => ?_)
  have hP : va_P D vwCl [(h0, .inr (2, [.ref q1, .int 0, .int 0, .int 0, .int 0])), (q1, .inl (E.1, 20, .inl (fun _ => 0)))] H := hP
  have hD : va_D A [(h0, .inr (2, [.ref q1, .int 0, .int 0, .int 0, .int 0])), (q1, .inl (E.1, 20, .inl (fun _ => 0)))] := hD
  refine lv_aload_n (pc := 22) hx hb dX2_init_22 rfl (lv_at hl 0 rfl) ?_
  refine lv_iconst (v := 0) (pc := 23) hx hb dX2_init_23 (by decide) ?_
  refine va_put (pc := 24) (v := .int 0) (ty := .int) hx hb hts inB2 tyX2 tyX2_ok nmX2 hown hK.1 hP hD hS 0 rfl rfl 3 (by decide) (hts _ wd_68) (fun _ h9 => h9) rfl (by decide +kernel) rfl rfl (Nat.le_of_ble_eq_true rfl) dX2_init_24 (fun H locs hP hD hS => ?_)
  have hP : va_P D vwCl [(h0, .inr (2, [.ref q1, .int 0, .int 0, .int 0, .int 0])), (q1, .inl (E.1, 20, .inl (fun _ => 0)))] H := hP
  have hD : va_D A [(h0, .inr (2, [.ref q1, .int 0, .int 0, .int 0, .int 0])), (q1, .inl (E.1, 20, .inl (fun _ => 0)))] := hD
  refine lv_aload_n (pc := 27) hx hb dX2_init_27 rfl (lv_at hl 0 rfl) ?_
  refine lv_iconst (v := 0) (pc := 28) hx hb dX2_init_28 (by decide) ?_
  refine va_put (pc := 29) (v := .int 0) (ty := .int) hx hb hts inB2 tyX2 tyX2_ok nmX2 hown hK.1 hP hD hS 0 rfl rfl 4 (by decide) (hts _ wd_70) (fun _ h9 => h9) rfl (by decide +kernel) rfl rfl (Nat.le_of_ble_eq_true rfl) dX2_init_29 (fun H locs hP hD hS => ?_)
  have hP : va_P D vwCl [(h0, .inr (2, [.ref q1, .int 0, .int 0, .int 0, .int 0])), (q1, .inl (E.1, 20, .inl (fun _ => 0)))] H := hP
  have hD : va_D A [(h0, .inr (2, [.ref q1, .int 0, .int 0, .int 0, .int 0])), (q1, .inl (E.1, 20, .inl (fun _ => 0)))] := hD
  exact W.vret hx hb hr (fun t ht hW => ⟨⟨(fun k => match k with | 0 => h0 | _ => q1), rfl, rfl, by subst ht; exact ⟨hP, hD⟩⟩, hS.F ht⟩) hS.2.2 dX2_init_32
def wCho (E : bE) (a : Nat → Nat) : va_W := [((a 0), .inr (1, [.ref (a 1), .int 0, .int 0])), ((a 1), .inl (E.1, 6, .inl (fun _ => 0)))]
theorem c_X1_init {l : Launch} {D : va_G} {E : bE} (h0 sz : Nat) : cN l D E yX1_init cX1_init 1 1 1 6 12 h0 sz (.inr (1, [.null, .int 0, .int 0])) [] (fun a => a 0 = h0) (wCho E) := by
  refine cN_of (by decide) (Nat.le_of_ble_eq_true rfl) rfl ?_
  intro p e s m args below meth c A C hin hA hP hD hS ls hl
  obtain ⟨hx, hb, hml, hown, hts, hK, hr, hlocks⟩ := id C
  refine lv_aload_n (pc := 0) hx hb dX1_init_0 rfl (lv_at hl 0 rfl) ?_
  refine W.objInit hx hb hown (hts _ wd_197) (hts _ wd_55) (hts _ wd_56) rfl (by rw [hml]; exact hl.1) rfl dX1_init_1 (Nat.le_of_ble_eq_true rfl) (Nat.le_of_ble_eq_true rfl) ?_
  refine W.eq (g2 := F0 m 4 ls []) rfl ?_
  refine lv_aload_n (pc := 4) hx hb dX1_init_4 rfl (lv_at hl 0 rfl) ?_
  refine lv_bipush (v := 6) (pc := 5) hx hb dX1_init_5 (by decide) ?_
  refine r_newI (pc := 7) 6 hx hb hts wd_83 hK hP hD hS hA (by decide) (by decide) (by decide) (Nat.le_of_ble_eq_true rfl) (Nat.le_of_ble_eq_true rfl) dX1_init_7 (fun q1 H hP hD hS => ?_)
  have hP : va_P D vwCl [(h0, .inr (1, [.null, .int 0, .int 0])), (q1, .inl (E.1, 6, .inl (fun _ => 0)))] H := hP
  have hD : va_D A [(h0, .inr (1, [.null, .int 0, .int 0])), (q1, .inl (E.1, 6, .inl (fun _ => 0)))] := hD
  refine va_putF (pc := 9) (v := .ref q1) (ty := (.array .int)) hx hb hts inB1 tyX1 tyX1_ok nmX1 hown hK.1 hP hD hS 0 rfl rfl 0 (by decide) (hts _ wd_198) (fun _ h9 => h9) rfl hin rfl (by decide +kernel) rfl rfl (Nat.le_of_ble_eq_true rfl) dX1_init_9 (fun H locs hP hD hS => ?_)
  have hP : va_P D vwCl [(h0, .inr (1, [.ref q1, .int 0, .int 0])), (q1, .inl (E.1, 6, .inl (fun _ => 0)))] H := hP
  have hD : va_D A [(h0, .inr (1, [.ref q1, .int 0, .int 0])), (q1, .inl (E.1, 6, .inl (fun _ => 0)))] := hD
  refine lv_aload_n (pc := 12) hx hb dX1_init_12 rfl (lv_at hl 0 rfl) ?_
  refine lv_iconst (v := 0) (pc := 13) hx hb dX1_init_13 (by decide) ?_
  refine va_put (pc := 14) (v := .int 0) (ty := .int) hx hb hts inB1 tyX1 tyX1_ok nmX1 hown hK.1 hP hD hS 0 rfl rfl 1 (by decide) (hts _ wd_201) (fun _ h9 => h9) rfl (by decide +kernel) rfl rfl (Nat.le_of_ble_eq_true rfl) dX1_init_14 (fun H locs hP hD hS => ?_)
  have hP : va_P D vwCl [(h0, .inr (1, [.ref q1, .int 0, .int 0])), (q1, .inl (E.1, 6, .inl (fun _ => 0)))] H := hP
  have hD : va_D A [(h0, .inr (1, [.ref q1, .int 0, .int 0])), (q1, .inl (E.1, 6, .inl (fun _ => 0)))] := hD
  refine lv_aload_n (pc := 17) hx hb dX1_init_17 rfl (lv_at hl 0 rfl) ?_
  refine lv_iconst (v := 0) (pc := 18) hx hb dX1_init_18 (by decide) ?_
  refine va_put (pc := 19) (v := .int 0) (ty := .int) hx hb hts inB1 tyX1 tyX1_ok nmX1 hown hK.1 hP hD hS 0 rfl rfl 2 (by decide) (hts _ wd_204) (fun _ h9 => h9) rfl (by decide +kernel) rfl rfl (Nat.le_of_ble_eq_true rfl) dX1_init_19 (fun H locs hP hD hS => ?_)
  have hP : va_P D vwCl [(h0, .inr (1, [.ref q1, .int 0, .int 0])), (q1, .inl (E.1, 6, .inl (fun _ => 0)))] H := hP
  have hD : va_D A [(h0, .inr (1, [.ref q1, .int 0, .int 0])), (q1, .inl (E.1, 6, .inl (fun _ => 0)))] := hD
  exact W.vret hx hb hr (fun t ht hW => ⟨⟨(fun k => match k with | 0 => h0 | _ => q1), rfl, rfl, by subst ht; exact ⟨hP, hD⟩⟩, hS.F ht⟩) hS.2.2 dX1_init_22
