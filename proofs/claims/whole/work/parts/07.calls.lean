/-! calls -/
abbrev okD (y : MethodName) (n : Nat) : Prop := y.cls ≠ "java/lang/invoke/MethodHandle" ∧ y.cls ≠ "java/lang/invoke/VarHandle" ∧ (parseMethodDescriptor y.desc).map (fun d => d.parameters.length) = some n
def okS (y : MethodName) (cc : ByteArray) (nL : Nat) (ret : Option FieldType) (n : Nat) : Prop := Cond.code y cc nL ret ∈ bBig ∧ Cond.static y ∈ bBig ∧ Cond.initialized y.cls ∈ bBig ∧ okD y n
def okV (y : MethodName) (cc : ByteArray) (nL : Nat) (ret : Option FieldType) (n : Nat) : Prop := Cond.code y cc nL ret ∈ bBig ∧ Cond.instanceMethod y ∈ bBig ∧ Cond.selects y.cls y y ∈ bBig ∧ Cond.initialized y.cls ∈ bBig ∧ okD y n
section BCa
variable {p : Program} {l : Launch} {e : Env} {R : Room} {s : State} {m : MethodId} {args : Array Value} {below : List Frame} {meth : Method} {c : Code} {H : Heap} {locs : List Loc} {cells slots : Nat} {Q : State → Prop}
variable {cc : ByteArray} {pc nL : Nat} {ls : Array Slot} {rest st0 : List Value} {D : va_G} {E : bE} {A : Nat → Prop} {ws ws' : va_W} {own : String} {ret : Option FieldType} {r : Int32}
variable {y : MethodName} {bytes : ByteArray} {maxL n fr lo index : Nat} {ret' : Option FieldType} {As : List Value} {b : Nat}
theorem r_csi {post : Int32 → Prop} {av : Array Value} {free : Addr → Prop} (hr : va_Run p l e R s m args below meth c H locs cells slots 0 0 (F0 m pc ls st0) rest (vp_Si post av) (fun _ => False))
    (kk : ∀ r : Int32, post r → W p l e R s m args below meth c H locs cells slots Q (F0 m (pc + 3) ls (.int r :: rest))) : W p l e R s m args below meth c H locs cells slots Q (F0 m pc ls st0) := by
  intro T hT X
  obtain ⟨v, st₀, t, T', L, h0, X', hL, e1, -, ⟨r, hv, hp, hh⟩, st⟩ := hr T hT X
  cases hv
  obtain ⟨t2, a1, b1⟩ := kk r hp T' (by rw [e1, hh, h0]) (Stand.forget X' (fun q h => (hL q h).elim))
  exact ⟨t2, st t2 a1, b1⟩
theorem bBlindS {D : va_G} {E : bE} {av : List Value} : FrameBlind (va_Pc av (fun U => bPre D E U)) := fun a U g mk q => ⟨q.1, bPre.same (s := U) (U := U.calling g mk a) rfl q.2⟩
theorem bBlindR {D : va_G} {E : bE} {av : List Value} {ws : va_W} : FrameBlind (va_Pc av (fun U => va_P D vwCl ws U.heap ∧ bPre D E U)) := fun a U g mk q => ⟨q.1, q.2.1, bPre.same (s := U) (U := U.calling g mk a) rfl q.2.2⟩
theorem r_callS (C : bC D E own cc nL ret p s m args meth c) (hM : cS l D E y bytes maxL ret' fr lo As r) (ho : okS y bytes maxL ret' n) (hlink : Cond.methodLink own index y ∈ bBig) (hR : fr + 1 ≤ R.frames ∧ 8 + (maxL + 11) + lo ≤ R.locals) (hn : As.length = n) (hls : ls.size = nL) (hst : st0 = As.reverse ++ rest) (hcat : (rest.map fun v => v.category).sum ≤ 8) (hdg : decode cc pc = .ok (.invokestatic index, 3)) (hcs : cells ≤ R.cells ∧ slots ≤ R.slots)
    (kk : W p l e R s m args below meth c H locs cells slots Q (F0 m (pc + 3) ls (.int r :: rest))) : W p l e R s m args below meth c H locs cells slots Q (F0 m pc ls st0) := by
  obtain ⟨hx, hb, hml, hown, hts, hK, hr, hlocks⟩ := C
  obtain ⟨ho1, ho2, ho3, ho4⟩ := ho
  refine r_csi (free := fun _ => False) (va_runS (As := As) (rest := rest) ⟨hx, hb, hml, hown, hts⟩ hM ⟨callB_of n hts (bGoodIn (fun _ h => h) ho1) rfl rfl rfl (hts _ ho3) (hts _ hlink) ho4 hR, hts _ ho2⟩ ⟨bBlindS, fun U hU hW => ⟨rfl, bPre.warm hW hK⟩⟩ rfl hn hls hst (lv_room hcat) hdg ⟨hcs.1, hcs.2⟩) (fun r' hr' => ?_)
  rw [hr']; exact kk
theorem r_callSN {host : String} (C : bC D E own cc nL ret p s m args meth c) (hM : cS l D E y bytes maxL ret' fr lo As r) (ho : okS y bytes maxL ret' n) (hlink : Cond.methodLinkNest own index y host ∈ bNest) (hR : fr + 1 ≤ R.frames ∧ 8 + (maxL + 11) + lo ≤ R.locals) (hn : As.length = n) (hls : ls.size = nL) (hst : st0 = As.reverse ++ rest) (hcat : (rest.map fun v => v.category).sum ≤ 8) (hdg : decode cc pc = .ok (.invokestatic index, 3)) (hcs : cells ≤ R.cells ∧ slots ≤ R.slots)
    (kk : W p l e R s m args below meth c H locs cells slots Q (F0 m (pc + 3) ls (.int r :: rest))) : W p l e R s m args below meth c H locs cells slots Q (F0 m pc ls st0) := by
  obtain ⟨hx, hb, hml, hown, hts, hK, hr, hlocks⟩ := C
  obtain ⟨ho1, ho2, ho3, ho4⟩ := ho
  refine r_csi (free := fun _ => False) (va_runSN (As := As) (rest := rest) ⟨hx, hb, hml, hown, hts⟩ hM ⟨va_cnB n hts (bGoodIn (fun _ h => h) ho1) rfl rfl rfl (hK.2.1 _ hlink) (hts _ ho3) ho4 hR, hts _ ho2, trivial⟩ ⟨bBlindS, fun U hU hW => ⟨rfl, bPre.warm hW hK⟩⟩ rfl hn hls hst (lv_room hcat) hdg ⟨hcs.1, hcs.2⟩) (fun r' hr' => ?_)
  rw [hr']; exact kk
theorem bRecv {q : vw_C} {q0 ci : Nat} {fs : List Value} (hK : bPre D E s) (hP : va_P D vwCl ws H) (he : ws[q0]? = some (b, .inr (ci, fs))) (hc : vwCl[ci]? = some q) (hq : q.1 = y.cls) : ∃ cellB : Cell, H[b]? = some cellB ∧ cellB.vm.isStatics = false ∧ s.vm.findClass y.cls = some cellB.cls := by
  rw [← hq]; exact va_recv hK.1 hP hc he
theorem bCallW (hts : ∀ w ∈ bBig, w.before args s = true) (ho : okV y bytes maxL ret' n) (hlink : Cond.methodLink own index y ∈ bBig) (hR : fr + 1 ≤ R.frames ∧ 8 + (maxL + 11) + lo ≤ R.locals) : CallW R s args own y.cls index y bytes maxL ret' (.code y bytes maxL ret' :: bBig) (bRm fr lo) 0 0 n := by
  obtain ⟨ho1, ho2, ho3, ho4, ho5⟩ := ho
  exact ⟨callB_of n hts (bGoodIn (fun _ h => h) ho1) rfl rfl rfl (hts _ ho4) (hts _ hlink) ho5 hR, hts _ ho2, hts _ ho3⟩
theorem r_callR {q : vw_C} {q0 ci : Nat} {fs : List Value} (C : bC D E own cc nL ret p s m args meth c) (hP : va_P D vwCl ws H) (hM : cR l D E y bytes maxL ret' fr lo ws (.ref b :: As) r) (ho : okV y bytes maxL ret' n) (hlink : Cond.methodLink own index y ∈ bBig) (he : ws[q0]? = some (b, .inr (ci, fs))) (hc : vwCl[ci]? = some q) (hq : q.1 = y.cls) (hR : fr + 1 ≤ R.frames ∧ 8 + (maxL + 11) + lo ≤ R.locals) (hn : As.length = n) (hls : ls.size = nL) (hst : st0 = As.reverse ++ .ref b :: rest) (hcat : (rest.map fun v => v.category).sum ≤ 8) (hdg : decode cc pc = .ok (.invokevirtual index, 3)) (hcs : cells ≤ R.cells ∧ slots ≤ R.slots)
    (kk : W p l e R s m args below meth c H locs cells slots Q (F0 m (pc + 3) ls (.int r :: rest))) : W p l e R s m args below meth c H locs cells slots Q (F0 m pc ls st0) := by
  obtain ⟨hx, hb, hml, hown, hts, hK, hr, hlocks⟩ := C
  refine r_csi (free := fun _ => False) (va_runV (As := As) (rest := rest) ⟨hx, hb, hml, hown, hts⟩ hM (bCallW hts ho hlink hR) ⟨bBlindR, bRecv hK hP he hc hq, fun U hU hW => ⟨rfl, by rw [hU]; exact hP, bPre.warm hW hK⟩⟩ rfl hn hls hst (lv_room hcat) hdg ⟨hcs.1, hcs.2⟩) (fun r' hr' => ?_)
  rw [hr']; exact kk
theorem r_callU {q : vw_C} {q0 ci : Nat} {fs : List Value} (C : bC D E own cc nL ret p s m args meth c) (hP : va_P D vwCl ws H) (hS : va_S A s.heap H locs) (hM : cU l D E y bytes maxL ret' fr lo A ws ws' (.ref b :: As) r) (ho : okV y bytes maxL ret' n) (hlink : Cond.methodLink own index y ∈ bBig) (he : ws[q0]? = some (b, .inr (ci, fs))) (hc : vwCl[ci]? = some q) (hq : q.1 = y.cls) (hR : fr + 1 ≤ R.frames ∧ 8 + (maxL + 11) + lo ≤ R.locals) (hn : As.length = n) (hls : ls.size = nL) (hst : st0 = As.reverse ++ .ref b :: rest) (hcat : (rest.map fun v => v.category).sum ≤ 8) (hdg : decode cc pc = .ok (.invokevirtual index, 3)) (hcs : cells ≤ R.cells ∧ slots ≤ R.slots)
    (kk : ∀ (H1 : Heap) (locs1 : List Loc), va_P D vwCl ws' H1 → va_S A s.heap H1 locs1 → W p l e R s m args below meth c H1 locs1 cells slots Q (F0 m (pc + 3) ls (.int r :: rest))) : W p l e R s m args below meth c H locs cells slots Q (F0 m pc ls st0) := by
  obtain ⟨hx, hb, hml, hown, hts, hK, hr, hlocks⟩ := C
  refine va_calli (va_runV (As := As) (rest := rest) ⟨hx, hb, hml, hown, hts⟩ hM (bCallW hts ho hlink hR) ⟨bBlindR, bRecv hK hP he hc hq, fun U hU hW => ⟨rfl, by rw [hU]; exact hP, bPre.warm hW hK⟩⟩ rfl hn hls hst (lv_room hcat) hdg ⟨hcs.1, hcs.2⟩) hS (fun _ _ h => h) (fun _ h => h) (fun r' u t H1 locs1 ht hvm hw hB hz1 hk1 hS1 => ?_)
  rw [hw]; exact kk H1 locs1 (by rw [← ht]; exact hB) hS1
theorem r_callV {q : vw_C} {q0 ci : Nat} {fs : List Value} (C : bC D E own cc nL ret p s m args meth c) (hP : va_P D vwCl ws H) (hS : va_S A s.heap H locs) (hM : cV l D E y bytes maxL fr lo A ws ws' (.ref b :: As)) (ho : okV y bytes maxL none n) (hlink : Cond.methodLink own index y ∈ bBig) (he : ws[q0]? = some (b, .inr (ci, fs))) (hc : vwCl[ci]? = some q) (hq : q.1 = y.cls) (hR : fr + 1 ≤ R.frames ∧ 8 + (maxL + 11) + lo ≤ R.locals) (hn : As.length = n) (hls : ls.size = nL) (hst : st0 = As.reverse ++ .ref b :: rest) (hcat : (rest.map fun v => v.category).sum ≤ 8) (hdg : decode cc pc = .ok (.invokevirtual index, 3)) (hcs : cells ≤ R.cells ∧ slots ≤ R.slots)
    (kk : ∀ (H1 : Heap) (locs1 : List Loc), va_P D vwCl ws' H1 → va_S A s.heap H1 locs1 → W p l e R s m args below meth c H1 locs1 cells slots Q (F0 m (pc + 3) ls rest)) : W p l e R s m args below meth c H locs cells slots Q (F0 m pc ls st0) := by
  obtain ⟨hx, hb, hml, hown, hts, hK, hr, hlocks⟩ := C
  refine va_callv (va_runV (As := As) (rest := rest) ⟨hx, hb, hml, hown, hts⟩ hM (bCallW hts ho hlink hR) ⟨bBlindR, bRecv hK hP he hc hq, fun U hU hW => ⟨rfl, by rw [hU]; exact hP, bPre.warm hW hK⟩⟩ rfl hn hls hst (lv_room hcat) hdg ⟨hcs.1, hcs.2⟩) hS (fun _ _ h => h) (fun _ h => h) (fun u t H1 locs1 ht hvm hw hB hz1 hk1 hS1 => ?_)
  exact kk H1 locs1 (by rw [← ht]; exact hB) hS1
end BCa
