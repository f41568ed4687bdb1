def gU (D : va_G) (𝓦 : St → va_W) (A : Nat → Prop) (p : Program) (l : Launch) (e : Env) (R : Room) (s : State) (m : MethodId) (args : Array Value) (below : List Frame) (meth : Method) (c : Code) (nL : Nat) (Q : State → Prop) (pc : Nat) (lv : List (Nat × Value)) (st : List Value) (S : St) : Prop :=
  ∀ (H : Heap) (locs : List Loc), va_P D vwCl (𝓦 S) H → va_S A s.heap H locs → ∀ ls : Array Slot, lv_has ls nL lv → W p l e R s m args below meth c H locs 0 0 Q (F0 m pc ls st)
def gR (p : Program) (l : Launch) (e : Env) (R : Room) (s : State) (m : MethodId) (args : Array Value) (below : List Frame) (meth : Method) (c : Code) (nL : Nat) (Q : State → Prop) (pc : Nat) (lv : List (Nat × Value)) (st : List Value) : Prop :=
  ∀ ls : Array Slot, lv_has ls nL lv → W p l e R s m args below meth c s.heap [] 0 0 Q (F0 m pc ls st)
def bd2 {α β γ : Type} (x : Option (α × β)) (f : α → β → Option γ) : Option γ := match x with
  | none => none
  | some q => f q.1 q.2
theorem bd2_some {α β γ : Type} {x : Option (α × β)} {f : α → β → Option γ} {r : γ} (h : bd2 x f = some r) : ∃ a b, x = some (a, b) ∧ f a b = some r := by
  cases x with
  | none => cases h
  | some q => exact ⟨q.1, q.2, rfl, h⟩
theorem gd_lit {β : Type} {c : Prop} [Decidable c] (hc : c) {x : Option β} {r : β} (h : x = some r) : gd c x = some r := by
  unfold gd; rw [if_pos hc]; exact h
theorem tabOut0_3 {x : Int32} (h0 : ¬ x = 0) (h1 : ¬ x = 1) (h2 : ¬ x = 2) (h3 : ¬ x = 3) : x.toInt < 0 ∨ 3 < x.toInt := by
  have e : ∀ k : Int32, ¬ x = k → x.toInt ≠ k.toInt := fun k h q => h (Int32.toInt_inj.mp q)
  have a0 : x.toInt ≠ 0 := e 0 h0
  have a1 : x.toInt ≠ 1 := e 1 h1
  have a2 : x.toInt ≠ 2 := e 2 h2
  have a3 : x.toInt ≠ 3 := e 3 h3
  omega
theorem tabOut0_2 {x : Int32} (h0 : ¬ x = 0) (h1 : ¬ x = 1) (h2 : ¬ x = 2) : x.toInt < 0 ∨ 2 < x.toInt := by
  have e : ∀ k : Int32, ¬ x = k → x.toInt ≠ k.toInt := fun k h q => h (Int32.toInt_inj.mp q)
  have a0 : x.toInt ≠ 0 := e 0 h0
  have a1 : x.toInt ≠ 1 := e 1 h1
  have a2 : x.toInt ≠ 2 := e 2 h2
  omega
theorem tabOut1_4 {x : Int32} (h0 : ¬ x = 1) (h1 : ¬ x = 2) (h2 : ¬ x = 3) (h3 : ¬ x = 4) : x.toInt < 1 ∨ 4 < x.toInt := by
  have e : ∀ k : Int32, ¬ x = k → x.toInt ≠ k.toInt := fun k h q => h (Int32.toInt_inj.mp q)
  have a0 : x.toInt ≠ 1 := e 1 h0
  have a1 : x.toInt ≠ 2 := e 2 h1
  have a2 : x.toInt ≠ 3 := e 3 h2
  have a3 : x.toInt ≠ 4 := e 4 h3
  omega
/-- the web's two rows of counts change places -/
def swapU (S : St) : St := fun k => if k = 26 then S 27 else if k = 27 then S 26 else if k = 3 then upd (S 3) 11 (if S 3 11 = 0 then 1 else 0) else S k
theorem swap26 (a : Nat → Nat) (S : St) : a26 a (swapU S 3 11) = a27 a (S 3 11) := by
  have e : swapU S 3 11 = if S 3 11 = 0 then 1 else 0 := rfl
  rw [e]; unfold a26 a27
  by_cases h : S 3 11 = 0
  · rw [if_pos h, if_pos h, if_neg (by decide)]
  · rw [if_neg h, if_neg h, if_pos rfl]
theorem swap27 (a : Nat → Nat) (S : St) : a27 a (swapU S 3 11) = a26 a (S 3 11) := by
  have e : swapU S 3 11 = if S 3 11 = 0 then 1 else 0 := rfl
  rw [e]; unfold a26 a27
  by_cases h : S 3 11 = 0
  · rw [if_pos h, if_pos h, if_neg (by decide)]
  · rw [if_neg h, if_neg h, if_pos rfl]
section BR2
variable {p : Program} {l : Launch} {e : Env} {R : Room} {s : State} {m : MethodId} {args : Array Value} {below : List Frame} {meth : Method} {c : Code} {H : Heap} {locs : List Loc} {cells slots : Nat} {Q : State → Prop}
variable {cc : ByteArray} {pc nL : Nat} {ls : Array Slot} {rest st0 : List Value} {D : va_G} {E : bE} {A : Nat → Prop} {ws ws' : va_W} {own : String} {ret : Option FieldType} {r : Int32} {a : Nat → Nat} {S : St}
variable {y : MethodName} {bytes : ByteArray} {maxL n fr lo index : Nat} {ret' : Option FieldType} {As : List Value} {b : Nat}
theorem r_tabIn {dflt lo hi : Int} {offs : Array Int} {len : Nat} {x v : Int32} {off : Int} {tgt : Nat} (hx : p.tables.exec = Jvm.exec) (hb : c.code = cc) (hdg : decode cc pc = .ok (.tableswitch dflt lo hi offs, len)) (hv : x = v) (h1 : ¬ v.toInt < lo) (h2 : ¬ hi < v.toInt) (ho : offs[(v.toInt - lo).toNat]? = some off) (ht : (pc : Int) + off = (tgt : Int))
    (k : W p l e R s m args below meth c H locs cells slots Q (F0 m tgt ls rest)) : W p l e R s m args below meth c H locs cells slots Q (F0 m pc ls (.int x :: rest)) := by
  subst hv; exact lv_tableIn hx hb hdg h1 h2 ho ht k
theorem r_lookIn {dflt : Int} {ps : Array (Int × Int)} {len : Nat} {x v : Int32} {off : Int} {tgt : Nat} (hx : p.tables.exec = Jvm.exec) (hb : c.code = cc) (hdg : decode cc pc = .ok (.lookupswitch dflt ps, len)) (hp : (ps.toList.zip (ps.toList.drop 1)).all (fun (a, next) => a.1 < next.1) = true) (hv : x = v) (ho : Op.lookupswitch.offset ps.toList dflt v.toInt = off) (ht : (pc : Int) + off = (tgt : Int))
    (k : W p l e R s m args below meth c H locs cells slots Q (F0 m tgt ls rest)) : W p l e R s m args below meth c H locs cells slots Q (F0 m pc ls (.int x :: rest)) := by
  subst hv; exact lv_lookup hx hb hdg hp ho ht k
theorem r_img {i : Int32} (hx : p.tables.exec = Jvm.exec) (hb : c.code = cc) (hK : bPre D E s) (hP : va_P D vwCl (Wu E a S) H) (hin : ix i 2) (hdg : decode cc pc = .ok (.aaload, 1))
    (k0 : i = 0 → W p l e R s m args below meth c H locs cells slots Q (F0 m (pc + 1) ls (.ref (a 29) :: rest))) (k1 : ¬ i = 0 → W p l e R s m args below meth c H locs cells slots Q (F0 m (pc + 1) ls (.ref (a 30) :: rest))) : W p l e R s m args below meth c H locs cells slots Q (F0 m pc ls (.int i :: .ref (a 5) :: rest)) := by
  refine va_aldq hx hb hK.1 hP 5 2 wu5 rfl hin hdg ?_
  by_cases h : i = 0
  · have k := k0 h
    subst h
    exact k
  · have hne : ¬ i.toNatClampNeg = 0 := by
      intro q
      obtain ⟨j, hj, hij⟩ := nI_of (x := i) (fun z => hin (Or.inl z))
      rw [hij, nI_clamp hj] at q
      rw [q] at hij
      exact h hij
    have e : im a i.toNatClampNeg = some (a 30) := by unfold im; rw [if_neg hne]
    rw [e]
    exact k1 h
theorem r_callSU (C : bC D E own cc nL ret p s m args meth c) (hP : va_P D vwCl ws H) (hS : va_S A s.heap H locs) (hM : cU l D E y bytes maxL ret' fr lo A ws ws' As r) (ho : okS y bytes maxL ret' n) (hlink : Cond.methodLink own index y ∈ bBig) (hR : fr + 1 ≤ R.frames ∧ 8 + (maxL + 11) + lo ≤ R.locals) (hn : As.length = n) (hls : ls.size = nL) (hst : st0 = As.reverse ++ rest) (hcat : (rest.map fun v => v.category).sum ≤ 8) (hdg : decode cc pc = .ok (.invokestatic index, 3)) (hcs : cells ≤ R.cells ∧ slots ≤ R.slots)
    (kk : ∀ (H1 : Heap) (locs1 : List Loc), va_P D vwCl ws' H1 → va_S A s.heap H1 locs1 → W p l e R s m args below meth c H1 locs1 cells slots Q (F0 m (pc + 3) ls (.int r :: rest))) : W p l e R s m args below meth c H locs cells slots Q (F0 m pc ls st0) := by
  obtain ⟨hx, hb, hml, hown, hts, hK, hr, hlocks⟩ := C
  obtain ⟨ho1, ho2, ho3, ho4⟩ := ho
  refine va_calli (va_runS (As := As) (rest := rest) ⟨hx, hb, hml, hown, hts⟩ hM ⟨callB_of n hts (bGoodIn (fun _ h => h) ho1) rfl rfl rfl (hts _ ho3) (hts _ hlink) ho4 hR, hts _ ho2⟩ ⟨bBlindR, fun U hU hW => ⟨rfl, by rw [hU]; exact hP, bPre.warm hW hK⟩⟩ rfl hn hls hst (lv_room hcat) hdg ⟨hcs.1, hcs.2⟩) hS (fun _ _ h => h) (fun _ h => h) (fun r' u t H1 locs1 ht hvm hw hB hz1 hk1 hS1 => ?_)
  rw [hw]; exact kk H1 locs1 (by rw [← ht]; exact hB) hS1
theorem swap_tail {SS : St} {fr lo : Nat} {lv : List (Nat × Value)} (hI : aI 49 a) (C : bC D E RX3 cX3_countWith 4 none p s m args meth c) (h : (some (swapU S) : Option St) = some SS) (hP : va_P D vwCl (Wu E a S) H) (hS : va_S (aA 49 a) s.heap H locs) (hl : lv_has ls 4 ((0, .ref (a 3)) :: lv)) : W p l e (bRm fr lo) s m args below meth c H locs 0 0 (qV D below (aA 49 a) (Wu E a SS) args s) (F0 m 87 ls []) := by
  obtain ⟨hx, hb, hml, hown, hts, hK, hr, hlocks⟩ := id C
  cases h
  have hl := lv_sub hl (l' := [(0, .ref (a 3))]) [0] rfl
  have hD := dU (E := E) hI S
  refine lv_aload_n (pc := 87) hx hb dX3_countWith_87 rfl (lv_at hl 0 rfl) ?_
  refine va_get (pc := 88) (v := .ref (a26 a (S 3 11))) hx hb hts inB3 hown hK.1 hP 3 wu3 rfl 11 (by decide) (hts _ wd_163) (fun _ h9 => h9) rfl dX3_countWith_88 ?_
  refine lv_astore_n (lv' := [(2, .ref (a26 a (S 3 11))), (0, .ref (a 3))]) (pc := 91) hx hb dX3_countWith_91 rfl hl (by decide) rfl (fun ls hl => ?_)
  refine lv_aload_n (pc := 92) hx hb dX3_countWith_92 rfl (lv_at hl 1 rfl) ?_
  refine lv_aload_n (pc := 93) hx hb dX3_countWith_93 rfl (lv_at hl 1 rfl) ?_
  refine va_get (pc := 94) (v := .ref (a27 a (S 3 11))) hx hb hts inB3 hown hK.1 hP 3 wu3 rfl 12 (by decide) (hts _ wd_164) (fun _ h9 => h9) rfl dX3_countWith_94 ?_
  refine va_put (pc := 97) (v := .ref (a27 a (S 3 11))) (ty := .array .int) hx hb hts inB3 tyX3 tyX3_ok nmX3 hown hK.1 hP hD hS 3 wu3 rfl 11 (by decide) (hts _ wd_163) (fun _ h9 => h9) rfl (by decide +kernel) rfl rfl (Nat.le_of_ble_eq_true rfl) dX3_countWith_97 (fun H locs hP hD hS => ?_)
  refine lv_aload_n (pc := 100) hx hb dX3_countWith_100 rfl (lv_at hl 1 rfl) ?_
  refine lv_aload_n (pc := 101) hx hb dX3_countWith_101 rfl (lv_at hl 0 rfl) ?_
  refine va_put (pc := 102) (v := .ref (a26 a (S 3 11))) (ty := .array .int) hx hb hts inB3 tyX3 tyX3_ok nmX3 hown hK.1 hP hD hS 3 rfl rfl 12 (by decide) (hts _ wd_164) (fun _ h9 => h9) rfl (by decide +kernel) rfl rfl (Nat.le_of_ble_eq_true rfl) dX3_countWith_102 (fun H locs hP hD hS => ?_)
  have hP2 : va_P D vwCl (Wu E a (swapU S)) H := by
    refine hP.sub [0, 1, 2, 3, 4, 5, 6, 7, 8, 9, 10, 11, 12, 13, 14, 15, 16, 17, 18, 19, 20, 21, 22, 23, 24, 25, 27, 26, 28, 29, 30, 31, 32, 33, 34, 35, 36, 37, 38, 39, 40, 41, 42, 43, 44, 45, 46, 47, 48] ?_
    unfold Wu
    rw [swap26, swap27]
    rfl
  exact r_retV (pc := 105) (𝓦 := Wu E a) C rfl hP2 hS dX3_countWith_105
end BR2
