/-! making: arrays, contracts of constructors -/
theorem bI_eq {D : va_G} {E : bE} {s : State} (hK : bPre D E s) {cA : ClassId} (h : va_RA s cA .int) : cA = E.1 := Option.some.inj ((show s.vm.findClass _ = some cA from h).symm.trans (show s.vm.findClass _ = some E.1 from (hK.1.2 0 (E.1, .int) rfl).2))
theorem bZ_eq {D : va_G} {E : bE} {s : State} (hK : bPre D E s) {cA : ClassId} (h : va_RA s cA .boolean) : cA = E.2.1 := Option.some.inj ((show s.vm.findClass _ = some cA from h).symm.trans (show s.vm.findClass _ = some E.2.1 from (hK.1.2 1 (E.2.1, .boolean) rfl).2))
theorem bO_eq {D : va_G} {E : bE} {s : State} (hK : bPre D E s) {cA : ClassId} (h : va_RA s cA (.object RX0)) : cA = E.2.2 := by
  obtain ⟨_, _, -, -, -, h1⟩ := h
  obtain ⟨_, _, -, -, -, h2⟩ := (hK.1.2 2 (E.2.2, .object RX0) rfl).2
  exact Option.some.inj (h1.symm.trans h2)
def gC (D : va_G) (𝓦 : St → va_W) (A : Nat → Prop) (p : Program) (l : Launch) (e : Env) (R : Room) (s : State) (m : MethodId) (args : Array Value) (below : List Frame) (meth : Method) (c : Code) (cells slots nL : Nat) (Q : State → Prop) (pc : Nat) (lv : List (Nat × Value)) (st : List Value) (S : St) : Prop :=
  ∀ (H : Heap) (locs : List Loc), va_P D vwCl (𝓦 S) H → va_S A s.heap H locs → ∀ ls : Array Slot, lv_has ls nL lv → W p l e R s m args below meth c H locs cells slots Q (F0 m pc ls st)
abbrev bRmN (fr mc ms lo : Nat) : Room := { frames := fr, cells := mc, slots := ms, locals := lo }
def cN {T : Type} (l : Launch) (D : va_G) (E : bE) (y : MethodName) (cc : ByteArray) (nL fr mc ms lo h0 sz : Nat) (e0 : va_E) (av : List Value) (post : T → Prop) (WT : T → va_W) : Prop :=
  Met l y (.code y cc nL none :: bBig) (bRmN fr mc ms lo) (va_Pc (.ref h0 :: av) (fun U => U.heap.size = sz ∧ va_P D vwCl [(h0, e0)] U.heap ∧ bPre D E U)) (va_Qv post (fun u t => va_P D vwCl (WT u) t.heap ∧ va_D (va_A [(h0, e0)] sz) (WT u)) (va_A [(h0, e0)] sz)) mc ms (va_A [(h0, e0)] sz)
theorem va_D.one {A : Nat → Prop} {h0 : Nat} {e0 : va_E} (h : A h0) : va_D A [(h0, e0)] := by
  have key : ∀ (k : Nat) (q : Nat × va_E), [(h0, e0)][k]? = some q → k = 0 ∧ q = (h0, e0) := by
    intro k q hk
    cases k with
    | zero => exact ⟨rfl, (Option.some.inj hk).symm⟩
    | succ k => simp at hk
  exact ⟨fun i j x y hi hj _ => by rw [(key i x hi).1, (key j y hj).1], fun k q hk => by rw [(key k q hk).2]; exact h⟩
abbrev qN {T : Type} (D : va_G) (below : List Frame) (A : Nat → Prop) (post : T → Prop) (WT : T → va_W) (mc ms : Nat) (args : Array Value) (s : State) : State → Prop := MQ below (va_Qv post (fun u t => va_P D vwCl (WT u) t.heap ∧ va_D A (WT u)) A) args s mc ms A
theorem cN_of {T : Type} {l : Launch} {D : va_G} {E : bE} {y : MethodName} {cc : ByteArray} {nL fr mc ms lo h0 sz : Nat} {e0 : va_E} {av : List Value} {post : T → Prop} {WT : T → va_W} (hy : plainName y.cls = true) (hn : (lg_sl (.ref h0 :: av)).length ≤ nL) (hyn : y.name = "<init>")
    (body : ∀ (p : Program) (e : Env) (s : State) (m : MethodId) (args : Array Value) (below : List Frame) (meth : Method) (c : Code) (A : Nat → Prop), bC D E y.cls cc nL none p s m args meth c → meth.name = "<init>" → (∀ q, s.heap.size ≤ q → A q) → va_P D vwCl [(h0, e0)] s.heap → va_D A [(h0, e0)] → va_S A s.heap s.heap [] → ∀ ls : Array Slot, lv_has ls nL (lv_args 0 (.ref h0 :: av)) → W p l e (bRmN fr mc ms lo) s m args below meth c s.heap [] 0 0 (qN D below A post WT mc ms args s) (F0 m 0 ls [])) : cN l D E y cc nL fr mc ms lo h0 sz e0 av post WT := by
  refine Met.ofW (cc := cc) (maxL := nL) (ret := none) hy rfl ?_
  intro p e s m args below meth c s₁ B hml hv
  obtain ⟨rfl, hsz, hP, hK⟩ := hv
  subst hsz
  have hts := atoms_spec (ws := .code y cc nL none :: bBig) B.pre
  have hl := lv_entry (.ref h0 :: av) (n := nL) hn
  have hin : meth.name = "<init>" := by rw [← hyn]; exact (name_of_methodNamed B.named B.method).1
  rw [lg_entry_eq]
  exact body p e s m _ below meth c (va_A [(h0, e0)] s.heap.size) ⟨B.exec, B.bytes, hml, findClass_of_methodNamed B.named, fun w hw => hts w (List.mem_cons_of_mem _ hw), hK, B.returns, B.notSynchronized⟩ hin (fun q h => Or.inr h) hP (va_D.one (Or.inl ⟨0, e0, rfl⟩)) va_S.rf _ hl
section BN
variable {p : Program} {l : Launch} {e : Env} {R : Room} {s : State} {m : MethodId} {args : Array Value} {below : List Frame} {meth : Method} {c : Code} {H : Heap} {locs : List Loc} {cells slots : Nat} {Q : State → Prop}
variable {cc : ByteArray} {pc nL : Nat} {ls : Array Slot} {rest st0 : List Value} {D : va_G} {E : bE} {A : Nat → Prop} {ws : va_W} {own : String} {ret : Option FieldType}
theorem r_newI {n : Int32} (N : Nat) (hx : p.tables.exec = Jvm.exec) (hb : c.code = cc) (hts : ∀ w ∈ bBig, w.before args s = true) (hw : Cond.arrayClass .int ∈ bBig) (hK : bPre D E s) (hP : va_P D vwCl ws H) (hD : va_D A ws) (hS : va_S A s.heap H locs) (hA : ∀ q, s.heap.size ≤ q → A q)
    (hn : ¬ n < 0) (hN : n.toNatClampNeg = N) (hbytes : N * componentBytes .int ≤ 536870912) (hcells : cells + 1 ≤ R.cells) (hslots : slots + N ≤ R.slots) (hdg : decode cc pc = .ok (.newarray .int, 2))
    (kk : ∀ (q : Nat) (H1 : Heap), va_P D vwCl (ws ++ [(q, .inl (E.1, N, .inl (fun _ => 0)))]) H1 → va_D A (ws ++ [(q, .inl (E.1, N, .inl (fun _ => 0)))]) → va_S A s.heap H1 locs →
      W p l e R s m args below meth c H1 locs (cells + 1) (slots + N) Q (F0 m (pc + 2) ls (.ref q :: rest))) : W p l e R s m args below meth c H locs cells slots Q (F0 m pc ls (.int n :: rest)) := by
  refine va_newa (atype := .int) (ty := .int) (a0 := (N, .inl (fun _ => 0))) hx hb (hts _ hw) rfl hK.1 hP hD hS hA (fun _ => rfl) hn hN hbytes hcells hslots hdg (fun q cA H1 hK1 hP1 hD1 hS1 => ?_)
  have e : cA = E.1 := bI_eq hK (hK1.2 3 (cA, .int) rfl).2
  subst e
  exact kk q H1 hP1 hD1 hS1
theorem r_newZ {n : Int32} (N : Nat) (hx : p.tables.exec = Jvm.exec) (hb : c.code = cc) (hts : ∀ w ∈ bBig, w.before args s = true) (hw : Cond.arrayClass .boolean ∈ bBig) (hK : bPre D E s) (hP : va_P D vwCl ws H) (hD : va_D A ws) (hS : va_S A s.heap H locs) (hA : ∀ q, s.heap.size ≤ q → A q)
    (hn : ¬ n < 0) (hN : n.toNatClampNeg = N) (hbytes : N * componentBytes .boolean ≤ 536870912) (hcells : cells + 1 ≤ R.cells) (hslots : slots + N ≤ R.slots) (hdg : decode cc pc = .ok (.newarray .boolean, 2))
    (kk : ∀ (q : Nat) (H1 : Heap), va_P D vwCl (ws ++ [(q, .inl (E.2.1, N, .inl (fun _ => 0)))]) H1 → va_D A (ws ++ [(q, .inl (E.2.1, N, .inl (fun _ => 0)))]) → va_S A s.heap H1 locs →
      W p l e R s m args below meth c H1 locs (cells + 1) (slots + N) Q (F0 m (pc + 2) ls (.ref q :: rest))) : W p l e R s m args below meth c H locs cells slots Q (F0 m pc ls (.int n :: rest)) := by
  refine va_newa (atype := .boolean) (ty := .boolean) (a0 := (N, .inl (fun _ => 0))) hx hb (hts _ hw) rfl hK.1 hP hD hS hA (fun _ => rfl) hn hN hbytes hcells hslots hdg (fun q cA H1 hK1 hP1 hD1 hS1 => ?_)
  have e : cA = E.2.1 := bZ_eq hK (hK1.2 3 (cA, .boolean) rfl).2
  subst e
  exact kk q H1 hP1 hD1 hS1
theorem r_newB {n : Int32} {index : Nat} (N : Nat) (hx : p.tables.exec = Jvm.exec) (hb : c.code = cc) (hts : ∀ w ∈ bBig, w.before args s = true) (hown : s.vm.findClass own = some m.cls) (hcl : Cond.classLink own index RX0 ∈ bBig) (hK : bPre D E s) (hP : va_P D vwCl ws H) (hD : va_D A ws) (hS : va_S A s.heap H locs) (hA : ∀ q, s.heap.size ≤ q → A q)
    (hn : ¬ n < 0) (hN : n.toNatClampNeg = N) (hbytes : N * 4 ≤ 536870912) (hcells : cells + 1 ≤ R.cells) (hslots : slots + N ≤ R.slots) (hdg : decode cc pc = .ok (.anewarray index, 3))
    (kk : ∀ (q : Nat) (H1 : Heap), va_P D vwCl (ws ++ [(q, .inl (E.2.2, N, .inr (.inr (.inr (.inr (fun _ => none))))))]) H1 → va_D A (ws ++ [(q, .inl (E.2.2, N, .inr (.inr (.inr (.inr (fun _ => none))))))]) → va_S A s.heap H1 locs →
      W p l e R s m args below meth c H1 locs (cells + 1) (slots + N) Q (F0 m (pc + 3) ls (.ref q :: rest))) : W p l e R s m args below meth c H locs cells slots Q (F0 m pc ls (.int n :: rest)) := by
  refine va_newq (C := RX0) hx hb hown (hts _ hcl) hK.2.2 hK.1 hP hD hS hA hn hN hbytes hcells hslots hdg (fun q cA H1 hK1 hP1 hD1 hS1 => ?_)
  have e : cA = E.2.2 := bO_eq hK (hK1.2 3 (cA, .object RX0) rfl).2
  subst e
  exact kk q H1 hP1 hD1 hS1
end BN
