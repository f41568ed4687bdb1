/-! Words, contexts, contracts and rows that every walk here uses. The pure picture of a world is a table of rows of ints (St). -/
def bBig : List Cond := lw_tbl.filter goodWord
theorem bw {w : Cond} (i : Nat) (h : lw_tbl[i]? = some w) (hg : goodWord w = true) : w ∈ bBig := List.mem_filter.mpr ⟨List.mem_of_getElem? h, hg⟩
theorem bGood {w : Cond} (h : w ∈ bBig) : w ∈ lw_tbl ∧ ((w.onTables && w.keeps) = true ∨ ∃ ty, w = .arrayClass ty) := ⟨(List.mem_filter.mp h).1, good_of_word (List.mem_filter.mp h).2⟩
theorem bGoodIn {big : List Cond} {w : Cond} (hB : ∀ v ∈ bBig, v ∈ big) (h : w ∈ bBig) : GoodIn big (w :: bBig) := fun v hv => (List.mem_cons.mp hv).elim (fun e => by subst e; exact ⟨hB _ h, (bGood h).2⟩) (fun hv => ⟨hB _ hv, (bGood hv).2⟩)
def bNest : List Cond := [.methodLinkNest RX4 9 yX2_init RX4, .methodLinkNest RX4 18 yX3_init RX4, .methodLinkNest RX4 30 yX1_init RX4, .methodLinkNest RX2 32 yX4_within RX4, .methodLinkNest RX2 43 yX4_isTerms RX4, .methodLinkNest RX0 52 yX4_has RX4, .methodLinkNest RX3 77 yX4_has RX4, .methodLinkNest RX3 73 yX4_use RX4, .methodLinkNest RX3 94 yX4_within RX4, .methodLinkNest RX3 117 yX4_isPartOf RX4]
theorem bNest_tbl : ∀ w ∈ bNest, w ∈ lw_tbl := by decide +kernel
theorem bNest_warm {s U : State} (hW : s.WarmedH U.vm) (h : ∀ w ∈ bNest, va_Nw w s) : ∀ w ∈ bNest, va_Nw w U := by
  intro w hw
  have h1 := h w hw
  simp only [bNest, List.mem_cons, List.not_mem_nil, or_false] at hw
  rcases hw with rfl | rfl | rfl | rfl | rfl | rfl | rfl | rfl | rfl | rfl <;> exact va_Nw.warmM hW h1
theorem bNest_same {s U : State} (hv : s.vm = U.vm) (h : ∀ w ∈ bNest, va_Nw w s) : ∀ w ∈ bNest, va_Nw w U := by
  intro w hw
  have h1 := h w hw
  simp only [bNest, List.mem_cons, List.not_mem_nil, or_false] at hw
  rcases hw with rfl | rfl | rfl | rfl | rfl | rfl | rfl | rfl | rfl | rfl <;> exact va_Nw.same rfl hv h1
abbrev bE : Type := ClassId × ClassId × ClassId
abbrev tyE (E : bE) : List (ClassId × FieldType) := [(E.1, .int), (E.2.1, .boolean), (E.2.2, .object RX0)]
def bPre (D : va_G) (E : bE) (U : State) : Prop := va_K D vwCl (tyE E) U ∧ (∀ w ∈ bNest, va_Nw w U) ∧ va_AO RX0 U
theorem bPre.warm {D : va_G} {E : bE} {s U : State} (hW : s.WarmedH U.vm) (h : bPre D E s) : bPre D E U := ⟨va_K.moved hW.alike h.1, bNest_warm hW h.2.1, va_AO.moved hW.alike h.2.2⟩
theorem bPre.same {D : va_G} {E : bE} {s U : State} (hv : s.vm = U.vm) (h : bPre D E s) : bPre D E U := ⟨va_K.moved (by rw [← hv]; exact Vm.Alike.refl s.vm) h.1, bNest_same hv h.2.1, va_AO.moved (by rw [← hv]; exact Vm.Alike.refl s.vm) h.2.2⟩
/-- what holds all through a method's body -/
def bC (D : va_G) (E : bE) (own : String) (cc : ByteArray) (nL : Nat) (ret : Option FieldType) (p : Program) (s : State) (m : MethodId) (args : Array Value) (meth : Method) (c : Code) : Prop :=
  p.tables.exec = Jvm.exec ∧ c.code = cc ∧ c.maxLocals = nL ∧ s.vm.findClass own = some m.cls ∧ (∀ w ∈ bBig, w.before args s = true) ∧ bPre D E s ∧ meth.sig.returnType = ret ∧ meth.locks = false
abbrev bRm (fr lo : Nat) : Room := { frames := fr, cells := 0, slots := 0, locals := lo }
/-- contracts: a static method; one that reads a world; one that changes it (with an int answer; with none) -/
def cS (l : Launch) (D : va_G) (E : bE) (y : MethodName) (cc : ByteArray) (nL : Nat) (ret : Option FieldType) (fr lo : Nat) (av : List Value) (r : Int32) : Prop :=
  Met l y (.code y cc nL ret :: bBig) (bRm fr lo) (va_Pc av (fun U => bPre D E U)) (vp_Si (fun x => x = r)) 0 0 (fun _ => False)
def cR (l : Launch) (D : va_G) (E : bE) (y : MethodName) (cc : ByteArray) (nL : Nat) (ret : Option FieldType) (fr lo : Nat) (ws : va_W) (av : List Value) (r : Int32) : Prop :=
  Met l y (.code y cc nL ret :: bBig) (bRm fr lo) (va_Pc av (fun U => va_P D vwCl ws U.heap ∧ bPre D E U)) (vp_Si (fun x => x = r)) 0 0 (fun _ => False)
def cU (l : Launch) (D : va_G) (E : bE) (y : MethodName) (cc : ByteArray) (nL : Nat) (ret : Option FieldType) (fr lo : Nat) (A : Nat → Prop) (ws ws' : va_W) (av : List Value) (r : Int32) : Prop :=
  Met l y (.code y cc nL ret :: bBig) (bRm fr lo) (va_Pc av (fun U => va_P D vwCl ws U.heap ∧ bPre D E U)) (va_Qi (fun x (_ : Unit) => x = r) (fun _ t => va_P D vwCl ws' t.heap) A) 0 0 A
def cV (l : Launch) (D : va_G) (E : bE) (y : MethodName) (cc : ByteArray) (nL : Nat) (fr lo : Nat) (A : Nat → Prop) (ws ws' : va_W) (av : List Value) : Prop :=
  Met l y (.code y cc nL none :: bBig) (bRm fr lo) (va_Pc av (fun U => va_P D vwCl ws U.heap ∧ bPre D E U)) (va_Qv (fun (_ : Unit) => True) (fun _ t => va_P D vwCl ws' t.heap) A) 0 0 A
abbrev qS (below : List Frame) (r : Int32) (args : Array Value) (s : State) : State → Prop := MQ below (vp_Si (fun x => x = r)) args s 0 0 (fun _ => False)
abbrev qU (D : va_G) (below : List Frame) (A : Nat → Prop) (ws' : va_W) (r : Int32) (args : Array Value) (s : State) : State → Prop := MQ below (va_Qi (fun x (_ : Unit) => x = r) (fun _ t => va_P D vwCl ws' t.heap) A) args s 0 0 A
abbrev qV (D : va_G) (below : List Frame) (A : Nat → Prop) (ws' : va_W) (args : Array Value) (s : State) : State → Prop := MQ below (va_Qv (fun (_ : Unit) => True) (fun _ t => va_P D vwCl ws' t.heap) A) args s 0 0 A
section BOf
variable {l : Launch} {D : va_G} {E : bE} {y : MethodName} {cc : ByteArray} {nL : Nat} {ret : Option FieldType} {fr lo : Nat} {av : List Value} {r : Int32} {ws ws' : va_W} {A : Nat → Prop}
theorem cS_of (hy : plainName y.cls = true) (hn : (lg_sl av).length ≤ nL) (body : ∀ (p : Program) (e : Env) (s : State) (m : MethodId) (args : Array Value) (below : List Frame) (meth : Method) (c : Code), bC D E y.cls cc nL ret p s m args meth c → ∀ ls : Array Slot, lv_has ls nL (lv_args 0 av) → W p l e (bRm fr lo) s m args below meth c s.heap [] 0 0 (qS below r args s) (F0 m 0 ls [])) : cS l D E y cc nL ret fr lo av r := by
  refine Met.ofW (cc := cc) (maxL := nL) (ret := ret) hy rfl ?_
  intro p e s m args below meth c s₁ B hml hv
  obtain ⟨rfl, hK⟩ := hv
  have hts := atoms_spec (ws := .code y cc nL ret :: bBig) B.pre
  have hl := lv_entry av (n := nL) hn
  rw [lg_entry_eq]
  exact body p e s m _ below meth c ⟨B.exec, B.bytes, hml, findClass_of_methodNamed B.named, fun w hw => hts w (List.mem_cons_of_mem _ hw), hK, B.returns, B.notSynchronized⟩ _ hl
theorem cR_of (hy : plainName y.cls = true) (hn : (lg_sl av).length ≤ nL) (body : ∀ (p : Program) (e : Env) (s : State) (m : MethodId) (args : Array Value) (below : List Frame) (meth : Method) (c : Code), bC D E y.cls cc nL ret p s m args meth c → va_P D vwCl ws s.heap → ∀ ls : Array Slot, lv_has ls nL (lv_args 0 av) → W p l e (bRm fr lo) s m args below meth c s.heap [] 0 0 (qS below r args s) (F0 m 0 ls [])) : cR l D E y cc nL ret fr lo ws av r := by
  refine Met.ofW (cc := cc) (maxL := nL) (ret := ret) hy rfl ?_
  intro p e s m args below meth c s₁ B hml hv
  obtain ⟨rfl, hP, hK⟩ := hv
  have hts := atoms_spec (ws := .code y cc nL ret :: bBig) B.pre
  have hl := lv_entry av (n := nL) hn
  rw [lg_entry_eq]
  exact body p e s m _ below meth c ⟨B.exec, B.bytes, hml, findClass_of_methodNamed B.named, fun w hw => hts w (List.mem_cons_of_mem _ hw), hK, B.returns, B.notSynchronized⟩ hP _ hl
theorem cU_of (hy : plainName y.cls = true) (hn : (lg_sl av).length ≤ nL) (body : ∀ (p : Program) (e : Env) (s : State) (m : MethodId) (args : Array Value) (below : List Frame) (meth : Method) (c : Code), bC D E y.cls cc nL ret p s m args meth c → ∀ (H : Heap) (locs : List Loc), va_P D vwCl ws H → va_S A s.heap H locs → ∀ ls : Array Slot, lv_has ls nL (lv_args 0 av) → W p l e (bRm fr lo) s m args below meth c H locs 0 0 (qU D below A ws' r args s) (F0 m 0 ls [])) : cU l D E y cc nL ret fr lo A ws ws' av r := by
  refine Met.ofW (cc := cc) (maxL := nL) (ret := ret) hy rfl ?_
  intro p e s m args below meth c s₁ B hml hv
  obtain ⟨rfl, hP, hK⟩ := hv
  have hts := atoms_spec (ws := .code y cc nL ret :: bBig) B.pre
  have hl := lv_entry av (n := nL) hn
  rw [lg_entry_eq]
  exact body p e s m _ below meth c ⟨B.exec, B.bytes, hml, findClass_of_methodNamed B.named, fun w hw => hts w (List.mem_cons_of_mem _ hw), hK, B.returns, B.notSynchronized⟩ _ _ hP va_S.rf _ hl
theorem cV_of (hy : plainName y.cls = true) (hn : (lg_sl av).length ≤ nL) (body : ∀ (p : Program) (e : Env) (s : State) (m : MethodId) (args : Array Value) (below : List Frame) (meth : Method) (c : Code), bC D E y.cls cc nL none p s m args meth c → ∀ (H : Heap) (locs : List Loc), va_P D vwCl ws H → va_S A s.heap H locs → ∀ ls : Array Slot, lv_has ls nL (lv_args 0 av) → W p l e (bRm fr lo) s m args below meth c H locs 0 0 (qV D below A ws' args s) (F0 m 0 ls [])) : cV l D E y cc nL fr lo A ws ws' av := by
  refine Met.ofW (cc := cc) (maxL := nL) (ret := none) hy rfl ?_
  intro p e s m args below meth c s₁ B hml hv
  obtain ⟨rfl, hP, hK⟩ := hv
  have hts := atoms_spec (ws := .code y cc nL none :: bBig) B.pre
  have hl := lv_entry av (n := nL) hn
  rw [lg_entry_eq]
  exact body p e s m _ below meth c ⟨B.exec, B.bytes, hml, findClass_of_methodNamed B.named, fun w hw => hts w (List.mem_cons_of_mem _ hw), hK, B.returns, B.notSynchronized⟩ _ _ hP va_S.rf _ hl
end BOf
