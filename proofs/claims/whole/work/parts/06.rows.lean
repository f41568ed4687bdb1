abbrev St : Type := Nat → Nat → Int32
/-- the table with another row; with another number -/
def str (S : St) (k : Nat) (f : Nat → Int32) : St := fun j => if j = k then f else S j
def sto (S : St) (k i : Nat) (v : Int32) : St := str S k (upd (S k) i v)
abbrev ix (i : Int32) (n : Nat) : Prop := ¬ (i < 0 ∨ n ≤ i.toNatClampNeg)
def gd {β : Type} (c : Prop) [Decidable c] (x : Option β) : Option β := if c then x else none
theorem gd_some {β : Type} {c : Prop} [Decidable c] {x : Option β} {r : β} (h : gd c x = some r) : c ∧ x = some r := by
  unfold gd at h
  by_cases hc : c
  · rw [if_pos hc] at h; exact ⟨hc, h⟩
  · rw [if_neg hc] at h; cases h
def bd {α β : Type} (x : Option α) (f : α → Option β) : Option β := match x with
  | none => none
  | some a => f a
theorem bd_some {α β : Type} {x : Option α} {f : α → Option β} {r : β} (h : bd x f = some r) : ∃ a, x = some a ∧ f a = some r := by
  cases x with
  | none => cases h
  | some a => exact ⟨a, rfl, h⟩
theorem bd_y {α β : Type} {e y : α} (ey : y = e) {f : α → Option β} {r : β} (h : bd (some e) f = some r) : f y = some r := by subst ey; exact h
theorem if_y {α : Type} {c : Prop} [Decidable c] {x y z : α} (hc : c) (h : (if c then x else y) = z) : x = z := by rw [if_pos hc] at h; exact h
theorem if_n {α : Type} {c : Prop} [Decidable c] {x y z : α} (hc : ¬ c) (h : (if c then x else y) = z) : y = z := by rw [if_neg hc] at h; exact h
/-- a loop: n rounds at most -/
def lpI {α β : Type} (F : (α → Option β) → α → Option β) : Nat → α → Option β
  | 0, _ => none
  | n + 1, x => F (lpI F n) x
theorem lpI_ind {α β : Type} {F : (α → Option β) → α → Option β} {P : α → β → Prop} (st : ∀ k : α → Option β, (∀ x r, k x = some r → P x r) → ∀ x r, F k x = some r → P x r) : ∀ n x r, lpI F n x = some r → P x r := by
  intro n
  induction n with
  | zero => intro x r h; cases h
  | succ n ih => intro x r h; exact st _ ih x r h
theorem ii1 (x : Int32) : x + Int32.ofInt 1 = x + 1 := rfl
theorem iim1 (x : Int32) : x + Int32.ofInt (-1) = x + (-1) := rfl
theorem ii4 (x : Int32) : x + Int32.ofInt 4 = x + 4 := rfl
section BR
variable {p : Program} {l : Launch} {e : Env} {R : Room} {s : State} {m : MethodId} {args : Array Value} {below : List Frame} {meth : Method} {c : Code} {H : Heap} {locs : List Loc} {cells slots : Nat} {Q : State → Prop}
variable {cc : ByteArray} {pc nL : Nat} {ls : Array Slot} {rest : List Value} {D : va_G} {E : bE} {A : Nat → Prop} {ad : Nat} {ws ws' : va_W} {own : String} {ret : Option FieldType} {r v : Int32} {S : St}
/-! ends -/
theorem r_retS (C : bC D E own cc nL (some .int) p s m args meth c) (h : (some v : Option Int32) = some r) (hdg : decode cc pc = .ok (.ireturn, 1)) : W p l e R s m args below meth c s.heap [] 0 0 (qS below r args s) (F0 m pc ls [.int v]) := by
  obtain ⟨hx, hb, -, -, -, -, hr, hlocks⟩ := C
  cases h
  exact W.iret hx hb hr (fun t ht _ => ⟨_, rfl, rfl, ht⟩) (fun q hq => by cases hq) hdg
theorem narrowZ {v : Int32} (h : v &&& 1 = v) : narrow .boolean (.int v) = .int v := by
  show Value.int (v &&& 1) = .int v
  rw [h]
theorem r_retZ (C : bC D E own cc nL (some .boolean) p s m args meth c) (h : gd (v &&& 1 = v) (some v : Option Int32) = some r) (hdg : decode cc pc = .ok (.ireturn, 1)) : W p l e R s m args below meth c s.heap [] 0 0 (qS below r args s) (F0 m pc ls [.int v]) := by
  obtain ⟨hx, hb, -, -, -, -, hr, hlocks⟩ := C
  obtain ⟨hz, h⟩ := gd_some h
  cases h
  exact W.zret hx hb hr (narrowZ hz) (fun t ht _ => ⟨_, rfl, rfl, ht⟩) (fun q hq => by cases hq) hdg
theorem r_retU (C : bC D E own cc nL (some .int) p s m args meth c) {𝓦 : St → va_W} {S' : St} (h : (some (v, S) : Option (Int32 × St)) = some (r, S')) (hP : va_P D vwCl (𝓦 S) H) (hS : va_S A s.heap H locs) (hdg : decode cc pc = .ok (.ireturn, 1)) : W p l e R s m args below meth c H locs 0 0 (qU D below A (𝓦 S') r args s) (F0 m pc ls [.int v]) := by
  obtain ⟨hx, hb, -, -, -, -, hr, hlocks⟩ := C
  cases h
  exact W.iret hx hb hr (fun t ht _ => ⟨⟨_, (), rfl, rfl, by subst ht; exact hP⟩, hS.F ht⟩) hS.2.2 hdg
theorem r_retUZ (C : bC D E own cc nL (some .boolean) p s m args meth c) {𝓦 : St → va_W} {S' : St} (h : gd (v &&& 1 = v) (some (v, S) : Option (Int32 × St)) = some (r, S')) (hP : va_P D vwCl (𝓦 S) H) (hS : va_S A s.heap H locs) (hdg : decode cc pc = .ok (.ireturn, 1)) : W p l e R s m args below meth c H locs 0 0 (qU D below A (𝓦 S') r args s) (F0 m pc ls [.int v]) := by
  obtain ⟨hx, hb, -, -, -, -, hr, hlocks⟩ := C
  obtain ⟨hz, h⟩ := gd_some h
  cases h
  exact W.zret hx hb hr (narrowZ hz) (fun t ht _ => ⟨⟨_, (), rfl, rfl, by subst ht; exact hP⟩, hS.F ht⟩) hS.2.2 hdg
theorem r_retV (C : bC D E own cc nL none p s m args meth c) {𝓦 : St → va_W} {S' : St} (h : (some S : Option St) = some S') (hP : va_P D vwCl (𝓦 S) H) (hS : va_S A s.heap H locs) (hdg : decode cc pc = .ok (.return_, 1)) : W p l e R s m args below meth c H locs 0 0 (qV D below A (𝓦 S') args s) (F0 m pc ls []) := by
  obtain ⟨hx, hb, -, -, -, -, hr, hlocks⟩ := C
  cases h
  exact W.vret hx hb hr (fun t ht _ => ⟨⟨(), rfl, trivial, by subst ht; exact hP⟩, hS.F ht⟩) hS.2.2 hdg
/-! cells -/
theorem r_ald (hx : p.tables.exec = Jvm.exec) (hb : c.code = cc) (hK : bPre D E s) (hP : va_P D vwCl ws H) (q0 : Nat) {n : Nat} {f : Nat → Int32} (ha : ws[q0]? = some (ad, .inl (E.1, n, .inl f))) {i : Int32} (hin : ix i n) (hdg : decode cc pc = .ok (.iaload, 1))
    (kk : W p l e R s m args below meth c H locs cells slots Q (F0 m (pc + 1) ls (.int (f i.toNatClampNeg) :: rest))) : W p l e R s m args below meth c H locs cells slots Q (F0 m pc ls (.int i :: .ref ad :: rest)) :=
  va_iald hx hb hK.1 hP q0 0 ha rfl hin hdg kk
theorem r_zld (hx : p.tables.exec = Jvm.exec) (hb : c.code = cc) (hK : bPre D E s) (hP : va_P D vwCl ws H) (q0 : Nat) {n : Nat} {f : Nat → Int32} (ha : ws[q0]? = some (ad, .inl (E.2.1, n, .inl f))) {i : Int32} (hin : ix i n) (hdg : decode cc pc = .ok (.baload, 1))
    (kk : W p l e R s m args below meth c H locs cells slots Q (F0 m (pc + 1) ls (.int (f i.toNatClampNeg) :: rest))) : W p l e R s m args below meth c H locs cells slots Q (F0 m pc ls (.int i :: .ref ad :: rest)) :=
  va_zald hx hb hK.1 hP q0 1 ha rfl hin hdg kk
theorem r_ast {𝓦 : St → va_W} (hx : p.tables.exec = Jvm.exec) (hb : c.code = cc) (hK : bPre D E s) (hP : va_P D vwCl (𝓦 S) H) (hD : va_D A (𝓦 S)) (hS : va_S A s.heap H locs) (q0 : Nat) {n : Nat} (ha : (𝓦 S)[q0]? = some (ad, .inl (E.1, n, .inl (S q0)))) (hset : ∀ f, (𝓦 S).set q0 (ad, .inl (E.1, n, .inl f)) = 𝓦 (str S q0 f)) {i x : Int32} (hin : ix i n) (hdg : decode cc pc = .ok (.iastore, 1))
    (kk : ∀ (H1 : Heap) (locs1 : List Loc) (S1 : St), S1 = sto S q0 i.toNatClampNeg x → va_P D vwCl (𝓦 S1) H1 → va_S A s.heap H1 locs1 → W p l e R s m args below meth c H1 locs1 cells slots Q (F0 m (pc + 1) ls rest)) : W p l e R s m args below meth c H locs cells slots Q (F0 m pc ls (.int x :: .int i :: .ref ad :: rest)) :=
  va_iast hx hb hK.1 hP hD hS q0 0 ha rfl hin hdg (fun H1 locs1 hP1 _ hS1 => kk H1 locs1 _ rfl (by rw [hset] at hP1; exact hP1) hS1)
theorem r_zst {𝓦 : St → va_W} (hx : p.tables.exec = Jvm.exec) (hb : c.code = cc) (hK : bPre D E s) (hP : va_P D vwCl (𝓦 S) H) (hD : va_D A (𝓦 S)) (hS : va_S A s.heap H locs) (q0 : Nat) {n : Nat} (ha : (𝓦 S)[q0]? = some (ad, .inl (E.2.1, n, .inl (S q0)))) (hset : ∀ f, (𝓦 S).set q0 (ad, .inl (E.2.1, n, .inl f)) = 𝓦 (str S q0 f)) {i x : Int32} (hin : ix i n) (hdg : decode cc pc = .ok (.bastore, 1))
    (kk : ∀ (H1 : Heap) (locs1 : List Loc) (S1 : St), S1 = sto S q0 i.toNatClampNeg (vp_nar .boolean x) → va_P D vwCl (𝓦 S1) H1 → va_S A s.heap H1 locs1 → W p l e R s m args below meth c H1 locs1 cells slots Q (F0 m (pc + 1) ls rest)) : W p l e R s m args below meth c H locs cells slots Q (F0 m pc ls (.int x :: .int i :: .ref ad :: rest)) :=
  va_zast hx hb hK.1 hP hD hS q0 1 ha rfl hin hdg (fun H1 locs1 hP1 _ hS1 => kk H1 locs1 _ rfl (by rw [hset] at hP1; exact hP1) hS1)
theorem r_put {𝓦 : St → va_W} {Cn : String} {T : u_T} {N ci index : Nat} (hx : p.tables.exec = Jvm.exec) (hb : c.code = cc) (hts : ∀ w ∈ bBig, w.before args s = true) (hown : s.vm.findClass own = some m.cls) (hK : bPre D E s) (hin : ∀ w ∈ u_ws Cn T N, w ∈ bBig) (ty0 : Nat → FieldType) (hty : ∀ k, k < N → parseFieldDescriptor (T k).2.2.1 = some (ty0 k)) (hnm : ∀ a, a < N → ∀ b, b < N → a ≠ b → (T a).2.1 ≠ (T b).2.1)
    (hP : va_P D vwCl (𝓦 S) H) (hD : va_D A (𝓦 S)) (hS : va_S A s.heap H locs) (q0 : Nat) {fs : List Value} (he : (𝓦 S)[q0]? = some (ad, .inr (ci, fs))) (hc : vwCl[ci]? = some (Cn, T, N)) (k : Nat) (hk : k < N) (hl : Cond.fieldLink own index (T k).1 (T k).2.1 (T k).2.2.1 ∈ bBig) (hfin : (T k).2.2.2 = false) (hd : parseFieldDescriptor (T k).2.2.1 = some .int) (hlen : k < fs.length)
    (hset : (𝓦 S).set q0 (ad, .inr (ci, fs.set k (.int v))) = 𝓦 (sto S q0 k v)) (hdg : decode cc pc = .ok (.putfield index, 3))
    (kk : ∀ (H1 : Heap) (locs1 : List Loc) (S1 : St), S1 = sto S q0 k v → va_P D vwCl (𝓦 S1) H1 → va_S A s.heap H1 locs1 → W p l e R s m args below meth c H1 locs1 cells slots Q (F0 m (pc + 3) ls rest)) : W p l e R s m args below meth c H locs cells slots Q (F0 m pc ls (.int v :: .ref ad :: rest)) :=
  va_put hx hb hts hin ty0 hty hnm hown hK.1 hP hD hS q0 he hc k hk (hts _ hl) (fun _ h => h) hfin hd rfl rfl hlen hdg (fun H1 locs1 hP1 _ hS1 => kk H1 locs1 _ rfl (by rw [hset] at hP1; exact hP1) hS1)
theorem r_cpy {𝓦 : St → va_W} {index : Nat} (C : bC D E own cc nL ret p s m args meth c) (hP : va_P D vwCl (𝓦 S) H) (hD : va_D A (𝓦 S)) (hS : va_S A s.heap H locs) (hls : ls.size = nL) (hlink : Cond.methodLink own index arraycopyName ∈ bBig) (hnat : Cond.native arraycopyName ∈ bBig) (hstat : Cond.static arraycopyName ∈ bBig) (hini : Cond.initialized "java/lang/System" ∈ bBig)
    (q0 q1 : Nat) {a0 a1 n0 n1 : Nat} (ha0 : (𝓦 S)[q0]? = some (a0, .inl (E.1, n0, .inl (S q0)))) (ha1 : (𝓦 S)[q1]? = some (a1, .inl (E.1, n1, .inl (S q1)))) (hset : ∀ f, (𝓦 S).set q1 (a1, .inl (E.1, n1, .inl f)) = 𝓦 (str S q1 f))
    {n : Int32} (h3 : ¬ n < 0) (h4 : n.toNatClampNeg ≤ n0) (h5 : n.toNatClampNeg ≤ n1) (hfr : 1 ≤ R.frames) (hlo : (rest.map fun v => v.category).sum + (nativeFrameWords "java/lang/System" "arraycopy" 5 + 11) ≤ R.locals) (hdg : decode cc pc = .ok (.invokestatic index, 3))
    (kk : ∀ (H1 : Heap) (locs1 : List Loc) (S1 : St), S1 = str S q1 (va_cpy (S q0) (S q1) 0 0 n.toNatClampNeg) → va_P D vwCl (𝓦 S1) H1 → va_S A s.heap H1 locs1 → W p l e R s m args below meth c H1 locs1 cells slots Q (F0 m (pc + 3) ls rest)) : W p l e R s m args below meth c H locs cells slots Q (F0 m pc ls (.int n :: .int 0 :: .ref a1 :: .int 0 :: .ref a0 :: rest)) := by
  obtain ⟨hx, hb, hml, hown, hts, hK, hr, hlocks⟩ := C
  exact va_copyi hx hb (hml.trans hls.symm) hown (hts _ hlink) (hts _ hnat) (hts _ hstat) (hts _ hini) hK.1 hP hD hS q0 q1 0 0 (ty := .int) ha0 ha1 rfl rfl rfl (by decide) (by decide) h3 (by rw [show (0 : Int32).toNatClampNeg = 0 from rfl, Nat.zero_add]; exact h4) (by rw [show (0 : Int32).toNatClampNeg = 0 from rfl, Nat.zero_add]; exact h5) (fun _ _ => rfl) hfr hlo hdg (fun H1 locs1 hP1 _ hS1 => kk H1 locs1 _ rfl (by rw [hset] at hP1; exact hP1) hS1)
end BR
