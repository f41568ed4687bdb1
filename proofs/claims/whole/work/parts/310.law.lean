/-! the law -/
abbrev lwA (s : State) : Nat → Prop := fun q => s.heap.size ≤ q
/-- what holds all through the law's loop -/
def lwX (D : va_G) (E : bE) (a b : Nat → Nat) (p : Program) (s : State) (m : MethodId) (args : Array Value) (meth : Method) (c : Code) (bs L : Nat) (xs : Nat → Int32) : Prop :=
  bC D E RL cL_law 4 (some .boolean) p s m args meth c ∧ va_X bs L xs s s.heap ∧ bs < s.heap.size ∧ aI 49 a ∧ aI 18 b ∧ (∀ k, k < 49 → s.heap.size ≤ a k) ∧ (∀ k, k < 18 → s.heap.size ≤ b k) ∧ (∀ i j, i < 49 → j < 18 → a i ≠ b j)
def lW (D : va_G) (E : bE) (a b : Nat → Nat) (p : Program) (l : Launch) (e : Env) (s : State) (m : MethodId) (args : Array Value) (below : List Frame) (meth : Method) (c : Code) (bs : Nat) (Rel : St → St → Prop) (Q : State → Prop) (pc : Nat) (i : Int32) : Prop :=
  ∀ (Su Sm : St) (H : Heap) (locs : List Loc) (ls : Array Slot), Rel Su Sm → va_P D vwCl (Wu E a Su) H → va_P D vwCl (Wm E b Sm) H → va_S (lwA s) s.heap H locs → lv_has ls 4 [(0, .ref bs), (1, .ref (a 0)), (2, .ref (b 0)), (3, .int i)] → W p l e room_1 s m args below meth c H locs 600000 7302249 Q (F0 m pc ls [])
theorem keepM {D : va_G} {E : bE} {a b : Nat → Nat} {S : St} {H H1 : Heap} (hab : ∀ i j, i < 49 → j < 18 → a i ≠ b j) (hP : va_P D vwCl (Wm E b S) H) (hk : ∀ q : Nat, q < H.size → ¬ aA 49 a q → H1[q]? = H[q]?) : va_P D vwCl (Wm E b S) H1 :=
  hP.kept (fun k q hq => hk q.1 (hP k q hq).lt (fun ⟨i, hi, e⟩ => hab i k hi (wmAddr E b S hq).1 (by rw [← e, (wmAddr E b S hq).2])))
theorem keepU {D : va_G} {E : bE} {a b : Nat → Nat} {S : St} {H H1 : Heap} (hab : ∀ i j, i < 49 → j < 18 → a i ≠ b j) (hP : va_P D vwCl (Wu E a S) H) (hk : ∀ q : Nat, q < H.size → ¬ aA 18 b q → H1[q]? = H[q]?) : va_P D vwCl (Wu E a S) H1 :=
  hP.kept (fun k q hq => hk q.1 (hP k q hq).lt (fun ⟨j, hj, e⟩ => hab _ j (sw27_lt (wuAddr E a S hq).1) hj (by rw [← e, (wuAddr E a S hq).2])))
section BL
variable {p : Program} {l : Launch} {e : Env} {R : Room} {s : State} {m : MethodId} {args : Array Value} {below : List Frame} {meth : Method} {c : Code} {H : Heap} {locs : List Loc} {cells slots : Nat} {Q : State → Prop}
variable {cc : ByteArray} {pc nL : Nat} {ls : Array Slot} {rest st0 : List Value} {D : va_G} {E : bE} {A A0 : Nat → Prop} {ws ws' : va_W} {own : String} {ret : Option FieldType} {r : Int32}
variable {y : MethodName} {bytes : ByteArray} {maxL n fr lo index : Nat} {ret' : Option FieldType} {As : List Value} {b : Nat}
theorem r_lawU {q : vw_C} {q0 ci : Nat} {fs : List Value} (C : bC D E own cc nL ret p s m args meth c) (hP : va_P D vwCl ws H) (hS : va_S A0 s.heap H locs) (hA : ∀ q, A q → A0 q) (hM : cU l D E y bytes maxL ret' fr lo A ws ws' (.ref b :: As) r) (ho : okV y bytes maxL ret' n) (hlink : Cond.methodLink own index y ∈ bBig) (he : ws[q0]? = some (b, .inr (ci, fs))) (hc : vwCl[ci]? = some q) (hq : q.1 = y.cls) (hR : fr + 1 ≤ R.frames ∧ 8 + (maxL + 11) + lo ≤ R.locals) (hn : As.length = n) (hls : ls.size = nL) (hst : st0 = As.reverse ++ .ref b :: rest) (hcat : (rest.map fun v => v.category).sum ≤ 8) (hdg : decode cc pc = .ok (.invokevirtual index, 3)) (hcs : cells ≤ R.cells ∧ slots ≤ R.slots)
    (kk : ∀ (H1 : Heap) (locs1 : List Loc), va_P D vwCl ws' H1 → (∀ q : Nat, q < H.size → ¬ A q → H1[q]? = H[q]?) → va_S A0 s.heap H1 locs1 → W p l e R s m args below meth c H1 locs1 cells slots Q (F0 m (pc + 3) ls (.int r :: rest))) : W p l e R s m args below meth c H locs cells slots Q (F0 m pc ls st0) := by
  obtain ⟨hx, hb, hml, hown, hts, hK, hr, hlocks⟩ := C
  refine va_calli (va_runV (As := As) (rest := rest) ⟨hx, hb, hml, hown, hts⟩ hM (bCallW hts ho hlink hR) ⟨bBlindR, bRecv hK hP he hc hq, fun U hU hW => ⟨rfl, by rw [hU]; exact hP, bPre.warm hW hK⟩⟩ rfl hn hls hst (lv_room hcat) hdg ⟨hcs.1, hcs.2⟩) hS (fun q _ h => hA q h) hA (fun r' u t H1 locs1 ht hvm hw hB hz1 hk1 hS1 => ?_)
  rw [hw]; exact kk H1 locs1 (by rw [← ht]; exact hB) hk1 hS1
end BL
theorem tabOut0_24 {x : Int32} (h : ∀ k : Nat, k ≤ 24 → ¬ x = nI k) : x.toInt < 0 ∨ 24 < x.toInt := by
  rcases Int.lt_or_le x.toInt 0 with h0 | h0
  · exact Or.inl h0
  · rcases Int.lt_or_le 24 x.toInt with h1 | h1
    · exact Or.inr h1
    · exfalso
      obtain ⟨j, hj, hx⟩ := nI_of (x := x) (fun z => by have := Int32.lt_iff_toInt_lt.mp z; simp at this; omega)
      have e : x.toInt = (j : Int) := by rw [hx]; exact nI_toInt hj
      exact h j (by omega) hx
variable {p : Program} {l : Launch} {e : Env} {s : State} {m : MethodId} {args : Array Value} {below : List Frame} {meth : Method} {c : Code} {D : va_G} {E : bE} {a b : Nat → Nat} {bs L : Nat} {xs : Nat → Int32} {Rel : St → St → Prop} {Q : State → Prop} {i : Int32}
def lp_0 (Rel : St → St → Prop) : Prop := ∀ (x1 : Int32) (Su Sm : St), Rel Su Sm → ∃ r : Int32, ∃ Su2 : St, f_X4_say x1 Su = some (r, Su2) ∧ ∃ Sm2 : St, f_X5_say x1 Sm = some (r, Sm2) ∧ Rel Su2 Sm2
theorem law_0 (X : lwX D E a b p s m args meth c bs L xs) (hi1 : vp_in (i + 1) L) (pu : lp_0 Rel) (k9 : lW D E a b p l e s m args below meth c bs Rel Q 793 i) : lW D E a b p l e s m args below meth c bs Rel Q 148 i := by
  obtain ⟨C, hX, hbl, hIa, hIb, haf, hbf, hab⟩ := X
  obtain ⟨hx, hb, hml, hown, hts, hK, hr, hlocks⟩ := id C
  intro Su Sm H locs ls hR hPu hPm hS hl
  have hbA : ¬ lwA s bs := Nat.not_le.mpr hbl
  obtain ⟨r, Su2, hu, Sm2, hm, hR2⟩ := pu (xs (Int32.toNatClampNeg (i + 1))) Su Sm hR
  refine lv_aload_n (pc := 148) hx hb dL_law_148 rfl (lv_at hl 1 rfl) ?_
  refine lv_aload_n (pc := 149) hx hb dL_law_149 rfl (lv_at hl 0 rfl) ?_
  refine lv_iload_n (pc := 150) hx hb dL_law_150 rfl (lv_at hl 3 rfl) ?_
  refine lv_iconst (v := 1) (pc := 151) hx hb dL_law_151 (by decide) ?_
  refine lv_iadd (pc := 152) hx hb dL_law_152 ?_
  refine va_sld (pc := 153) hx hb hX hbl hbA hS hi1 dL_law_153 ?_
  refine r_lawU (pc := 154) C hPu hS (fun q ⟨k, hk, e⟩ => by rw [e]; exact haf k hk) (c_X4_say hIa hu) k_X4_say wd_240 (q0 := 0) wu0 rfl rfl ⟨(Nat.le_of_ble_eq_true rfl), (Nat.le_of_ble_eq_true rfl)⟩ rfl hl.1 rfl (Nat.le_of_ble_eq_true rfl) dL_law_154 ⟨(Nat.le_of_ble_eq_true rfl), (Nat.le_of_ble_eq_true rfl)⟩ (fun H1 locs hPu hk1 hS => ?_)
  have hPm := keepM hab hPm hk1
  refine lv_aload_n (pc := 157) hx hb dL_law_157 rfl (lv_at hl 2 rfl) ?_
  refine lv_aload_n (pc := 158) hx hb dL_law_158 rfl (lv_at hl 0 rfl) ?_
  refine lv_iload_n (pc := 159) hx hb dL_law_159 rfl (lv_at hl 3 rfl) ?_
  refine lv_iconst (v := 1) (pc := 160) hx hb dL_law_160 (by decide) ?_
  refine lv_iadd (pc := 161) hx hb dL_law_161 ?_
  refine va_sld (pc := 162) hx hb hX hbl hbA hS hi1 dL_law_162 ?_
  refine r_lawU (pc := 163) C hPm hS (fun q ⟨k, hk, e⟩ => by rw [e]; exact hbf k hk) (c_X5_say hIb hm) k_X5_say wd_630 (q0 := 0) wm0 rfl rfl ⟨(Nat.le_of_ble_eq_true rfl), (Nat.le_of_ble_eq_true rfl)⟩ rfl hl.1 rfl (Nat.le_of_ble_eq_true rfl) dL_law_163 ⟨(Nat.le_of_ble_eq_true rfl), (Nat.le_of_ble_eq_true rfl)⟩ (fun H1 locs hPm hk1 hS => ?_)
  have hPu := keepU hab hPu hk1
  refine lv_icmp_eq (tgt := 793) (pc := 166) hx hb dL_law_166 (by decide) (fun hc => ?_) (fun hc => absurd rfl hc)
  exact k9 _ _ _ _ ls hR2 hPu hPm hS hl
def lp_1 (Rel : St → St → Prop) : Prop := ∀ (Su Sm : St), Rel Su Sm → ∃ r : Int32, ∃ Su2 : St, f_X4_wipe Su = some (r, Su2) ∧ ∃ Sm2 : St, f_X5_wipe Sm = some (r, Sm2) ∧ Rel Su2 Sm2
theorem law_1 (X : lwX D E a b p s m args meth c bs L xs) (pu : lp_1 Rel) (k9 : lW D E a b p l e s m args below meth c bs Rel Q 793 i) : lW D E a b p l e s m args below meth c bs Rel Q 171 i := by
  obtain ⟨C, hX, hbl, hIa, hIb, haf, hbf, hab⟩ := X
  obtain ⟨hx, hb, hml, hown, hts, hK, hr, hlocks⟩ := id C
  intro Su Sm H locs ls hR hPu hPm hS hl
  have hbA : ¬ lwA s bs := Nat.not_le.mpr hbl
  obtain ⟨r, Su2, hu, Sm2, hm, hR2⟩ := pu  Su Sm hR
  refine lv_aload_n (pc := 171) hx hb dL_law_171 rfl (lv_at hl 1 rfl) ?_
  refine r_lawU (pc := 172) C hPu hS (fun q ⟨k, hk, e⟩ => by rw [e]; exact haf k hk) (c_X4_wipe hIa hu) k_X4_wipe wd_251 (q0 := 0) wu0 rfl rfl ⟨(Nat.le_of_ble_eq_true rfl), (Nat.le_of_ble_eq_true rfl)⟩ rfl hl.1 rfl (Nat.le_of_ble_eq_true rfl) dL_law_172 ⟨(Nat.le_of_ble_eq_true rfl), (Nat.le_of_ble_eq_true rfl)⟩ (fun H1 locs hPu hk1 hS => ?_)
  have hPm := keepM hab hPm hk1
  refine lv_aload_n (pc := 175) hx hb dL_law_175 rfl (lv_at hl 2 rfl) ?_
  refine r_lawU (pc := 176) C hPm hS (fun q ⟨k, hk, e⟩ => by rw [e]; exact hbf k hk) (c_X5_wipe hIb hm) k_X5_wipe wd_637 (q0 := 0) wm0 rfl rfl ⟨(Nat.le_of_ble_eq_true rfl), (Nat.le_of_ble_eq_true rfl)⟩ rfl hl.1 rfl (Nat.le_of_ble_eq_true rfl) dL_law_176 ⟨(Nat.le_of_ble_eq_true rfl), (Nat.le_of_ble_eq_true rfl)⟩ (fun H1 locs hPm hk1 hS => ?_)
  have hPu := keepU hab hPu hk1
  refine lv_icmp_eq (tgt := 793) (pc := 179) hx hb dL_law_179 (by decide) (fun hc => ?_) (fun hc => absurd rfl hc)
  exact k9 _ _ _ _ ls hR2 hPu hPm hS hl
def lp_2 (N : Nat) (Rel : St → St → Prop) : Prop := ∀ (Su Sm : St), Rel Su Sm → ∃ r : Int32, ∃ Su2 : St, f_X4_fault N Su = some (r, Su2) ∧ ∃ Sm2 : St, f_X5_fault N Sm = some (r, Sm2) ∧ Rel Su2 Sm2
theorem law_2 (N : Nat) (X : lwX D E a b p s m args meth c bs L xs) (pu : lp_2 N Rel) (k9 : lW D E a b p l e s m args below meth c bs Rel Q 793 i) : lW D E a b p l e s m args below meth c bs Rel Q 184 i := by
  obtain ⟨C, hX, hbl, hIa, hIb, haf, hbf, hab⟩ := X
  obtain ⟨hx, hb, hml, hown, hts, hK, hr, hlocks⟩ := id C
  intro Su Sm H locs ls hR hPu hPm hS hl
  have hbA : ¬ lwA s bs := Nat.not_le.mpr hbl
  obtain ⟨r, Su2, hu, Sm2, hm, hR2⟩ := pu  Su Sm hR
  refine lv_aload_n (pc := 184) hx hb dL_law_184 rfl (lv_at hl 1 rfl) ?_
  refine r_lawU (pc := 185) C hPu hS (fun q ⟨k, hk, e⟩ => by rw [e]; exact haf k hk) (c_X4_fault hIa N hu) k_X4_fault wd_255 (q0 := 0) wu0 rfl rfl ⟨(Nat.le_of_ble_eq_true rfl), (Nat.le_of_ble_eq_true rfl)⟩ rfl hl.1 rfl (Nat.le_of_ble_eq_true rfl) dL_law_185 ⟨(Nat.le_of_ble_eq_true rfl), (Nat.le_of_ble_eq_true rfl)⟩ (fun H1 locs hPu hk1 hS => ?_)
  have hPm := keepM hab hPm hk1
  refine lv_aload_n (pc := 188) hx hb dL_law_188 rfl (lv_at hl 2 rfl) ?_
  refine r_lawU (pc := 189) C hPm hS (fun q ⟨k, hk, e⟩ => by rw [e]; exact hbf k hk) (c_X5_fault hIb N hm) k_X5_fault wd_641 (q0 := 0) wm0 rfl rfl ⟨(Nat.le_of_ble_eq_true rfl), (Nat.le_of_ble_eq_true rfl)⟩ rfl hl.1 rfl (Nat.le_of_ble_eq_true rfl) dL_law_189 ⟨(Nat.le_of_ble_eq_true rfl), (Nat.le_of_ble_eq_true rfl)⟩ (fun H1 locs hPm hk1 hS => ?_)
  have hPu := keepU hab hPu hk1
  refine lv_icmp_eq (tgt := 793) (pc := 192) hx hb dL_law_192 (by decide) (fun hc => ?_) (fun hc => absurd rfl hc)
  exact k9 _ _ _ _ ls hR2 hPu hPm hS hl
def lp_3 (N : Nat) (Rel : St → St → Prop) : Prop := ∀ (x1 : Int32) (Su Sm : St), Rel Su Sm → ∃ r : Int32, ∃ Su2 : St, f_X4_terms N x1 Su = some (r, Su2) ∧ ∃ Sm2 : St, f_X5_terms N x1 Sm = some (r, Sm2) ∧ Rel Su2 Sm2
theorem law_3 (N : Nat) (X : lwX D E a b p s m args meth c bs L xs) (hi1 : vp_in (i + 1) L) (pu : lp_3 N Rel) (k9 : lW D E a b p l e s m args below meth c bs Rel Q 793 i) : lW D E a b p l e s m args below meth c bs Rel Q 197 i := by
  obtain ⟨C, hX, hbl, hIa, hIb, haf, hbf, hab⟩ := X
  obtain ⟨hx, hb, hml, hown, hts, hK, hr, hlocks⟩ := id C
  intro Su Sm H locs ls hR hPu hPm hS hl
  have hbA : ¬ lwA s bs := Nat.not_le.mpr hbl
  obtain ⟨r, Su2, hu, Sm2, hm, hR2⟩ := pu (xs (Int32.toNatClampNeg (i + 1))) Su Sm hR
  refine lv_aload_n (pc := 197) hx hb dL_law_197 rfl (lv_at hl 1 rfl) ?_
  refine lv_aload_n (pc := 198) hx hb dL_law_198 rfl (lv_at hl 0 rfl) ?_
  refine lv_iload_n (pc := 199) hx hb dL_law_199 rfl (lv_at hl 3 rfl) ?_
  refine lv_iconst (v := 1) (pc := 200) hx hb dL_law_200 (by decide) ?_
  refine lv_iadd (pc := 201) hx hb dL_law_201 ?_
  refine va_sld (pc := 202) hx hb hX hbl hbA hS hi1 dL_law_202 ?_
  refine r_lawU (pc := 203) C hPu hS (fun q ⟨k, hk, e⟩ => by rw [e]; exact haf k hk) (c_X4_terms hIa N hu) k_X4_terms wd_278 (q0 := 0) wu0 rfl rfl ⟨(Nat.le_of_ble_eq_true rfl), (Nat.le_of_ble_eq_true rfl)⟩ rfl hl.1 rfl (Nat.le_of_ble_eq_true rfl) dL_law_203 ⟨(Nat.le_of_ble_eq_true rfl), (Nat.le_of_ble_eq_true rfl)⟩ (fun H1 locs hPu hk1 hS => ?_)
  have hPm := keepM hab hPm hk1
  refine lv_aload_n (pc := 206) hx hb dL_law_206 rfl (lv_at hl 2 rfl) ?_
  refine lv_aload_n (pc := 207) hx hb dL_law_207 rfl (lv_at hl 0 rfl) ?_
  refine lv_iload_n (pc := 208) hx hb dL_law_208 rfl (lv_at hl 3 rfl) ?_
  refine lv_iconst (v := 1) (pc := 209) hx hb dL_law_209 (by decide) ?_
  refine lv_iadd (pc := 210) hx hb dL_law_210 ?_
  refine va_sld (pc := 211) hx hb hX hbl hbA hS hi1 dL_law_211 ?_
  refine r_lawU (pc := 212) C hPm hS (fun q ⟨k, hk, e⟩ => by rw [e]; exact hbf k hk) (c_X5_terms hIb N hm) k_X5_terms wd_652 (q0 := 0) wm0 rfl rfl ⟨(Nat.le_of_ble_eq_true rfl), (Nat.le_of_ble_eq_true rfl)⟩ rfl hl.1 rfl (Nat.le_of_ble_eq_true rfl) dL_law_212 ⟨(Nat.le_of_ble_eq_true rfl), (Nat.le_of_ble_eq_true rfl)⟩ (fun H1 locs hPm hk1 hS => ?_)
  have hPu := keepU hab hPu hk1
  refine lv_icmp_eq (tgt := 793) (pc := 215) hx hb dL_law_215 (by decide) (fun hc => ?_) (fun hc => absurd rfl hc)
  exact k9 _ _ _ _ ls hR2 hPu hPm hS hl
def lp_4 (Rel : St → St → Prop) : Prop := ∀ (x1 : Int32) (x2 : Int32) (Su Sm : St), Rel Su Sm → ∃ r : Int32, f_X4_about x1 x2 Su = some r ∧ f_X5_about x1 x2 Sm = some r ∧ Rel Su Sm
theorem law_4 (X : lwX D E a b p s m args meth c bs L xs) (hi1 : vp_in (i + 1) L) (hi2 : vp_in (i + 2) L) (pu : lp_4 Rel) (k9 : lW D E a b p l e s m args below meth c bs Rel Q 793 i) : lW D E a b p l e s m args below meth c bs Rel Q 220 i := by
  obtain ⟨C, hX, hbl, hIa, hIb, haf, hbf, hab⟩ := X
  obtain ⟨hx, hb, hml, hown, hts, hK, hr, hlocks⟩ := id C
  intro Su Sm H locs ls hR hPu hPm hS hl
  have hbA : ¬ lwA s bs := Nat.not_le.mpr hbl
  obtain ⟨r, hu, hm, hR2⟩ := pu (xs (Int32.toNatClampNeg (i + 1))) (xs (Int32.toNatClampNeg (i + 2))) Su Sm hR
  refine lv_aload_n (pc := 220) hx hb dL_law_220 rfl (lv_at hl 1 rfl) ?_
  refine lv_aload_n (pc := 221) hx hb dL_law_221 rfl (lv_at hl 0 rfl) ?_
  refine lv_iload_n (pc := 222) hx hb dL_law_222 rfl (lv_at hl 3 rfl) ?_
  refine lv_iconst (v := 1) (pc := 223) hx hb dL_law_223 (by decide) ?_
  refine lv_iadd (pc := 224) hx hb dL_law_224 ?_
  refine va_sld (pc := 225) hx hb hX hbl hbA hS hi1 dL_law_225 ?_
  refine lv_aload_n (pc := 226) hx hb dL_law_226 rfl (lv_at hl 0 rfl) ?_
  refine lv_iload_n (pc := 227) hx hb dL_law_227 rfl (lv_at hl 3 rfl) ?_
  refine lv_iconst (v := 2) (pc := 228) hx hb dL_law_228 (by decide) ?_
  refine lv_iadd (pc := 229) hx hb dL_law_229 ?_
  refine va_sld (pc := 230) hx hb hX hbl hbA hS hi2 dL_law_230 ?_
  refine r_callR (pc := 231) C hPu (c_X4_about hIa hu) k_X4_about wd_283 (q0 := 0) wu0 rfl rfl ⟨(Nat.le_of_ble_eq_true rfl), (Nat.le_of_ble_eq_true rfl)⟩ rfl hl.1 rfl (Nat.le_of_ble_eq_true rfl) dL_law_231 ⟨(Nat.le_of_ble_eq_true rfl), (Nat.le_of_ble_eq_true rfl)⟩ ?_
  refine lv_aload_n (pc := 234) hx hb dL_law_234 rfl (lv_at hl 2 rfl) ?_
  refine lv_aload_n (pc := 235) hx hb dL_law_235 rfl (lv_at hl 0 rfl) ?_
  refine lv_iload_n (pc := 236) hx hb dL_law_236 rfl (lv_at hl 3 rfl) ?_
  refine lv_iconst (v := 1) (pc := 237) hx hb dL_law_237 (by decide) ?_
  refine lv_iadd (pc := 238) hx hb dL_law_238 ?_
  refine va_sld (pc := 239) hx hb hX hbl hbA hS hi1 dL_law_239 ?_
  refine lv_aload_n (pc := 240) hx hb dL_law_240 rfl (lv_at hl 0 rfl) ?_
  refine lv_iload_n (pc := 241) hx hb dL_law_241 rfl (lv_at hl 3 rfl) ?_
  refine lv_iconst (v := 2) (pc := 242) hx hb dL_law_242 (by decide) ?_
  refine lv_iadd (pc := 243) hx hb dL_law_243 ?_
  refine va_sld (pc := 244) hx hb hX hbl hbA hS hi2 dL_law_244 ?_
  refine r_callR (pc := 245) C hPm (c_X5_about hIb hm) k_X5_about wd_659 (q0 := 0) wm0 rfl rfl ⟨(Nat.le_of_ble_eq_true rfl), (Nat.le_of_ble_eq_true rfl)⟩ rfl hl.1 rfl (Nat.le_of_ble_eq_true rfl) dL_law_245 ⟨(Nat.le_of_ble_eq_true rfl), (Nat.le_of_ble_eq_true rfl)⟩ ?_
  refine lv_icmp_eq (tgt := 793) (pc := 248) hx hb dL_law_248 (by decide) (fun hc => ?_) (fun hc => absurd rfl hc)
  exact k9 _ _ _ _ ls hR2 hPu hPm hS hl
def lp_5 (Rel : St → St → Prop) : Prop := ∀ (x1 : Int32) (x2 : Int32) (Su Sm : St), Rel Su Sm → ∃ r : Int32, ∃ Su2 : St, f_X4_later x1 x2 Su = some (r, Su2) ∧ ∃ Sm2 : St, f_X5_later x1 x2 Sm = some (r, Sm2) ∧ Rel Su2 Sm2
theorem law_5 (X : lwX D E a b p s m args meth c bs L xs) (hi1 : vp_in (i + 1) L) (hi2 : vp_in (i + 2) L) (pu : lp_5 Rel) (k9 : lW D E a b p l e s m args below meth c bs Rel Q 793 i) : lW D E a b p l e s m args below meth c bs Rel Q 253 i := by
  obtain ⟨C, hX, hbl, hIa, hIb, haf, hbf, hab⟩ := X
  obtain ⟨hx, hb, hml, hown, hts, hK, hr, hlocks⟩ := id C
  intro Su Sm H locs ls hR hPu hPm hS hl
  have hbA : ¬ lwA s bs := Nat.not_le.mpr hbl
  obtain ⟨r, Su2, hu, Sm2, hm, hR2⟩ := pu (xs (Int32.toNatClampNeg (i + 1))) (xs (Int32.toNatClampNeg (i + 2))) Su Sm hR
  refine lv_aload_n (pc := 253) hx hb dL_law_253 rfl (lv_at hl 1 rfl) ?_
  refine lv_aload_n (pc := 254) hx hb dL_law_254 rfl (lv_at hl 0 rfl) ?_
  refine lv_iload_n (pc := 255) hx hb dL_law_255 rfl (lv_at hl 3 rfl) ?_
  refine lv_iconst (v := 1) (pc := 256) hx hb dL_law_256 (by decide) ?_
  refine lv_iadd (pc := 257) hx hb dL_law_257 ?_
  refine va_sld (pc := 258) hx hb hX hbl hbA hS hi1 dL_law_258 ?_
  refine lv_aload_n (pc := 259) hx hb dL_law_259 rfl (lv_at hl 0 rfl) ?_
  refine lv_iload_n (pc := 260) hx hb dL_law_260 rfl (lv_at hl 3 rfl) ?_
  refine lv_iconst (v := 2) (pc := 261) hx hb dL_law_261 (by decide) ?_
  refine lv_iadd (pc := 262) hx hb dL_law_262 ?_
  refine va_sld (pc := 263) hx hb hX hbl hbA hS hi2 dL_law_263 ?_
  refine r_lawU (pc := 264) C hPu hS (fun q ⟨k, hk, e⟩ => by rw [e]; exact haf k hk) (c_X4_later hIa hu) k_X4_later wd_287 (q0 := 0) wu0 rfl rfl ⟨(Nat.le_of_ble_eq_true rfl), (Nat.le_of_ble_eq_true rfl)⟩ rfl hl.1 rfl (Nat.le_of_ble_eq_true rfl) dL_law_264 ⟨(Nat.le_of_ble_eq_true rfl), (Nat.le_of_ble_eq_true rfl)⟩ (fun H1 locs hPu hk1 hS => ?_)
  have hPm := keepM hab hPm hk1
  refine lv_aload_n (pc := 267) hx hb dL_law_267 rfl (lv_at hl 2 rfl) ?_
  refine lv_aload_n (pc := 268) hx hb dL_law_268 rfl (lv_at hl 0 rfl) ?_
  refine lv_iload_n (pc := 269) hx hb dL_law_269 rfl (lv_at hl 3 rfl) ?_
  refine lv_iconst (v := 1) (pc := 270) hx hb dL_law_270 (by decide) ?_
  refine lv_iadd (pc := 271) hx hb dL_law_271 ?_
  refine va_sld (pc := 272) hx hb hX hbl hbA hS hi1 dL_law_272 ?_
  refine lv_aload_n (pc := 273) hx hb dL_law_273 rfl (lv_at hl 0 rfl) ?_
  refine lv_iload_n (pc := 274) hx hb dL_law_274 rfl (lv_at hl 3 rfl) ?_
  refine lv_iconst (v := 2) (pc := 275) hx hb dL_law_275 (by decide) ?_
  refine lv_iadd (pc := 276) hx hb dL_law_276 ?_
  refine va_sld (pc := 277) hx hb hX hbl hbA hS hi2 dL_law_277 ?_
  refine r_lawU (pc := 278) C hPm hS (fun q ⟨k, hk, e⟩ => by rw [e]; exact hbf k hk) (c_X5_later hIb hm) k_X5_later wd_663 (q0 := 0) wm0 rfl rfl ⟨(Nat.le_of_ble_eq_true rfl), (Nat.le_of_ble_eq_true rfl)⟩ rfl hl.1 rfl (Nat.le_of_ble_eq_true rfl) dL_law_278 ⟨(Nat.le_of_ble_eq_true rfl), (Nat.le_of_ble_eq_true rfl)⟩ (fun H1 locs hPm hk1 hS => ?_)
  have hPu := keepU hab hPu hk1
  refine lv_icmp_eq (tgt := 793) (pc := 281) hx hb dL_law_281 (by decide) (fun hc => ?_) (fun hc => absurd rfl hc)
  exact k9 _ _ _ _ ls hR2 hPu hPm hS hl
def lp_6 (Rel : St → St → Prop) : Prop := ∀ (x1 : Int32) (x2 : Int32) (x3 : Int32) (Su Sm : St), Rel Su Sm → ∃ r : Int32, ∃ Su2 : St, f_X4_piece x1 x2 x3 Su = some (r, Su2) ∧ ∃ Sm2 : St, f_X5_piece x1 x2 x3 Sm = some (r, Sm2) ∧ Rel Su2 Sm2
theorem law_6 (X : lwX D E a b p s m args meth c bs L xs) (hi1 : vp_in (i + 1) L) (hi2 : vp_in (i + 2) L) (hi3 : vp_in (i + 3) L) (pu : lp_6 Rel) (k9 : lW D E a b p l e s m args below meth c bs Rel Q 793 i) : lW D E a b p l e s m args below meth c bs Rel Q 286 i := by
  obtain ⟨C, hX, hbl, hIa, hIb, haf, hbf, hab⟩ := X
  obtain ⟨hx, hb, hml, hown, hts, hK, hr, hlocks⟩ := id C
  intro Su Sm H locs ls hR hPu hPm hS hl
  have hbA : ¬ lwA s bs := Nat.not_le.mpr hbl
  obtain ⟨r, Su2, hu, Sm2, hm, hR2⟩ := pu (xs (Int32.toNatClampNeg (i + 1))) (xs (Int32.toNatClampNeg (i + 2))) (xs (Int32.toNatClampNeg (i + 3))) Su Sm hR
  refine lv_aload_n (pc := 286) hx hb dL_law_286 rfl (lv_at hl 1 rfl) ?_
  refine lv_aload_n (pc := 287) hx hb dL_law_287 rfl (lv_at hl 0 rfl) ?_
  refine lv_iload_n (pc := 288) hx hb dL_law_288 rfl (lv_at hl 3 rfl) ?_
  refine lv_iconst (v := 1) (pc := 289) hx hb dL_law_289 (by decide) ?_
  refine lv_iadd (pc := 290) hx hb dL_law_290 ?_
  refine va_sld (pc := 291) hx hb hX hbl hbA hS hi1 dL_law_291 ?_
  refine lv_aload_n (pc := 292) hx hb dL_law_292 rfl (lv_at hl 0 rfl) ?_
  refine lv_iload_n (pc := 293) hx hb dL_law_293 rfl (lv_at hl 3 rfl) ?_
  refine lv_iconst (v := 2) (pc := 294) hx hb dL_law_294 (by decide) ?_
  refine lv_iadd (pc := 295) hx hb dL_law_295 ?_
  refine va_sld (pc := 296) hx hb hX hbl hbA hS hi2 dL_law_296 ?_
  refine lv_aload_n (pc := 297) hx hb dL_law_297 rfl (lv_at hl 0 rfl) ?_
  refine lv_iload_n (pc := 298) hx hb dL_law_298 rfl (lv_at hl 3 rfl) ?_
  refine lv_iconst (v := 3) (pc := 299) hx hb dL_law_299 (by decide) ?_
  refine lv_iadd (pc := 300) hx hb dL_law_300 ?_
  refine va_sld (pc := 301) hx hb hX hbl hbA hS hi3 dL_law_301 ?_
  refine r_lawU (pc := 302) C hPu hS (fun q ⟨k, hk, e⟩ => by rw [e]; exact haf k hk) (c_X4_piece hIa hu) k_X4_piece wd_291 (q0 := 0) wu0 rfl rfl ⟨(Nat.le_of_ble_eq_true rfl), (Nat.le_of_ble_eq_true rfl)⟩ rfl hl.1 rfl (Nat.le_of_ble_eq_true rfl) dL_law_302 ⟨(Nat.le_of_ble_eq_true rfl), (Nat.le_of_ble_eq_true rfl)⟩ (fun H1 locs hPu hk1 hS => ?_)
  have hPm := keepM hab hPm hk1
  refine lv_aload_n (pc := 305) hx hb dL_law_305 rfl (lv_at hl 2 rfl) ?_
  refine lv_aload_n (pc := 306) hx hb dL_law_306 rfl (lv_at hl 0 rfl) ?_
  refine lv_iload_n (pc := 307) hx hb dL_law_307 rfl (lv_at hl 3 rfl) ?_
  refine lv_iconst (v := 1) (pc := 308) hx hb dL_law_308 (by decide) ?_
  refine lv_iadd (pc := 309) hx hb dL_law_309 ?_
  refine va_sld (pc := 310) hx hb hX hbl hbA hS hi1 dL_law_310 ?_
  refine lv_aload_n (pc := 311) hx hb dL_law_311 rfl (lv_at hl 0 rfl) ?_
  refine lv_iload_n (pc := 312) hx hb dL_law_312 rfl (lv_at hl 3 rfl) ?_
  refine lv_iconst (v := 2) (pc := 313) hx hb dL_law_313 (by decide) ?_
  refine lv_iadd (pc := 314) hx hb dL_law_314 ?_
  refine va_sld (pc := 315) hx hb hX hbl hbA hS hi2 dL_law_315 ?_
  refine lv_aload_n (pc := 316) hx hb dL_law_316 rfl (lv_at hl 0 rfl) ?_
  refine lv_iload_n (pc := 317) hx hb dL_law_317 rfl (lv_at hl 3 rfl) ?_
  refine lv_iconst (v := 3) (pc := 318) hx hb dL_law_318 (by decide) ?_
  refine lv_iadd (pc := 319) hx hb dL_law_319 ?_
  refine va_sld (pc := 320) hx hb hX hbl hbA hS hi3 dL_law_320 ?_
  refine r_lawU (pc := 321) C hPm hS (fun q ⟨k, hk, e⟩ => by rw [e]; exact hbf k hk) (c_X5_piece hIb hm) k_X5_piece wd_667 (q0 := 0) wm0 rfl rfl ⟨(Nat.le_of_ble_eq_true rfl), (Nat.le_of_ble_eq_true rfl)⟩ rfl hl.1 rfl (Nat.le_of_ble_eq_true rfl) dL_law_321 ⟨(Nat.le_of_ble_eq_true rfl), (Nat.le_of_ble_eq_true rfl)⟩ (fun H1 locs hPm hk1 hS => ?_)
  have hPu := keepU hab hPu hk1
  refine lv_icmp_eq (tgt := 793) (pc := 324) hx hb dL_law_324 (by decide) (fun hc => ?_) (fun hc => absurd rfl hc)
  exact k9 _ _ _ _ ls hR2 hPu hPm hS hl
def lp_7 (Rel : St → St → Prop) : Prop := ∀ (x1 : Int32) (x2 : Int32) (x3 : Int32) (Su Sm : St), Rel Su Sm → ∃ r : Int32, ∃ Su2 : St, f_X4_uses x1 x2 x3 Su = some (r, Su2) ∧ ∃ Sm2 : St, f_X5_uses x1 x2 x3 Sm = some (r, Sm2) ∧ Rel Su2 Sm2
theorem law_7 (X : lwX D E a b p s m args meth c bs L xs) (hi1 : vp_in (i + 1) L) (hi2 : vp_in (i + 2) L) (hi3 : vp_in (i + 3) L) (pu : lp_7 Rel) (k9 : lW D E a b p l e s m args below meth c bs Rel Q 793 i) : lW D E a b p l e s m args below meth c bs Rel Q 329 i := by
  obtain ⟨C, hX, hbl, hIa, hIb, haf, hbf, hab⟩ := X
  obtain ⟨hx, hb, hml, hown, hts, hK, hr, hlocks⟩ := id C
  intro Su Sm H locs ls hR hPu hPm hS hl
  have hbA : ¬ lwA s bs := Nat.not_le.mpr hbl
  obtain ⟨r, Su2, hu, Sm2, hm, hR2⟩ := pu (xs (Int32.toNatClampNeg (i + 1))) (xs (Int32.toNatClampNeg (i + 2))) (xs (Int32.toNatClampNeg (i + 3))) Su Sm hR
  refine lv_aload_n (pc := 329) hx hb dL_law_329 rfl (lv_at hl 1 rfl) ?_
  refine lv_aload_n (pc := 330) hx hb dL_law_330 rfl (lv_at hl 0 rfl) ?_
  refine lv_iload_n (pc := 331) hx hb dL_law_331 rfl (lv_at hl 3 rfl) ?_
  refine lv_iconst (v := 1) (pc := 332) hx hb dL_law_332 (by decide) ?_
  refine lv_iadd (pc := 333) hx hb dL_law_333 ?_
  refine va_sld (pc := 334) hx hb hX hbl hbA hS hi1 dL_law_334 ?_
  refine lv_aload_n (pc := 335) hx hb dL_law_335 rfl (lv_at hl 0 rfl) ?_
  refine lv_iload_n (pc := 336) hx hb dL_law_336 rfl (lv_at hl 3 rfl) ?_
  refine lv_iconst (v := 2) (pc := 337) hx hb dL_law_337 (by decide) ?_
  refine lv_iadd (pc := 338) hx hb dL_law_338 ?_
  refine va_sld (pc := 339) hx hb hX hbl hbA hS hi2 dL_law_339 ?_
  refine lv_aload_n (pc := 340) hx hb dL_law_340 rfl (lv_at hl 0 rfl) ?_
  refine lv_iload_n (pc := 341) hx hb dL_law_341 rfl (lv_at hl 3 rfl) ?_
  refine lv_iconst (v := 3) (pc := 342) hx hb dL_law_342 (by decide) ?_
  refine lv_iadd (pc := 343) hx hb dL_law_343 ?_
  refine va_sld (pc := 344) hx hb hX hbl hbA hS hi3 dL_law_344 ?_
  refine r_lawU (pc := 345) C hPu hS (fun q ⟨k, hk, e⟩ => by rw [e]; exact haf k hk) (c_X4_uses hIa hu) k_X4_uses wd_301 (q0 := 0) wu0 rfl rfl ⟨(Nat.le_of_ble_eq_true rfl), (Nat.le_of_ble_eq_true rfl)⟩ rfl hl.1 rfl (Nat.le_of_ble_eq_true rfl) dL_law_345 ⟨(Nat.le_of_ble_eq_true rfl), (Nat.le_of_ble_eq_true rfl)⟩ (fun H1 locs hPu hk1 hS => ?_)
  have hPm := keepM hab hPm hk1
  refine lv_aload_n (pc := 348) hx hb dL_law_348 rfl (lv_at hl 2 rfl) ?_
  refine lv_aload_n (pc := 349) hx hb dL_law_349 rfl (lv_at hl 0 rfl) ?_
  refine lv_iload_n (pc := 350) hx hb dL_law_350 rfl (lv_at hl 3 rfl) ?_
  refine lv_iconst (v := 1) (pc := 351) hx hb dL_law_351 (by decide) ?_
  refine lv_iadd (pc := 352) hx hb dL_law_352 ?_
  refine va_sld (pc := 353) hx hb hX hbl hbA hS hi1 dL_law_353 ?_
  refine lv_aload_n (pc := 354) hx hb dL_law_354 rfl (lv_at hl 0 rfl) ?_
  refine lv_iload_n (pc := 355) hx hb dL_law_355 rfl (lv_at hl 3 rfl) ?_
  refine lv_iconst (v := 2) (pc := 356) hx hb dL_law_356 (by decide) ?_
  refine lv_iadd (pc := 357) hx hb dL_law_357 ?_
  refine va_sld (pc := 358) hx hb hX hbl hbA hS hi2 dL_law_358 ?_
  refine lv_aload_n (pc := 359) hx hb dL_law_359 rfl (lv_at hl 0 rfl) ?_
  refine lv_iload_n (pc := 360) hx hb dL_law_360 rfl (lv_at hl 3 rfl) ?_
  refine lv_iconst (v := 3) (pc := 361) hx hb dL_law_361 (by decide) ?_
  refine lv_iadd (pc := 362) hx hb dL_law_362 ?_
  refine va_sld (pc := 363) hx hb hX hbl hbA hS hi3 dL_law_363 ?_
  refine r_lawU (pc := 364) C hPm hS (fun q ⟨k, hk, e⟩ => by rw [e]; exact hbf k hk) (c_X5_uses hIb hm) k_X5_uses wd_677 (q0 := 0) wm0 rfl rfl ⟨(Nat.le_of_ble_eq_true rfl), (Nat.le_of_ble_eq_true rfl)⟩ rfl hl.1 rfl (Nat.le_of_ble_eq_true rfl) dL_law_364 ⟨(Nat.le_of_ble_eq_true rfl), (Nat.le_of_ble_eq_true rfl)⟩ (fun H1 locs hPm hk1 hS => ?_)
  have hPu := keepU hab hPu hk1
  refine lv_icmp_eq (tgt := 793) (pc := 367) hx hb dL_law_367 (by decide) (fun hc => ?_) (fun hc => absurd rfl hc)
  exact k9 _ _ _ _ ls hR2 hPu hPm hS hl
def lp_8 (N : Nat) (Rel : St → St → Prop) : Prop := ∀ (x1 : Int32) (Su Sm : St), Rel Su Sm → ∃ r : Int32, f_X4_choices N x1 Su = some r ∧ f_X5_choices N x1 Sm = some r ∧ Rel Su Sm
theorem law_8 (N : Nat) (X : lwX D E a b p s m args meth c bs L xs) (hi1 : vp_in (i + 1) L) (pu : lp_8 N Rel) (k9 : lW D E a b p l e s m args below meth c bs Rel Q 793 i) : lW D E a b p l e s m args below meth c bs Rel Q 372 i := by
  obtain ⟨C, hX, hbl, hIa, hIb, haf, hbf, hab⟩ := X
  obtain ⟨hx, hb, hml, hown, hts, hK, hr, hlocks⟩ := id C
  intro Su Sm H locs ls hR hPu hPm hS hl
  have hbA : ¬ lwA s bs := Nat.not_le.mpr hbl
  obtain ⟨r, hu, hm, hR2⟩ := pu (xs (Int32.toNatClampNeg (i + 1))) Su Sm hR
  refine lv_aload_n (pc := 372) hx hb dL_law_372 rfl (lv_at hl 1 rfl) ?_
  refine lv_aload_n (pc := 373) hx hb dL_law_373 rfl (lv_at hl 0 rfl) ?_
  refine lv_iload_n (pc := 374) hx hb dL_law_374 rfl (lv_at hl 3 rfl) ?_
  refine lv_iconst (v := 1) (pc := 375) hx hb dL_law_375 (by decide) ?_
  refine lv_iadd (pc := 376) hx hb dL_law_376 ?_
  refine va_sld (pc := 377) hx hb hX hbl hbA hS hi1 dL_law_377 ?_
  refine r_callR (pc := 378) C hPu (c_X4_choices hIa N hu) k_X4_choices wd_308 (q0 := 0) wu0 rfl rfl ⟨(Nat.le_of_ble_eq_true rfl), (Nat.le_of_ble_eq_true rfl)⟩ rfl hl.1 rfl (Nat.le_of_ble_eq_true rfl) dL_law_378 ⟨(Nat.le_of_ble_eq_true rfl), (Nat.le_of_ble_eq_true rfl)⟩ ?_
  refine lv_aload_n (pc := 381) hx hb dL_law_381 rfl (lv_at hl 2 rfl) ?_
  refine lv_aload_n (pc := 382) hx hb dL_law_382 rfl (lv_at hl 0 rfl) ?_
  refine lv_iload_n (pc := 383) hx hb dL_law_383 rfl (lv_at hl 3 rfl) ?_
  refine lv_iconst (v := 1) (pc := 384) hx hb dL_law_384 (by decide) ?_
  refine lv_iadd (pc := 385) hx hb dL_law_385 ?_
  refine va_sld (pc := 386) hx hb hX hbl hbA hS hi1 dL_law_386 ?_
  refine r_callR (pc := 387) C hPm (c_X5_choices hIb N hm) k_X5_choices wd_681 (q0 := 0) wm0 rfl rfl ⟨(Nat.le_of_ble_eq_true rfl), (Nat.le_of_ble_eq_true rfl)⟩ rfl hl.1 rfl (Nat.le_of_ble_eq_true rfl) dL_law_387 ⟨(Nat.le_of_ble_eq_true rfl), (Nat.le_of_ble_eq_true rfl)⟩ ?_
  refine lv_icmp_eq (tgt := 793) (pc := 390) hx hb dL_law_390 (by decide) (fun hc => ?_) (fun hc => absurd rfl hc)
  exact k9 _ _ _ _ ls hR2 hPu hPm hS hl
def lp_9 (Rel : St → St → Prop) : Prop := ∀ (x1 : Int32) (Su Sm : St), Rel Su Sm → ∃ r : Int32, ∃ Su2 : St, f_X4_whole x1 Su = some (r, Su2) ∧ ∃ Sm2 : St, f_X5_whole x1 Sm = some (r, Sm2) ∧ Rel Su2 Sm2
theorem law_9 (X : lwX D E a b p s m args meth c bs L xs) (hi1 : vp_in (i + 1) L) (pu : lp_9 Rel) (k9 : lW D E a b p l e s m args below meth c bs Rel Q 793 i) : lW D E a b p l e s m args below meth c bs Rel Q 395 i := by
  obtain ⟨C, hX, hbl, hIa, hIb, haf, hbf, hab⟩ := X
  obtain ⟨hx, hb, hml, hown, hts, hK, hr, hlocks⟩ := id C
  intro Su Sm H locs ls hR hPu hPm hS hl
  have hbA : ¬ lwA s bs := Nat.not_le.mpr hbl
  obtain ⟨r, Su2, hu, Sm2, hm, hR2⟩ := pu (xs (Int32.toNatClampNeg (i + 1))) Su Sm hR
  refine lv_aload_n (pc := 395) hx hb dL_law_395 rfl (lv_at hl 1 rfl) ?_
  refine lv_aload_n (pc := 396) hx hb dL_law_396 rfl (lv_at hl 0 rfl) ?_
  refine lv_iload_n (pc := 397) hx hb dL_law_397 rfl (lv_at hl 3 rfl) ?_
  refine lv_iconst (v := 1) (pc := 398) hx hb dL_law_398 (by decide) ?_
  refine lv_iadd (pc := 399) hx hb dL_law_399 ?_
  refine va_sld (pc := 400) hx hb hX hbl hbA hS hi1 dL_law_400 ?_
  refine r_lawU (pc := 401) C hPu hS (fun q ⟨k, hk, e⟩ => by rw [e]; exact haf k hk) (c_X4_whole hIa hu) k_X4_whole wd_319 (q0 := 0) wu0 rfl rfl ⟨(Nat.le_of_ble_eq_true rfl), (Nat.le_of_ble_eq_true rfl)⟩ rfl hl.1 rfl (Nat.le_of_ble_eq_true rfl) dL_law_401 ⟨(Nat.le_of_ble_eq_true rfl), (Nat.le_of_ble_eq_true rfl)⟩ (fun H1 locs hPu hk1 hS => ?_)
  have hPm := keepM hab hPm hk1
  refine lv_aload_n (pc := 404) hx hb dL_law_404 rfl (lv_at hl 2 rfl) ?_
  refine lv_aload_n (pc := 405) hx hb dL_law_405 rfl (lv_at hl 0 rfl) ?_
  refine lv_iload_n (pc := 406) hx hb dL_law_406 rfl (lv_at hl 3 rfl) ?_
  refine lv_iconst (v := 1) (pc := 407) hx hb dL_law_407 (by decide) ?_
  refine lv_iadd (pc := 408) hx hb dL_law_408 ?_
  refine va_sld (pc := 409) hx hb hX hbl hbA hS hi1 dL_law_409 ?_
  refine r_lawU (pc := 410) C hPm hS (fun q ⟨k, hk, e⟩ => by rw [e]; exact hbf k hk) (c_X5_whole hIb hm) k_X5_whole wd_692 (q0 := 0) wm0 rfl rfl ⟨(Nat.le_of_ble_eq_true rfl), (Nat.le_of_ble_eq_true rfl)⟩ rfl hl.1 rfl (Nat.le_of_ble_eq_true rfl) dL_law_410 ⟨(Nat.le_of_ble_eq_true rfl), (Nat.le_of_ble_eq_true rfl)⟩ (fun H1 locs hPm hk1 hS => ?_)
  have hPu := keepU hab hPu hk1
  refine lv_icmp_eq (tgt := 793) (pc := 413) hx hb dL_law_413 (by decide) (fun hc => ?_) (fun hc => absurd rfl hc)
  exact k9 _ _ _ _ ls hR2 hPu hPm hS hl
def lp_10 (Rel : St → St → Prop) : Prop := ∀ (x1 : Int32) (Su Sm : St), Rel Su Sm → ∃ r : Int32, ∃ Su2 : St, f_X4_coin x1 Su = some (r, Su2) ∧ ∃ Sm2 : St, f_X5_coin x1 Sm = some (r, Sm2) ∧ Rel Su2 Sm2
theorem law_10 (X : lwX D E a b p s m args meth c bs L xs) (hi1 : vp_in (i + 1) L) (pu : lp_10 Rel) (k9 : lW D E a b p l e s m args below meth c bs Rel Q 793 i) : lW D E a b p l e s m args below meth c bs Rel Q 418 i := by
  obtain ⟨C, hX, hbl, hIa, hIb, haf, hbf, hab⟩ := X
  obtain ⟨hx, hb, hml, hown, hts, hK, hr, hlocks⟩ := id C
  intro Su Sm H locs ls hR hPu hPm hS hl
  have hbA : ¬ lwA s bs := Nat.not_le.mpr hbl
  obtain ⟨r, Su2, hu, Sm2, hm, hR2⟩ := pu (xs (Int32.toNatClampNeg (i + 1))) Su Sm hR
  refine lv_aload_n (pc := 418) hx hb dL_law_418 rfl (lv_at hl 1 rfl) ?_
  refine lv_aload_n (pc := 419) hx hb dL_law_419 rfl (lv_at hl 0 rfl) ?_
  refine lv_iload_n (pc := 420) hx hb dL_law_420 rfl (lv_at hl 3 rfl) ?_
  refine lv_iconst (v := 1) (pc := 421) hx hb dL_law_421 (by decide) ?_
  refine lv_iadd (pc := 422) hx hb dL_law_422 ?_
  refine va_sld (pc := 423) hx hb hX hbl hbA hS hi1 dL_law_423 ?_
  refine r_lawU (pc := 424) C hPu hS (fun q ⟨k, hk, e⟩ => by rw [e]; exact haf k hk) (c_X4_coin hIa hu) k_X4_coin wd_323 (q0 := 0) wu0 rfl rfl ⟨(Nat.le_of_ble_eq_true rfl), (Nat.le_of_ble_eq_true rfl)⟩ rfl hl.1 rfl (Nat.le_of_ble_eq_true rfl) dL_law_424 ⟨(Nat.le_of_ble_eq_true rfl), (Nat.le_of_ble_eq_true rfl)⟩ (fun H1 locs hPu hk1 hS => ?_)
  have hPm := keepM hab hPm hk1
  refine lv_aload_n (pc := 427) hx hb dL_law_427 rfl (lv_at hl 2 rfl) ?_
  refine lv_aload_n (pc := 428) hx hb dL_law_428 rfl (lv_at hl 0 rfl) ?_
  refine lv_iload_n (pc := 429) hx hb dL_law_429 rfl (lv_at hl 3 rfl) ?_
  refine lv_iconst (v := 1) (pc := 430) hx hb dL_law_430 (by decide) ?_
  refine lv_iadd (pc := 431) hx hb dL_law_431 ?_
  refine va_sld (pc := 432) hx hb hX hbl hbA hS hi1 dL_law_432 ?_
  refine r_lawU (pc := 433) C hPm hS (fun q ⟨k, hk, e⟩ => by rw [e]; exact hbf k hk) (c_X5_coin hIb hm) k_X5_coin wd_696 (q0 := 0) wm0 rfl rfl ⟨(Nat.le_of_ble_eq_true rfl), (Nat.le_of_ble_eq_true rfl)⟩ rfl hl.1 rfl (Nat.le_of_ble_eq_true rfl) dL_law_433 ⟨(Nat.le_of_ble_eq_true rfl), (Nat.le_of_ble_eq_true rfl)⟩ (fun H1 locs hPm hk1 hS => ?_)
  have hPu := keepU hab hPu hk1
  refine lv_icmp_eq (tgt := 793) (pc := 436) hx hb dL_law_436 (by decide) (fun hc => ?_) (fun hc => absurd rfl hc)
  exact k9 _ _ _ _ ls hR2 hPu hPm hS hl
def lp_11 (N : Nat) (Rel : St → St → Prop) : Prop := ∀ (Su Sm : St), Rel Su Sm → ∃ r : Int32, ∃ Su2 : St, f_X4_pieces N Su = some (r, Su2) ∧ ∃ Sm2 : St, f_X5_pieces N Sm = some (r, Sm2) ∧ Rel Su2 Sm2
theorem law_11 (N : Nat) (X : lwX D E a b p s m args meth c bs L xs) (pu : lp_11 N Rel) (k9 : lW D E a b p l e s m args below meth c bs Rel Q 793 i) : lW D E a b p l e s m args below meth c bs Rel Q 441 i := by
  obtain ⟨C, hX, hbl, hIa, hIb, haf, hbf, hab⟩ := X
  obtain ⟨hx, hb, hml, hown, hts, hK, hr, hlocks⟩ := id C
  intro Su Sm H locs ls hR hPu hPm hS hl
  have hbA : ¬ lwA s bs := Nat.not_le.mpr hbl
  obtain ⟨r, Su2, hu, Sm2, hm, hR2⟩ := pu  Su Sm hR
  refine lv_aload_n (pc := 441) hx hb dL_law_441 rfl (lv_at hl 1 rfl) ?_
  refine r_lawU (pc := 442) C hPu hS (fun q ⟨k, hk, e⟩ => by rw [e]; exact haf k hk) (c_X4_pieces hIa N hu) k_X4_pieces wd_327 (q0 := 0) wu0 rfl rfl ⟨(Nat.le_of_ble_eq_true rfl), (Nat.le_of_ble_eq_true rfl)⟩ rfl hl.1 rfl (Nat.le_of_ble_eq_true rfl) dL_law_442 ⟨(Nat.le_of_ble_eq_true rfl), (Nat.le_of_ble_eq_true rfl)⟩ (fun H1 locs hPu hk1 hS => ?_)
  have hPm := keepM hab hPm hk1
  refine lv_aload_n (pc := 445) hx hb dL_law_445 rfl (lv_at hl 2 rfl) ?_
  refine r_lawU (pc := 446) C hPm hS (fun q ⟨k, hk, e⟩ => by rw [e]; exact hbf k hk) (c_X5_pieces hIb N hm) k_X5_pieces wd_700 (q0 := 0) wm0 rfl rfl ⟨(Nat.le_of_ble_eq_true rfl), (Nat.le_of_ble_eq_true rfl)⟩ rfl hl.1 rfl (Nat.le_of_ble_eq_true rfl) dL_law_446 ⟨(Nat.le_of_ble_eq_true rfl), (Nat.le_of_ble_eq_true rfl)⟩ (fun H1 locs hPm hk1 hS => ?_)
  have hPu := keepU hab hPu hk1
  refine lv_icmp_eq (tgt := 793) (pc := 449) hx hb dL_law_449 (by decide) (fun hc => ?_) (fun hc => absurd rfl hc)
  exact k9 _ _ _ _ ls hR2 hPu hPm hS hl
def lp_12 (N : Nat) (Rel : St → St → Prop) : Prop := ∀ (x1 : Int32) (x2 : Int32) (Su Sm : St), Rel Su Sm → ∃ r : Int32, ∃ Su2 : St, f_X4_by N x1 x2 Su = some (r, Su2) ∧ ∃ Sm2 : St, f_X5_by N x1 x2 Sm = some (r, Sm2) ∧ Rel Su2 Sm2
theorem law_12 (N : Nat) (X : lwX D E a b p s m args meth c bs L xs) (hi1 : vp_in (i + 1) L) (hi2 : vp_in (i + 2) L) (pu : lp_12 N Rel) (k9 : lW D E a b p l e s m args below meth c bs Rel Q 793 i) : lW D E a b p l e s m args below meth c bs Rel Q 454 i := by
  obtain ⟨C, hX, hbl, hIa, hIb, haf, hbf, hab⟩ := X
  obtain ⟨hx, hb, hml, hown, hts, hK, hr, hlocks⟩ := id C
  intro Su Sm H locs ls hR hPu hPm hS hl
  have hbA : ¬ lwA s bs := Nat.not_le.mpr hbl
  obtain ⟨r, Su2, hu, Sm2, hm, hR2⟩ := pu (xs (Int32.toNatClampNeg (i + 1))) (xs (Int32.toNatClampNeg (i + 2))) Su Sm hR
  refine lv_aload_n (pc := 454) hx hb dL_law_454 rfl (lv_at hl 1 rfl) ?_
  refine lv_aload_n (pc := 455) hx hb dL_law_455 rfl (lv_at hl 0 rfl) ?_
  refine lv_iload_n (pc := 456) hx hb dL_law_456 rfl (lv_at hl 3 rfl) ?_
  refine lv_iconst (v := 1) (pc := 457) hx hb dL_law_457 (by decide) ?_
  refine lv_iadd (pc := 458) hx hb dL_law_458 ?_
  refine va_sld (pc := 459) hx hb hX hbl hbA hS hi1 dL_law_459 ?_
  refine lv_aload_n (pc := 460) hx hb dL_law_460 rfl (lv_at hl 0 rfl) ?_
  refine lv_iload_n (pc := 461) hx hb dL_law_461 rfl (lv_at hl 3 rfl) ?_
  refine lv_iconst (v := 2) (pc := 462) hx hb dL_law_462 (by decide) ?_
  refine lv_iadd (pc := 463) hx hb dL_law_463 ?_
  refine va_sld (pc := 464) hx hb hX hbl hbA hS hi2 dL_law_464 ?_
  refine r_lawU (pc := 465) C hPu hS (fun q ⟨k, hk, e⟩ => by rw [e]; exact haf k hk) (c_X4_by hIa N hu) k_X4_by wd_357 (q0 := 0) wu0 rfl rfl ⟨(Nat.le_of_ble_eq_true rfl), (Nat.le_of_ble_eq_true rfl)⟩ rfl hl.1 rfl (Nat.le_of_ble_eq_true rfl) dL_law_465 ⟨(Nat.le_of_ble_eq_true rfl), (Nat.le_of_ble_eq_true rfl)⟩ (fun H1 locs hPu hk1 hS => ?_)
  have hPm := keepM hab hPm hk1
  refine lv_aload_n (pc := 468) hx hb dL_law_468 rfl (lv_at hl 2 rfl) ?_
  refine lv_aload_n (pc := 469) hx hb dL_law_469 rfl (lv_at hl 0 rfl) ?_
  refine lv_iload_n (pc := 470) hx hb dL_law_470 rfl (lv_at hl 3 rfl) ?_
  refine lv_iconst (v := 1) (pc := 471) hx hb dL_law_471 (by decide) ?_
  refine lv_iadd (pc := 472) hx hb dL_law_472 ?_
  refine va_sld (pc := 473) hx hb hX hbl hbA hS hi1 dL_law_473 ?_
  refine lv_aload_n (pc := 474) hx hb dL_law_474 rfl (lv_at hl 0 rfl) ?_
  refine lv_iload_n (pc := 475) hx hb dL_law_475 rfl (lv_at hl 3 rfl) ?_
  refine lv_iconst (v := 2) (pc := 476) hx hb dL_law_476 (by decide) ?_
  refine lv_iadd (pc := 477) hx hb dL_law_477 ?_
  refine va_sld (pc := 478) hx hb hX hbl hbA hS hi2 dL_law_478 ?_
  refine r_lawU (pc := 479) C hPm hS (fun q ⟨k, hk, e⟩ => by rw [e]; exact hbf k hk) (c_X5_by hIb N hm) k_X5_by wd_708 (q0 := 0) wm0 rfl rfl ⟨(Nat.le_of_ble_eq_true rfl), (Nat.le_of_ble_eq_true rfl)⟩ rfl hl.1 rfl (Nat.le_of_ble_eq_true rfl) dL_law_479 ⟨(Nat.le_of_ble_eq_true rfl), (Nat.le_of_ble_eq_true rfl)⟩ (fun H1 locs hPm hk1 hS => ?_)
  have hPu := keepU hab hPu hk1
  refine lv_icmp_eq (tgt := 793) (pc := 482) hx hb dL_law_482 (by decide) (fun hc => ?_) (fun hc => absurd rfl hc)
  exact k9 _ _ _ _ ls hR2 hPu hPm hS hl
def lp_13 (N : Nat) (Rel : St → St → Prop) : Prop := ∀ (x1 : Int32) (x2 : Int32) (Su Sm : St), Rel Su Sm → ∃ r : Int32, ∃ Su2 : St, f_X4_best N x1 x2 Su = some (r, Su2) ∧ ∃ Sm2 : St, f_X5_best N x1 x2 Sm = some (r, Sm2) ∧ Rel Su2 Sm2
theorem law_13 (N : Nat) (X : lwX D E a b p s m args meth c bs L xs) (hi1 : vp_in (i + 1) L) (hi2 : vp_in (i + 2) L) (pu : lp_13 N Rel) (k9 : lW D E a b p l e s m args below meth c bs Rel Q 793 i) : lW D E a b p l e s m args below meth c bs Rel Q 487 i := by
  obtain ⟨C, hX, hbl, hIa, hIb, haf, hbf, hab⟩ := X
  obtain ⟨hx, hb, hml, hown, hts, hK, hr, hlocks⟩ := id C
  intro Su Sm H locs ls hR hPu hPm hS hl
  have hbA : ¬ lwA s bs := Nat.not_le.mpr hbl
  obtain ⟨r, Su2, hu, Sm2, hm, hR2⟩ := pu (xs (Int32.toNatClampNeg (i + 1))) (xs (Int32.toNatClampNeg (i + 2))) Su Sm hR
  refine lv_aload_n (pc := 487) hx hb dL_law_487 rfl (lv_at hl 1 rfl) ?_
  refine lv_aload_n (pc := 488) hx hb dL_law_488 rfl (lv_at hl 0 rfl) ?_
  refine lv_iload_n (pc := 489) hx hb dL_law_489 rfl (lv_at hl 3 rfl) ?_
  refine lv_iconst (v := 1) (pc := 490) hx hb dL_law_490 (by decide) ?_
  refine lv_iadd (pc := 491) hx hb dL_law_491 ?_
  refine va_sld (pc := 492) hx hb hX hbl hbA hS hi1 dL_law_492 ?_
  refine lv_aload_n (pc := 493) hx hb dL_law_493 rfl (lv_at hl 0 rfl) ?_
  refine lv_iload_n (pc := 494) hx hb dL_law_494 rfl (lv_at hl 3 rfl) ?_
  refine lv_iconst (v := 2) (pc := 495) hx hb dL_law_495 (by decide) ?_
  refine lv_iadd (pc := 496) hx hb dL_law_496 ?_
  refine va_sld (pc := 497) hx hb hX hbl hbA hS hi2 dL_law_497 ?_
  refine r_lawU (pc := 498) C hPu hS (fun q ⟨k, hk, e⟩ => by rw [e]; exact haf k hk) (c_X4_best hIa N hu) k_X4_best wd_382 (q0 := 0) wu0 rfl rfl ⟨(Nat.le_of_ble_eq_true rfl), (Nat.le_of_ble_eq_true rfl)⟩ rfl hl.1 rfl (Nat.le_of_ble_eq_true rfl) dL_law_498 ⟨(Nat.le_of_ble_eq_true rfl), (Nat.le_of_ble_eq_true rfl)⟩ (fun H1 locs hPu hk1 hS => ?_)
  have hPm := keepM hab hPm hk1
  refine lv_aload_n (pc := 501) hx hb dL_law_501 rfl (lv_at hl 2 rfl) ?_
  refine lv_aload_n (pc := 502) hx hb dL_law_502 rfl (lv_at hl 0 rfl) ?_
  refine lv_iload_n (pc := 503) hx hb dL_law_503 rfl (lv_at hl 3 rfl) ?_
  refine lv_iconst (v := 1) (pc := 504) hx hb dL_law_504 (by decide) ?_
  refine lv_iadd (pc := 505) hx hb dL_law_505 ?_
  refine va_sld (pc := 506) hx hb hX hbl hbA hS hi1 dL_law_506 ?_
  refine lv_aload_n (pc := 507) hx hb dL_law_507 rfl (lv_at hl 0 rfl) ?_
  refine lv_iload_n (pc := 508) hx hb dL_law_508 rfl (lv_at hl 3 rfl) ?_
  refine lv_iconst (v := 2) (pc := 509) hx hb dL_law_509 (by decide) ?_
  refine lv_iadd (pc := 510) hx hb dL_law_510 ?_
  refine va_sld (pc := 511) hx hb hX hbl hbA hS hi2 dL_law_511 ?_
  refine r_lawU (pc := 512) C hPm hS (fun q ⟨k, hk, e⟩ => by rw [e]; exact hbf k hk) (c_X5_best hIb N hm) k_X5_best wd_731 (q0 := 0) wm0 rfl rfl ⟨(Nat.le_of_ble_eq_true rfl), (Nat.le_of_ble_eq_true rfl)⟩ rfl hl.1 rfl (Nat.le_of_ble_eq_true rfl) dL_law_512 ⟨(Nat.le_of_ble_eq_true rfl), (Nat.le_of_ble_eq_true rfl)⟩ (fun H1 locs hPm hk1 hS => ?_)
  have hPu := keepU hab hPu hk1
  refine lv_icmp_eq (tgt := 793) (pc := 515) hx hb dL_law_515 (by decide) (fun hc => ?_) (fun hc => absurd rfl hc)
  exact k9 _ _ _ _ ls hR2 hPu hPm hS hl
def lp_14 (N : Nat) (Rel : St → St → Prop) : Prop := ∀ (Su Sm : St), Rel Su Sm → ∃ r : Int32, ∃ Su2 : St, f_X4_good N Su = some (r, Su2) ∧ ∃ Sm2 : St, f_X5_good N Sm = some (r, Sm2) ∧ Rel Su2 Sm2
theorem law_14 (N : Nat) (X : lwX D E a b p s m args meth c bs L xs) (pu : lp_14 N Rel) (k9 : lW D E a b p l e s m args below meth c bs Rel Q 793 i) : lW D E a b p l e s m args below meth c bs Rel Q 520 i := by
  obtain ⟨C, hX, hbl, hIa, hIb, haf, hbf, hab⟩ := X
  obtain ⟨hx, hb, hml, hown, hts, hK, hr, hlocks⟩ := id C
  intro Su Sm H locs ls hR hPu hPm hS hl
  have hbA : ¬ lwA s bs := Nat.not_le.mpr hbl
  obtain ⟨r, Su2, hu, Sm2, hm, hR2⟩ := pu  Su Sm hR
  refine lv_aload_n (pc := 520) hx hb dL_law_520 rfl (lv_at hl 1 rfl) ?_
  refine r_lawU (pc := 521) C hPu hS (fun q ⟨k, hk, e⟩ => by rw [e]; exact haf k hk) (c_X4_good hIa N hu) k_X4_good wd_423 (q0 := 0) wu0 rfl rfl ⟨(Nat.le_of_ble_eq_true rfl), (Nat.le_of_ble_eq_true rfl)⟩ rfl hl.1 rfl (Nat.le_of_ble_eq_true rfl) dL_law_521 ⟨(Nat.le_of_ble_eq_true rfl), (Nat.le_of_ble_eq_true rfl)⟩ (fun H1 locs hPu hk1 hS => ?_)
  have hPm := keepM hab hPm hk1
  refine lv_aload_n (pc := 524) hx hb dL_law_524 rfl (lv_at hl 2 rfl) ?_
  refine r_lawU (pc := 525) C hPm hS (fun q ⟨k, hk, e⟩ => by rw [e]; exact hbf k hk) (c_X5_good hIb N hm) k_X5_good wd_753 (q0 := 0) wm0 rfl rfl ⟨(Nat.le_of_ble_eq_true rfl), (Nat.le_of_ble_eq_true rfl)⟩ rfl hl.1 rfl (Nat.le_of_ble_eq_true rfl) dL_law_525 ⟨(Nat.le_of_ble_eq_true rfl), (Nat.le_of_ble_eq_true rfl)⟩ (fun H1 locs hPm hk1 hS => ?_)
  have hPu := keepU hab hPu hk1
  refine lv_icmp_eq (tgt := 793) (pc := 528) hx hb dL_law_528 (by decide) (fun hc => ?_) (fun hc => absurd rfl hc)
  exact k9 _ _ _ _ ls hR2 hPu hPm hS hl
def lp_15 (N : Nat) (Rel : St → St → Prop) : Prop := ∀ (Su Sm : St), Rel Su Sm → ∃ r : Int32, ∃ Su2 : St, f_X4_bar N Su = some (r, Su2) ∧ ∃ Sm2 : St, f_X5_bar N Sm = some (r, Sm2) ∧ Rel Su2 Sm2
theorem law_15 (N : Nat) (X : lwX D E a b p s m args meth c bs L xs) (pu : lp_15 N Rel) (k9 : lW D E a b p l e s m args below meth c bs Rel Q 793 i) : lW D E a b p l e s m args below meth c bs Rel Q 533 i := by
  obtain ⟨C, hX, hbl, hIa, hIb, haf, hbf, hab⟩ := X
  obtain ⟨hx, hb, hml, hown, hts, hK, hr, hlocks⟩ := id C
  intro Su Sm H locs ls hR hPu hPm hS hl
  have hbA : ¬ lwA s bs := Nat.not_le.mpr hbl
  obtain ⟨r, Su2, hu, Sm2, hm, hR2⟩ := pu  Su Sm hR
  refine lv_aload_n (pc := 533) hx hb dL_law_533 rfl (lv_at hl 1 rfl) ?_
  refine r_lawU (pc := 534) C hPu hS (fun q ⟨k, hk, e⟩ => by rw [e]; exact haf k hk) (c_X4_bar hIa N hu) k_X4_bar wd_435 (q0 := 0) wu0 rfl rfl ⟨(Nat.le_of_ble_eq_true rfl), (Nat.le_of_ble_eq_true rfl)⟩ rfl hl.1 rfl (Nat.le_of_ble_eq_true rfl) dL_law_534 ⟨(Nat.le_of_ble_eq_true rfl), (Nat.le_of_ble_eq_true rfl)⟩ (fun H1 locs hPu hk1 hS => ?_)
  have hPm := keepM hab hPm hk1
  refine lv_aload_n (pc := 537) hx hb dL_law_537 rfl (lv_at hl 2 rfl) ?_
  refine r_lawU (pc := 538) C hPm hS (fun q ⟨k, hk, e⟩ => by rw [e]; exact hbf k hk) (c_X5_bar hIb N hm) k_X5_bar wd_757 (q0 := 0) wm0 rfl rfl ⟨(Nat.le_of_ble_eq_true rfl), (Nat.le_of_ble_eq_true rfl)⟩ rfl hl.1 rfl (Nat.le_of_ble_eq_true rfl) dL_law_538 ⟨(Nat.le_of_ble_eq_true rfl), (Nat.le_of_ble_eq_true rfl)⟩ (fun H1 locs hPm hk1 hS => ?_)
  have hPu := keepU hab hPu hk1
  refine lv_icmp_eq (tgt := 793) (pc := 541) hx hb dL_law_541 (by decide) (fun hc => ?_) (fun hc => absurd rfl hc)
  exact k9 _ _ _ _ ls hR2 hPu hPm hS hl
def lp_16 (N : Nat) (Rel : St → St → Prop) : Prop := ∀ (x1 : Int32) (Su Sm : St), Rel Su Sm → ∃ r : Int32, ∃ Su2 : St, f_X4_anew N x1 Su = some (r, Su2) ∧ ∃ Sm2 : St, f_X5_anew N x1 Sm = some (r, Sm2) ∧ Rel Su2 Sm2
theorem law_16 (N : Nat) (X : lwX D E a b p s m args meth c bs L xs) (hi1 : vp_in (i + 1) L) (pu : lp_16 N Rel) (k9 : lW D E a b p l e s m args below meth c bs Rel Q 793 i) : lW D E a b p l e s m args below meth c bs Rel Q 546 i := by
  obtain ⟨C, hX, hbl, hIa, hIb, haf, hbf, hab⟩ := X
  obtain ⟨hx, hb, hml, hown, hts, hK, hr, hlocks⟩ := id C
  intro Su Sm H locs ls hR hPu hPm hS hl
  have hbA : ¬ lwA s bs := Nat.not_le.mpr hbl
  obtain ⟨r, Su2, hu, Sm2, hm, hR2⟩ := pu (xs (Int32.toNatClampNeg (i + 1))) Su Sm hR
  refine lv_aload_n (pc := 546) hx hb dL_law_546 rfl (lv_at hl 1 rfl) ?_
  refine lv_aload_n (pc := 547) hx hb dL_law_547 rfl (lv_at hl 0 rfl) ?_
  refine lv_iload_n (pc := 548) hx hb dL_law_548 rfl (lv_at hl 3 rfl) ?_
  refine lv_iconst (v := 1) (pc := 549) hx hb dL_law_549 (by decide) ?_
  refine lv_iadd (pc := 550) hx hb dL_law_550 ?_
  refine va_sld (pc := 551) hx hb hX hbl hbA hS hi1 dL_law_551 ?_
  refine r_lawU (pc := 552) C hPu hS (fun q ⟨k, hk, e⟩ => by rw [e]; exact haf k hk) (c_X4_anew hIa N hu) k_X4_anew wd_449 (q0 := 0) wu0 rfl rfl ⟨(Nat.le_of_ble_eq_true rfl), (Nat.le_of_ble_eq_true rfl)⟩ rfl hl.1 rfl (Nat.le_of_ble_eq_true rfl) dL_law_552 ⟨(Nat.le_of_ble_eq_true rfl), (Nat.le_of_ble_eq_true rfl)⟩ (fun H1 locs hPu hk1 hS => ?_)
  have hPm := keepM hab hPm hk1
  refine lv_aload_n (pc := 555) hx hb dL_law_555 rfl (lv_at hl 2 rfl) ?_
  refine lv_aload_n (pc := 556) hx hb dL_law_556 rfl (lv_at hl 0 rfl) ?_
  refine lv_iload_n (pc := 557) hx hb dL_law_557 rfl (lv_at hl 3 rfl) ?_
  refine lv_iconst (v := 1) (pc := 558) hx hb dL_law_558 (by decide) ?_
  refine lv_iadd (pc := 559) hx hb dL_law_559 ?_
  refine va_sld (pc := 560) hx hb hX hbl hbA hS hi1 dL_law_560 ?_
  refine r_lawU (pc := 561) C hPm hS (fun q ⟨k, hk, e⟩ => by rw [e]; exact hbf k hk) (c_X5_anew hIb N hm) k_X5_anew wd_769 (q0 := 0) wm0 rfl rfl ⟨(Nat.le_of_ble_eq_true rfl), (Nat.le_of_ble_eq_true rfl)⟩ rfl hl.1 rfl (Nat.le_of_ble_eq_true rfl) dL_law_561 ⟨(Nat.le_of_ble_eq_true rfl), (Nat.le_of_ble_eq_true rfl)⟩ (fun H1 locs hPm hk1 hS => ?_)
  have hPu := keepU hab hPu hk1
  refine lv_icmp_eq (tgt := 793) (pc := 564) hx hb dL_law_564 (by decide) (fun hc => ?_) (fun hc => absurd rfl hc)
  exact k9 _ _ _ _ ls hR2 hPu hPm hS hl
def lp_17 (N : Nat) (Rel : St → St → Prop) : Prop := ∀ (x1 : Int32) (Su Sm : St), Rel Su Sm → ∃ r : Int32, ∃ Su2 : St, f_X4_looser N x1 Su = some (r, Su2) ∧ ∃ Sm2 : St, f_X5_looser N x1 Sm = some (r, Sm2) ∧ Rel Su2 Sm2
theorem law_17 (N : Nat) (X : lwX D E a b p s m args meth c bs L xs) (hi1 : vp_in (i + 1) L) (pu : lp_17 N Rel) (k9 : lW D E a b p l e s m args below meth c bs Rel Q 793 i) : lW D E a b p l e s m args below meth c bs Rel Q 569 i := by
  obtain ⟨C, hX, hbl, hIa, hIb, haf, hbf, hab⟩ := X
  obtain ⟨hx, hb, hml, hown, hts, hK, hr, hlocks⟩ := id C
  intro Su Sm H locs ls hR hPu hPm hS hl
  have hbA : ¬ lwA s bs := Nat.not_le.mpr hbl
  obtain ⟨r, Su2, hu, Sm2, hm, hR2⟩ := pu (xs (Int32.toNatClampNeg (i + 1))) Su Sm hR
  refine lv_aload_n (pc := 569) hx hb dL_law_569 rfl (lv_at hl 1 rfl) ?_
  refine lv_aload_n (pc := 570) hx hb dL_law_570 rfl (lv_at hl 0 rfl) ?_
  refine lv_iload_n (pc := 571) hx hb dL_law_571 rfl (lv_at hl 3 rfl) ?_
  refine lv_iconst (v := 1) (pc := 572) hx hb dL_law_572 (by decide) ?_
  refine lv_iadd (pc := 573) hx hb dL_law_573 ?_
  refine va_sld (pc := 574) hx hb hX hbl hbA hS hi1 dL_law_574 ?_
  refine r_lawU (pc := 575) C hPu hS (fun q ⟨k, hk, e⟩ => by rw [e]; exact haf k hk) (c_X4_looser hIa N hu) k_X4_looser wd_465 (q0 := 0) wu0 rfl rfl ⟨(Nat.le_of_ble_eq_true rfl), (Nat.le_of_ble_eq_true rfl)⟩ rfl hl.1 rfl (Nat.le_of_ble_eq_true rfl) dL_law_575 ⟨(Nat.le_of_ble_eq_true rfl), (Nat.le_of_ble_eq_true rfl)⟩ (fun H1 locs hPu hk1 hS => ?_)
  have hPm := keepM hab hPm hk1
  refine lv_aload_n (pc := 578) hx hb dL_law_578 rfl (lv_at hl 2 rfl) ?_
  refine lv_aload_n (pc := 579) hx hb dL_law_579 rfl (lv_at hl 0 rfl) ?_
  refine lv_iload_n (pc := 580) hx hb dL_law_580 rfl (lv_at hl 3 rfl) ?_
  refine lv_iconst (v := 1) (pc := 581) hx hb dL_law_581 (by decide) ?_
  refine lv_iadd (pc := 582) hx hb dL_law_582 ?_
  refine va_sld (pc := 583) hx hb hX hbl hbA hS hi1 dL_law_583 ?_
  refine r_lawU (pc := 584) C hPm hS (fun q ⟨k, hk, e⟩ => by rw [e]; exact hbf k hk) (c_X5_looser hIb N hm) k_X5_looser wd_777 (q0 := 0) wm0 rfl rfl ⟨(Nat.le_of_ble_eq_true rfl), (Nat.le_of_ble_eq_true rfl)⟩ rfl hl.1 rfl (Nat.le_of_ble_eq_true rfl) dL_law_584 ⟨(Nat.le_of_ble_eq_true rfl), (Nat.le_of_ble_eq_true rfl)⟩ (fun H1 locs hPm hk1 hS => ?_)
  have hPu := keepU hab hPu hk1
  refine lv_icmp_eq (tgt := 793) (pc := 587) hx hb dL_law_587 (by decide) (fun hc => ?_) (fun hc => absurd rfl hc)
  exact k9 _ _ _ _ ls hR2 hPu hPm hS hl
def lp_18 (N : Nat) (Rel : St → St → Prop) : Prop := ∀ (x1 : Int32) (x2 : Int32) (Su Sm : St), Rel Su Sm → ∃ r : Int32, ∃ Su2 : St, f_X4_agree N x1 x2 Su = some (r, Su2) ∧ ∃ Sm2 : St, f_X5_agree N x1 x2 Sm = some (r, Sm2) ∧ Rel Su2 Sm2
theorem law_18 (N : Nat) (X : lwX D E a b p s m args meth c bs L xs) (hi1 : vp_in (i + 1) L) (hi2 : vp_in (i + 2) L) (pu : lp_18 N Rel) (k9 : lW D E a b p l e s m args below meth c bs Rel Q 793 i) : lW D E a b p l e s m args below meth c bs Rel Q 592 i := by
  obtain ⟨C, hX, hbl, hIa, hIb, haf, hbf, hab⟩ := X
  obtain ⟨hx, hb, hml, hown, hts, hK, hr, hlocks⟩ := id C
  intro Su Sm H locs ls hR hPu hPm hS hl
  have hbA : ¬ lwA s bs := Nat.not_le.mpr hbl
  obtain ⟨r, Su2, hu, Sm2, hm, hR2⟩ := pu (xs (Int32.toNatClampNeg (i + 1))) (xs (Int32.toNatClampNeg (i + 2))) Su Sm hR
  refine lv_aload_n (pc := 592) hx hb dL_law_592 rfl (lv_at hl 1 rfl) ?_
  refine lv_aload_n (pc := 593) hx hb dL_law_593 rfl (lv_at hl 0 rfl) ?_
  refine lv_iload_n (pc := 594) hx hb dL_law_594 rfl (lv_at hl 3 rfl) ?_
  refine lv_iconst (v := 1) (pc := 595) hx hb dL_law_595 (by decide) ?_
  refine lv_iadd (pc := 596) hx hb dL_law_596 ?_
  refine va_sld (pc := 597) hx hb hX hbl hbA hS hi1 dL_law_597 ?_
  refine lv_aload_n (pc := 598) hx hb dL_law_598 rfl (lv_at hl 0 rfl) ?_
  refine lv_iload_n (pc := 599) hx hb dL_law_599 rfl (lv_at hl 3 rfl) ?_
  refine lv_iconst (v := 2) (pc := 600) hx hb dL_law_600 (by decide) ?_
  refine lv_iadd (pc := 601) hx hb dL_law_601 ?_
  refine va_sld (pc := 602) hx hb hX hbl hbA hS hi2 dL_law_602 ?_
  refine r_lawU (pc := 603) C hPu hS (fun q ⟨k, hk, e⟩ => by rw [e]; exact haf k hk) (c_X4_agree hIa N hu) k_X4_agree wd_477 (q0 := 0) wu0 rfl rfl ⟨(Nat.le_of_ble_eq_true rfl), (Nat.le_of_ble_eq_true rfl)⟩ rfl hl.1 rfl (Nat.le_of_ble_eq_true rfl) dL_law_603 ⟨(Nat.le_of_ble_eq_true rfl), (Nat.le_of_ble_eq_true rfl)⟩ (fun H1 locs hPu hk1 hS => ?_)
  have hPm := keepM hab hPm hk1
  refine lv_aload_n (pc := 606) hx hb dL_law_606 rfl (lv_at hl 2 rfl) ?_
  refine lv_aload_n (pc := 607) hx hb dL_law_607 rfl (lv_at hl 0 rfl) ?_
  refine lv_iload_n (pc := 608) hx hb dL_law_608 rfl (lv_at hl 3 rfl) ?_
  refine lv_iconst (v := 1) (pc := 609) hx hb dL_law_609 (by decide) ?_
  refine lv_iadd (pc := 610) hx hb dL_law_610 ?_
  refine va_sld (pc := 611) hx hb hX hbl hbA hS hi1 dL_law_611 ?_
  refine lv_aload_n (pc := 612) hx hb dL_law_612 rfl (lv_at hl 0 rfl) ?_
  refine lv_iload_n (pc := 613) hx hb dL_law_613 rfl (lv_at hl 3 rfl) ?_
  refine lv_iconst (v := 2) (pc := 614) hx hb dL_law_614 (by decide) ?_
  refine lv_iadd (pc := 615) hx hb dL_law_615 ?_
  refine va_sld (pc := 616) hx hb hX hbl hbA hS hi2 dL_law_616 ?_
  refine r_lawU (pc := 617) C hPm hS (fun q ⟨k, hk, e⟩ => by rw [e]; exact hbf k hk) (c_X5_agree hIb N hm) k_X5_agree wd_789 (q0 := 0) wm0 rfl rfl ⟨(Nat.le_of_ble_eq_true rfl), (Nat.le_of_ble_eq_true rfl)⟩ rfl hl.1 rfl (Nat.le_of_ble_eq_true rfl) dL_law_617 ⟨(Nat.le_of_ble_eq_true rfl), (Nat.le_of_ble_eq_true rfl)⟩ (fun H1 locs hPm hk1 hS => ?_)
  have hPu := keepU hab hPu hk1
  refine lv_icmp_eq (tgt := 793) (pc := 620) hx hb dL_law_620 (by decide) (fun hc => ?_) (fun hc => absurd rfl hc)
  exact k9 _ _ _ _ ls hR2 hPu hPm hS hl
def lp_19 (N : Nat) (Rel : St → St → Prop) : Prop := ∀ (x1 : Int32) (x2 : Int32) (x3 : Int32) (Su Sm : St), Rel Su Sm → ∃ r : Int32, ∃ Su2 : St, f_X4_more N x1 x2 x3 Su = some (r, Su2) ∧ ∃ Sm2 : St, f_X5_more N x1 x2 x3 Sm = some (r, Sm2) ∧ Rel Su2 Sm2
theorem law_19 (N : Nat) (X : lwX D E a b p s m args meth c bs L xs) (hi1 : vp_in (i + 1) L) (hi2 : vp_in (i + 2) L) (hi3 : vp_in (i + 3) L) (pu : lp_19 N Rel) (k9 : lW D E a b p l e s m args below meth c bs Rel Q 793 i) : lW D E a b p l e s m args below meth c bs Rel Q 625 i := by
  obtain ⟨C, hX, hbl, hIa, hIb, haf, hbf, hab⟩ := X
  obtain ⟨hx, hb, hml, hown, hts, hK, hr, hlocks⟩ := id C
  intro Su Sm H locs ls hR hPu hPm hS hl
  have hbA : ¬ lwA s bs := Nat.not_le.mpr hbl
  obtain ⟨r, Su2, hu, Sm2, hm, hR2⟩ := pu (xs (Int32.toNatClampNeg (i + 1))) (xs (Int32.toNatClampNeg (i + 2))) (xs (Int32.toNatClampNeg (i + 3))) Su Sm hR
  refine lv_aload_n (pc := 625) hx hb dL_law_625 rfl (lv_at hl 1 rfl) ?_
  refine lv_aload_n (pc := 626) hx hb dL_law_626 rfl (lv_at hl 0 rfl) ?_
  refine lv_iload_n (pc := 627) hx hb dL_law_627 rfl (lv_at hl 3 rfl) ?_
  refine lv_iconst (v := 1) (pc := 628) hx hb dL_law_628 (by decide) ?_
  refine lv_iadd (pc := 629) hx hb dL_law_629 ?_
  refine va_sld (pc := 630) hx hb hX hbl hbA hS hi1 dL_law_630 ?_
  refine lv_aload_n (pc := 631) hx hb dL_law_631 rfl (lv_at hl 0 rfl) ?_
  refine lv_iload_n (pc := 632) hx hb dL_law_632 rfl (lv_at hl 3 rfl) ?_
  refine lv_iconst (v := 2) (pc := 633) hx hb dL_law_633 (by decide) ?_
  refine lv_iadd (pc := 634) hx hb dL_law_634 ?_
  refine va_sld (pc := 635) hx hb hX hbl hbA hS hi2 dL_law_635 ?_
  refine lv_aload_n (pc := 636) hx hb dL_law_636 rfl (lv_at hl 0 rfl) ?_
  refine lv_iload_n (pc := 637) hx hb dL_law_637 rfl (lv_at hl 3 rfl) ?_
  refine lv_iconst (v := 3) (pc := 638) hx hb dL_law_638 (by decide) ?_
  refine lv_iadd (pc := 639) hx hb dL_law_639 ?_
  refine va_sld (pc := 640) hx hb hX hbl hbA hS hi3 dL_law_640 ?_
  refine r_lawU (pc := 641) C hPu hS (fun q ⟨k, hk, e⟩ => by rw [e]; exact haf k hk) (c_X4_more hIa N hu) k_X4_more wd_481 (q0 := 0) wu0 rfl rfl ⟨(Nat.le_of_ble_eq_true rfl), (Nat.le_of_ble_eq_true rfl)⟩ rfl hl.1 rfl (Nat.le_of_ble_eq_true rfl) dL_law_641 ⟨(Nat.le_of_ble_eq_true rfl), (Nat.le_of_ble_eq_true rfl)⟩ (fun H1 locs hPu hk1 hS => ?_)
  have hPm := keepM hab hPm hk1
  refine lv_aload_n (pc := 644) hx hb dL_law_644 rfl (lv_at hl 2 rfl) ?_
  refine lv_aload_n (pc := 645) hx hb dL_law_645 rfl (lv_at hl 0 rfl) ?_
  refine lv_iload_n (pc := 646) hx hb dL_law_646 rfl (lv_at hl 3 rfl) ?_
  refine lv_iconst (v := 1) (pc := 647) hx hb dL_law_647 (by decide) ?_
  refine lv_iadd (pc := 648) hx hb dL_law_648 ?_
  refine va_sld (pc := 649) hx hb hX hbl hbA hS hi1 dL_law_649 ?_
  refine lv_aload_n (pc := 650) hx hb dL_law_650 rfl (lv_at hl 0 rfl) ?_
  refine lv_iload_n (pc := 651) hx hb dL_law_651 rfl (lv_at hl 3 rfl) ?_
  refine lv_iconst (v := 2) (pc := 652) hx hb dL_law_652 (by decide) ?_
  refine lv_iadd (pc := 653) hx hb dL_law_653 ?_
  refine va_sld (pc := 654) hx hb hX hbl hbA hS hi2 dL_law_654 ?_
  refine lv_aload_n (pc := 655) hx hb dL_law_655 rfl (lv_at hl 0 rfl) ?_
  refine lv_iload_n (pc := 656) hx hb dL_law_656 rfl (lv_at hl 3 rfl) ?_
  refine lv_iconst (v := 3) (pc := 657) hx hb dL_law_657 (by decide) ?_
  refine lv_iadd (pc := 658) hx hb dL_law_658 ?_
  refine va_sld (pc := 659) hx hb hX hbl hbA hS hi3 dL_law_659 ?_
  refine r_lawU (pc := 660) C hPm hS (fun q ⟨k, hk, e⟩ => by rw [e]; exact hbf k hk) (c_X5_more hIb N hm) k_X5_more wd_793 (q0 := 0) wm0 rfl rfl ⟨(Nat.le_of_ble_eq_true rfl), (Nat.le_of_ble_eq_true rfl)⟩ rfl hl.1 rfl (Nat.le_of_ble_eq_true rfl) dL_law_660 ⟨(Nat.le_of_ble_eq_true rfl), (Nat.le_of_ble_eq_true rfl)⟩ (fun H1 locs hPm hk1 hS => ?_)
  have hPu := keepU hab hPu hk1
  refine lv_icmp_eq (tgt := 793) (pc := 663) hx hb dL_law_663 (by decide) (fun hc => ?_) (fun hc => absurd rfl hc)
  exact k9 _ _ _ _ ls hR2 hPu hPm hS hl
def lp_20 (N : Nat) (Rel : St → St → Prop) : Prop := ∀ (x1 : Int32) (Su Sm : St), Rel Su Sm → ∃ r : Int32, ∃ Su2 : St, f_X4_names N x1 Su = some (r, Su2) ∧ ∃ Sm2 : St, f_X5_names N x1 Sm = some (r, Sm2) ∧ Rel Su2 Sm2
theorem law_20 (N : Nat) (X : lwX D E a b p s m args meth c bs L xs) (hi1 : vp_in (i + 1) L) (pu : lp_20 N Rel) (k9 : lW D E a b p l e s m args below meth c bs Rel Q 793 i) : lW D E a b p l e s m args below meth c bs Rel Q 668 i := by
  obtain ⟨C, hX, hbl, hIa, hIb, haf, hbf, hab⟩ := X
  obtain ⟨hx, hb, hml, hown, hts, hK, hr, hlocks⟩ := id C
  intro Su Sm H locs ls hR hPu hPm hS hl
  have hbA : ¬ lwA s bs := Nat.not_le.mpr hbl
  obtain ⟨r, Su2, hu, Sm2, hm, hR2⟩ := pu (xs (Int32.toNatClampNeg (i + 1))) Su Sm hR
  refine lv_aload_n (pc := 668) hx hb dL_law_668 rfl (lv_at hl 1 rfl) ?_
  refine lv_aload_n (pc := 669) hx hb dL_law_669 rfl (lv_at hl 0 rfl) ?_
  refine lv_iload_n (pc := 670) hx hb dL_law_670 rfl (lv_at hl 3 rfl) ?_
  refine lv_iconst (v := 1) (pc := 671) hx hb dL_law_671 (by decide) ?_
  refine lv_iadd (pc := 672) hx hb dL_law_672 ?_
  refine va_sld (pc := 673) hx hb hX hbl hbA hS hi1 dL_law_673 ?_
  refine r_lawU (pc := 674) C hPu hS (fun q ⟨k, hk, e⟩ => by rw [e]; exact haf k hk) (c_X4_names hIa N hu) k_X4_names wd_489 (q0 := 0) wu0 rfl rfl ⟨(Nat.le_of_ble_eq_true rfl), (Nat.le_of_ble_eq_true rfl)⟩ rfl hl.1 rfl (Nat.le_of_ble_eq_true rfl) dL_law_674 ⟨(Nat.le_of_ble_eq_true rfl), (Nat.le_of_ble_eq_true rfl)⟩ (fun H1 locs hPu hk1 hS => ?_)
  have hPm := keepM hab hPm hk1
  refine lv_aload_n (pc := 677) hx hb dL_law_677 rfl (lv_at hl 2 rfl) ?_
  refine lv_aload_n (pc := 678) hx hb dL_law_678 rfl (lv_at hl 0 rfl) ?_
  refine lv_iload_n (pc := 679) hx hb dL_law_679 rfl (lv_at hl 3 rfl) ?_
  refine lv_iconst (v := 1) (pc := 680) hx hb dL_law_680 (by decide) ?_
  refine lv_iadd (pc := 681) hx hb dL_law_681 ?_
  refine va_sld (pc := 682) hx hb hX hbl hbA hS hi1 dL_law_682 ?_
  refine r_lawU (pc := 683) C hPm hS (fun q ⟨k, hk, e⟩ => by rw [e]; exact hbf k hk) (c_X5_names hIb N hm) k_X5_names wd_797 (q0 := 0) wm0 rfl rfl ⟨(Nat.le_of_ble_eq_true rfl), (Nat.le_of_ble_eq_true rfl)⟩ rfl hl.1 rfl (Nat.le_of_ble_eq_true rfl) dL_law_683 ⟨(Nat.le_of_ble_eq_true rfl), (Nat.le_of_ble_eq_true rfl)⟩ (fun H1 locs hPm hk1 hS => ?_)
  have hPu := keepU hab hPu hk1
  refine lv_icmp_eq (tgt := 793) (pc := 686) hx hb dL_law_686 (by decide) (fun hc => ?_) (fun hc => absurd rfl hc)
  exact k9 _ _ _ _ ls hR2 hPu hPm hS hl
def lp_21 (N : Nat) (Rel : St → St → Prop) : Prop := ∀ (x1 : Int32) (x2 : Int32) (Su Sm : St), Rel Su Sm → ∃ r : Int32, ∃ Su2 : St, f_X4_audit N x1 x2 Su = some (r, Su2) ∧ ∃ Sm2 : St, f_X5_audit N x1 x2 Sm = some (r, Sm2) ∧ Rel Su2 Sm2
theorem law_21 (N : Nat) (X : lwX D E a b p s m args meth c bs L xs) (hi1 : vp_in (i + 1) L) (hi2 : vp_in (i + 2) L) (pu : lp_21 N Rel) (k9 : lW D E a b p l e s m args below meth c bs Rel Q 793 i) : lW D E a b p l e s m args below meth c bs Rel Q 691 i := by
  obtain ⟨C, hX, hbl, hIa, hIb, haf, hbf, hab⟩ := X
  obtain ⟨hx, hb, hml, hown, hts, hK, hr, hlocks⟩ := id C
  intro Su Sm H locs ls hR hPu hPm hS hl
  have hbA : ¬ lwA s bs := Nat.not_le.mpr hbl
  obtain ⟨r, Su2, hu, Sm2, hm, hR2⟩ := pu (xs (Int32.toNatClampNeg (i + 1))) (xs (Int32.toNatClampNeg (i + 2))) Su Sm hR
  refine lv_aload_n (pc := 691) hx hb dL_law_691 rfl (lv_at hl 1 rfl) ?_
  refine lv_aload_n (pc := 692) hx hb dL_law_692 rfl (lv_at hl 0 rfl) ?_
  refine lv_iload_n (pc := 693) hx hb dL_law_693 rfl (lv_at hl 3 rfl) ?_
  refine lv_iconst (v := 1) (pc := 694) hx hb dL_law_694 (by decide) ?_
  refine lv_iadd (pc := 695) hx hb dL_law_695 ?_
  refine va_sld (pc := 696) hx hb hX hbl hbA hS hi1 dL_law_696 ?_
  refine lv_aload_n (pc := 697) hx hb dL_law_697 rfl (lv_at hl 0 rfl) ?_
  refine lv_iload_n (pc := 698) hx hb dL_law_698 rfl (lv_at hl 3 rfl) ?_
  refine lv_iconst (v := 2) (pc := 699) hx hb dL_law_699 (by decide) ?_
  refine lv_iadd (pc := 700) hx hb dL_law_700 ?_
  refine va_sld (pc := 701) hx hb hX hbl hbA hS hi2 dL_law_701 ?_
  refine r_lawU (pc := 702) C hPu hS (fun q ⟨k, hk, e⟩ => by rw [e]; exact haf k hk) (c_X4_audit hIa N hu) k_X4_audit wd_509 (q0 := 0) wu0 rfl rfl ⟨(Nat.le_of_ble_eq_true rfl), (Nat.le_of_ble_eq_true rfl)⟩ rfl hl.1 rfl (Nat.le_of_ble_eq_true rfl) dL_law_702 ⟨(Nat.le_of_ble_eq_true rfl), (Nat.le_of_ble_eq_true rfl)⟩ (fun H1 locs hPu hk1 hS => ?_)
  have hPm := keepM hab hPm hk1
  refine lv_aload_n (pc := 705) hx hb dL_law_705 rfl (lv_at hl 2 rfl) ?_
  refine lv_aload_n (pc := 706) hx hb dL_law_706 rfl (lv_at hl 0 rfl) ?_
  refine lv_iload_n (pc := 707) hx hb dL_law_707 rfl (lv_at hl 3 rfl) ?_
  refine lv_iconst (v := 1) (pc := 708) hx hb dL_law_708 (by decide) ?_
  refine lv_iadd (pc := 709) hx hb dL_law_709 ?_
  refine va_sld (pc := 710) hx hb hX hbl hbA hS hi1 dL_law_710 ?_
  refine lv_aload_n (pc := 711) hx hb dL_law_711 rfl (lv_at hl 0 rfl) ?_
  refine lv_iload_n (pc := 712) hx hb dL_law_712 rfl (lv_at hl 3 rfl) ?_
  refine lv_iconst (v := 2) (pc := 713) hx hb dL_law_713 (by decide) ?_
  refine lv_iadd (pc := 714) hx hb dL_law_714 ?_
  refine va_sld (pc := 715) hx hb hX hbl hbA hS hi2 dL_law_715 ?_
  refine r_lawU (pc := 716) C hPm hS (fun q ⟨k, hk, e⟩ => by rw [e]; exact hbf k hk) (c_X5_audit hIb N hm) k_X5_audit wd_801 (q0 := 0) wm0 rfl rfl ⟨(Nat.le_of_ble_eq_true rfl), (Nat.le_of_ble_eq_true rfl)⟩ rfl hl.1 rfl (Nat.le_of_ble_eq_true rfl) dL_law_716 ⟨(Nat.le_of_ble_eq_true rfl), (Nat.le_of_ble_eq_true rfl)⟩ (fun H1 locs hPm hk1 hS => ?_)
  have hPu := keepU hab hPu hk1
  refine lv_icmp_eq (tgt := 793) (pc := 719) hx hb dL_law_719 (by decide) (fun hc => ?_) (fun hc => absurd rfl hc)
  exact k9 _ _ _ _ ls hR2 hPu hPm hS hl
def lp_22 (N : Nat) (Rel : St → St → Prop) : Prop := ∀ (x1 : Int32) (Su Sm : St), Rel Su Sm → ∃ r : Int32, ∃ Su2 : St, f_X4_image x1 Su = some (r, Su2) ∧ ∃ Sm2 : St, f_X5_image N x1 Sm = some (r, Sm2) ∧ Rel Su2 Sm2
theorem law_22 (N : Nat) (X : lwX D E a b p s m args meth c bs L xs) (hi1 : vp_in (i + 1) L) (pu : lp_22 N Rel) (k9 : lW D E a b p l e s m args below meth c bs Rel Q 793 i) : lW D E a b p l e s m args below meth c bs Rel Q 724 i := by
  obtain ⟨C, hX, hbl, hIa, hIb, haf, hbf, hab⟩ := X
  obtain ⟨hx, hb, hml, hown, hts, hK, hr, hlocks⟩ := id C
  intro Su Sm H locs ls hR hPu hPm hS hl
  have hbA : ¬ lwA s bs := Nat.not_le.mpr hbl
  obtain ⟨r, Su2, hu, Sm2, hm, hR2⟩ := pu (xs (Int32.toNatClampNeg (i + 1))) Su Sm hR
  refine lv_aload_n (pc := 724) hx hb dL_law_724 rfl (lv_at hl 1 rfl) ?_
  refine lv_aload_n (pc := 725) hx hb dL_law_725 rfl (lv_at hl 0 rfl) ?_
  refine lv_iload_n (pc := 726) hx hb dL_law_726 rfl (lv_at hl 3 rfl) ?_
  refine lv_iconst (v := 1) (pc := 727) hx hb dL_law_727 (by decide) ?_
  refine lv_iadd (pc := 728) hx hb dL_law_728 ?_
  refine va_sld (pc := 729) hx hb hX hbl hbA hS hi1 dL_law_729 ?_
  refine r_lawU (pc := 730) C hPu hS (fun q ⟨k, hk, e⟩ => by rw [e]; exact haf k hk) (c_X4_image hIa hu) k_X4_image wd_520 (q0 := 0) wu0 rfl rfl ⟨(Nat.le_of_ble_eq_true rfl), (Nat.le_of_ble_eq_true rfl)⟩ rfl hl.1 rfl (Nat.le_of_ble_eq_true rfl) dL_law_730 ⟨(Nat.le_of_ble_eq_true rfl), (Nat.le_of_ble_eq_true rfl)⟩ (fun H1 locs hPu hk1 hS => ?_)
  have hPm := keepM hab hPm hk1
  refine lv_aload_n (pc := 733) hx hb dL_law_733 rfl (lv_at hl 2 rfl) ?_
  refine lv_aload_n (pc := 734) hx hb dL_law_734 rfl (lv_at hl 0 rfl) ?_
  refine lv_iload_n (pc := 735) hx hb dL_law_735 rfl (lv_at hl 3 rfl) ?_
  refine lv_iconst (v := 1) (pc := 736) hx hb dL_law_736 (by decide) ?_
  refine lv_iadd (pc := 737) hx hb dL_law_737 ?_
  refine va_sld (pc := 738) hx hb hX hbl hbA hS hi1 dL_law_738 ?_
  refine r_lawU (pc := 739) C hPm hS (fun q ⟨k, hk, e⟩ => by rw [e]; exact hbf k hk) (c_X5_image hIb N hm) k_X5_image wd_805 (q0 := 0) wm0 rfl rfl ⟨(Nat.le_of_ble_eq_true rfl), (Nat.le_of_ble_eq_true rfl)⟩ rfl hl.1 rfl (Nat.le_of_ble_eq_true rfl) dL_law_739 ⟨(Nat.le_of_ble_eq_true rfl), (Nat.le_of_ble_eq_true rfl)⟩ (fun H1 locs hPm hk1 hS => ?_)
  have hPu := keepU hab hPu hk1
  refine lv_icmp_eq (tgt := 793) (pc := 742) hx hb dL_law_742 (by decide) (fun hc => ?_) (fun hc => absurd rfl hc)
  exact k9 _ _ _ _ ls hR2 hPu hPm hS hl
def lp_23 (N : Nat) (Rel : St → St → Prop) : Prop := ∀ (x1 : Int32) (Su Sm : St), Rel Su Sm → ∃ r : Int32, ∃ Su2 : St, f_X4_restore x1 Su = some (r, Su2) ∧ ∃ Sm2 : St, f_X5_restore N x1 Sm = some (r, Sm2) ∧ Rel Su2 Sm2
theorem law_23 (N : Nat) (X : lwX D E a b p s m args meth c bs L xs) (hi1 : vp_in (i + 1) L) (pu : lp_23 N Rel) (k9 : lW D E a b p l e s m args below meth c bs Rel Q 793 i) : lW D E a b p l e s m args below meth c bs Rel Q 747 i := by
  obtain ⟨C, hX, hbl, hIa, hIb, haf, hbf, hab⟩ := X
  obtain ⟨hx, hb, hml, hown, hts, hK, hr, hlocks⟩ := id C
  intro Su Sm H locs ls hR hPu hPm hS hl
  have hbA : ¬ lwA s bs := Nat.not_le.mpr hbl
  obtain ⟨r, Su2, hu, Sm2, hm, hR2⟩ := pu (xs (Int32.toNatClampNeg (i + 1))) Su Sm hR
  refine lv_aload_n (pc := 747) hx hb dL_law_747 rfl (lv_at hl 1 rfl) ?_
  refine lv_aload_n (pc := 748) hx hb dL_law_748 rfl (lv_at hl 0 rfl) ?_
  refine lv_iload_n (pc := 749) hx hb dL_law_749 rfl (lv_at hl 3 rfl) ?_
  refine lv_iconst (v := 1) (pc := 750) hx hb dL_law_750 (by decide) ?_
  refine lv_iadd (pc := 751) hx hb dL_law_751 ?_
  refine va_sld (pc := 752) hx hb hX hbl hbA hS hi1 dL_law_752 ?_
  refine r_lawU (pc := 753) C hPu hS (fun q ⟨k, hk, e⟩ => by rw [e]; exact haf k hk) (c_X4_restore hIa hu) k_X4_restore wd_529 (q0 := 0) wu0 rfl rfl ⟨(Nat.le_of_ble_eq_true rfl), (Nat.le_of_ble_eq_true rfl)⟩ rfl hl.1 rfl (Nat.le_of_ble_eq_true rfl) dL_law_753 ⟨(Nat.le_of_ble_eq_true rfl), (Nat.le_of_ble_eq_true rfl)⟩ (fun H1 locs hPu hk1 hS => ?_)
  have hPm := keepM hab hPm hk1
  refine lv_aload_n (pc := 756) hx hb dL_law_756 rfl (lv_at hl 2 rfl) ?_
  refine lv_aload_n (pc := 757) hx hb dL_law_757 rfl (lv_at hl 0 rfl) ?_
  refine lv_iload_n (pc := 758) hx hb dL_law_758 rfl (lv_at hl 3 rfl) ?_
  refine lv_iconst (v := 1) (pc := 759) hx hb dL_law_759 (by decide) ?_
  refine lv_iadd (pc := 760) hx hb dL_law_760 ?_
  refine va_sld (pc := 761) hx hb hX hbl hbA hS hi1 dL_law_761 ?_
  refine r_lawU (pc := 762) C hPm hS (fun q ⟨k, hk, e⟩ => by rw [e]; exact hbf k hk) (c_X5_restore hIb N hm) k_X5_restore wd_809 (q0 := 0) wm0 rfl rfl ⟨(Nat.le_of_ble_eq_true rfl), (Nat.le_of_ble_eq_true rfl)⟩ rfl hl.1 rfl (Nat.le_of_ble_eq_true rfl) dL_law_762 ⟨(Nat.le_of_ble_eq_true rfl), (Nat.le_of_ble_eq_true rfl)⟩ (fun H1 locs hPm hk1 hS => ?_)
  have hPu := keepU hab hPu hk1
  refine lv_icmp_eq (tgt := 793) (pc := 765) hx hb dL_law_765 (by decide) (fun hc => ?_) (fun hc => absurd rfl hc)
  exact k9 _ _ _ _ ls hR2 hPu hPm hS hl
def lp_24 (Rel : St → St → Prop) : Prop := ∀ (x1 : Int32) (Su Sm : St), Rel Su Sm → ∃ r : Int32, f_X4_told x1 Su = some r ∧ f_X5_told x1 Sm = some r ∧ Rel Su Sm
theorem law_24 (X : lwX D E a b p s m args meth c bs L xs) (hi1 : vp_in (i + 1) L) (pu : lp_24 Rel) (k9 : lW D E a b p l e s m args below meth c bs Rel Q 793 i) : lW D E a b p l e s m args below meth c bs Rel Q 770 i := by
  obtain ⟨C, hX, hbl, hIa, hIb, haf, hbf, hab⟩ := X
  obtain ⟨hx, hb, hml, hown, hts, hK, hr, hlocks⟩ := id C
  intro Su Sm H locs ls hR hPu hPm hS hl
  have hbA : ¬ lwA s bs := Nat.not_le.mpr hbl
  obtain ⟨r, hu, hm, hR2⟩ := pu (xs (Int32.toNatClampNeg (i + 1))) Su Sm hR
  refine lv_aload_n (pc := 770) hx hb dL_law_770 rfl (lv_at hl 1 rfl) ?_
  refine lv_aload_n (pc := 771) hx hb dL_law_771 rfl (lv_at hl 0 rfl) ?_
  refine lv_iload_n (pc := 772) hx hb dL_law_772 rfl (lv_at hl 3 rfl) ?_
  refine lv_iconst (v := 1) (pc := 773) hx hb dL_law_773 (by decide) ?_
  refine lv_iadd (pc := 774) hx hb dL_law_774 ?_
  refine va_sld (pc := 775) hx hb hX hbl hbA hS hi1 dL_law_775 ?_
  refine r_callR (pc := 776) C hPu (c_X4_told hIa hu) k_X4_told wd_533 (q0 := 0) wu0 rfl rfl ⟨(Nat.le_of_ble_eq_true rfl), (Nat.le_of_ble_eq_true rfl)⟩ rfl hl.1 rfl (Nat.le_of_ble_eq_true rfl) dL_law_776 ⟨(Nat.le_of_ble_eq_true rfl), (Nat.le_of_ble_eq_true rfl)⟩ ?_
  refine lv_aload_n (pc := 779) hx hb dL_law_779 rfl (lv_at hl 2 rfl) ?_
  refine lv_aload_n (pc := 780) hx hb dL_law_780 rfl (lv_at hl 0 rfl) ?_
  refine lv_iload_n (pc := 781) hx hb dL_law_781 rfl (lv_at hl 3 rfl) ?_
  refine lv_iconst (v := 1) (pc := 782) hx hb dL_law_782 (by decide) ?_
  refine lv_iadd (pc := 783) hx hb dL_law_783 ?_
  refine va_sld (pc := 784) hx hb hX hbl hbA hS hi1 dL_law_784 ?_
  refine r_callR (pc := 785) C hPm (c_X5_told hIb hm) k_X5_told wd_813 (q0 := 0) wm0 rfl rfl ⟨(Nat.le_of_ble_eq_true rfl), (Nat.le_of_ble_eq_true rfl)⟩ rfl hl.1 rfl (Nat.le_of_ble_eq_true rfl) dL_law_785 ⟨(Nat.le_of_ble_eq_true rfl), (Nat.le_of_ble_eq_true rfl)⟩ ?_
  refine lv_icmp_eq (tgt := 793) (pc := 788) hx hb dL_law_788 (by decide) (fun hc => ?_) (fun hc => absurd rfl hc)
  exact k9 _ _ _ _ ls hR2 hPu hPm hS hl
