theorem va_P_l {D : va_G} {cl : List vw_C} {w1 w2 : va_W} {H : Heap} (h : va_P D cl (w1 ++ w2) H) : va_P D cl w1 H := fun k q hk => h k q (by rw [List.getElem?_append_left (List.getElem?_eq_some_iff.mp hk).1]; exact hk)
theorem va_P_r {D : va_G} {cl : List vw_C} {w1 w2 : va_W} {H : Heap} (h : va_P D cl (w1 ++ w2) H) : va_P D cl w2 H := fun k q hk => h (w1.length + k) q (by rw [List.getElem?_append_right (by omega), show w1.length + k - w1.length = k by omega]; exact hk)
theorem aI_DU {A : Nat → Prop} {E : bE} {a : Nat → Nat} {S : St} (hf : S 3 11 = 0) (hD : va_D A (Wu E a S)) : aI 49 a ∧ ∀ k, k < 49 → A (a k) := by
  have key : ∀ i, i < 49 → ∃ q, (Wu E a S)[i]? = some q ∧ q.1 = a i := by
    intro i hi
    have hl : i < (Wu E a S).length := hi
    refine ⟨(Wu E a S)[i], List.getElem?_eq_getElem hl, ?_⟩
    have e := (wuAddr E a S (List.getElem?_eq_getElem hl)).2
    rw [e, hf]; rfl
  refine ⟨fun i j hi hj h => ?_, fun k hk => ?_⟩
  · obtain ⟨x, h1, h2⟩ := key i hi
    obtain ⟨y, h3, h4⟩ := key j hj
    exact hD.1 i j x y h1 h3 (by rw [h2, h4]; exact h)
  · obtain ⟨x, h1, h2⟩ := key k hk
    rw [← h2]; exact hD.2 k x h1
theorem aI_DM {A : Nat → Prop} {E : bE} {a : Nat → Nat} {S : St} (hD : va_D A (Wm E a S)) : aI 18 a ∧ ∀ k, k < 18 → A (a k) := by
  have key : ∀ i, i < 18 → ∃ q, (Wm E a S)[i]? = some q ∧ q.1 = a i := by
    intro i hi
    have hl : i < (Wm E a S).length := hi
    exact ⟨(Wm E a S)[i], List.getElem?_eq_getElem hl, (wmAddr E a S (List.getElem?_eq_getElem hl)).2⟩
  refine ⟨fun i j hi hj h => ?_, fun k hk => ?_⟩
  · obtain ⟨x, h1, h2⟩ := key i hi
    obtain ⟨y, h3, h4⟩ := key j hj
    exact hD.1 i j x y h1 h3 (by rw [h2, h4]; exact h)
  · obtain ⟨x, h1, h2⟩ := key k hk
    rw [← h2]; exact hD.2 k x h1
/-- the law from its entry, over what is said of the pure functions -/
theorem start_of {p : Program} {e : Env} {s : State} {m : MethodId} {below : List Frame} {meth : Method} {c : Code} (l : Launch) {b L : Nat} {xs : Nat → Int32} (hL : L ≤ 2048) (C0 : lw_At p s m meth c b L xs) (N : Nat) {SB SM : St} (hB : f_X0_init N zB = some SB) (hM : f_X5_init N zM = some SM) {Rel : St → St → Prop} (hR0 : Rel (zU SB) SM) (hpu : lpAll N Rel) : W p l e room_1 s m #[Value.ref b] below meth c s.heap [] 0 0 (lw_Z below #[Value.ref b] s) (entryFrame m ([Value.ref b] : List Value).toArray 4) := by
  obtain ⟨hx, hb, hr, hml, hown, hts, hX, hbl, hlocks, hgv⟩ := id C0
  have hA : ∀ q : Nat, s.heap.size ≤ q → lwA s q := fun _ h => h
  have htsB : ∀ w ∈ bBig, w.before #[Value.ref b] s = true := fun w h => hts w (List.mem_filter.mp h).1
  obtain ⟨c0, iS0, hKn0⟩ := u_known (C := RX0) (T := TX0) (N := 11) (n := 11) htsB inB0 (htsB _ wd_91)
  obtain ⟨c1, iS1, hKn1⟩ := u_known (C := RX1) (T := TX1) (N := 3) (n := 3) htsB inB1 (htsB _ wd_193)
  obtain ⟨c2, iS2, hKn2⟩ := u_known (C := RX2) (T := TX2) (N := 5) (n := 5) htsB inB2 (htsB _ wd_58)
  obtain ⟨c3, iS3, hKn3⟩ := u_known (C := RX3) (T := TX3) (N := 13) (n := 13) htsB inB3 (htsB _ wd_85)
  obtain ⟨c4, iS4, hKn4⟩ := u_known (C := RX4) (T := TX4) (N := 7) (n := 7) htsB inB4 (htsB _ wd_50)
  obtain ⟨c5, iS5, hKn5⟩ := u_known (C := RX5) (T := TX5) (N := 26) (n := 26) htsB inB5 (htsB _ wd_546)
  obtain ⟨dC, dI, hKc⟩ : ∃ (dC : Nat → ClassId) (dI : Nat → Nat → Nat), ∀ (k : Nat) (q : vw_C), vwCl[k]? = some q → u_Kn s q.1 q.2.1 q.2.2 (dC k) (dI k) := by
    refine ⟨fun k => match k with | 0 => c0 | 1 => c1 | 2 => c2 | 3 => c3 | 4 => c4 | _ => c5, fun k => match k with | 0 => iS0 | 1 => iS1 | 2 => iS2 | 3 => iS3 | 4 => iS4 | _ => iS5, ?_⟩
    intro k q hq
    match k, hq with
    | 0, hq => cases hq; exact hKn0
    | 1, hq => cases hq; exact hKn1
    | 2, hq => cases hq; exact hKn2
    | 3, hq => cases hq; exact hKn3
    | 4, hq => cases hq; exact hKn4
    | 5, hq => cases hq; exact hKn5
    | k + 6, hq => simp [vwCl] at hq
  obtain ⟨cI, kI, compI, hI1, hI2, hI3⟩ := Cond.arrayClass_spec (htsB _ wd_83)
  obtain ⟨cZ, kZ, compZ, hZ1, hZ2, hZ3⟩ := Cond.arrayClass_spec (htsB _ wd_239)
  have hAO : va_AO RX0 s := va_AO.of (A := #[Value.ref b]) (hts (.arrayOver (.object RX0)) (List.mem_of_getElem? (i := 215) (by decide +kernel)))
  obtain ⟨compO, cO, kO, hO1, hO2, hO3, hO4, hO5⟩ := Cond.arrayOver_spec hAO
  obtain ⟨E, hE⟩ : ∃ E : bE, E = (cI, cZ, cO) := ⟨_, rfl⟩
  have hK1 : va_K (dC, dI) vwCl (tyE E) s := by
    subst hE
    refine ⟨hKc, fun k q h => ?_⟩
    match k, h with
    | 0, h => cases h; exact ⟨fun n z => ⟨fun k h => (by cases h), kI, hI2, compI, hI3⟩, hI1⟩
    | 1, h => cases h; exact ⟨fun n z => ⟨fun k h => (by cases h), kZ, hZ2, compZ, hZ3⟩, hZ1⟩
    | 2, h => cases h; exact ⟨fun n z => ⟨fun k h => (by cases h), kO, hO3, compO, hO4⟩, kO, compO, hO3, hO4, hO1, hO5⟩
    | k + 3, h => simp at h
  have hon : ∀ w ∈ bNest, w.onTables = true := by decide +kernel
  have hK : bPre (dC, dI) E s := ⟨hK1, fun w h => va_Nw.of (hon w h) (hts w (bNest_tbl w h)), hAO⟩
  have C : bC (dC, dI) E RL cL_law 4 (some .boolean) p s m #[Value.ref b] meth c := ⟨hx, hb, hml, hown, htsB, hK, hr, hlocks⟩
  have hS : va_S (lwA s) s.heap s.heap [] := va_S.rf
  have hP : va_P (dC, dI) vwCl [] s.heap := fun k q h => by simp at h
  have hD : va_D (lwA s) [] := ⟨fun i j p q h => by simp at h, fun k q h => by simp at h⟩
  have hl := lv_entry ([.ref b]) (n := 4) (Nat.le_of_ble_eq_true rfl)
  rw [lg_entry_eq]
  generalize (lg_sl ([.ref b]) ++ List.replicate (4 - (lg_sl ([.ref b])).length) Slot.unset).toArray = ls at hl ⊢
  have hl : lv_has ls 4 [(0, .ref b)] := hl
  refine va_new (pc := 0) (ci := 4) (fs := [.null, .null, .null, .null, .null, .null, .null]) (C := RX4) (T := TX4) (N := 7) hx hb htsB inB4 tyX4 tyX4_ok hown (htsB _ wd_49) (htsB _ wd_50) (htsB _ wd_40) hK1 hP hD hS hA rfl (fun j hj => by rcases (show j = 0 ∨ j = 1 ∨ j = 2 ∨ j = 3 ∨ j = 4 ∨ j = 5 ∨ j = 6 by omega) with rfl | rfl | rfl | rfl | rfl | rfl | rfl <;> rfl) (Nat.le_of_ble_eq_true rfl) (Nat.le_of_ble_eq_true rfl) dL_law_0 (fun q0 H hP hD hS => ?_)
  have hP : va_P (dC, dI) vwCl [(q0, .inr (4, [.null, .null, .null, .null, .null, .null, .null]))] H := hP
  have hD : va_D (lwA s) [(q0, .inr (4, [.null, .null, .null, .null, .null, .null, .null]))] := hD
  refine lv_dup (pc := 3) hx hb dL_law_3 rfl ?_
  have hFc := va_free (wc := [(q0, .inr (4, [.null, .null, .null, .null, .null, .null, .null]))]) hD hS hA [0] rfl
  refine va_callv (pc := 4) (va_runI (As := []) (rest := [.ref q0]) ⟨hx, hb, hml, hown, htsB⟩ (c_X4_init N hB q0 H.size) (cwI 0 htsB (bGoodIn (fun _ h => h) wd_53) rfl rfl rfl (htsB _ wd_40) (htsB _ wd_51) (htsB _ wd_52) rfl (by decide +kernel) ⟨(Nat.le_of_ble_eq_true rfl), (Nat.le_of_ble_eq_true rfl)⟩) ⟨bBlindN, fun U hU hW => ⟨rfl, by rw [hU], by rw [hU]; exact hP, bPre.warm hW hK⟩⟩ rfl rfl hl.1 rfl (lv_room (Nat.le_of_ble_eq_true rfl)) dL_law_4 ⟨(Nat.le_of_ble_eq_true rfl), (Nat.le_of_ble_eq_true rfl)⟩) hS (fun q _ h => hFc q h) hFc (fun a t H1 locs ht hvm hw hB1 hz1 hk1 hS => ?_)
  obtain ⟨hP1, hD1⟩ := hB1
  rw [ht] at hP1
  have hD1 : va_D (lwA s) (Wu E a (zU SB)) := hD1.weaken (fun _ q _ h => hFc q.1 h)
  have hP := hP1
  have hD := hD1
  obtain ⟨hIa, haf⟩ := aI_DU (S := zU SB) rfl hD1
  have hw0 : a 0 = q0 := hw
  refine lv_astore_n (lv' := [(1, .ref q0), (0, .ref b)]) (pc := 7) hx hb dL_law_7 rfl hl (by decide) rfl (fun ls hl => ?_)
  refine va_new (pc := 8) (ci := 5) (fs := [.int 0, .null, .null, .null, .null, .null, .null, .null, .int 0, .int 0, .int 0, .int 0, .int 0, .null, .null, .int 0, .null, .null, .int 0, .int 0, .null, .null, .null, .null, .null, .null]) (C := RX5) (T := TX5) (N := 26) hx hb htsB inB5 tyX5 tyX5_ok hown (htsB _ wd_545) (htsB _ wd_546) (htsB _ wd_45) hK1 hP hD hS hA rfl (fun j hj => by rcases (show j = 0 ∨ j = 1 ∨ j = 2 ∨ j = 3 ∨ j = 4 ∨ j = 5 ∨ j = 6 ∨ j = 7 ∨ j = 8 ∨ j = 9 ∨ j = 10 ∨ j = 11 ∨ j = 12 ∨ j = 13 ∨ j = 14 ∨ j = 15 ∨ j = 16 ∨ j = 17 ∨ j = 18 ∨ j = 19 ∨ j = 20 ∨ j = 21 ∨ j = 22 ∨ j = 23 ∨ j = 24 ∨ j = 25 by omega) with rfl | rfl | rfl | rfl | rfl | rfl | rfl | rfl | rfl | rfl | rfl | rfl | rfl | rfl | rfl | rfl | rfl | rfl | rfl | rfl | rfl | rfl | rfl | rfl | rfl | rfl <;> rfl) (Nat.le_of_ble_eq_true rfl) (Nat.le_of_ble_eq_true rfl) dL_law_8 (fun q1 H hP hD hS => ?_)
  refine lv_dup (pc := 11) hx hb dL_law_11 rfl ?_
  have hPu := va_P_l hP
  have hPq := va_P_r hP
  have hFc2 := va_free (wc := [(q1, .inr (5, [.int 0, .null, .null, .null, .null, .null, .null, .null, .int 0, .int 0, .int 0, .int 0, .int 0, .null, .null, .int 0, .null, .null, .int 0, .int 0, .null, .null, .null, .null, .null, .null]))]) hD hS hA [49] rfl
  have hne : ∀ k, k < 49 → a k < H.size ∧ a k ≠ q1 := by
    intro k hk
    have hl : k < (Wu E a (zU SB)).length := hk
    have hg := List.getElem?_eq_getElem hl
    have e : ((Wu E a (zU SB))[k]).1 = a k := by have e := (wuAddr E a (zU SB) hg).2; rw [e]; rfl
    refine ⟨by rw [← e]; exact (hPu k _ hg).lt, fun h => ?_⟩
    have hz := hD.1 k 49 _ (q1, _) (by rw [List.getElem?_append_left hl]; exact hg) rfl (by rw [e]; exact h)
    omega
  refine va_callv (pc := 12) (va_runI (As := []) (rest := [.ref q1]) ⟨hx, hb, hml, hown, htsB⟩ (c_X5_init N hM q1 H.size) (cwI 0 htsB (bGoodIn (fun _ h => h) wd_549) rfl rfl rfl (htsB _ wd_45) (htsB _ wd_547) (htsB _ wd_548) rfl (by decide +kernel) ⟨(Nat.le_of_ble_eq_true rfl), (Nat.le_of_ble_eq_true rfl)⟩) ⟨bBlindN, fun U hU hW => ⟨rfl, by rw [hU], by rw [hU]; exact hPq, bPre.warm hW hK⟩⟩ rfl rfl hl.1 rfl (lv_room (Nat.le_of_ble_eq_true rfl)) dL_law_12 ⟨(Nat.le_of_ble_eq_true rfl), (Nat.le_of_ble_eq_true rfl)⟩) hS (fun q _ h => hFc2 q h) hFc2 (fun b2 t H2 locs ht hvm hw hB2 hz2 hk2 hS => ?_)
  obtain ⟨hPm, hD2⟩ := hB2
  rw [ht] at hPm
  obtain ⟨hIb, hbf⟩ := aI_DM hD2
  have hw2 : b2 0 = q1 := hw
  have hab : ∀ i j, i < 49 → j < 18 → a i ≠ b2 j := by
    intro i j hi hj h
    rcases hbf j hj with ⟨k, e, hk⟩ | hk
    · have : k = 0 := by have := (List.getElem?_eq_some_iff.mp hk).1; simp at this; exact this
      subst this; cases hk
      exact (hne i hi).2 h
    · have := (hne i hi).1; omega
  have hPu2 : va_P (dC, dI) vwCl (Wu E a (zU SB)) H2 := hPu.kept (fun k q hq => hk2 q.1 (hPu k q hq).lt (fun hz => by
    have e := (wuAddr E a (zU SB) hq)
    have e2 : q.1 = a k := by rw [e.2]; rfl
    rcases hz with ⟨k2, e3, hk⟩ | hk
    · have : k2 = 0 := by have := (List.getElem?_eq_some_iff.mp hk).1; simp at this; exact this
      subst this; cases hk
      exact (hne k e.1).2 e2.symm
    · have := (hne k e.1).1; omega))
  refine lv_astore_n (lv' := [(2, .ref q1), (1, .ref q0), (0, .ref b)]) (pc := 15) hx hb dL_law_15 rfl hl (by decide) rfl (fun ls hl => ?_)
  refine lv_iconst (v := 0) (pc := 16) hx hb dL_law_16 (by decide) ?_
  refine lv_istore_n (lv' := [(3, .int 0), (2, .ref q1), (1, .ref q0), (0, .ref b)]) (pc := 17) hx hb dL_law_17 rfl hl (by decide) rfl (fun ls hl => ?_)
  refine W.widen (k := 600000) (n := 7302249) (Nat.le_of_ble_eq_true rfl) (Nat.le_of_ble_eq_true rfl) ?_
  have hl : lv_has ls 4 [(0, .ref b), (1, .ref (a 0)), (2, .ref (b2 0)), (3, .int (nI 0))] := by rw [hw0, hw2]; exact lv_sub hl [3, 2, 1, 0] rfl
  exact law_loop N hL ⟨C, hX, hbl, hIa, hIb, haf, fun k hk => hFc2 _ (hbf k hk), hab⟩ hpu (fun H locs ls hS => by
    refine lv_iconst (v := 1) (pc := 799) hx hb dL_law_799 (by decide) ?_
    refine va_forget (fun q hq => hS.2.2 q hq) ?_
    exact lw_ret hx hb hr hlocks dL_law_800) (L + 1) 0 (Nat.zero_le L) (by omega) (zU SB) SM H2 _ ls hR0 hPu2 hPm hS hl
