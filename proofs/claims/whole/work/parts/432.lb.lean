/-! the model's best -/
def own (K : Nat → Nat → Nat) (w : Nat) (c : Nat → Nat) : Nat := wy w (ms K 0 c 6)
def klt (a b : Nat) : Prop := pop a < pop b ∨ (pop a = pop b ∧ a < b)
theorem klt_dec (a b : Nat) : klt a b ∨ ¬ klt a b := Classical.em _
noncomputable def bup (K : Nat → Nat → Nat) (w : Nat) (b : Option (Nat → Nat)) (c : Nat → Nat) : Option (Nat → Nat) := if mg K 0 c 6 = 0 then b else match b with | none => some c | some d => if pop (own K w c) < pop (own K w d) ∨ (pop (own K w c) = pop (own K w d) ∧ own K w c < own K w d) then some c else some d
noncomputable def bst (K : Nat → Nat → Nat) (w : Nat) : Option (Nat → Nat) := (allC K).foldl (bup K w) none
def bsp (K : Nat → Nat → Nat) (w : Nat) (l : List (Nat → Nat)) : Option (Nat → Nat) → Prop
  | none => ∀ d, d ∈ l → mg K 0 d 6 = 0
  | some c => c ∈ l ∧ mg K 0 c 6 ≠ 0 ∧ ∀ d, d ∈ l → mg K 0 d 6 ≠ 0 → ¬ klt (own K w d) (own K w c) ∧ (own K w d = own K w c → ¬ lex d c)
theorem lex_asymm {a b : Nat → Nat} (h : lex a b) : ¬ lex b a := by
  obtain ⟨p, h1, h2, h3⟩ := h
  rintro ⟨q, g1, g2, g3⟩
  rcases Nat.lt_trichotomy p q with z | z | z
  · have := g3 p z; omega
  · subst z; omega
  · have := h3 q z; omega
theorem bsp_s {K : Nat → Nat → Nat} {w : Nat} {l : List (Nat → Nat)} {b : Option (Nat → Nat)} {c : Nat → Nat} (h : bsp K w l b) (hl : ∀ d, d ∈ l → lex d c) : bsp K w (l ++ [c]) (bup K w b c) := by
  unfold bup
  by_cases e : mg K 0 c 6 = 0
  · rw [if_pos e]
    match b, h with
    | none, h =>
      intro d hd
      rcases List.mem_append.mp hd with q | q
      · exact h d q
      · rw [List.mem_singleton] at q; subst q; exact e
    | some c', h =>
      refine ⟨List.mem_append_left _ h.1, h.2.1, fun d hd hg => ?_⟩
      rcases List.mem_append.mp hd with q | q
      · exact h.2.2 d q hg
      · rw [List.mem_singleton] at q; subst q; exact absurd e hg
  · rw [if_neg e]
    match b, h with
    | none, h =>
      refine ⟨List.mem_append_right _ (List.mem_singleton.mpr rfl), e, fun d hd hg => ?_⟩
      rcases List.mem_append.mp hd with q | q
      · exact absurd (h d q) hg
      · rw [List.mem_singleton] at q; subst q
        exact ⟨fun z => by unfold klt at z; omega, fun _ z => lex_asymm z z⟩
    | some c', h =>
      show bsp K w (l ++ [c]) (if pop (own K w c) < pop (own K w c') ∨ (pop (own K w c) = pop (own K w c') ∧ own K w c < own K w c') then some c else some c')
      by_cases f : pop (own K w c) < pop (own K w c') ∨ (pop (own K w c) = pop (own K w c') ∧ own K w c < own K w c')
      · rw [if_pos f]
        refine ⟨List.mem_append_right _ (List.mem_singleton.mpr rfl), e, fun d hd hg => ?_⟩
        rcases List.mem_append.mp hd with q | q
        · have g := h.2.2 d q hg
          unfold klt at g ⊢
          exact ⟨fun z => g.1 (by omega), fun z => absurd (show klt (own K w d) (own K w c') by unfold klt; rw [z]; exact f) (by unfold klt; exact g.1)⟩
        · rw [List.mem_singleton] at q; subst q
          exact ⟨fun z => by unfold klt at z; omega, fun _ z => lex_asymm z z⟩
      · rw [if_neg f]
        refine ⟨List.mem_append_left _ h.1, h.2.1, fun d hd hg => ?_⟩
        rcases List.mem_append.mp hd with q | q
        · exact h.2.2 d q hg
        · rw [List.mem_singleton] at q; subst q
          exact ⟨f, fun _ => lex_asymm (hl c' h.1)⟩
theorem bsp_f {K : Nat → Nat → Nat} {w : Nat} : ∀ (l l0 : List (Nat → Nat)) (b : Option (Nat → Nat)), (l0 ++ l).Pairwise lex → bsp K w l0 b → bsp K w (l0 ++ l) (l.foldl (bup K w) b)
  | [], l0, b, _, h => by rw [List.append_nil]; exact h
  | c :: l, l0, b, hp, h => by
    have e : l0 ++ c :: l = (l0 ++ [c]) ++ l := by simp
    rw [List.foldl_cons, e]
    rw [e] at hp
    refine bsp_f l (l0 ++ [c]) _ hp (bsp_s h (fun d hd => ?_))
    have h1 := (List.pairwise_append.mp hp).1
    exact (List.pairwise_append.mp h1).2.2 d hd c (List.mem_singleton.mpr rfl)
theorem bst_sp (K : Nat → Nat → Nat) (w : Nat) : bsp K w (allC K) (bst K w) := by
  have h := bsp_f (K := K) (w := w) (allC K) [] none (by rw [List.nil_append]; exact en_lex 6 (by decide) c0) (fun d hd => absurd hd (by simp))
  rw [List.nil_append] at h
  exact h
/-- its table -/
def bS (K : Nat → Nat → Nat) (w : Nat) (S : St) : Option (Nat → Nat) → St
  | none => S
  | some d => fun k j => if k = 0 ∧ j = 18 then nI (own K w d) else if k = 0 ∧ j = 19 then nI (mg K 0 d 6) else if k = 11 ∧ j < 6 then nI (d j) else S k j
def anyI : Option (Nat → Nat) → Int32
  | none => 0
  | some _ => 1
theorem bS_n {K : Nat → Nat → Nat} {w : Nat} {S : St} {b : Option (Nat → Nat)} {k j : Nat} (h : ¬ (k = 0 ∧ (j = 18 ∨ j = 19))) (h2 : k ≠ 11) : bS K w S b k j = S k j := by
  match b with
  | none => rfl
  | some d =>
    show (if k = 0 ∧ j = 18 then nI (own K w d) else if k = 0 ∧ j = 19 then nI (mg K 0 d 6) else if k = 11 ∧ j < 6 then nI (d j) else S k j) = _
    rw [if_neg (by omega), if_neg (by omega), if_neg (by omega)]
theorem mOK_of {K : Nat → Nat → Nat} {m : Nat} {S S' : St} (h : mOK K m S) (h8 : S' 0 8 = S 0 8) (h15 : S' 0 15 = S 0 15) (hn : ∀ k j, (k = 2 ∨ k = 3 ∨ k = 4 ∨ k = 8 ∨ k = 9) → S' k j = S k j) : mOK K m S' := by
  obtain ⟨a1, a2, a3, a4, a5, a6, a7⟩ := h
  exact ⟨by rw [h8]; exact a1, fun r hr => by rw [hn _ _ (by omega)]; exact a2 r hr, fun r hr => by rw [hn _ _ (by omega)]; exact a3 r hr, by rw [h15]; exact a4, fun r hr => by rw [hn _ _ (by omega)]; exact a5 r hr, fun r hr => by rw [hn _ _ (by omega)]; exact a6 r hr, fun r hr => by rw [hn _ _ (by omega)]; exact a7 r hr⟩
theorem mOK_bS {K : Nat → Nat → Nat} {m w : Nat} {S : St} {b : Option (Nat → Nat)} (h : mOK K m S) : mOK K m (bS K w S b) := mOK_of h (bS_n (by decide) (by decide)) (bS_n (by decide) (by decide)) (fun k j hk => bS_n (by omega) (by omega))
theorem bS_co {K : Nat → Nat → Nat} {w : Nat} {S : St} {b : Option (Nat → Nat)} : coM S (bS K w S b) := by
  refine ⟨bS_n (by decide) (by decide), bS_n (by decide) (by decide), bS_n (by decide) (by decide), fun k h1 h2 => ?_, fun j hj => bS_n (by omega) (by decide), ?_, ?_⟩ <;> (funext j; exact bS_n (by omega) (by omega))
theorem bS_up {K : Nat → Nat → Nat} {w : Nat} {S : St} {b : Option (Nat → Nat)} {c : Nat → Nat} : rwx (sto (sto (q10 (bS K w S b) c) 0 18 (nI (own K w c))) 0 19 (nI (mg K 0 c 6))) 11 (fun j => nI (c j)) 6 = q10 (bS K w S (some c)) c := by
  funext k j
  unfold rwx q10
  rw [sto_at, sto_at]
  show _ = if k = 10 ∧ j < 6 then nI (c j) else if k = 0 ∧ j = 18 then nI (own K w c) else if k = 0 ∧ j = 19 then nI (mg K 0 c 6) else if k = 11 ∧ j < 6 then nI (c j) else S k j
  by_cases e11 : k = 11 ∧ j < 6
  · rw [if_pos e11, if_neg (by omega), if_neg (by omega), if_neg (by omega), if_pos e11]
  · rw [if_neg e11]
    by_cases e19 : k = 0 ∧ j = 19
    · rw [if_pos e19, if_neg (by omega), if_neg (by omega), if_pos e19]
    · rw [if_neg e19]
      by_cases e18 : k = 0 ∧ j = 18
      · rw [if_pos e18, if_neg (by omega), if_pos e18]
      · rw [if_neg e18]
        by_cases e10 : k = 10 ∧ j < 6
        · rw [if_pos e10, if_pos e10]
        · rw [if_neg e10, if_neg e10, if_neg e18, if_neg e19, if_neg e11]
          match b with
          | none => rfl
          | some d =>
            show (if k = 0 ∧ j = 18 then nI (own K w d) else if k = 0 ∧ j = 19 then nI (mg K 0 d 6) else if k = 11 ∧ j < 6 then nI (d j) else S k j) = _
            rw [if_neg e18, if_neg e19, if_neg e11]
theorem x5_lb76 {K : Nat → Nat → Nat} {w : Nat} {S : St} {b : Option (Nat → Nat)} {c : Nat → Nat} {x : Int32} (k : Int32 × Int32 × Int32 × St → Option (Int32 × St)) : B_X5_layBest_76 4096 k x (nI (mg K 0 c 6)) (nI (own K w c)) (q10 (bS K w S b) c) = B_X5_layBest_120 4096 k x 1 (q10 (bS K w S (some c)) c) := by
  unfold B_X5_layBest_76
  rw [bd_s, bd_s, ← bS_up (b := b)]
  have e10 : ∀ p, p < 6 → sto (sto (q10 (bS K w S b) c) 0 18 (nI (own K w c))) 0 19 (nI (mg K 0 c 6)) 10 p = nI (c p) := fun p hp => by
    rw [sto_n (by decide), sto_n (by decide), q10_s hp]
  generalize sto (sto (q10 (bS K w S b) c) 0 18 (nI (own K w c))) 0 19 (nI (mg K 0 c 6)) = T at e10 ⊢
  have st := lp_run (F := F_X5_layBest_93 4096 k) (res := B_X5_layBest_120 4096 k x 1 (rwx T 11 (fun j => nI (c j)) 6)) (fun i => (x, 1, nI i, rwx T 11 (fun j => nI (c j)) i)) 6 4096 (by decide) (fun i hi k2 => ?_) (fun k2 => ?_)
  · rw [rwx_0] at st; exact st
  · show FB_X5_layBest_93 4096 k k2 x 1 (nI i) (rwx T 11 (fun j => nI (c j)) i) = k2 (x, 1, nI (i + 1), rwx T 11 (fun j => nI (c j)) (i + 1))
    have h6 : ¬ (6 : Int32) ≤ nI i := nI_ge (a := i) (b := 6) hi (by decide)
    have e : rwx T 11 (fun j => nI (c j)) i 10 i = nI (c i) := by rw [rwx_n (by decide)]; exact e10 i hi
    rw [← rwx_s]
    unfold FB_X5_layBest_93
    simp only [if_neg h6, gd_t (ix_n hi (show 6 ≤ 65536 by decide)), nI_clamp (show i < 2 ^ 31 by omega), bd_s, nI_1, e]
  · show FB_X5_layBest_93 4096 k k2 x 1 (nI 6) (rwx T 11 (fun j => nI (c j)) 6) = _
    unfold FB_X5_layBest_93
    rw [if_pos (by decide)]
theorem own_lt {K : Nat → Nat → Nat} {w : Nat} {c : Nat → Nat} (hK : okK K) (hc : okC K c) : own K w c < 32 := wy_lt (ms_lt hK (okC5 hc) 6 (by decide))
theorem x5_lb8 {K : Nat → Nat → Nat} {w : Nat} {S : St} {b : Option (Nat → Nat)} {c : Nat → Nat} (hK : okK K) (h : mOK K 0 S) (hw : w < 3) (hc : okC K c) (hb : ∀ d, b = some d → okC K d) (k : Int32 × Int32 × Int32 × St → Option (Int32 × St)) : FB_X5_layBest_8 4096 k (nI w) (anyI b) 1 (q10 (bS K w S b) c) = B_X5_layBest_120 4096 k (nI w) (anyI (bup K w b c)) (q10 (bS K w S (bup K w b c)) c) := by
  have ho : mOK K 0 (bS K w S b) := mOK_bS h
  have hl := mg_lt (m := 0) (c := c) hK 6
  have hol : own K w c < 32 := own_lt hK hc
  unfold FB_X5_layBest_8
  rw [if_neg z01, x5_mayGo hK (by decide) ho (okC5 hc), bd_s, x5_musts hK (by decide) ho (okC5 hc), bd_s, x5_byWay w hw _ (ms_lt hK (okC5 hc) 6 (by decide)), bd_s, show wy w (ms K 0 c 6) = own K w c from rfl, it_0 (by omega), x5_lb76]
  unfold bup
  by_cases e : mg K 0 c 6 = 0
  · rw [if_pos e, if_pos e]
  · rw [if_neg e, if_neg e]
    match b, hb with
    | none, _ => rw [if_pos (show anyI none = 0 from rfl)]; rfl
    | some d, hb =>
      have hod : own K w d < 32 := own_lt hK (hb d rfl)
      have p1 := pop_lt (own K w c) (by omega)
      have p2 := pop_lt (own K w d) (by omega)
      have e18 : q10 (bS K w S (some d)) c 0 18 = nI (own K w d) := by rw [q10_n (by decide)]; rfl
      rw [if_neg (show ¬ anyI (some d) = 0 from z01), e18, x5_bits _ (by omega), bd_s, x5_bits _ (by omega), bd_s, bd_s, bd_s, it_lt (by omega) (by omega), it_eq (by omega) (by omega), it_le (by omega) (by omega)]
      show _ = B_X5_layBest_120 4096 k (nI w) (anyI (if pop (own K w c) < pop (own K w d) ∨ (pop (own K w c) = pop (own K w d) ∧ own K w c < own K w d) then some c else some d)) (q10 (bS K w S (if pop (own K w c) < pop (own K w d) ∨ (pop (own K w c) = pop (own K w d) ∧ own K w c < own K w d) then some c else some d)) c)
      by_cases f1 : pop (own K w c) < pop (own K w d)
      · rw [if_pos f1, if_pos (Or.inl f1)]; rfl
      · rw [if_neg f1]
        by_cases f2 : pop (own K w c) = pop (own K w d)
        · rw [if_pos f2]
          by_cases f3 : own K w d ≤ own K w c
          · rw [if_pos f3, if_neg (by omega)]
          · rw [if_neg f3, if_pos (by omega)]; rfl
        · rw [if_neg f2, if_neg (by omega)]
theorem anyI_b (b : Option (Nat → Nat)) : anyI b &&& 1 = anyI b := match b with
  | none => b0a
  | some _ => b1a
theorem bup_ok {K : Nat → Nat → Nat} {w : Nat} {b : Option (Nat → Nat)} {c : Nat → Nat} (hb : ∀ d, b = some d → okC K d) (hc : okC K c) : ∀ d, bup K w b c = some d → okC K d := by
  unfold bup
  intro d
  by_cases e : mg K 0 c 6 = 0
  · rw [if_pos e]; exact hb d
  · rw [if_neg e]
    match b, hb with
    | none, _ => intro q; have q := Option.some.inj q; subst q; exact hc
    | some d', hb =>
      show (if pop (own K w c) < pop (own K w d') ∨ (pop (own K w c) = pop (own K w d') ∧ own K w c < own K w d') then some c else some d') = some d → _
      split
      · intro q; have q := Option.some.inj q; subst q; exact hc
      · exact hb d
theorem x5_layBest {K : Nat → Nat → Nat} {w : Nat} {S : St} (hK : okK K) (h : mOK K 0 S) (hw : w < 3) : ∃ z, f_X5_layBest 4096 (nI w) S = some (anyI (bst K w), q10 (bS K w S (bst K w)) z) := by
  obtain ⟨z, hs, hz⟩ := allC_seg hK
  have hlen := allC_len hK
  refine ⟨rst (alw K) 6 z, ?_⟩
  unfold f_X5_layBest
  rw [x5_begin hK h, bd_s]
  refine lp_seg (F := F_X5_layBest_8 4096) (a := alw K) (z := z) (res := fun b => some (anyI b, q10 (bS K w S b) (rst (alw K) 6 z))) (fun b c => (nI w, anyI b, 1, q10 (bS K w S b) c)) (fun b => (nI w, anyI b, 0, q10 (bS K w S b) (rst (alw K) 6 z))) (bup K w) (fun b => ∀ d, b = some d → okC K d) (okC K) (fun b c hb hc => bup_ok hb hc) (fun b c c' hb hc hst k => ?_) (fun b hb hc k => ?_) (fun b hb k => ?_) (allC K) _ none 4096 hs (fun c hc => (allC_mem.mp hc).1) (fun d q => by cases q) (by omega)
  · show FB_X5_layBest_8 4096 k (nI w) (anyI b) 1 (q10 (bS K w S b) c) = _
    rw [x5_lb8 hK h hw hc hb]
    unfold B_X5_layBest_120
    rw [x5_next1 hK (mOK_bS h) hc hst, bd2_s]
  · show FB_X5_layBest_8 4096 k (nI w) (anyI b) 1 (q10 (bS K w S b) z) = _
    rw [x5_lb8 hK h hw hc hb]
    unfold B_X5_layBest_120
    rw [x5_next0 hK (mOK_bS h) hc hz, bd2_s]
  · show FB_X5_layBest_8 4096 k (nI w) (anyI b) 0 (q10 (bS K w S b) (rst (alw K) 6 z)) = _
    unfold FB_X5_layBest_8
    rw [if_pos rfl, gd_t (anyI_b b)]
