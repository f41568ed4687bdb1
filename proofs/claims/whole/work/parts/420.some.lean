/-! the model's loops over the chosen: is one good, how many are -/
def allC (K : Nat → Nat → Nat) : List (Nat → Nat) := en (alw K) 6 c0
theorem allC_mem {K : Nat → Nat → Nat} {c : Nat → Nat} : c ∈ allC K ↔ okC K c ∧ ∀ j, 6 ≤ j → c j = 0 := by
  unfold allC okC
  rw [en_mem 6 (by decide)]
  constructor
  · rintro ⟨h1, h2⟩; exact ⟨fun p hp => h1 p (by omega) hp, fun j hj => h2 j (Or.inr hj)⟩
  · rintro ⟨h1, h2⟩; exact ⟨fun p _ hp => h1 p hp, fun j hj => h2 j (by omega)⟩
theorem allC_len {K : Nat → Nat → Nat} (hK : okK K) : (allC K).length ≤ 3125 := by
  unfold allC
  rw [en_len]
  refine lnB_lt (kWh hK) ?_
  have e : alw K (K 0 9) = 1 := by
    unfold alw; rw [prt_bit (kWh hK), if_neg (by simp)]
  rw [e]; decide
theorem allC_seg {K : Nat → Nat → Nat} (hK : okK K) : ∃ z, seg (alw K) (allC K) (rst (alw K) 6 c0) z ∧ lastp (alw K) 6 z := by
  obtain ⟨z, h1, h2, _⟩ := seg_en (alw_ok hK) 6 (by decide) c0
  exact ⟨z, h1, h2⟩
theorem seg_mem {a z : Nat → Nat} : ∀ (l : List (Nat → Nat)) (x : Nat → Nat), seg a l x z → z ∈ l ∧ x ∈ l
  | [], _, h => absurd h (fun q => q)
  | y :: l, x, ⟨h1, h3⟩ => by
    subst h1
    refine ⟨?_, List.mem_cons_self ..⟩
    rcases h3 with ⟨_, hz⟩ | ⟨x', _, hr⟩
    · subst hz; exact List.mem_cons_self ..
    · exact List.mem_cons_of_mem _ (seg_mem l x' hr).1
theorem okC5 {K : Nat → Nat → Nat} {c : Nat → Nat} (h : okC K c) : ∀ p, p < 6 → c p < 5 := fun p hp => (h p hp).1
theorem b1a : (1 : Int32) &&& 1 = 1 := by decide
theorem b0a : (0 : Int32) &&& 1 = 0 := by decide
theorem z10 : ¬ (0 : Int32) = 1 := by decide
theorem sg_1 {x1 : Int32} {S : St} (k : Int32 × Int32 × St → Option (Int32 × St)) : FB_X5_someGood_8 4096 k x1 1 S = some (1, S) := by
  unfold FB_X5_someGood_8
  rw [if_neg z01, gd_t b1a, ite_self]
theorem lpI_s {α β : Type} {F : (α → Option β) → α → Option β} {N : Nat} {x : α} : lpI F (N + 1) x = F (lpI F N) x := rfl
theorem sg_1' {N : Nat} {x1 : Int32} {S : St} : lpI (F_X5_someGood_8 4096) (N + 1) (x1, 1, S) = some (1, S) := by
  rw [lpI_s]; exact sg_1 _
theorem sg_0' {N : Nat} {S : St} : lpI (F_X5_someGood_8 4096) (N + 1) (0, 0, S) = some (0, S) := by
  rw [lpI_s]
  have q : ∀ k, FB_X5_someGood_8 4096 k 0 0 S = some (0, S) := fun k => by
    unfold FB_X5_someGood_8
    rw [if_pos rfl, gd_t b0a]
  exact q _
theorem x5_sgl {K : Nat → Nat → Nat} {m : Nat} {S : St} {z : Nat → Nat} (hK : okK K) (hm : m < 64) (h : mOK K m S) (hz : lastp (alw K) 6 z) : ∀ (l : List (Nat → Nat)) (x : Nat → Nat) (N : Nat), seg (alw K) l x z → (∀ c, c ∈ l → okC K c) → l.length + 1 ≤ N → ∃ d, (lpI (F_X5_someGood_8 4096) N (1, 0, q10 S x) = some (1, q10 S d) ∧ ∃ c, c ∈ l ∧ mg K m c 6 ≠ 0) ∨ (lpI (F_X5_someGood_8 4096) N (1, 0, q10 S x) = some (0, q10 S d) ∧ ∀ c, c ∈ l → mg K m c 6 = 0)
  | [], _, _, h, _, _ => absurd h (fun q => q)
  | y :: l, x, 0, _, _, hN => absurd hN (by omega)
  | y :: l, x, 1, _, _, hN => absurd hN (by rw [List.length_cons]; omega)
  | y :: l, x, N + 2, hs, ho, hN => by
    obtain ⟨h1, h3⟩ := hs
    subst h1
    have oky := ho y (List.mem_cons_self ..)
    have hg := x5_mayGo hK hm h (okC5 oky)
    have hl := mg_lt (m := m) (c := y) hK 6
    have e1 : lpI (F_X5_someGood_8 4096) (N + 2) (1, 0, q10 S y) = if mg K m y 6 = 0 then B_X5_someGood_28 4096 (lpI (F_X5_someGood_8 4096) (N + 1)) 0 (q10 S y) else B_X5_someGood_28 4096 (lpI (F_X5_someGood_8 4096) (N + 1)) 1 (q10 S y) := by
      show FB_X5_someGood_8 4096 (lpI (F_X5_someGood_8 4096) (N + 1)) 1 0 (q10 S y) = _
      unfold FB_X5_someGood_8
      rw [if_neg z01, if_pos rfl, hg, bd_s]
      by_cases e : mg K m y 6 = 0
      · rw [if_pos e, e, if_pos (show nI 0 = 0 from rfl)]
      · have en : ¬ nI (mg K m y 6) = 0 := fun q => e (nI_inj (b := 0) (by omega) (by decide) q)
        rw [if_neg e, if_neg en]
    rw [e1]
    by_cases e : mg K m y 6 = 0
    · rw [if_pos e]
      unfold B_X5_someGood_28
      rcases h3 with ⟨hl2, hz2⟩ | ⟨x', hx', hr⟩
      · subst hl2; subst hz2
        rw [x5_next0 hK h oky hz, bd2_s]
        refine ⟨rst (alw K) 6 z, Or.inr ⟨?_, fun c hc => ?_⟩⟩
        · exact sg_0'
        · rw [List.mem_singleton] at hc; subst hc; exact e
      · rw [x5_next1 hK h oky hx', bd2_s]
        obtain ⟨d, hd⟩ := x5_sgl hK hm h hz l x' (N + 1) hr (fun c hc => ho c (List.mem_cons_of_mem _ hc)) (by rw [List.length_cons] at hN; omega)
        refine ⟨d, ?_⟩
        rcases hd with ⟨r1, c, hc, r2⟩ | ⟨r1, r2⟩
        · exact Or.inl ⟨r1, c, List.mem_cons_of_mem _ hc, r2⟩
        · refine Or.inr ⟨r1, fun c hc => ?_⟩
          rcases List.mem_cons.mp hc with q | q
          · subst q; exact e
          · exact r2 c q
    · rw [if_neg e]
      unfold B_X5_someGood_28
      rcases h3 with ⟨hl2, hz2⟩ | ⟨x', hx', hr⟩
      · subst hl2; subst hz2
        rw [x5_next0 hK h oky hz, bd2_s]
        exact ⟨rst (alw K) 6 z, Or.inl ⟨sg_1', z, List.mem_cons_self .., e⟩⟩
      · rw [x5_next1 hK h oky hx', bd2_s]
        exact ⟨x', Or.inl ⟨sg_1', y, List.mem_cons_self .., e⟩⟩
theorem x5_someGood {K : Nat → Nat → Nat} {m : Nat} {S : St} (hK : okK K) (hm : m < 64) (h : mOK K m S) : ∃ d, (f_X5_someGood 4096 S = some (1, q10 S d) ∧ ∃ c, okC K c ∧ mg K m c 6 ≠ 0) ∨ (f_X5_someGood 4096 S = some (0, q10 S d) ∧ ∀ c, okC K c → (∀ j, 6 ≤ j → c j = 0) → mg K m c 6 = 0) := by
  obtain ⟨z, hs, hz⟩ := allC_seg hK
  have hlen := allC_len hK
  obtain ⟨d, hd⟩ := x5_sgl hK hm h hz (allC K) _ 4096 hs (fun c hc => (allC_mem.mp hc).1) (by omega)
  refine ⟨d, ?_⟩
  unfold f_X5_someGood
  rw [x5_begin hK h, bd_s]
  rcases hd with ⟨r1, c, hc, r2⟩ | ⟨r1, r2⟩
  · exact Or.inl ⟨r1, c, (allC_mem.mp hc).1, r2⟩
  · exact Or.inr ⟨r1, fun c h1 h2 => r2 c (allC_mem.mpr ⟨h1, h2⟩)⟩
