/-! the chosen, one after another -/
def cup (c : Nat → Nat) (p t : Nat) : Nat → Nat := fun j => if j = p then t else c j
def lst (b : Nat) : List Nat := (List.range 5).filter (fun t => b.testBit t)
def hgh (b t : Nat) : Nat := (b >>> (t + 1)) <<< (t + 1)
def lea (b : Nat) : Nat := (lst b).headD 0
def en (a : Nat → Nat) : Nat → (Nat → Nat) → List (Nat → Nat)
  | 0, c => [c]
  | n + 1, c => (lst (a (5 - n))).flatMap (fun t => en a n (cup c (5 - n) t))
def rst (a : Nat → Nat) (n : Nat) (c : Nat → Nat) : Nat → Nat := fun j => if 6 - n ≤ j ∧ j < 6 then lea (a j) else c j
def stp (a x y : Nat → Nat) : Prop := ∃ i, i < 6 ∧ (∀ j, j < i → hgh (a (5 - j)) (x (5 - j)) = 0) ∧ hgh (a (5 - i)) (x (5 - i)) ≠ 0 ∧ y = cup (rst a i x) (5 - i) (lea (hgh (a (5 - i)) (x (5 - i))))
def lastp (a : Nat → Nat) (n : Nat) (x : Nat → Nat) : Prop := ∀ j, j < n → hgh (a (5 - j)) (x (5 - j)) = 0
def seg (a : Nat → Nat) : List (Nat → Nat) → (Nat → Nat) → (Nat → Nat) → Prop
  | [], _, _ => False
  | y :: l, x, z => y = x ∧ ((l = [] ∧ z = x) ∨ ∃ x', stp a x x' ∧ seg a l x' z)
def chk (b : Nat) : List Nat → Bool
  | [] => false
  | [t] => hgh b t == 0 && decide (t < 5)
  | t :: u :: l => hgh b t != 0 && lea (hgh b t) == u && decide (t < 5) && chk b (u :: l)
theorem chk_all : ∀ b, b < 32 → 1 ≤ b → chk b (lst b) = true := by decide +kernel
theorem lst_lt {b t : Nat} : t ∈ lst b ↔ t < 5 ∧ b.testBit t = true := by
  unfold lst; rw [List.mem_filter, List.mem_range]
theorem lst_sorted : ∀ b, (lst b).Pairwise (fun x y => x < y) := fun b => List.Pairwise.filter _ (List.pairwise_lt_range)
theorem lst_len (b : Nat) : (lst b).length ≤ 5 := by
  unfold lst
  exact Nat.le_trans (List.length_filter_le _ _) (by rw [List.length_range]; exact Nat.le_refl _)
theorem seg_app {a : Nat → Nat} {l2 : List (Nat → Nat)} {z y w : Nat → Nat} (hs : stp a z y) (h2 : seg a l2 y w) : ∀ (l1 : List (Nat → Nat)) (x : Nat → Nat), seg a l1 x z → seg a (l1 ++ l2) x w
  | [], _, h => absurd h (fun q => q)
  | e :: l, x, h => by
    obtain ⟨h1, h3⟩ := h
    refine ⟨h1, Or.inr ?_⟩
    rcases h3 with ⟨hl, hz⟩ | ⟨x', hx, hr⟩
    · subst hl; subst hz; exact ⟨y, hs, h2⟩
    · exact ⟨x', hx, seg_app hs h2 l x' hr⟩
theorem rst_up {a : Nat → Nat} {n : Nat} (hn : n ≤ 5) {c z : Nat → Nat} {t u : Nat} (hz : ∀ j, (j < 6 - n ∨ 6 ≤ j) → z j = cup c (5 - n) t j) : cup (rst a n z) (5 - n) u = rst a n (cup c (5 - n) u) := by
  funext j
  unfold rst
  by_cases e : j = 5 - n
  · subst e
    rw [if_neg (by omega)]
    unfold cup
    rw [if_pos rfl, if_pos rfl]
  · show (if j = 5 - n then u else (if 6 - n ≤ j ∧ j < 6 then lea (a j) else z j)) = _
    rw [if_neg e]
    by_cases d : 6 - n ≤ j ∧ j < 6
    · rw [if_pos d, if_pos d]
    · rw [if_neg d, if_neg d, hz j (by omega)]
      unfold cup
      rw [if_neg e, if_neg e]
theorem seg_blk {a : Nat → Nat} {n : Nat} (hn : n ≤ 5) (ih : ∀ c, ∃ z, seg a (en a n c) (rst a n c) z ∧ lastp a n z ∧ ∀ j, (j < 6 - n ∨ 6 ≤ j) → z j = c j) (c : Nat → Nat) : ∀ ts t l, ts = t :: l → chk (a (5 - n)) ts = true → ∃ z, seg a (ts.flatMap (fun t => en a n (cup c (5 - n) t))) (rst a n (cup c (5 - n) t)) z ∧ lastp a (n + 1) z ∧ ∀ j, (j < 5 - n ∨ 6 ≤ j) → z j = c j
  | [], _, _, h, _ => absurd h (by simp)
  | [t], t', l, h, hc => by
    obtain ⟨z, h1, h2, h3⟩ := ih (cup c (5 - n) t)
    have e : t = t' := (List.cons.inj h).1
    subst e
    unfold chk at hc
    rw [Bool.and_eq_true, beq_iff_eq] at hc
    refine ⟨z, ?_, fun j hj => ?_, fun j hj => ?_⟩
    · rw [List.flatMap_cons, List.flatMap_nil, List.append_nil]; exact h1
    · by_cases e : j = n
      · subst e
        rw [h3 (5 - j) (by omega)]
        unfold cup
        rw [if_pos rfl]; exact hc.1
      · exact h2 j (by omega)
    · rw [h3 j (by omega)]; unfold cup; rw [if_neg (by omega)]
  | t :: u :: l, t', l', h, hc => by
    obtain ⟨z, h1, h2, h3⟩ := ih (cup c (5 - n) t)
    have e : t = t' := (List.cons.inj h).1
    subst e
    unfold chk at hc
    rw [Bool.and_eq_true, Bool.and_eq_true, Bool.and_eq_true, beq_iff_eq, bne_iff_ne] at hc
    obtain ⟨w, g1, g2, g3⟩ := seg_blk hn ih c (u :: l) u l rfl hc.2
    refine ⟨w, ?_, g2, g3⟩
    rw [List.flatMap_cons]
    have hzp : z (5 - n) = t := by rw [h3 _ (by omega)]; unfold cup; rw [if_pos rfl]
    refine seg_app (y := rst a n (cup c (5 - n) u)) ⟨n, by omega, h2, ?_, ?_⟩ g1 _ _ h1
    · rw [hzp]; exact hc.1.1.1
    · rw [hzp, hc.1.1.2]; exact (rst_up hn h3).symm
theorem rst_s {a : Nat → Nat} {n : Nat} (hn : n ≤ 5) (c : Nat → Nat) : rst a n (cup c (5 - n) (lea (a (5 - n)))) = rst a (n + 1) c := by
  funext j
  unfold rst cup
  by_cases e : j = 5 - n
  · subst e; rw [if_neg (by omega), if_pos rfl, if_pos (by omega)]
  · rw [if_neg e]
    by_cases d : 6 - n ≤ j ∧ j < 6
    · rw [if_pos d, if_pos (by omega)]
    · rw [if_neg d, if_neg (by omega)]
theorem seg_en {a : Nat → Nat} (ha : ∀ p, p < 6 → a p < 32 ∧ 1 ≤ a p) : ∀ n, n ≤ 6 → ∀ c, ∃ z, seg a (en a n c) (rst a n c) z ∧ lastp a n z ∧ ∀ j, (j < 6 - n ∨ 6 ≤ j) → z j = c j
  | 0, _, c => ⟨c, ⟨by funext j; unfold rst; rw [if_neg (by omega)], Or.inl ⟨rfl, by funext j; unfold rst; rw [if_neg (by omega)]⟩⟩, fun j hj => absurd hj (by omega), fun _ _ => rfl⟩
  | n + 1, h, c => by
    have hb := ha (5 - n) (by omega)
    have hc := chk_all _ hb.1 hb.2
    show ∃ z, seg a ((lst (a (5 - n))).flatMap (fun t => en a n (cup c (5 - n) t))) _ z ∧ _
    match hl : lst (a (5 - n)) with
    | [] => rw [hl] at hc; exact absurd hc (by simp [chk])
    | t :: l =>
      rw [hl] at hc
      obtain ⟨z, h1, h2, h3⟩ := seg_blk (by omega) (fun c => seg_en ha n (by omega) c) c (t :: l) t l rfl hc
      refine ⟨z, ?_, h2, fun j hj => h3 j (by omega)⟩
      rw [← rst_s (by omega)]
      have e : lea (a (5 - n)) = t := by unfold lea; rw [hl]; rfl
      rw [e]; exact h1
