/-! the chosen: members, order, number; loops over them -/
theorem en_mem {a : Nat → Nat} {x : Nat → Nat} : ∀ n, n ≤ 6 → ∀ c, x ∈ en a n c ↔ (∀ j, 6 - n ≤ j → j < 6 → x j < 5 ∧ (a j).testBit (x j) = true) ∧ ∀ j, (j < 6 - n ∨ 6 ≤ j) → x j = c j
  | 0, _, c => by
    show x ∈ [c] ↔ _
    rw [List.mem_singleton]
    constructor
    · intro h; subst h; exact ⟨fun j h1 h2 => absurd h2 (by omega), fun _ _ => rfl⟩
    · intro h; funext j; exact h.2 j (by omega)
  | n + 1, h, c => by
    show x ∈ (lst (a (5 - n))).flatMap (fun t => en a n (cup c (5 - n) t)) ↔ _
    rw [List.mem_flatMap]
    constructor
    · rintro ⟨t, ht, hx⟩
      rw [lst_lt] at ht
      have h1 := (en_mem n (by omega) _).mp hx
      have hp : x (5 - n) = t := by rw [h1.2 (5 - n) (by omega)]; unfold cup; rw [if_pos rfl]
      refine ⟨fun j h2 h3 => ?_, fun j h2 => ?_⟩
      · by_cases e : j = 5 - n
        · subst e; rw [hp]; exact ht
        · exact h1.1 j (by omega) h3
      · rw [h1.2 j (by omega)]; unfold cup; rw [if_neg (by omega)]
    · rintro ⟨h1, h2⟩
      refine ⟨x (5 - n), lst_lt.mpr (h1 _ (by omega) (by omega)), (en_mem n (by omega) _).mpr ⟨fun j h3 h4 => h1 j (by omega) h4, fun j h3 => ?_⟩⟩
      unfold cup
      by_cases e : j = 5 - n
      · subst e; rw [if_pos rfl]
      · rw [if_neg e]; exact h2 j (by omega)
def lex (x y : Nat → Nat) : Prop := ∃ p, p < 6 ∧ x p < y p ∧ ∀ q, q < p → x q = y q
theorem en_lex {a : Nat → Nat} : ∀ n, n ≤ 6 → ∀ c, (en a n c).Pairwise lex
  | 0, _, c => List.pairwise_singleton _ _
  | n + 1, h, c => by
    show ((lst (a (5 - n))).flatMap (fun t => en a n (cup c (5 - n) t))).Pairwise lex
    rw [List.pairwise_flatMap]
    refine ⟨fun t _ => en_lex n (by omega) _, ?_⟩
    refine List.Pairwise.imp ?_ (lst_sorted (a (5 - n)))
    intro t u htu x hx y hy
    have h1 := (en_mem n (by omega) _).mp hx
    have h2 := (en_mem n (by omega) _).mp hy
    refine ⟨5 - n, by omega, ?_, fun q hq => ?_⟩
    · rw [h1.2 _ (by omega), h2.2 _ (by omega)]; unfold cup; rw [if_pos rfl, if_pos rfl]; exact htu
    · rw [h1.2 _ (by omega), h2.2 _ (by omega)]; unfold cup; rw [if_neg (by omega), if_neg (by omega)]
def lnB (a : Nat → Nat) : Nat → Nat
  | 0 => 1
  | n + 1 => (lst (a (5 - n))).length * lnB a n
theorem len_fm {α β : Type} {f : α → List β} {m : Nat} : ∀ l : List α, (∀ x, (f x).length = m) → (l.flatMap f).length = l.length * m
  | [], _ => by simp
  | x :: l, h => by rw [List.flatMap_cons, List.length_append, h x, len_fm l h, List.length_cons, Nat.succ_mul, Nat.add_comm]
theorem en_len {a : Nat → Nat} : ∀ n c, (en a n c).length = lnB a n
  | 0, c => rfl
  | n + 1, c => len_fm _ (fun t => en_len n _)
theorem lnB_lt {a : Nat → Nat} {w : Nat} (hw : w < 6) (h1 : (lst (a w)).length ≤ 1) : lnB a 6 ≤ 3125 := by
  have l0 := lst_len (a 0)
  have l1 := lst_len (a 1)
  have l2 := lst_len (a 2)
  have l3 := lst_len (a 3)
  have l4 := lst_len (a 4)
  have l5 := lst_len (a 5)
  have m : ∀ {x0 x1 x2 x3 x4 x5 : Nat} (b0 b1 b2 b3 b4 b5 : Nat), x0 ≤ b0 → x1 ≤ b1 → x2 ≤ b2 → x3 ≤ b3 → x4 ≤ b4 → x5 ≤ b5 → x0 * (x1 * (x2 * (x3 * (x4 * (x5 * 1))))) ≤ b0 * (b1 * (b2 * (b3 * (b4 * (b5 * 1))))) :=
    fun b0 b1 b2 b3 b4 b5 h0 h1 h2 h3 h4 h5 => Nat.mul_le_mul h0 (Nat.mul_le_mul h1 (Nat.mul_le_mul h2 (Nat.mul_le_mul h3 (Nat.mul_le_mul h4 (Nat.mul_le_mul h5 (Nat.le_refl 1))))))
  show (lst (a 0)).length * ((lst (a 1)).length * ((lst (a 2)).length * ((lst (a 3)).length * ((lst (a 4)).length * ((lst (a 5)).length * 1))))) ≤ 3125
  have hc : w = 0 ∨ w = 1 ∨ w = 2 ∨ w = 3 ∨ w = 4 ∨ w = 5 := by omega
  rcases hc with e | e | e | e | e | e <;> subst e
  · exact Nat.le_trans (m 1 5 5 5 5 5 h1 l1 l2 l3 l4 l5) (by decide)
  · exact Nat.le_trans (m 5 1 5 5 5 5 l0 h1 l2 l3 l4 l5) (by decide)
  · exact Nat.le_trans (m 5 5 1 5 5 5 l0 l1 h1 l3 l4 l5) (by decide)
  · exact Nat.le_trans (m 5 5 5 1 5 5 l0 l1 l2 h1 l4 l5) (by decide)
  · exact Nat.le_trans (m 5 5 5 5 1 5 l0 l1 l2 l3 h1 l5) (by decide)
  · exact Nat.le_trans (m 5 5 5 5 5 1 l0 l1 l2 l3 l4 h1) (by decide)
/-- a loop over a segment -/
theorem lp_seg {α β A : Type} {F : (α → Option β) → α → Option β} {a : Nat → Nat} {z : Nat → Nat} {res : A → Option β} (st : A → (Nat → Nat) → α) (fi : A → α) (up : A → (Nat → Nat) → A) (inv : A → Prop) (ok : (Nat → Nat) → Prop)
    (hu : ∀ b c, inv b → ok c → inv (up b c))
    (hs : ∀ b c c', inv b → ok c → stp a c c' → ∀ k, F k (st b c) = k (st (up b c) c')) (he : ∀ b, inv b → ok z → ∀ k, F k (st b z) = k (fi (up b z))) (hx : ∀ b, inv b → ∀ k, F k (fi b) = res b) : ∀ (l : List (Nat → Nat)) (x : Nat → Nat) (b : A) (N : Nat), seg a l x z → (∀ c, c ∈ l → ok c) → inv b → l.length + 1 ≤ N → lpI F N (st b x) = res (l.foldl up b)
  | [], _, _, _, h, _, _, _ => absurd h (fun q => q)
  | y :: l, x, b, 0, _, _, _, hN => absurd hN (by omega)
  | y :: l, x, b, N + 1, h, ho, hb, hN => by
    obtain ⟨h1, h3⟩ := h
    subst h1
    have oky := ho y (List.mem_cons_self ..)
    rw [List.foldl_cons]
    show F (lpI F N) (st b y) = _
    rcases h3 with ⟨hl, hz⟩ | ⟨x', hx', hr⟩
    · subst hl; subst hz
      rw [he b hb oky]
      match N, hN with
      | 0, hN => exact absurd hN (by simp)
      | N + 1, _ => exact hx _ (hu b _ hb oky) _
    · rw [hs b y x' hb oky hx']
      exact lp_seg st fi up inv ok hu hs he hx l x' (up b y) N hr (fun c hc => ho c (List.mem_cons_of_mem _ hc)) (hu b y hb oky) (by rw [List.length_cons] at hN; omega)
