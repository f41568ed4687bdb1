/-! the pure part: numbers -/
theorem pa_and (a b : Nat) : nI a &&& nI b = nI (a &&& b) := by
  apply Int32.toBitVec_inj.1
  show BitVec.ofNat 32 a &&& BitVec.ofNat 32 b = BitVec.ofNat 32 (a &&& b)
  apply BitVec.eq_of_getLsbD_eq
  intro i hi
  simp [hi]
theorem pa_or (a b : Nat) : nI a ||| nI b = nI (a ||| b) := by
  apply Int32.toBitVec_inj.1
  show BitVec.ofNat 32 a ||| BitVec.ofNat 32 b = BitVec.ofNat 32 (a ||| b)
  apply BitVec.eq_of_getLsbD_eq
  intro i hi
  simp [hi]
theorem pa_lit (n : Nat) : (OfNat.ofNat n : Int32) = nI n := rfl
theorem pa_shl : ∀ k, k < 31 → (1 : Int32) <<< (nI k &&& 31) = nI (2 ^ k) := by decide +kernel
theorem pa_bit : ∀ a, a < 64 → ∀ k, k < 10 → ((nI a >>> (nI k &&& 31)) &&& 1) = if a.testBit k then 1 else 0 := by decide +kernel
/-- a without b, both below 64 -/
def ndf (a b : Nat) : Nat := a &&& (63 ^^^ b)
theorem pa_ndf : ∀ a, a < 64 → ∀ b, b < 64 → nI a &&& (nI b ^^^ (-1)) = nI (ndf a b) := by decide +kernel
theorem ndf_bit {a b k : Nat} (hk : k < 6) : (ndf a b).testBit k = (a.testBit k && !b.testBit k) := by
  have h63 : (63 : Nat).testBit k = true := by
    rcases (show k = 0 ∨ k = 1 ∨ k = 2 ∨ k = 3 ∨ k = 4 ∨ k = 5 by omega) with rfl | rfl | rfl | rfl | rfl | rfl <;> decide
  unfold ndf
  rw [Nat.testBit_and, Nat.testBit_xor, h63]
  cases a.testBit k <;> cases b.testBit k <;> rfl
theorem ndf_le (a b : Nat) : ndf a b ≤ a := Nat.and_le_left
theorem nI_inj {a b : Nat} (ha : a < 2 ^ 31) (hb : b < 2 ^ 31) (h : nI a = nI b) : a = b := (nI_eq ha hb).mp h
theorem nI_ne6 {n : Nat} (h : n < 2 ^ 31) : ¬ nI n = -6 := fun q => by
  have e : (nI n).toInt = (-6 : Int32).toInt := by rw [q]
  rw [nI_toInt h] at e
  have e2 : (-6 : Int32).toInt = -6 := rfl
  omega
theorem ix_n {i m : Nat} (h : i < m) (hm : m ≤ 65536) : ix (nI i) m := vp_in_nI h (by omega)
theorem in_nat {x : Int32} {a b : Nat} (ha : a < 2 ^ 31) (hb : b < 2 ^ 31) (h1 : ¬ x < nI a) (h2 : ¬ nI b < x) : ∃ j, a ≤ j ∧ j ≤ b ∧ x = nI j := by
  have e1 : ¬ x.toInt < (nI a).toInt := fun q => h1 (Int32.lt_iff_toInt_lt.mpr q)
  have e2 : ¬ (nI b).toInt < x.toInt := fun q => h2 (Int32.lt_iff_toInt_lt.mpr q)
  rw [nI_toInt ha] at e1
  rw [nI_toInt hb] at e2
  obtain ⟨j, hj, hx⟩ := nI_of (x := x) (fun z => by have := Int32.lt_iff_toInt_lt.mp z; have e0 : (0 : Int32).toInt = 0 := rfl; omega)
  have e : x.toInt = (j : Int) := by rw [hx]; exact nI_toInt hj
  exact ⟨j, by omega, by omega, hx⟩
/-! the words of the functions -/
theorem bd_s {α β : Type} (a : α) (f : α → Option β) : bd (some a) f = f a := rfl
theorem bd2_s {α β γ : Type} (a : α) (b : β) (f : α → β → Option γ) : bd2 (some (a, b)) f = f a b := rfl
theorem gd_t {β : Type} {c : Prop} [Decidable c] (h : c) (x : Option β) : gd c x = x := by unfold gd; rw [if_pos h]
theorem lp_run {α β : Type} {F : (α → Option β) → α → Option β} {res : Option β} (T : Nat → α) (n N : Nat) (hN : n < N) (hs : ∀ i, i < n → ∀ k, F k (T i) = k (T (i + 1))) (hx : ∀ k, F k (T n) = res) : lpI F N (T 0) = res := by
  have key : ∀ (m j : Nat), j ≤ n → n < j + m → lpI F m (T j) = res := by
    intro m
    induction m with
    | zero => intro j h1 h2; omega
    | succ m ih =>
      intro j h1 h2
      show F (lpI F m) (T j) = res
      rcases Nat.lt_or_ge j n with h | h
      · rw [hs j h]; exact ih (j + 1) h (by omega)
      · have e : j = n := by omega
        subst e; exact hx _
  exact key N 0 (Nat.zero_le n) (by omega)
theorem str_s (S : St) (k : Nat) (f : Nat → Int32) : str S k f k = f := by unfold str; rw [if_pos rfl]
theorem str_n {S : St} {k k' : Nat} {f : Nat → Int32} (h : k' ≠ k) : str S k f k' = S k' := by unfold str; rw [if_neg h]
theorem sto_s (S : St) (k i : Nat) (v : Int32) (j : Nat) : sto S k i v k j = if j = i then v else S k j := by unfold sto; rw [str_s]; rfl
theorem sto_n {S : St} {k k' i : Nat} {v : Int32} (h : k' ≠ k) : sto S k i v k' = S k' := by unfold sto; rw [str_n h]
theorem x4_within (x a b : Int32) : f_X4_within x a b = some (if x < a ∨ b < x then 0 else 1) := by
  unfold f_X4_within
  by_cases h1 : x < a
  · simp [h1]
  · by_cases h2 : b < x <;> simp [h1, h2]
theorem x5_in (x a b : Int32) : f_X5_in x a b = some (if x < a ∨ b < x then 0 else 1) := x4_within x a b
theorem x4_isTerms (x : Int32) : f_X4_isTerms x = some (if x < 0 ∨ 4 < x then 0 else 1) := by
  unfold f_X4_isTerms; rw [x4_within, bd_s]; split <;> rfl
theorem x4_isPiece (x : Int32) : f_X4_isPiece x = some (if x < 0 ∨ 5 < x then 0 else 1) := by
  unfold f_X4_isPiece; rw [x4_within, bd_s]; split <;> rfl
theorem x5_isTerms (x : Int32) : f_X5_isTerms x = some (if x < 0 ∨ 4 < x then 0 else 1) := by
  unfold f_X5_isTerms; rw [x5_in, bd_s]; split <;> rfl
theorem x5_isPiece (x : Int32) : f_X5_isPiece x = some (if x < 0 ∨ 5 < x then 0 else 1) := by
  unfold f_X5_isPiece; rw [x5_in, bd_s]; split <;> rfl
theorem x4_has {a k : Nat} (ha : a < 64) (hk : k < 10) : f_X4_has (nI a) (nI k) = some (if a.testBit k then 1 else 0) := by
  unfold f_X4_has; rw [pa_bit a ha k hk]; cases a.testBit k <;> rfl
theorem x5_has {a k : Nat} (ha : a < 64) (hk : k < 10) : f_X5_has (nI a) (nI k) = some (if a.testBit k then 1 else 0) := by
  unfold f_X5_has; rw [pa_bit a ha k hk]; cases a.testBit k <;> rfl
theorem z01 : ¬ (1 : Int32) = 0 := by decide
/-- an index that was tested -/
theorem rng {x : Int32} {b : Nat} (hb : b < 2 ^ 31) : (x < 0 ∨ nI b < x) ∨ ∃ j, j ≤ b ∧ x = nI j := by
  by_cases h : x < 0 ∨ nI b < x
  · exact Or.inl h
  · obtain ⟨j, _, h2, h3⟩ := in_nat (x := x) (a := 0) (b := b) (by decide) hb (fun q => h (Or.inl q)) (fun q => h (Or.inr q))
    exact Or.inr ⟨j, h2, h3⟩
theorem rng_t {x : Int32} {b j : Nat} (hb : b < 2 ^ 31) (hj : j ≤ b) (e : x = nI j) : ¬ (x < 0 ∨ nI b < x) := by
  subst e
  rintro (h | h)
  · exact nI_pos (by omega) h
  · exact nI_nlt hj hb h
