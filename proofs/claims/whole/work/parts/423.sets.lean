/-! sets of pieces: what bar and anew share -/
def pop (a : Nat) : Nat := ((List.range 6).filter (fun t => a.testBit t)).length
theorem x4_pop : ∀ a, a < 64 → f_J6_bitCount_0f7a4 (nI a) = some (nI (pop a)) := by decide +kernel
theorem x5_bits : ∀ a, a < 64 → f_X5_bits 4096 (nI a) = some (nI (pop a)) := by decide +kernel
theorem pop_lt : ∀ a, a < 64 → pop a < 7 := by decide +kernel
theorem pop_sub : ∀ a, a < 64 → ∀ b, b < 64 → ndf a b = 0 → a ≠ b → pop a < pop b := by decide +kernel
theorem ndf_sub : ∀ a, a < 64 → ∀ b, b < 64 → ndf a b = 0 → ∀ p, p < 6 → a.testBit p = true → b.testBit p = true := by decide +kernel
theorem lp_rel {α β : Type} {F : (α → Option β) → α → Option β} {Q : β → Prop} (P : Nat → α → Prop) (n N : Nat) (hN : n < N) (hs : ∀ i, i < n → ∀ x, P i x → ∃ x', P (i + 1) x' ∧ ∀ k, F k x = k x') (hx : ∀ x, P n x → ∃ r, Q r ∧ ∀ k, F k x = some r) {x : α} (h0 : P 0 x) : ∃ r, Q r ∧ lpI F N x = some r := by
  have key : ∀ d i, i + d = n → ∀ M, d < M → ∀ y, P i y → ∃ r, Q r ∧ lpI F M y = some r := by
    intro d
    induction d with
    | zero =>
      intro i hi M hM y hy
      have e : i = n := by omega
      subst e
      obtain ⟨r, hr, hk⟩ := hx y hy
      match M, hM with
      | M + 1, _ => exact ⟨r, hr, hk _⟩
    | succ d ih =>
      intro i hi M hM y hy
      obtain ⟨y', hy', hk⟩ := hs i (by omega) y hy
      match M, hM with
      | M + 1, hM =>
        obtain ⟨r, hr, e⟩ := ih (i + 1) (by omega) M (by omega) y' hy'
        exact ⟨r, hr, by show F (lpI F M) y = some r; rw [hk]; exact e⟩
  exact key n 0 (by omega) N hN x h0
def sgd (K : Nat → Nat → Nat) (set : Nat) : Int32 := if rmN K set 31 = 0 then 0 else 1
theorem x3_someGoodWith {K : Nat → Nat → Nat} {S : St} {set : Nat} (hK : okK K) (h : webOK K S) (hs : set < 64) : f_X3_someGoodWith 4096 (nI set) S = some (sgd K set, r25 S (ltS K set 31) 6) := by
  have hl : rmN K set 31 < 32 := rl_lt (cho_lt hK (kWh hK)) 6
  have e := x3_room (bo := 31) hK h hs (by decide)
  have e : f_X3_room 4096 (nI set) 31 S = _ := e
  unfold f_X3_someGoodWith sgd
  rw [e, bd2_s]
  by_cases q : rmN K set 31 = 0
  · rw [q, if_pos (show nI 0 = 0 from rfl), if_pos rfl]
  · have qn : ¬ nI (rmN K set 31) = 0 := fun z => q (nI_inj (b := 0) (by omega) (by decide) z)
    rw [if_neg qn, if_neg q]
theorem x5_sgd {K : Nat → Nat → Nat} {m set : Nat} {S : St} (hK : okK K) (hm : m < 64) (h : mOK K m S) (h1 : ∀ p, p < 6 → set.testBit p = true → (prt K).testBit p = true ∧ m.testBit p = false) (h2 : ∀ p, p < 6 → set.testBit p = false → (prt K).testBit p = false ∨ m.testBit p = true) : ∃ d, f_X5_someGood 4096 S = some (sgd K set, q10 S d) := by
  have hsep := sep hK h1 h2
  obtain ⟨d, hd⟩ := x5_someGood hK hm h
  refine ⟨d, ?_⟩
  unfold sgd
  by_cases q : rmN K set 31 = 0
  · rw [if_pos q]
    rcases hd with ⟨_, c, hc, hg⟩ | ⟨e, _⟩
    · refine absurd q (hsep.mp ⟨fun j => if j < 6 then c j else 0, fun p hp => ?_, fun j hj => ?_, ?_⟩)
      · show (if p < 6 then c p else 0) < 5 ∧ (alw K p).testBit (if p < 6 then c p else 0) = true
        rw [if_pos hp]; exact hc p hp
      · show (if j < 6 then c j else 0) = 0
        rw [if_neg (by omega)]
      · have e : mg K m (fun j => if j < 6 then c j else 0) 6 = mg K m c 6 := by
          show (mg K m _ 0 &&& gm K m 0 (if 0 < 6 then c 0 else 0) &&& gm K m 1 (if 1 < 6 then c 1 else 0) &&& gm K m 2 (if 2 < 6 then c 2 else 0) &&& gm K m 3 (if 3 < 6 then c 3 else 0) &&& gm K m 4 (if 4 < 6 then c 4 else 0) &&& gm K m 5 (if 5 < 6 then c 5 else 0)) = _
          rfl
        rw [e]; exact hg
    · exact e
  · rw [if_neg q]
    rcases hd with ⟨e, _⟩ | ⟨_, hn⟩
    · exact e
    · obtain ⟨c, c1, c2, c3⟩ := hsep.mpr q
      exact absurd (hn c c1 c2) c3
