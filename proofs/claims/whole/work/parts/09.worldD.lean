/-! cells apart -/
theorem wmAddr (E : bE) (a : Nat → Nat) (S : St) {k : Nat} {q : Nat × va_E} (h : (Wm E a S)[k]? = some q) : k < 18 ∧ q.1 = a k := by
  have hk : k < 18 := (List.getElem?_eq_some_iff.mp h).1
  refine ⟨hk, ?_⟩
  have e : ((Wm E a S).map Prod.fst)[k]? = some q.1 := by rw [List.getElem?_map, h]; rfl
  have e2 : (Wm E a S).map Prod.fst = (List.range 18).map a := rfl
  rw [e2, List.getElem?_map, List.getElem?_range hk] at e
  exact (Option.some.inj e).symm
theorem dM {E : bE} {a : Nat → Nat} (hI : aI 18 a) (S : St) : va_D (aA 18 a) (Wm E a S) := by
  refine ⟨fun i j p q hi hj hpq => ?_, fun k q hk => ?_⟩
  · obtain ⟨h1, h2⟩ := wmAddr E a S hi
    obtain ⟨h3, h4⟩ := wmAddr E a S hj
    exact hI i j h1 h3 (by rw [← h2, ← h4]; exact hpq)
  · obtain ⟨h1, h2⟩ := wmAddr E a S hk
    exact ⟨k, h1, h2⟩
def sw27 (f : Int32) (k : Nat) : Nat := if f = 0 then k else if k = 26 then 27 else if k = 27 then 26 else k
theorem sw27_lt {f : Int32} {k : Nat} (h : k < 49) : sw27 f k < 49 := by unfold sw27; split <;> (try split) <;> (try split) <;> omega
theorem sw27_inj {f : Int32} {i j : Nat} (h : sw27 f i = sw27 f j) : i = j := by
  unfold sw27 at h
  split at h
  · exact h
  · repeat' split at h
    all_goals omega
theorem wuAddr (E : bE) (a : Nat → Nat) (S : St) {k : Nat} {q : Nat × va_E} (h : (Wu E a S)[k]? = some q) : k < 49 ∧ q.1 = a (sw27 (S 3 11) k) := by
  have hk : k < 49 := (List.getElem?_eq_some_iff.mp h).1
  refine ⟨hk, ?_⟩
  have e : ((Wu E a S).map Prod.fst)[k]? = some q.1 := by rw [List.getElem?_map, h]; rfl
  have e2 : (Wu E a S).map Prod.fst = (List.range 49).map (fun k => a (sw27 (S 3 11) k)) := by
    have e3 : (Wu E a S).map Prod.fst = ((List.range 26).map a) ++ [a26 a (S 3 11), a27 a (S 3 11)] ++ ((List.range 21).map (fun k => a (28 + k))) := rfl
    rw [e3]
    by_cases hf : S 3 11 = 0
    · simp only [a26, a27, sw27, hf, if_true]; rfl
    · simp only [a26, a27, sw27, hf, if_false]; rfl
  rw [e2, List.getElem?_map, List.getElem?_range hk] at e
  exact (Option.some.inj e).symm
theorem dU {E : bE} {a : Nat → Nat} (hI : aI 49 a) (S : St) : va_D (aA 49 a) (Wu E a S) := by
  refine ⟨fun i j p q hi hj hpq => ?_, fun k q hk => ?_⟩
  · obtain ⟨h1, h2⟩ := wuAddr E a S hi
    obtain ⟨h3, h4⟩ := wuAddr E a S hj
    exact sw27_inj (hI _ _ (sw27_lt h1) (sw27_lt h3) (by rw [← h2, ← h4]; exact hpq))
  · obtain ⟨h1, h2⟩ := wuAddr E a S hk
    exact ⟨_, sw27_lt h1, h2⟩
