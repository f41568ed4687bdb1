/-! the relation between the two tables: one book K of small numbers (9 stands for 'none' in rows 4 and 9) -/
def bl (r : Nat) : Nat := if r ≤ 4 then 5 else if r ≤ 8 then 6 else 36
def inB (r j : Nat) : Prop := (r = 0 ∧ (j = 9 ∨ j = 10)) ∨ (1 ≤ r ∧ r ≤ 9 ∧ j < bl r)
def ev (r n : Nat) : Int32 := if (r = 4 ∨ r = 9) ∧ n = 9 then -6 else nI n
def okv (r j n : Nat) : Prop := (r = 0 → j = 9 → n < 6) ∧ (r = 0 → j = 10 → n < 100) ∧ (r = 1 → n < 32) ∧ (r = 2 → n < 4) ∧ (r = 3 → n < 32) ∧ (r = 4 → n < 5 ∨ n = 9) ∧ (r = 5 → 1 ≤ n ∧ n < 32) ∧ (r = 6 → n < 2) ∧ (r = 7 → n < 64) ∧ (r = 8 → n < 1000) ∧ (r = 9 → n < 4 ∨ n = 9)
def rep (K : Nat → Nat → Nat) (B : Nat → Nat → Int32) : Prop := ∀ r j, inB r j → B r j = ev r (K r j)
def okK (K : Nat → Nat → Nat) : Prop := ∀ r j, inB r j → okv r j (K r j)
/-- the book as each side holds it; the books of the images -/
def vU (S : St) : Nat → Nat → Int32 := fun r => if r = 0 then S 2 else S (8 + r)
def vI (S : St) (n : Nat) : Nat → Nat → Int32 := fun r => if r = 0 then S (29 + n) else S (30 + 9 * n + r)
def vM (S : St) : Nat → Nat → Int32 := fun r j => if r = 0 then (if j = 9 then S 0 8 else S 0 9) else if r ≤ 4 then S (r + 1) j else if r ≤ 8 then S 6 (4 * j + (r - 5)) else S 7 j
def vN (S : St) (n : Nat) : Nat → Nat → Int32 := fun r j => if r = 0 then S 16 (82 * n + 71 + j) else if r ≤ 4 then S 16 (82 * n + 5 * (r - 1) + j) else if r ≤ 8 then S 16 (82 * n + 20 + 4 * j + (r - 5)) else S 16 (82 * n + 44 + j)
def padR (Su Sm : St) : Prop := ∃ c, c ≤ 20 ∧ Su 1 1 = nI c ∧ Sm 0 0 = nI c ∧ Su 8 = Sm 1
def imgR (Su Sm : St) : Prop := ∀ n, n < 2 → Su 6 n = Sm 17 n ∧ (Su 6 n = 0 ∨ (Su 6 n = 1 ∧ ∃ Kn, okK Kn ∧ rep Kn (vI Su n) ∧ rep Kn (vN Sm n)))
def RelK (K : Nat → Nat → Nat) (Su Sm : St) : Prop := okK K ∧ rep K (vU Su) ∧ rep K (vM Sm) ∧ padR Su Sm ∧ imgR Su Sm
def Rel (Su Sm : St) : Prop := ∃ K, RelK K Su Sm
def kup (K : Nat → Nat → Nat) (r0 j0 n : Nat) : Nat → Nat → Nat := fun r j => if r = r0 ∧ j = j0 then n else K r j
theorem okK_up {K : Nat → Nat → Nat} {r0 j0 n : Nat} (h : okK K) (hn : okv r0 j0 n) : okK (kup K r0 j0 n) := by
  intro r j hj
  unfold kup
  by_cases e : r = r0 ∧ j = j0
  · rw [if_pos e]; obtain ⟨rfl, rfl⟩ := e; exact hn
  · rw [if_neg e]; exact h r j hj
theorem rep_up {K : Nat → Nat → Nat} {B B' : Nat → Nat → Int32} {r0 j0 n : Nat} {v : Int32} (h : rep K B) (hv : v = ev r0 n) (hB : ∀ r j, inB r j → B' r j = if r = r0 ∧ j = j0 then v else B r j) : rep (kup K r0 j0 n) B' := by
  intro r j hj
  rw [hB r j hj]
  unfold kup
  by_cases e : r = r0 ∧ j = j0
  · rw [if_pos e, if_pos e, hv]; obtain ⟨rfl, rfl⟩ := e; rfl
  · rw [if_neg e, if_neg e]; exact h r j hj
theorem rep_same {K : Nat → Nat → Nat} {B B' : Nat → Nat → Int32} (h : rep K B) (hB : ∀ r j, inB r j → B' r j = B r j) : rep K B' := fun r j hj => by rw [hB r j hj]; exact h r j hj
/-- the cells that count -/
def coU (S S' : St) : Prop := S' 2 = S 2 ∧ S' 6 = S 6 ∧ (∀ k, 8 ≤ k → k ≤ 17 → S' k = S k) ∧ (∀ k, 29 ≤ k → k ≤ 48 → S' k = S k) ∧ S' 1 1 = S 1 1
def coM (S S' : St) : Prop := S' 0 0 = S 0 0 ∧ S' 0 8 = S 0 8 ∧ S' 0 9 = S 0 9 ∧ (∀ k, 1 ≤ k → k ≤ 6 → S' k = S k) ∧ (∀ j, j < 36 → S' 7 j = S 7 j) ∧ S' 16 = S 16 ∧ S' 17 = S 17
theorem coU_refl (S : St) : coU S S := ⟨rfl, rfl, fun _ _ _ => rfl, fun _ _ _ => rfl, rfl⟩
theorem coM_refl (S : St) : coM S S := ⟨rfl, rfl, rfl, fun _ _ _ => rfl, fun _ _ => rfl, rfl, rfl⟩
theorem coU_trans {S T V : St} (h : coU S T) (g : coU T V) : coU S V := ⟨g.1.trans h.1, g.2.1.trans h.2.1, fun k a b => (g.2.2.1 k a b).trans (h.2.2.1 k a b), fun k a b => (g.2.2.2.1 k a b).trans (h.2.2.2.1 k a b), g.2.2.2.2.trans h.2.2.2.2⟩
theorem coM_trans {S T V : St} (h : coM S T) (g : coM T V) : coM S V := ⟨g.1.trans h.1, g.2.1.trans h.2.1, g.2.2.1.trans h.2.2.1, fun k a b => (g.2.2.2.1 k a b).trans (h.2.2.2.1 k a b), fun j hj => (g.2.2.2.2.1 j hj).trans (h.2.2.2.2.1 j hj), g.2.2.2.2.2.1.trans h.2.2.2.2.2.1, g.2.2.2.2.2.2.trans h.2.2.2.2.2.2⟩
theorem vU_co {S S' : St} (h : coU S S') {r j : Nat} (hr : inB r j) : vU S' r j = vU S r j := by
  unfold vU
  rcases hr with ⟨rfl, _⟩ | ⟨h1, h2, _⟩
  · rw [if_pos rfl, if_pos rfl, h.1]
  · rw [if_neg (by omega), if_neg (by omega), h.2.2.1 (8 + r) (by omega) (by omega)]
theorem vI_co {S S' : St} (h : coU S S') {n r j : Nat} (hn : n < 2) (hr : inB r j) : vI S' n r j = vI S n r j := by
  unfold vI
  rcases hr with ⟨rfl, _⟩ | ⟨h1, h2, _⟩
  · rw [if_pos rfl, if_pos rfl, h.2.2.2.1 (29 + n) (by omega) (by omega)]
  · rw [if_neg (by omega), if_neg (by omega), h.2.2.2.1 (30 + 9 * n + r) (by omega) (by omega)]
theorem vM_co {S S' : St} (h : coM S S') {r j : Nat} (hr : inB r j) : vM S' r j = vM S r j := by
  unfold vM
  rcases hr with ⟨rfl, _⟩ | ⟨h1, h2, h3⟩
  · rw [if_pos rfl, if_pos rfl, h.2.1, h.2.2.1]
  · rw [if_neg (show ¬ r = 0 by omega), if_neg (show ¬ r = 0 by omega)]
    by_cases e4 : r ≤ 4
    · rw [if_pos e4, if_pos e4, h.2.2.2.1 (r + 1) (by omega) (by omega)]
    · rw [if_neg e4, if_neg e4]
      by_cases e8 : r ≤ 8
      · rw [if_pos e8, if_pos e8, h.2.2.2.1 6 (by omega) (by omega)]
      · rw [if_neg e8, if_neg e8, h.2.2.2.2.1 j (by unfold bl at h3; rw [if_neg e4, if_neg e8] at h3; exact h3)]
theorem vN_co {S S' : St} (h : coM S S') {n r j : Nat} : vN S' n r j = vN S n r j := by
  unfold vN
  rw [h.2.2.2.2.2.1]
theorem RelK_co {K : Nat → Nat → Nat} {Su Sm Su' Sm' : St} (h : RelK K Su Sm) (hu : coU Su Su') (hm : coM Sm Sm') : RelK K Su' Sm' := by
  obtain ⟨h1, h2, h3, ⟨c, h4, h5, h6, h7⟩, h8⟩ := h
  refine ⟨h1, rep_same h2 (fun r j hj => vU_co hu hj), rep_same h3 (fun r j hj => vM_co hm hj), ⟨c, h4, by rw [hu.2.2.2.2]; exact h5, by rw [hm.1]; exact h6, by rw [hu.2.2.1 8 (by omega) (by omega), hm.2.2.2.1 1 (by omega) (by omega)]; exact h7⟩, fun n hn => ?_⟩
  obtain ⟨g1, g2⟩ := h8 n hn
  refine ⟨by rw [hu.2.1, hm.2.2.2.2.2.2]; exact g1, ?_⟩
  rcases g2 with g2 | ⟨g2, Kn, g3, g4, g5⟩
  · exact Or.inl (by rw [hu.2.1]; exact g2)
  · exact Or.inr ⟨by rw [hu.2.1]; exact g2, Kn, g3, rep_same g4 (fun r j hj => vI_co hu hn hj), rep_same g5 (fun r j hj => vN_co hm)⟩
/-! what the relation says of each cell -/
section RelAt
variable {K : Nat → Nat → Nat} {S : St}
theorem inBR {r j : Nat} (h1 : 1 ≤ r) (h2 : r ≤ 9) (h3 : j < bl r) : inB r j := Or.inr ⟨h1, h2, h3⟩
theorem uA {t : Nat} (h : rep K (vU S)) (ht : t < 5) : S 9 t = nI (K 1 t) := h 1 t (inBR (by decide) (by decide) ht)
theorem uR {t : Nat} (h : rep K (vU S)) (ht : t < 5) : S 10 t = nI (K 2 t) := h 2 t (inBR (by decide) (by decide) ht)
theorem uG {t : Nat} (h : rep K (vU S)) (ht : t < 5) : S 11 t = nI (K 3 t) := h 3 t (inBR (by decide) (by decide) ht)
theorem uL {t : Nat} (h : rep K (vU S)) (ht : t < 5) : S 12 t = ev 4 (K 4 t) := h 4 t (inBR (by decide) (by decide) ht)
theorem uO {p : Nat} (h : rep K (vU S)) (hp : p < 6) : S 13 p = nI (K 5 p) := h 5 p (inBR (by decide) (by decide) hp)
theorem uOL {p : Nat} (h : rep K (vU S)) (hp : p < 6) : S 14 p = nI (K 6 p) := h 6 p (inBR (by decide) (by decide) hp)
theorem uW {p : Nat} (h : rep K (vU S)) (hp : p < 6) : S 15 p = nI (K 7 p) := h 7 p (inBR (by decide) (by decide) hp)
theorem uN' {p : Nat} (h : rep K (vU S)) (hp : p < 6) : S 16 p = nI (K 8 p) := h 8 p (inBR (by decide) (by decide) hp)
theorem uK {u : Nat} (h : rep K (vU S)) (hu : u < 36) : S 17 u = ev 9 (K 9 u) := h 9 u (inBR (by decide) (by decide) hu)
theorem uWh (h : rep K (vU S)) : S 2 9 = nI (K 0 9) := h 0 9 (Or.inl ⟨rfl, Or.inl rfl⟩)
theorem uCn (h : rep K (vU S)) : S 2 10 = nI (K 0 10) := h 0 10 (Or.inl ⟨rfl, Or.inr rfl⟩)
theorem mA {t : Nat} (h : rep K (vM S)) (ht : t < 5) : S 2 t = nI (K 1 t) := h 1 t (inBR (by decide) (by decide) ht)
theorem mR {t : Nat} (h : rep K (vM S)) (ht : t < 5) : S 3 t = nI (K 2 t) := h 2 t (inBR (by decide) (by decide) ht)
theorem mG {t : Nat} (h : rep K (vM S)) (ht : t < 5) : S 4 t = nI (K 3 t) := h 3 t (inBR (by decide) (by decide) ht)
theorem mL {t : Nat} (h : rep K (vM S)) (ht : t < 5) : S 5 t = ev 4 (K 4 t) := h 4 t (inBR (by decide) (by decide) ht)
theorem mO {p : Nat} (h : rep K (vM S)) (hp : p < 6) : S 6 (4 * p) = nI (K 5 p) := h 5 p (inBR (by decide) (by decide) hp)
theorem mOL {p : Nat} (h : rep K (vM S)) (hp : p < 6) : S 6 (4 * p + 1) = nI (K 6 p) := h 6 p (inBR (by decide) (by decide) hp)
theorem mW {p : Nat} (h : rep K (vM S)) (hp : p < 6) : S 6 (4 * p + 2) = nI (K 7 p) := h 7 p (inBR (by decide) (by decide) hp)
theorem mN {p : Nat} (h : rep K (vM S)) (hp : p < 6) : S 6 (4 * p + 3) = nI (K 8 p) := h 8 p (inBR (by decide) (by decide) hp)
theorem mK {u : Nat} (h : rep K (vM S)) (hu : u < 36) : S 7 u = ev 9 (K 9 u) := h 9 u (inBR (by decide) (by decide) hu)
theorem mWh (h : rep K (vM S)) : S 0 8 = nI (K 0 9) := h 0 9 (Or.inl ⟨rfl, Or.inl rfl⟩)
theorem mCn (h : rep K (vM S)) : S 0 9 = nI (K 0 10) := h 0 10 (Or.inl ⟨rfl, Or.inr rfl⟩)
theorem kA {t : Nat} (h : okK K) (ht : t < 5) : K 1 t < 32 := (h 1 t (inBR (by decide) (by decide) ht)).2.2.1 rfl
theorem kR {t : Nat} (h : okK K) (ht : t < 5) : K 2 t < 4 := (h 2 t (inBR (by decide) (by decide) ht)).2.2.2.1 rfl
theorem kG {t : Nat} (h : okK K) (ht : t < 5) : K 3 t < 32 := (h 3 t (inBR (by decide) (by decide) ht)).2.2.2.2.1 rfl
theorem kL {t : Nat} (h : okK K) (ht : t < 5) : K 4 t < 5 ∨ K 4 t = 9 := (h 4 t (inBR (by decide) (by decide) ht)).2.2.2.2.2.1 rfl
theorem kO {p : Nat} (h : okK K) (hp : p < 6) : 1 ≤ K 5 p ∧ K 5 p < 32 := (h 5 p (inBR (by decide) (by decide) hp)).2.2.2.2.2.2.1 rfl
theorem kOL {p : Nat} (h : okK K) (hp : p < 6) : K 6 p < 2 := (h 6 p (inBR (by decide) (by decide) hp)).2.2.2.2.2.2.2.1 rfl
theorem kW {p : Nat} (h : okK K) (hp : p < 6) : K 7 p < 64 := (h 7 p (inBR (by decide) (by decide) hp)).2.2.2.2.2.2.2.2.1 rfl
theorem kN {p : Nat} (h : okK K) (hp : p < 6) : K 8 p < 1000 := (h 8 p (inBR (by decide) (by decide) hp)).2.2.2.2.2.2.2.2.2.1 rfl
theorem kK {u : Nat} (h : okK K) (hu : u < 36) : K 9 u < 4 ∨ K 9 u = 9 := (h 9 u (inBR (by decide) (by decide) hu)).2.2.2.2.2.2.2.2.2.2 rfl
theorem kWh (h : okK K) : K 0 9 < 6 := (h 0 9 (Or.inl ⟨rfl, Or.inl rfl⟩)).1 rfl rfl
theorem kCn (h : okK K) : K 0 10 < 100 := (h 0 10 (Or.inl ⟨rfl, Or.inr rfl⟩)).2.1 rfl rfl
end RelAt
