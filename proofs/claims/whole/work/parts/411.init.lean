/-! the two constructors' tables -/
def SB0 : St := (f_X0_init 4096 zB).getD zB
def SM0 : St := (f_X5_init 4096 zM).getD zM
def K0 : Nat → Nat → Nat := fun r _ => if r = 0 then 5 else if r = 1 then 0 else if r = 2 then 3 else if r = 3 then 31 else if r = 4 then 9 else if r = 5 then 1 else if r = 6 then 0 else if r = 7 then 1 else if r = 8 then 10 else 9
theorem some_getD {α : Type} {x : Option α} {d : α} (h : x.isSome = true) : x = some (x.getD d) := by
  cases x with
  | none => cases h
  | some a => rfl
theorem SB0_eq : f_X0_init 4096 zB = some SB0 := some_getD (by decide +kernel)
theorem SM0_eq : f_X5_init 4096 zM = some SM0 := some_getD (by decide +kernel)
theorem inB_chk {P : Nat → Nat → Prop} (h0 : P 0 9 ∧ P 0 10) (h1 : ∀ r, r < 4 → ∀ j, j < 5 → P (r + 1) j) (h2 : ∀ r, r < 4 → ∀ j, j < 6 → P (r + 5) j) (h3 : ∀ j, j < 36 → P 9 j) : ∀ r j, inB r j → P r j := by
  intro r j hr
  rcases hr with ⟨rfl, rfl | rfl⟩ | ⟨a, b, hj⟩
  · exact h0.1
  · exact h0.2
  · unfold bl at hj
    by_cases e4 : r ≤ 4
    · rw [if_pos e4] at hj
      have := h1 (r - 1) (by omega) j hj
      rwa [show r - 1 + 1 = r by omega] at this
    · rw [if_neg e4] at hj
      by_cases e8 : r ≤ 8
      · rw [if_pos e8] at hj
        have := h2 (r - 5) (by omega) j hj
        rwa [show r - 5 + 5 = r by omega] at this
      · rw [if_neg e8] at hj
        have := h3 j hj
        rwa [show r = 9 by omega]
theorem okK0 : okK K0 := inB_chk (P := fun r j => okv r j (K0 r j)) ⟨by unfold okv; simp [K0], by unfold okv; simp [K0]⟩ (fun r hr j hj => by
  rcases (show r = 0 ∨ r = 1 ∨ r = 2 ∨ r = 3 by omega) with rfl | rfl | rfl | rfl <;> (unfold okv; simp [K0])) (fun r hr j hj => by
  rcases (show r = 0 ∨ r = 1 ∨ r = 2 ∨ r = 3 by omega) with rfl | rfl | rfl | rfl <;> (unfold okv; simp [K0])) (fun j hj => by unfold okv; simp [K0])
theorem repU0 : rep K0 (vU (zU SB0)) := inB_chk (P := fun r j => vU (zU SB0) r j = ev r (K0 r j)) (by decide +kernel) (by decide +kernel) (by decide +kernel) (by decide +kernel)
theorem repM0 : rep K0 (vM SM0) := inB_chk (P := fun r j => vM SM0 r j = ev r (K0 r j)) (by decide +kernel) (by decide +kernel) (by decide +kernel) (by decide +kernel)
theorem init_r1 {S S' : St} (h : f_X5_init 4096 S = some S') : S' 1 = S 1 := by
  have h3 : ∀ n v r, lpI (F_X5_init_229 4096) n v = some r → r 1 = v.2 1 := lpI_ind (fun k hk v r h => by
    have h : FB_X5_init_229 4096 k v.1 v.2 = some r := h
    unfold FB_X5_init_229 at h
    by_cases c : (36 : Int32) ≤ v.1
    · have h := if_y c h; cases h; rfl
    · have h := if_n c h
      obtain ⟨_, h⟩ := gd_some h
      have e := hk _ _ h
      rw [e]; show sto v.2 7 v.1.toNatClampNeg (-6) 1 = v.2 1; exact sto_n (by decide))
  have h2 : ∀ n v r, lpI (F_X5_init_183 4096) n v = some r → r 1 = v.2 1 := lpI_ind (fun k hk v r h => by
    have h : FB_X5_init_183 4096 k v.1 v.2 = some r := h
    unfold FB_X5_init_183 at h
    by_cases c : (6 : Int32) ≤ v.1
    · have h := if_y c h; exact h3 4096 (0, v.2) r h
    · have h := if_n c h
      obtain ⟨_, h⟩ := gd_some h
      obtain ⟨_, h⟩ := gd_some h
      obtain ⟨_, h⟩ := gd_some h
      have e := hk _ _ h
      rw [e]
      dsimp only; rw [sto_n (by decide), sto_n (by decide), sto_n (by decide)])
  have h1 : ∀ n v r, lpI (F_X5_init_147 4096) n v = some r → r 1 = v.2 1 := lpI_ind (fun k hk v r h => by
    have h : FB_X5_init_147 4096 k v.1 v.2 = some r := h
    unfold FB_X5_init_147 at h
    by_cases c : (5 : Int32) ≤ v.1
    · have h := if_y c h; exact h2 4096 (0, v.2) r h
    · have h := if_n c h
      obtain ⟨_, h⟩ := gd_some h
      obtain ⟨_, h⟩ := gd_some h
      obtain ⟨_, h⟩ := gd_some h
      have e := hk _ _ h
      rw [e]
      dsimp only; rw [sto_n (by decide), sto_n (by decide), sto_n (by decide)])
  exact h1 4096 (0, S) S' h
theorem pure_init : ∃ SB SM, f_X0_init 4096 zB = some SB ∧ f_X5_init 4096 zM = some SM ∧ Rel (zU SB) SM := by
  refine ⟨SB0, SM0, SB0_eq, SM0_eq, K0, okK0, repU0, repM0, ⟨0, by decide, rfl, by decide +kernel, ?_⟩, fun n hn => ⟨?_, Or.inl rfl⟩⟩
  · rw [init_r1 SM0_eq]; rfl
  · have key : ∀ n, n < 2 → zU SB0 6 n = SM0 17 n := by decide +kernel
    exact key n hn
