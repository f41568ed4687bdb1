/-! names: the model's count; both -/
theorem q10_sto {T : St} {c : Nat → Nat} {k i : Nat} {v : Int32} (h : k ≠ 10) : sto (q10 T c) k i v = q10 (sto T k i v) c := by
  funext k' j
  unfold q10
  rw [sto_at, sto_at]
  by_cases e : k' = k ∧ j = i
  · rw [if_pos e, if_neg (by omega), if_pos e]
  · rw [if_neg e, if_neg e]
theorem it_b1 {α : Type} {P : Prop} [Decidable P] {x y : α} : (if (if P then (1 : Int32) else 0) = 1 then x else y) = if P then x else y := by
  by_cases e : P
  · rw [if_pos e, if_pos e, if_pos rfl]
  · rw [if_neg e, if_neg e, if_neg z10]
theorem nmC_s {K : Nat → Nat → Nat} {c : Nat → Nat} {o p : Nat} : nmC K c o (p + 1) = if nmB K c o p = true then nmC K c o p + 1 else nmC K c o p := rfl
theorem nmC_no {K : Nat → Nat → Nat} {c : Nat → Nat} {o p : Nat} (h : ¬ (rea K p (c p) = true ∧ (K 1 (c p)).testBit 0 = true)) : nmC K c o (p + 1) = nmC K c o p := by
  rw [nmC_s, if_neg]
  unfold nmB
  rw [Bool.and_eq_true, Bool.and_eq_true]
  exact fun q => h ⟨q.1, q.2.1⟩
theorem nmC_yes {K : Nat → Nat → Nat} {c : Nat → Nat} {o p : Nat} (h1 : rea K p (c p) = true) (h2 : (K 1 (c p)).testBit 0 = true) : nmC K c o (p + 1) = if (K 7 p).testBit o = true then nmC K c o p + 1 else nmC K c o p := by
  rw [nmC_s]
  unfold nmB
  rw [h1, h2, Bool.true_and, Bool.true_and]
def nin (K : Nat → Nat → Nat) (c : Nat → Nat) (T T' : St) (p k : Nat) : Prop := (∀ r, r ≠ 13 → T' r = T r) ∧ ∀ o, o < 6 → T' 13 o = nI (if o < k then nmC K c o (p + 1) else nmC K c o p)
theorem nin_mOK {K : Nat → Nat → Nat} {c : Nat → Nat} {T T' : St} {p k : Nat} (h : mOK K 0 T) (hn : nin K c T T' p k) : mOK K 0 T' := mOK_of h (by rw [hn.1 _ (by decide)]) (by rw [hn.1 _ (by decide)]) (fun k j hk => by rw [hn.1 _ (by omega)])
theorem x5_f58 {K : Nat → Nat → Nat} {T T' : St} {c c' : Nat → Nat} {p k : Nat} {x : Int32} (hK : okK K) (h : mOK K 0 T) (h6 : ∀ p, p < 6 → T 6 (4 * p + 2) = nI (K 7 p)) (hn : nin K c T T' p k) (hp : p < 6) (hk : k < 6) (hc : c p < 5) (hc' : c' p = c p) (k38 : Int32 × Int32 × St → Option (Int32 × St)) (k58 : Int32 × Int32 × Int32 × St → Option (Int32 × St)) : FB_X5_names_58 4096 k38 k58 x (nI p) (nI k) (q10 T' c') = if rea K p (c p) = true then (if (K 1 (c p)).testBit 0 = true then k58 (x, nI p, nI (k + 1), q10 (sto T' 13 k (nI (if (K 7 p).testBit k = true then nmC K c k p + 1 else nmC K c k p))) c') else k38 (x, nI (p + 1), q10 T' c')) else k38 (x, nI (p + 1), q10 T' c') := by
  have ho := nin_mOK h hn
  have hoq := mOK_q (c := c') ho
  have g6 : ¬ (6 : Int32) ≤ nI k := nI_ge (a := k) (b := 6) hk (by decide)
  have hi2 : 4 * p + 2 < 24 := by omega
  have e42 : (4 : Int32) * nI p + 2 = nI (4 * p + 2) := i4 p 2
  have a10 : q10 T' c' 10 p = nI (c p) := by rw [q10_s hp, hc']
  have a6 : q10 T' c' 6 (4 * p + 2) = nI (K 7 p) := by rw [q10_n (by decide), hn.1 _ (by decide)]; exact h6 p hp
  have a13 : q10 T' c' 13 k = nI (nmC K c k p) := by rw [q10_n (by decide), hn.2 k hk, if_neg (by omega)]
  have a2 : q10 T' c' 2 (c p) = nI (K 1 (c p)) := hoq.2.2.2.2.1 _ hc
  have er := x5_reaches (m := 0) (c := c') hK (by decide) ho hp (by rw [hc']; exact hc)
  rw [hc', rmz] at er
  unfold FB_X5_names_58
  rw [if_neg g6, er, bd_s, it_b]
  simp only [gd_t (ix_n hp (show 6 ≤ 65536 by decide)), nI_clamp (show p < 2 ^ 31 by omega), a10, gd_t (ix_n hc (show 5 ≤ 65536 by decide)), nI_clamp (show c p < 2 ^ 31 by omega), a2, gd_t (ix_n hk (show 6 ≤ 65536 by decide)), nI_clamp (show k < 2 ^ 31 by omega), e42, gd_t (ix_n hi2 (show 24 ≤ 65536 by decide)), nI_clamp (show 4 * p + 2 < 2 ^ 31 by omega), a6, x5_has (kW hK hp) (show k < 10 by omega), bd_s, a13, add0, nI_1, q10_sto (show (13 : Nat) ≠ 10 by decide)]
  rw [pa_and1 _ (kA hK hc), it_b1, it_b]
  by_cases e1 : rea K p (c p) = true
  · rw [if_pos e1, if_pos e1]
    by_cases e2 : (K 1 (c p)).testBit 0 = true
    · rw [if_pos e2, if_pos e2]
      by_cases e3 : (K 7 p).testBit k = true
      · rw [if_pos e3, if_pos e3]
      · rw [if_neg e3, if_neg e3]
    · rw [if_neg e2, if_neg e2]
  · rw [if_neg e1, if_neg e1]
theorem x5_n58 {K : Nat → Nat → Nat} {T T' : St} {c c' : Nat → Nat} {p : Nat} {x : Int32} (hK : okK K) (h : mOK K 0 T) (h6 : ∀ p, p < 6 → T 6 (4 * p + 2) = nI (K 7 p)) (hn : nin K c T T' p 0) (hp : p < 6) (hc : c p < 5) (hc' : c' p = c p) : ∃ y, (∃ T2, y = (x, nI (p + 1), q10 T2 c') ∧ nin K c T T2 (p + 1) 0) ∧ ∀ k38, lpI (F_X5_names_58 4096 k38) 4096 (x, nI p, 0, q10 T' c') = k38 y := by
  by_cases e : rea K p (c p) = true ∧ (K 1 (c p)).testBit 0 = true
  · refine lp_rel2 (F := F_X5_names_58 4096) (fun k y => ∃ T2, y = (x, nI p, nI k, q10 T2 c') ∧ nin K c T T2 p k) 6 4096 (by decide) (fun k hk y hy => ?_) (fun y hy => ?_) ⟨T', rfl, hn⟩
    · obtain ⟨T2, ey, h2⟩ := hy
      subst ey
      refine ⟨_, ⟨sto T2 13 k (nI (nmC K c k (p + 1))), rfl, fun r hr => by rw [sto_n hr]; exact h2.1 r hr, fun o ho => ?_⟩, fun k38 k58 => ?_⟩
      · rw [sto_s]
        by_cases q : o = k
        · rw [if_pos q, if_pos (by omega), q]
        · rw [if_neg q, h2.2 o ho]
          by_cases z : o < k
          · rw [if_pos z, if_pos (by omega)]
          · rw [if_neg z, if_neg (by omega)]
      · show FB_X5_names_58 4096 k38 k58 x (nI p) (nI k) (q10 T2 c') = _
        rw [x5_f58 hK h h6 h2 hp hk hc hc', if_pos e.1, if_pos e.2, nmC_yes e.1 e.2]
    · obtain ⟨T2, ey, h2⟩ := hy
      subst ey
      refine ⟨(x, nI (p + 1), q10 T2 c'), ⟨T2, rfl, h2.1, fun o ho => ?_⟩, fun k38 k58 => ?_⟩
      · rw [h2.2 o ho, if_pos ho, if_neg (by omega)]
      · show FB_X5_names_58 4096 k38 k58 x (nI p) (nI 6) (q10 T2 c') = _
        unfold FB_X5_names_58
        rw [if_pos (by decide), nI_1]
  · refine ⟨(x, nI (p + 1), q10 T' c'), ⟨T', rfl, hn.1, fun o ho => ?_⟩, fun k38 => ?_⟩
    · rw [hn.2 o ho, if_neg (by omega), if_neg (by omega), nmC_no e]
    · refine lp_run (F := F_X5_names_58 4096 k38) (fun k => (x, nI p, nI k, q10 T' c')) 0 4096 (by decide) (fun k hk _ => absurd hk (by omega)) (fun k58 => ?_)
      show FB_X5_names_58 4096 k38 k58 x (nI p) (nI 0) (q10 T' c') = _
      rw [x5_f58 hK h h6 hn hp (by decide) hc hc']
      by_cases e1 : rea K p (c p) = true
      · rw [if_pos e1, if_neg (fun q => e ⟨e1, q⟩)]
      · rw [if_neg e1]
theorem x5_n38 {K : Nat → Nat → Nat} {T T0 : St} {c z : Nat → Nat} {x a : Int32} (hK : okK K) (h : mOK K 0 T) (h6 : ∀ p, p < 6 → T 6 (4 * p + 2) = nI (K 7 p)) (h11 : ∀ p, p < 6 → T 11 p = nI (c p)) (hc : ∀ p, p < 6 → c p < 5) (hn : nin K c T T0 0 0) (hans : ∀ S', (∀ o, o < 6 → S' 13 o = nI (nmC K c o 6)) → lpI (F_X5_names_137 4096) 4096 (x, 0, 6, S') = some (a, S')) : ∃ r, (r.1 = a ∧ coM T r.2) ∧ lpI (F_X5_names_38 4096) 4096 (x, 0, q10 T0 z) = some r := by
  refine lp_rel (F := F_X5_names_38 4096) (fun p y => ∃ (T' : St) (c' : Nat → Nat), y = (x, nI p, q10 T' c') ∧ nin K c T T' p 0) 6 4096 (by decide) (fun p hp y hy => ?_) (fun y hy => ?_) ⟨T0, z, rfl, hn⟩
  · obtain ⟨T', c', ey, h2⟩ := hy
    subst ey
    have g6 : ¬ (6 : Int32) ≤ nI p := nI_ge (a := p) (b := 6) hp (by decide)
    have a11 : q10 T' c' 11 p = nI (c p) := by rw [q10_n (by decide), h2.1 _ (by decide)]; exact h11 p hp
    obtain ⟨y2, ⟨T2, e2, n2⟩, hk⟩ := x5_n58 (c' := cup c' p (c p)) (x := x) hK h h6 h2 hp (hc p hp) (cup_at _ _ _)
    subst e2
    refine ⟨_, ⟨T2, cup c' p (c p), rfl, n2⟩, fun k => ?_⟩
    show FB_X5_names_38 4096 k x (nI p) (q10 T' c') = _
    unfold FB_X5_names_38
    rw [if_neg g6, gd_t (ix_n hp (by decide)), gd_t (ix_n hp (by decide)), nI_clamp (show p < 2 ^ 31 by omega), a11, q10_up hp, bd_s, hk]
  · obtain ⟨T', c', ey, h2⟩ := hy
    subst ey
    have cT : coM T T' := ⟨by rw [h2.1 _ (by decide)], by rw [h2.1 _ (by decide)], by rw [h2.1 _ (by decide)], fun k _ _ => h2.1 _ (by omega), fun j _ => by rw [h2.1 _ (by decide)], h2.1 _ (by decide), h2.1 _ (by decide)⟩
    refine ⟨(a, q10 T' c'), ⟨rfl, coM_trans cT q10_co⟩, fun k => ?_⟩
    show FB_X5_names_38 4096 k x (nI 6) (q10 T' c') = _
    unfold FB_X5_names_38
    rw [if_pos (by decide)]
    exact hans _ (fun o ho => by rw [q10_n (by decide), h2.2 o ho, if_neg (by omega)])
theorem x5_n17 {T : St} {z : Nat → Nat} {x : Int32} : lpI (F_X5_names_17 4096) 4096 (x, 0, q10 T z) = lpI (F_X5_names_38 4096) 4096 (x, 0, q10 (rwx T 13 (fun _ => nI 0) 6) z) := by
  have st := lp_run (F := F_X5_names_17 4096) (res := lpI (F_X5_names_38 4096) 4096 (x, 0, q10 (rwx T 13 (fun _ => nI 0) 6) z)) (fun i => (x, nI i, q10 (rwx T 13 (fun _ => nI 0) i) z)) 6 4096 (by decide) (fun i hi k => ?_) (fun k => ?_)
  · rw [rwx_0] at st; exact st
  · show FB_X5_names_17 4096 k x (nI i) (q10 (rwx T 13 (fun _ => nI 0) i) z) = k (x, nI (i + 1), q10 (rwx T 13 (fun _ => nI 0) (i + 1)) z)
    have h6 : ¬ (6 : Int32) ≤ nI i := nI_ge (a := i) (b := 6) hi (by decide)
    rw [← rwx_s, ← q10_sto (by decide)]
    unfold FB_X5_names_17
    rw [if_neg h6, gd_t (ix_n hi (by decide)), nI_clamp (show i < 2 ^ 31 by omega), bd_s, nI_1]
    rfl
  · show FB_X5_names_17 4096 k x (nI 6) (q10 (rwx T 13 (fun _ => nI 0) 6) z) = _
    unfold FB_X5_names_17
    rw [if_pos (by decide)]
theorem bS_11' {K : Nat → Nat → Nat} {w : Nat} {S : St} {c : Nat → Nat} {p : Nat} (hp : p < 6) : bS K w S (some c) 11 p = nI (c p) := by
  show (if 11 = 0 ∧ p = 18 then nI (own K w c) else if 11 = 0 ∧ p = 19 then nI (mg K 0 c 6) else if 11 = 11 ∧ p < 6 then nI (c p) else S 11 p) = _
  rw [if_neg (by omega), if_neg (by omega), if_pos ⟨rfl, hp⟩]
theorem x5_names {K : Nat → Nat → Nat} {S : St} {c : Nat → Nat} {x a : Int32} (hK : okK K) (h3 : rep K (vM S)) (hb : bst K 0 = some c) (hc : ∀ p, p < 6 → c p < 5) (hans : ∀ S', (∀ o, o < 6 → S' 13 o = nI (nmC K c o 6)) → lpI (F_X5_names_137 4096) 4096 (x, 0, 6, S') = some (a, S')) : ∃ S', coM S S' ∧ f_X5_names 4096 x S = some (a, S') := by
  have hl := x5_lay hK h3
  have ho := mOK_lay h3
  obtain ⟨z, g1⟩ := x5_layBest hK ho (show 0 < 3 by decide)
  rw [hb] at g1
  have g1 : f_X5_layBest 4096 0 (layF K S) = some (1, q10 (bS K 0 (layF K S) (some c)) z) := g1
  have cT : coM S (bS K 0 (layF K S) (some c)) := coM_trans (layF_co K S) bS_co
  have hRT := repM_co h3 cT
  obtain ⟨⟨r, S'⟩, ⟨k1, k2⟩, k3⟩ := x5_n38 (T := bS K 0 (layF K S) (some c)) (T0 := rwx (bS K 0 (layF K S) (some c)) 13 (fun _ => nI 0) 6) (z := z) hK (mOK_bS ho) (fun p hp => mW hRT hp) (fun p hp => bS_11' hp) hc ⟨fun r hr => rwx_n hr, fun o ho => by rw [rwx_at ho, if_neg (by omega)]; rfl⟩ hans
  have k1 : r = a := k1
  refine ⟨S', coM_trans cT k2, ?_⟩
  unfold f_X5_names
  rw [hl, bd_s, g1, bd2_s, if_neg z01, x5_n17, k3, k1]
theorem nm_bd {K : Nat → Nat → Nat} {c : Nat → Nat} : ∀ o, o < 6 → nmC K c o 6 ≤ 6 := fun o _ => ct_bd 6
theorem pu_20 : lp_20 4096 Rel := by
  intro x Su Sm ⟨K, hR⟩
  have hK := hR.1
  obtain ⟨e1, c1, w1⟩ := x3_spin hK hR.2.1
  obtain ⟨S', ⟨f1, f2, f3⟩, f4⟩ := x3_findBest (w := 0) hK w1 (by decide)
  have f4 : f_X3_findBest 4096 0 (spF K Su) = some (anyI (bst K 0), S') := f4
  have cu : coU Su S' := coU_trans c1 f2
  cases hb : bst K 0 with
  | none =>
    obtain ⟨z, g1⟩ := x5_layBest hK (mOK_lay hR.2.2.1) (show 0 < 3 by decide)
    have g1 : f_X5_layBest 4096 0 (layF K Sm) = some (anyI (bst K 0), q10 (bS K 0 (layF K Sm) (bst K 0)) z) := g1
    rw [hb] at g1 f4
    refine ⟨-6, S', ?_, q10 (bS K 0 (layF K Sm) none) z, ?_, K, RelK_co hR cu (coM_trans (layF_co K Sm) (coM_trans bS_co q10_co))⟩
    · unfold f_X4_names
      rw [e1, bd_s, f4, bd2_s, if_pos (show anyI none = 0 from rfl)]
    · unfold f_X5_names
      rw [x5_lay hK hR.2.2.1, bd_s, g1, bd2_s, if_pos (show anyI none = 0 from rfl)]
  | some c =>
    rw [hb] at f4
    have hsp := bst_sp K 0
    rw [hb] at hsp
    have hc := okC5 (allC_mem.mp hsp.1).1
    obtain ⟨k1, k2, k3⟩ := f3 c hb
    have hcn := x4_countNamed hK (rep_co hR.2.1 cu) f1 hc k3
    have h7 : ∀ o, o < 6 → nmU K c S' 6 7 o = nI (nmC K c o 6) := fun o ho => rwx_at (f := fun o => nI (nmC K c o 6)) ho
    have cu2 : coU Su (nmU K c S' 6) := coU_trans cu (rwx_coU (by omega))
    have ef : f_X4_names 4096 x Su = if x = -1 then (bd (f_X4_namedInAll 4096 (nmU K c S' 6)) fun r3 => some (r3, nmU K c S' 6)) else (bd (f_X4_namedAt 4096 x (nmU K c S' 6)) fun r2 => some (r2, nmU K c S' 6)) := by
      unfold f_X4_names
      rw [e1, bd_s, f4, bd2_s, if_neg (show ¬ anyI (some c) = 0 from z01), hcn, bd_s]
    by_cases q : ∃ k0, k0 < 6 ∧ nmC K c k0 6 ≠ 0 ∧ nI (ah (fun o => nmC K c o 6) k0) = x
    · obtain ⟨k0, q1, q2, q3⟩ := q
      have hx : ¬ x = -1 := fun z => by rw [z] at q3; exact nI_nm1 (by have := ah_bd (nm := fun o => nmC K c o 6) (o := k0); omega) q3
      obtain ⟨Sm', cm, em⟩ := x5_names (x := x) (a := nI k0) hK hR.2.2.1 hb hc (fun S2 h13 => x5_n137b (nm := fun o => nmC K c o 6) h13 nm_bd q1 q2 q3)
      refine ⟨nI k0, nmU K c S' 6, ?_, Sm', em, K, RelK_co hR cu2 cm⟩
      rw [ef, if_neg hx, x4_namedAt1 (nm := fun o => nmC K c o 6) h7 nm_bd q1 q2 q3, bd_s]
    · have hn : ∀ o, o < 6 → (fun o => nmC K c o 6) o ≠ 0 → ¬ nI (ah (fun o => nmC K c o 6) o) = x := fun o ho h1 h2 => q ⟨o, ho, h1, h2⟩
      obtain ⟨Sm', cm, em⟩ := x5_names (x := x) (a := if x = -1 then nI (An (fun o => nmC K c o 6) 0 0) else -6) hK hR.2.2.1 hb hc (fun S2 h13 => x5_n137a (nm := fun o => nmC K c o 6) h13 nm_bd hn)
      refine ⟨_, nmU K c S' 6, ?_, Sm', em, K, RelK_co hR cu2 cm⟩
      rw [ef]
      by_cases hx : x = -1
      · rw [if_pos hx, if_pos hx, x4_namedInAll (nm := fun o => nmC K c o 6) h7 nm_bd, bd_s]
      · rw [if_neg hx, if_neg hx, x4_namedAt0 (nm := fun o => nmC K c o 6) h7 nm_bd hn, bd_s]
theorem pure_all : lpAll 4096 Rel := ⟨pu_0, pu_1, pu_2, pu_3, pu_4, pu_5, pu_6, pu_7, pu_8, pu_9, pu_10, pu_11, pu_12, pu_13, pu_14, pu_15, pu_16, pu_17, pu_18, pu_19, pu_20, pu_21, pu_22, pu_23, pu_24⟩
