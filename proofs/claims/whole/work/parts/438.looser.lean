/-! looser: both -/
def lct (K : Nat → Nat → Nat) (f t : Nat) : Nat := (t - f) * K 0 10 * cL K f 36
def lgo (K : Nat → Nat → Nat) (f t : Nat) : Nat := rmN (lK K f t) (prt (lK K f t)) 31
def lss (K : Nat → Nat → Nat) (f t : Nat) : Option (Nat × Nat) → Option (Nat × Nat)
  | none => if lgo K f t = 0 then none else some (10 * f + t, lct K f t)
  | some o => if o.2 ≤ lct K f t then some o else if lgo K f t = 0 then some o else some (10 * f + t, lct K f t)
def lsI (K : Nat → Nat → Nat) (f : Nat) (o : Option (Nat × Nat)) : Nat → Option (Nat × Nat)
  | 0 => o
  | j + 1 => lss K f (f + 1 + j) (lsI K f o j)
def lsO (K : Nat → Nat → Nat) : Nat → Option (Nat × Nat)
  | 0 => none
  | f + 1 => lsI K f (lsO K f) (3 - f)
def lbd : Option (Nat × Nat) → Prop
  | none => True
  | some o => o.1 < 2 ^ 31 ∧ o.2 < 2 ^ 31
theorem lct_lt {K : Nat → Nat → Nat} {f t : Nat} (hK : okK K) (ht : t < 4) : lct K f t < 2 ^ 31 := by
  have h1 := kCn hK
  have h2 := cL_le (K := K) (f := f) 36
  have : (t - f) * K 0 10 * cL K f 36 ≤ 3 * 100 * 36 := Nat.mul_le_mul (Nat.mul_le_mul (by omega) (by omega)) h2
  unfold lct
  omega
theorem lbd_s {K : Nat → Nat → Nat} {f t : Nat} {o : Option (Nat × Nat)} (hK : okK K) (hf : f < 4) (ht : t < 4) (h : lbd o) : lbd (lss K f t o) := by
  have hl := lct_lt (f := f) hK ht
  have hn : lbd (some (10 * f + t, lct K f t)) := ⟨show 10 * f + t < 2 ^ 31 by omega, hl⟩
  match o, h with
  | none, _ =>
    show lbd (if lgo K f t = 0 then none else some (10 * f + t, lct K f t))
    split
    · trivial
    · exact hn
  | some o, h =>
    show lbd (if o.2 ≤ lct K f t then some o else if lgo K f t = 0 then some o else some (10 * f + t, lct K f t))
    split
    · exact h
    · split
      · exact h
      · exact hn
theorem lbd_I {K : Nat → Nat → Nat} {f : Nat} {o : Option (Nat × Nat)} (hK : okK K) (hf : f < 3) (h : lbd o) : ∀ j, j ≤ 3 - f → lbd (lsI K f o j)
  | 0, _ => h
  | j + 1, hj => lbd_s hK (by omega) (by omega) (lbd_I hK hf h j (by omega))
theorem lbd_O {K : Nat → Nat → Nat} (hK : okK K) : ∀ f, f ≤ 3 → lbd (lsO K f)
  | 0, _ => trivial
  | f + 1, hf => lbd_I hK (by omega) (lbd_O hK f (by omega)) _ (Nat.le_refl _)
def pI : Option (Nat × Nat) → Int32
  | none => -6
  | some o => nI o.1
def cI : Option (Nat × Nat) → Int32
  | none => -6
  | some o => nI o.2
def mI : Option (Nat × Nat) → Int32
  | none => 0
  | some o => nI o.2
theorem sb_tf : ∀ f, f < 3 → ∀ t, t < 4 → f < t → nI t - nI f = nI (t - f) := by decide +kernel
theorem ct_e {K : Nat → Nat → Nat} {f t : Nat} (hf : f < 3) (ht : t < 4) (hft : f < t) : (nI t - nI f) * nI (K 0 10) * nI (cL K f 36) = nI (lct K f t) := by
  rw [sb_tf f hf t ht hft, pk_mul, pk_mul]; rfl
theorem ten (f t : Nat) : (10 : Int32) * nI f + nI t = nI (10 * f + t) := by rw [show (10 : Int32) = nI 10 from rfl, pk_mul, nI_add]
/-- the class's -/
theorem x4_b77 {K : Nat → Nat → Nat} {S : St} {f t : Nat} {x1 x2 x3 y : Int32} (hK' : okK (lK K f t)) (h : webOK (lK K f t) S) : ∃ S' : St, coU S S' ∧ ∀ k9 k, B_X4_cheapestLooser_77 4096 k9 k x1 x2 x3 (nI f) (nI t) y S = if lgo K f t = 0 then k (x1, x2, x3, nI f, nI (t + 1), S') else k (x1, nI (10 * f + t), y, nI f, nI (t + 1), S') := by
  refine ⟨_, r25_co (f := ltS (lK K f t) (prt (lK K f t)) 31) (i := 6), fun k9 k => ?_⟩
  unfold B_X4_cheapestLooser_77
  rw [h.2.2.1, x3_someGoodWith hK' h (prt_lt hK'), bd2_s, bd_s, ten, nI_1]
  unfold lgo
  by_cases e : rmN (lK K f t) (prt (lK K f t)) 31 = 0
  · rw [if_pos (by rw [sg01]; exact e), if_pos e]
  · rw [if_neg (by rw [sg01]; exact e), if_neg e]
theorem x4_cl21 {K : Nat → Nat → Nat} {S : St} {f t : Nat} {x1 : Int32} {o : Option (Nat × Nat)} (hK : okK K) (hR : rep K (vU S)) (hf : f < 3) (ht : t < 4) (hft : f < t) (hb : lbd o) : ∃ S' : St, coU S S' ∧ ∀ k9 k, FB_X4_cheapestLooser_21 4096 k9 k x1 (pI o) (cI o) (nI f) (nI t) S = k (x1, pI (lss K f t o), cI (lss K f t o), nI f, nI (t + 1), S') := by
  obtain ⟨e1, c1, w1⟩ := x3_spin hK hR
  obtain ⟨⟨r, S2⟩, ⟨h1, h2, h3⟩, h4⟩ := x3_loosen hK (rep_co hR c1) w1 (show f < 4 by omega) ht
  have j1 : r = nI (cL K f 36) := h1
  have j2 : webOK (lK K f t) S2 := h2
  have j3 : coU (spF K S) S2 := h3
  subst j1
  have hl := lct_lt (f := f) hK ht
  have h31 : ¬ (3 : Int32) < nI t := nI_nlt (a := 3) (by omega) (by decide)
  have ec : S2 2 10 = nI (K 0 10) := uCn (rep_co hR (coU_trans c1 j3))
  obtain ⟨S3, c3, hk⟩ := x4_b77 (x1 := x1) (x2 := pI o) (x3 := cI o) (y := nI (lct K f t)) (okK_lK hK ht) j2
  have ef : ∀ k9 k, FB_X4_cheapestLooser_21 4096 k9 k x1 (pI o) (cI o) (nI f) (nI t) S = if cI o = -6 then B_X4_cheapestLooser_77 4096 k9 k x1 (pI o) (cI o) (nI f) (nI t) (nI (lct K f t)) S2 else if cI o ≤ nI (lct K f t) then k (x1, pI o, cI o, nI f, nI (t + 1), S2) else B_X4_cheapestLooser_77 4096 k9 k x1 (pI o) (cI o) (nI f) (nI t) (nI (lct K f t)) S2 := fun k9 k => by
    unfold FB_X4_cheapestLooser_21
    rw [if_neg h31, e1, bd_s, h4, bd2_s, bd_s, ec, ct_e hf ht hft, nI_1]
  match o, hb with
  | none, _ =>
    refine ⟨S3, coU_trans c1 (coU_trans j3 c3), fun k9 k => ?_⟩
    rw [ef, if_pos (show cI none = -6 from rfl), hk]
    show _ = k (x1, pI (if lgo K f t = 0 then none else some (10 * f + t, lct K f t)), cI (if lgo K f t = 0 then none else some (10 * f + t, lct K f t)), nI f, nI (t + 1), S3)
    by_cases e : lgo K f t = 0
    · rw [if_pos e, if_pos e]
    · rw [if_neg e, if_neg e]; rfl
  | some (a, l), hb =>
    have hb2 : l < 2 ^ 31 := hb.2
    by_cases g : l ≤ lct K f t
    · refine ⟨S2, coU_trans c1 j3, fun k9 k => ?_⟩
      rw [ef, if_neg (show ¬ cI (some (a, l)) = -6 from nI_ne6 hb2), if_pos (show cI (some (a, l)) ≤ nI (lct K f t) from nI_le g hl)]
      show _ = k (x1, pI (if l ≤ lct K f t then some (a, l) else if lgo K f t = 0 then some (a, l) else some (10 * f + t, lct K f t)), cI (if l ≤ lct K f t then some (a, l) else if lgo K f t = 0 then some (a, l) else some (10 * f + t, lct K f t)), nI f, nI (t + 1), S2)
      rw [if_pos g]
    · refine ⟨S3, coU_trans c1 (coU_trans j3 c3), fun k9 k => ?_⟩
      rw [ef, if_neg (show ¬ cI (some (a, l)) = -6 from nI_ne6 hb2), if_neg (show ¬ cI (some (a, l)) ≤ nI (lct K f t) from nI_ge (by omega) hb2), hk]
      show _ = k (x1, pI (if l ≤ lct K f t then some (a, l) else if lgo K f t = 0 then some (a, l) else some (10 * f + t, lct K f t)), cI (if l ≤ lct K f t then some (a, l) else if lgo K f t = 0 then some (a, l) else some (10 * f + t, lct K f t)), nI f, nI (t + 1), S3)
      rw [if_neg g]
      by_cases e : lgo K f t = 0
      · rw [if_pos e, if_pos e]
      · rw [if_neg e, if_neg e]; rfl
theorem x4_cheapestLooser {K : Nat → Nat → Nat} {S : St} {x1 : Int32} (hK : okK K) (hR : rep K (vU S)) : ∃ r, (r.1 = (if x1 = 0 then pI (lsO K 3) else cI (lsO K 3)) ∧ coU S r.2) ∧ f_X4_cheapestLooser 4096 x1 S = some r := by
  unfold f_X4_cheapestLooser
  refine lp_rel (F := F_X4_cheapestLooser_9 4096) (fun f x => ∃ S' : St, x = (x1, pI (lsO K f), cI (lsO K f), nI f, S') ∧ coU S S') 3 4096 (by decide) (fun f hf x hx => ?_) (fun x hx => ?_) ⟨S, rfl, coU_refl S⟩
  · obtain ⟨S1, ex, hc1⟩ := hx
    subst ex
    have key : ∃ y, (∃ S' : St, y = (x1, pI (lsO K (f + 1)), cI (lsO K (f + 1)), nI (f + 1), S') ∧ coU S S') ∧ ∀ k9, lpI (F_X4_cheapestLooser_21 4096 k9) 4096 (x1, pI (lsO K f), cI (lsO K f), nI f, nI (f + 1), S1) = k9 y := by
      refine lp_rel2 (F := F_X4_cheapestLooser_21 4096) (fun j x => ∃ S' : St, x = (x1, pI (lsI K f (lsO K f) j), cI (lsI K f (lsO K f) j), nI f, nI (f + 1 + j), S') ∧ coU S S') (3 - f) 4096 (by omega) (fun j hj x hx => ?_) (fun x hx => ?_) ⟨S1, rfl, hc1⟩
      · obtain ⟨S2, ex, hc2⟩ := hx
        subst ex
        obtain ⟨S3, hc3, hk⟩ := x4_cl21 (x1 := x1) (o := lsI K f (lsO K f) j) hK (rep_co hR hc2) hf (show f + 1 + j < 4 by omega) (by omega) (lbd_I hK hf (lbd_O hK f (by omega)) j (by omega))
        refine ⟨_, ⟨S3, rfl, coU_trans hc2 hc3⟩, fun k9 k => ?_⟩
        show FB_X4_cheapestLooser_21 4096 k9 k x1 _ _ (nI f) (nI (f + 1 + j)) S2 = _
        rw [hk]
        rfl
      · obtain ⟨S2, ex, hc2⟩ := hx
        subst ex
        refine ⟨(x1, pI (lsO K (f + 1)), cI (lsO K (f + 1)), nI (f + 1), S2), ⟨S2, rfl, hc2⟩, fun k9 k => ?_⟩
        show FB_X4_cheapestLooser_21 4096 k9 k x1 (pI (lsO K (f + 1))) (cI (lsO K (f + 1))) (nI f) (nI (f + 1 + (3 - f))) S2 = _
        unfold FB_X4_cheapestLooser_21
        rw [show f + 1 + (3 - f) = 4 by omega, if_pos (by decide), nI_1]
    obtain ⟨y, ⟨S2, ey, hc2⟩, hk⟩ := key
    subst ey
    refine ⟨_, ⟨S2, rfl, hc2⟩, fun k => ?_⟩
    show FB_X4_cheapestLooser_9 4096 k x1 (pI (lsO K f)) (cI (lsO K f)) (nI f) S1 = _
    unfold FB_X4_cheapestLooser_9
    rw [if_neg (show ¬ (3 : Int32) ≤ nI f from nI_ge (a := f) (b := 3) hf (by decide)), bd_s, nI_1, hk]
  · obtain ⟨S1, ex, hc1⟩ := hx
    subst ex
    refine ⟨(if x1 = 0 then pI (lsO K 3) else cI (lsO K 3), S1), ⟨rfl, hc1⟩, fun k => ?_⟩
    show FB_X4_cheapestLooser_9 4096 k x1 (pI (lsO K 3)) (cI (lsO K 3)) (nI 3) S1 = _
    unfold FB_X4_cheapestLooser_9
    rw [if_pos (by decide)]
    by_cases e : x1 = 0
    · rw [if_pos e, if_pos e]
    · rw [if_neg e, if_neg e]
/-- the model's -/
def iv (K : Nat → Nat → Nat) (S S' : St) : Prop := coM S S' ∧ ∀ u, u < 36 → S' 12 u = ev 9 (K 9 u)
theorem x5_l144 {S : St} {x1 x2 x3 x4 x5 : Int32} (k59 : Int32 × Int32 × Int32 × Int32 × St → Option (Int32 × St)) (k71 : Int32 × Int32 × Int32 × Int32 × Int32 × St → Option (Int32 × St)) : lpI (F_X5_looser_144 4096 k59 k71) 4096 (x1, x2, x3, x4, x5, 0, S) = k71 (x1, x2, x3, x4, x5 + 1, rwx S 7 (fun j => S 12 j) 36) := by
  have st := lp_run (F := F_X5_looser_144 4096 k59 k71) (res := k71 (x1, x2, x3, x4, x5 + 1, rwx S 7 (fun j => S 12 j) 36)) (fun i => (x1, x2, x3, x4, x5, nI i, rwx S 7 (fun j => S 12 j) i)) 36 4096 (by decide) (fun i hi k => ?_) (fun k => ?_)
  · rw [rwx_0] at st; exact st
  · show FB_X5_looser_144 4096 k59 k71 k x1 x2 x3 x4 x5 (nI i) (rwx S 7 (fun j => S 12 j) i) = k (x1, x2, x3, x4, x5, nI (i + 1), rwx S 7 (fun j => S 12 j) (i + 1))
    have h36 : ¬ (36 : Int32) ≤ nI i := nI_ge (a := i) (b := 36) hi (by decide)
    have e12 : rwx S 7 (fun j => S 12 j) i 12 i = S 12 i := by rw [rwx_n (by decide)]
    rw [← rwx_s]
    unfold FB_X5_looser_144
    simp only [if_neg h36, gd_t (ix_n hi (show 36 ≤ 65536 by decide)), nI_clamp (show i < 2 ^ 31 by omega), bd_s, nI_1, e12]
  · show FB_X5_looser_144 4096 k59 k71 k x1 x2 x3 x4 x5 (nI 36) (rwx S 7 (fun j => S 12 j) 36) = _
    unfold FB_X5_looser_144
    rw [if_pos (by decide)]
theorem rep_lK {K : Nat → Nat → Nat} {S S' : St} {f t : Nat} (hR : rep K (vM S)) (hn : ∀ k, k ≠ 7 → S' k = S k) (h7 : ∀ u, u < 36 → S' 7 u = ev 9 (klo K f t u)) : rep (lK K f t) (vM S') := by
  intro r j hj
  unfold lK
  by_cases e : r = 9
  · subst e
    rw [if_pos rfl]
    exact h7 j (by rcases hj with ⟨h, _⟩ | ⟨_, _, h⟩; (· omega); exact h)
  · rw [if_neg e, ← hR r j hj]
    unfold vM
    rw [hn 0 (by decide), hn 6 (by decide)]
    by_cases e0 : r = 0
    · rw [if_pos e0, if_pos e0]
    · rw [if_neg e0, if_neg e0]
      by_cases e4 : r ≤ 4
      · rw [if_pos e4, if_pos e4, hn (r + 1) (by omega)]
      · rw [if_neg e4, if_neg e4]
        rcases hj with ⟨h, _⟩ | ⟨_, h, _⟩
        · exact absurd h e0
        · rw [if_pos (by omega), if_pos (by omega)]
theorem x5_b110 {K : Nat → Nat → Nat} {S A : St} {f t : Nat} {x1 x2 x3 y : Int32} (hK : okK K) (hR : rep K (vM S)) (hi : iv K S A) (h8 : A 8 3 = nI (rch K 3)) (hf : f < 4) (ht : t < 4) : ∃ S' : St, iv K S S' ∧ ∀ k9 k, B_X5_looser_110 4096 k9 k x1 x2 x3 (nI f) (nI t) y A = if lgo K f t = 0 then k (x1, x2, x3, nI f, nI (t + 1), S') else k (x1, nI (10 * f + t), y, nI f, nI (t + 1), S') := by
  have hRA := repM_co hR hi.1
  have hK' := okK_lK (f := f) hK ht
  obtain ⟨B, ⟨g1, g2⟩, g3⟩ := x5_loosen hK h8 (fun u hu => mK hRA hu) hf ht
  have hRB := rep_lK hRA g1 g2
  have hl := x5_lay hK' hRB
  have ho := mOK_lay hRB
  obtain ⟨d, em⟩ := x5_sgd (set := prt (lK K f t)) hK' (by decide) ho pbits.1 pbits.2
  have cC : coM B (q10 (layF (lK K f t) B) d) := coM_trans (layF_co _ _) q10_co
  have n12 : ∀ j, q10 (layF (lK K f t) B) d 12 j = A 12 j := fun j => by
    rw [q10_n (by decide), layF_k (by decide) (by decide) (by omega), g1 _ (by decide)]
  obtain ⟨C, eC⟩ : ∃ C, q10 (layF (lK K f t) B) d = C := ⟨_, rfl⟩
  rw [eC] at em cC n12
  refine ⟨rwx C 7 (fun j => C 12 j) 36, ⟨?_, fun u hu => by rw [rwx_n (by decide), n12]; exact hi.2 u hu⟩, fun k9 k => ?_⟩
  · obtain ⟨a1, a2, a3, a4, a5, a6, a7⟩ := hi.1
    obtain ⟨b1, b2, b3, b4, b5, b6, b7⟩ := cC
    refine ⟨?_, ?_, ?_, fun k h1 h2 => ?_, fun j hj => ?_, ?_, ?_⟩
    · rw [rwx_n (by decide), b1, g1 _ (by decide), a1]
    · rw [rwx_n (by decide), b2, g1 _ (by decide), a2]
    · rw [rwx_n (by decide), b3, g1 _ (by decide), a3]
    · rw [rwx_n (by omega), b4 k h1 h2, g1 _ (by omega), a4 k h1 h2]
    · rw [rwx_at hj, n12, hi.2 j hj]; exact (mK hR hj).symm
    · rw [rwx_n (by decide), b6, g1 _ (by decide), a6]
    · rw [rwx_n (by decide), b7, g1 _ (by decide), a7]
  · unfold B_X5_looser_110
    rw [g3, bd_s, hl, bd_s, em, bd2_s, bd_s, ten, x5_l144, x5_l144, nI_1]
    unfold lgo
    by_cases e : rmN (lK K f t) (prt (lK K f t)) 31 = 0
    · rw [if_pos (by rw [sg01]; exact e), if_pos e]
    · rw [if_neg (by rw [sg01]; exact e), if_neg e]
theorem x5_l71a {K : Nat → Nat → Nat} {S1 A : St} {f t : Nat} {x1 x2 x3 : Int32} (hl : f_X5_lay 4096 S1 = some A) (hu : f_X5_usesOf 4096 (nI f) A = some (nI (cL K f 36))) (ec : A 0 9 = nI (K 0 10)) (hf : f < 3) (ht : t < 4) (hft : f < t) (k9 : Int32 × Int32 × Int32 × Int32 × St → Option (Int32 × St)) (k : Int32 × Int32 × Int32 × Int32 × Int32 × St → Option (Int32 × St)) : FB_X5_looser_71 4096 k9 k x1 x2 x3 (nI f) (nI t) S1 = if x2 < 0 then B_X5_looser_110 4096 k9 k x1 x2 x3 (nI f) (nI t) (nI (lct K f t)) A else if x3 ≤ nI (lct K f t) then k (x1, x2, x3, nI f, nI (t + 1), A) else B_X5_looser_110 4096 k9 k x1 x2 x3 (nI f) (nI t) (nI (lct K f t)) A := by
  have h4 : ¬ (4 : Int32) ≤ nI t := nI_ge (a := t) (b := 4) ht (by decide)
  unfold FB_X5_looser_71
  rw [if_neg h4, hl, bd_s, hu, bd_s, bd_s, ec, ct_e hf ht hft, nI_1]
theorem pI_n : pI none < 0 := by decide
theorem x5_l71 {K : Nat → Nat → Nat} {S S1 : St} {f t : Nat} {x1 : Int32} {o : Option (Nat × Nat)} (hK : okK K) (hR : rep K (vM S)) (hi : iv K S S1) (hf : f < 3) (ht : t < 4) (hft : f < t) (hb : lbd o) : ∃ S' : St, iv K S S' ∧ ∀ k9 k, FB_X5_looser_71 4096 k9 k x1 (pI o) (mI o) (nI f) (nI t) S1 = k (x1, pI (lss K f t o), mI (lss K f t o), nI f, nI (t + 1), S') := by
  have hR1 := repM_co hR hi.1
  have hl := x5_lay hK hR1
  have cA := layF_co K S1
  have hRA := repM_co hR1 cA
  have iA : iv K S (layF K S1) := ⟨coM_trans hi.1 cA, fun u hu => by rw [layF_k (by decide) (by decide) (by omega)]; exact hi.2 u hu⟩
  have h8 : layF K S1 8 3 = nI (rch K 3) := lay_wi (by decide)
  have hlc := lct_lt (f := f) hK ht
  generalize layF K S1 = A at hl cA hRA iA h8
  have hu : f_X5_usesOf 4096 (nI f) A = some (nI (cL K f 36)) := x5_usesOf hK h8 (fun u hu => mK hRA hu) (by omega)
  have ec : A 0 9 = nI (K 0 10) := mCn hRA
  obtain ⟨S3, i3, hk⟩ := x5_b110 (x1 := x1) (x2 := pI o) (x3 := mI o) (y := nI (lct K f t)) hK hR iA h8 (show f < 4 by omega) ht
  have ef := fun k9 k => x5_l71a (x1 := x1) (x2 := pI o) (x3 := mI o) hl hu ec hf ht hft k9 k
  cases o with
  | none =>
    refine ⟨S3, i3, fun k9 k => ?_⟩
    rw [ef, if_pos pI_n, hk]
    show _ = k (x1, pI (if lgo K f t = 0 then none else some (10 * f + t, lct K f t)), mI (if lgo K f t = 0 then none else some (10 * f + t, lct K f t)), nI f, nI (t + 1), S3)
    by_cases e : lgo K f t = 0
    · rw [if_pos e, if_pos e]
    · rw [if_neg e, if_neg e]; rfl
  | some al =>
    obtain ⟨a, l⟩ := al
    have hb1 : a < 2 ^ 31 := hb.1
    have hb2 : l < 2 ^ 31 := hb.2
    by_cases g : l ≤ lct K f t
    · refine ⟨_, iA, fun k9 k => ?_⟩
      rw [ef, if_neg (show ¬ pI (some (a, l)) < 0 from nI_pos hb1), if_pos (show mI (some (a, l)) ≤ nI (lct K f t) from nI_le g hlc)]
      show _ = k (x1, pI (if l ≤ lct K f t then some (a, l) else if lgo K f t = 0 then some (a, l) else some (10 * f + t, lct K f t)), mI (if l ≤ lct K f t then some (a, l) else if lgo K f t = 0 then some (a, l) else some (10 * f + t, lct K f t)), nI f, nI (t + 1), A)
      rw [if_pos g]
    · refine ⟨S3, i3, fun k9 k => ?_⟩
      rw [ef, if_neg (show ¬ pI (some (a, l)) < 0 from nI_pos hb1), if_neg (show ¬ mI (some (a, l)) ≤ nI (lct K f t) from nI_ge (by omega) hb2), hk]
      show _ = k (x1, pI (if l ≤ lct K f t then some (a, l) else if lgo K f t = 0 then some (a, l) else some (10 * f + t, lct K f t)), mI (if l ≤ lct K f t then some (a, l) else if lgo K f t = 0 then some (a, l) else some (10 * f + t, lct K f t)), nI f, nI (t + 1), S3)
      rw [if_neg g]
      by_cases e : lgo K f t = 0
      · rw [if_pos e, if_pos e]
      · rw [if_neg e, if_neg e]; rfl
theorem x5_l59 {K : Nat → Nat → Nat} {S S0 : St} {x1 : Int32} (hK : okK K) (hR : rep K (vM S)) (h0 : iv K S S0) : ∃ r, (r.1 = (if x1 = 0 then pI (lsO K 3) else cI (lsO K 3)) ∧ coM S r.2) ∧ lpI (F_X5_looser_59 4096) 4096 (x1, -6, 0, 0, S0) = some r := by
  refine lp_rel (F := F_X5_looser_59 4096) (fun f x => ∃ S' : St, x = (x1, pI (lsO K f), mI (lsO K f), nI f, S') ∧ iv K S S') 3 4096 (by decide) (fun f hf x hx => ?_) (fun x hx => ?_) ⟨S0, rfl, h0⟩
  · obtain ⟨S1, ex, hc1⟩ := hx
    subst ex
    have key : ∃ y, (∃ S' : St, y = (x1, pI (lsO K (f + 1)), mI (lsO K (f + 1)), nI (f + 1), S') ∧ iv K S S') ∧ ∀ k9, lpI (F_X5_looser_71 4096 k9) 4096 (x1, pI (lsO K f), mI (lsO K f), nI f, nI (f + 1), S1) = k9 y := by
      refine lp_rel2 (F := F_X5_looser_71 4096) (fun j x => ∃ S' : St, x = (x1, pI (lsI K f (lsO K f) j), mI (lsI K f (lsO K f) j), nI f, nI (f + 1 + j), S') ∧ iv K S S') (3 - f) 4096 (by omega) (fun j hj x hx => ?_) (fun x hx => ?_) ⟨S1, rfl, hc1⟩
      · obtain ⟨S2, ex, hc2⟩ := hx
        subst ex
        obtain ⟨S3, hc3, hk⟩ := x5_l71 (x1 := x1) (o := lsI K f (lsO K f) j) hK hR hc2 hf (show f + 1 + j < 4 by omega) (by omega) (lbd_I hK hf (lbd_O hK f (by omega)) j (by omega))
        refine ⟨_, ⟨S3, rfl, hc3⟩, fun k9 k => ?_⟩
        show FB_X5_looser_71 4096 k9 k x1 _ _ (nI f) (nI (f + 1 + j)) S2 = _
        rw [hk]
        rfl
      · obtain ⟨S2, ex, hc2⟩ := hx
        subst ex
        refine ⟨(x1, pI (lsO K (f + 1)), mI (lsO K (f + 1)), nI (f + 1), S2), ⟨S2, rfl, hc2⟩, fun k9 k => ?_⟩
        show FB_X5_looser_71 4096 k9 k x1 (pI (lsO K (f + 1))) (mI (lsO K (f + 1))) (nI f) (nI (f + 1 + (3 - f))) S2 = _
        unfold FB_X5_looser_71
        rw [show f + 1 + (3 - f) = 4 by omega, if_pos (by decide), nI_1]
    obtain ⟨y, ⟨S2, ey, hc2⟩, hk⟩ := key
    subst ey
    refine ⟨_, ⟨S2, rfl, hc2⟩, fun k => ?_⟩
    show FB_X5_looser_59 4096 k x1 (pI (lsO K f)) (mI (lsO K f)) (nI f) S1 = _
    unfold FB_X5_looser_59
    rw [if_neg (show ¬ (3 : Int32) ≤ nI f from nI_ge (a := f) (b := 3) hf (by decide)), bd_s, nI_1, hk]
  · obtain ⟨S1, ex, hc1⟩ := hx
    subst ex
    refine ⟨(if x1 = 0 then pI (lsO K 3) else cI (lsO K 3), S1), ⟨rfl, hc1.1⟩, fun k => ?_⟩
    show FB_X5_looser_59 4096 k x1 (pI (lsO K 3)) (mI (lsO K 3)) (nI 3) S1 = _
    have hb := lbd_O hK 3 (by decide)
    unfold FB_X5_looser_59
    rw [if_pos (by decide)]
    by_cases e : x1 = 0
    · rw [if_pos e, if_pos e]
    · rw [if_neg e, if_neg e]
      generalize lsO K 3 = o at hb
      match o, hb with
      | none, _ => rw [if_neg (by decide)]; rfl
      | some o, hb => rw [if_pos (show 0 ≤ pI (some o) from nI_pos' hb.1)]; rfl
theorem x5_l27 {S : St} {x1 : Int32} : lpI (F_X5_looser_27 4096) 4096 (x1, 0, S) = lpI (F_X5_looser_59 4096) 4096 (x1, -6, 0, 0, rwx S 12 (fun j => S 7 j) 36) := by
  have st := lp_run (F := F_X5_looser_27 4096) (res := lpI (F_X5_looser_59 4096) 4096 (x1, -6, 0, 0, rwx S 12 (fun j => S 7 j) 36)) (fun i => (x1, nI i, rwx S 12 (fun j => S 7 j) i)) 36 4096 (by decide) (fun i hi k => ?_) (fun k => ?_)
  · rw [rwx_0] at st; exact st
  · show FB_X5_looser_27 4096 k x1 (nI i) (rwx S 12 (fun j => S 7 j) i) = k (x1, nI (i + 1), rwx S 12 (fun j => S 7 j) (i + 1))
    have h36 : ¬ (36 : Int32) ≤ nI i := nI_ge (a := i) (b := 36) hi (by decide)
    have e12 : rwx S 12 (fun j => S 7 j) i 7 i = S 7 i := by rw [rwx_n (by decide)]
    rw [← rwx_s]
    unfold FB_X5_looser_27
    rw [if_neg h36, gd_t (ix_n hi (by decide)), gd_t (ix_n hi (by decide)), nI_clamp (show i < 2 ^ 31 by omega), bd_s, nI_1, e12]
  · show FB_X5_looser_27 4096 k x1 (nI 36) (rwx S 12 (fun j => S 7 j) 36) = _
    unfold FB_X5_looser_27
    rw [if_pos (by decide)]
theorem pu_17 : lp_17 4096 Rel := by
  intro x Su Sm ⟨K, hR⟩
  have hK := hR.1
  rcases c_in x 1 (by decide) with ⟨gu, gm⟩ | ⟨w, hw, rfl, gu, gm⟩
  · have gu : f_X4_within x 0 1 = some 0 := gu
    have gm : f_X5_in x 0 1 = some 0 := gm
    refine ⟨-2, Su, ?_, Sm, ?_, K, hR⟩
    · unfold f_X4_looser
      rw [gu, bd_s, if_pos rfl]
    · unfold f_X5_looser
      rw [gm, bd_s, if_pos rfl]
  · have gu : f_X4_within (nI w) 0 1 = some 1 := gu
    have gm : f_X5_in (nI w) 0 1 = some 1 := gm
    obtain ⟨e1, c1, w1⟩ := x3_spin hK hR.2.1
    have hl := x5_lay hK hR.2.2.1
    have ho := mOK_lay hR.2.2.1
    have es := x3_someGoodWith hK w1 (prt_lt hK)
    obtain ⟨d, em⟩ := x5_sgd (set := prt K) hK (by decide) ho pbits.1 pbits.2
    have cu : coU Su (r25 (spF K Su) (ltS K (prt K) 31) 6) := coU_trans c1 r25_co
    have cm : coM Sm (q10 (layF K Sm) d) := coM_trans (layF_co K Sm) q10_co
    by_cases q : rmN K (prt K) 31 = 0
    · have q0 : sgd K (prt K) = 0 := by rw [sg01]; exact q
      obtain ⟨⟨ru, Su'⟩, ⟨h1, h2⟩, h3⟩ := x4_cheapestLooser (x1 := nI w) hK (rep_co hR.2.1 cu)
      have hRm := repM_co hR.2.2.1 cm
      obtain ⟨⟨rm', Sm'⟩, ⟨g1, g2⟩, g3⟩ := x5_l59 (x1 := nI w) hK hRm (S0 := rwx (q10 (layF K Sm) d) 12 (fun j => q10 (layF K Sm) d 7 j) 36) ⟨rwx_coM (by omega), fun u hu => by rw [rwx_at hu]; exact mK hRm hu⟩
      refine ⟨if nI w = 0 then pI (lsO K 3) else cI (lsO K 3), Su', ?_, Sm', ?_, K, RelK_co hR (coU_trans cu h2) (coM_trans cm g2)⟩
      · unfold f_X4_looser
        rw [gu, bd_s, if_neg z01, e1, bd_s, w1.2.2.1, es, bd2_s, if_pos q0, h3, bd2_s]
        exact congrArg (fun z => some (z, Su')) h1
      · unfold f_X5_looser
        rw [gm, bd_s, if_neg z01, hl, bd_s, em, bd2_s, if_pos q0, x5_l27, g3]
        exact congrArg (fun z => some (z, Sm')) g1
    · have q0 : ¬ sgd K (prt K) = 0 := by rw [sg01]; exact q
      refine ⟨0, _, ?_, _, ?_, K, RelK_co hR cu cm⟩
      · unfold f_X4_looser
        rw [gu, bd_s, if_neg z01, e1, bd_s, w1.2.2.1, es, bd2_s, if_neg q0]
      · unfold f_X5_looser
        rw [gm, bd_s, if_neg z01, hl, bd_s, em, bd2_s, if_neg q0]
