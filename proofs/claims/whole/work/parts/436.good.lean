/-! good: how many -/
def sm (f : Nat → Nat) : Nat → Nat
  | 0 => 0
  | n + 1 => sm f n + f n
theorem sm_congr {f g : Nat → Nat} : ∀ n, (∀ i, i < n → f i = g i) → sm f n = sm g n
  | 0, _ => rfl
  | n + 1, h => by unfold sm; rw [sm_congr n (fun i hi => h i (by omega)), h n (by omega)]
theorem sm_add {f g : Nat → Nat} : ∀ n, sm (fun i => f i + g i) n = sm f n + sm g n
  | 0 => rfl
  | n + 1 => by unfold sm; rw [sm_add n]; omega
theorem sm_mul {f : Nat → Nat} (a : Nat) : ∀ n, a * sm f n = sm (fun i => a * f i) n
  | 0 => rfl
  | n + 1 => by unfold sm; rw [Nat.mul_add, sm_mul a n]
theorem sm_zero : ∀ n, sm (fun _ => 0) n = 0
  | 0 => rfl
  | n + 1 => by unfold sm; rw [sm_zero n]
theorem sm_comm {f : Nat → Nat → Nat} (m : Nat) : ∀ n, sm (fun i => sm (fun j => f i j) m) n = sm (fun j => sm (fun i => f i j) n) m
  | 0 => (sm_zero m).symm
  | n + 1 => by
    show sm (fun i => sm (fun j => f i j) m) n + sm (fun j => f n j) m = sm (fun j => sm (fun i => f i j) n + f n j) m
    rw [sm_comm m n, sm_add]
theorem sm_cup {D e : Nat → Nat} {i a : Nat} : ∀ n, sm (fun g => cup D i (D i + a) g * e g) n = sm (fun g => D g * e g) n + if i < n then a * e i else 0
  | 0 => by rw [if_neg (by omega)]; rfl
  | n + 1 => by
    show sm (fun g => cup D i (D i + a) g * e g) n + cup D i (D i + a) n * e n = sm (fun g => D g * e g) n + D n * e n + _
    rw [sm_cup n]
    by_cases h : n = i
    · subst h
      rw [if_neg (by omega), if_pos (by omega), cup_at, Nat.add_mul]; omega
    · rw [cup_ne h]
      by_cases q : i < n
      · rw [if_pos q, if_pos (by omega)]; omega
      · rw [if_neg q, if_neg (by omega)]; omega
/-- how many ends are good -/
def En (K : Nat → Nat → Nat) : Nat → Nat → Nat
  | 0, g => if g = 0 then 0 else 1
  | n + 1, g => sm (fun t => if (alw K (5 - n)).testBit t = true then En K n (g &&& gq K (5 - n) t) else 0) 5
def gup (K : Nat → Nat → Nat) (b : Nat) (c : Nat → Nat) : Nat := if mg K 0 c 6 = 0 then b else b + 1
def lsm (e : Nat → Nat) : List Nat → Nat
  | [] => 0
  | t :: l => e t + lsm e l
theorem lsm_lst (e : Nat → Nat) (b : Nat) : lsm e (lst b) = sm (fun t => if b.testBit t = true then e t else 0) 5 := by
  unfold lst
  rw [show List.range 5 = [0, 1, 2, 3, 4] from rfl]
  show _ = 0 + (if b.testBit 0 = true then e 0 else 0) + (if b.testBit 1 = true then e 1 else 0) + (if b.testBit 2 = true then e 2 else 0) + (if b.testBit 3 = true then e 3 else 0) + (if b.testBit 4 = true then e 4 else 0)
  simp only [List.filter_cons, List.filter_nil]
  generalize b.testBit 0 = b0
  generalize b.testBit 1 = b1
  generalize b.testBit 2 = b2
  generalize b.testBit 3 = b3
  generalize b.testBit 4 = b4
  cases b0 <;> cases b1 <;> cases b2 <;> cases b3 <;> cases b4 <;> simp [lsm] <;> omega
theorem fold_fm {f : Nat → List (Nat → Nat)} {up : Nat → (Nat → Nat) → Nat} {e : Nat → Nat} : ∀ (ts : List Nat) (b : Nat), (∀ t, t ∈ ts → ∀ b, (f t).foldl up b = b + e t) → (ts.flatMap f).foldl up b = b + lsm e ts
  | [], b, _ => by simp [lsm]
  | t :: l, b, h => by
    rw [List.flatMap_cons, List.foldl_append, h t (List.mem_cons_self ..), fold_fm l _ (fun u hu => h u (List.mem_cons_of_mem _ hu))]
    show b + e t + lsm e l = b + (e t + lsm e l)
    omega
theorem mg_cup {K : Nat → Nat → Nat} {m p t : Nat} {c : Nat → Nat} : ∀ i, i ≤ p → mg K m (cup c p t) i = mg K m c i
  | 0, _ => rfl
  | i + 1, h => by
    show mg K m (cup c p t) i &&& gm K m i (cup c p t i) = mg K m c i &&& gm K m i (c i)
    rw [mg_cup i (by omega), cup_ne (by omega)]
theorem en_En {K : Nat → Nat → Nat} : ∀ n, n ≤ 6 → ∀ c b, (en (alw K) n c).foldl (gup K) b = b + En K n (mg K 0 c (6 - n))
  | 0, _, c, b => by
    show gup K b c = b + (if mg K 0 c 6 = 0 then 0 else 1)
    unfold gup
    by_cases e : mg K 0 c 6 = 0
    · rw [if_pos e, if_pos e]; rfl
    · rw [if_neg e, if_neg e]
  | n + 1, h, c, b => by
    show ((lst (alw K (5 - n))).flatMap (fun t => en (alw K) n (cup c (5 - n) t))).foldl (gup K) b = b + sm (fun t => if (alw K (5 - n)).testBit t = true then En K n (mg K 0 c (6 - (n + 1)) &&& gq K (5 - n) t) else 0) 5
    rw [← lsm_lst (fun t => En K n (mg K 0 c (6 - (n + 1)) &&& gq K (5 - n) t))]
    refine fold_fm _ _ (fun t _ b => ?_)
    rw [en_En n (by omega)]
    have e : mg K 0 (cup c (5 - n) t) (6 - n) = mg K 0 c (6 - (n + 1)) &&& gq K (5 - n) t := by
      rw [show 6 - n = (5 - n) + 1 by omega, show 6 - (n + 1) = 5 - n by omega]
      show mg K 0 (cup c (5 - n) t) (5 - n) &&& gm K 0 (5 - n) (cup c (5 - n) t (5 - n)) = _
      rw [mg_cup _ (Nat.le_refl _), cup_at, gm0]
    rw [e]
def goN (K : Nat → Nat → Nat) : Nat := En K 6 (cho K (K 0 9))
theorem goN_f {K : Nat → Nat → Nat} : (allC K).foldl (gup K) 0 = goN K := by
  unfold allC
  rw [en_En 6 (by decide), Nat.zero_add]
  rfl
theorem x5_good {K : Nat → Nat → Nat} {S : St} (hK : okK K) (h3 : rep K (vM S)) : ∃ z, f_X5_good 4096 S = some (nI (goN K), q10 (layF K S) z) := by
  obtain ⟨z, hs, hz⟩ := allC_seg hK
  have hlen := allC_len hK
  have h := mOK_lay h3
  refine ⟨rst (alw K) 6 z, ?_⟩
  unfold f_X5_good
  rw [x5_lay hK h3, bd_s, x5_begin hK h, bd_s, ← goN_f]
  have hb : ∀ b c k, okC K c → FB_X5_good_12 4096 k (nI b) 1 (q10 (layF K S) c) = bd2 (f_X5_next 4096 (q10 (layF K S) c)) fun r2 S1 => k (nI (gup K b c), r2, S1) := fun b c k hc => by
    have hl := mg_lt (m := 0) (c := c) hK 6
    unfold FB_X5_good_12 B_X5_good_29
    rw [if_neg z01, x5_mayGo hK (by decide) h (okC5 hc), bd_s, it_0 (by omega), bd_s, bd_s, add0, nI_1]
    unfold gup
    by_cases e : mg K 0 c 6 = 0
    · rw [if_pos e, if_pos e]
    · rw [if_neg e, if_neg e]
  refine lp_seg (F := F_X5_good_12 4096) (a := alw K) (z := z) (res := fun b => some (nI b, q10 (layF K S) (rst (alw K) 6 z))) (fun b c => (nI b, 1, q10 (layF K S) c)) (fun b => (nI b, 0, q10 (layF K S) (rst (alw K) 6 z))) (gup K) (fun _ => True) (okC K) (fun b c _ hc => trivial) (fun b c c' _ hc hst k => ?_) (fun b _ hc k => ?_) (fun b _ k => ?_) (allC K) _ 0 4096 hs (fun c hc => (allC_mem.mp hc).1) trivial (by omega)
  · show FB_X5_good_12 4096 k (nI b) 1 (q10 (layF K S) c) = _
    rw [hb b c k hc, x5_next1 hK h hc hst, bd2_s]
  · show FB_X5_good_12 4096 k (nI b) 1 (q10 (layF K S) z) = _
    rw [hb b z k hc, x5_next0 hK h hc hz, bd2_s]
  · show FB_X5_good_12 4096 k (nI b) 0 (q10 (layF K S) (rst (alw K) 6 z)) = _
    unfold FB_X5_good_12
    rw [if_pos rfl]
/-- the class's count: rows 26 and 27 -/
theorem lp_rel2 {α β γ : Type} {F : (γ → Option β) → (α → Option β) → α → Option β} {Q : γ → Prop} (P : Nat → α → Prop) (n N : Nat) (hN : n < N) (hs : ∀ i, i < n → ∀ x, P i x → ∃ x', P (i + 1) x' ∧ ∀ k9 k, F k9 k x = k x') (hx : ∀ x, P n x → ∃ y, Q y ∧ ∀ k9 k, F k9 k x = k9 y) {x : α} (h0 : P 0 x) : ∃ y, Q y ∧ ∀ k9, lpI (F k9) N x = k9 y := by
  have key : ∀ d i, i + d = n → ∀ M, d < M → ∀ y, P i y → ∃ r, Q r ∧ ∀ k9, lpI (F k9) M y = k9 r := by
    intro d
    induction d with
    | zero =>
      intro i hi M hM y hy
      have e : i = n := by omega
      subst e
      obtain ⟨r, hr, hk⟩ := hx y hy
      match M, hM with
      | M + 1, _ => exact ⟨r, hr, fun k9 => hk k9 _⟩
    | succ d ih =>
      intro i hi M hM y hy
      obtain ⟨y', hy', hk⟩ := hs i (by omega) y hy
      match M, hM with
      | M + 1, hM =>
        obtain ⟨r, hr, e⟩ := ih (i + 1) (by omega) M (by omega) y' hy'
        exact ⟨r, hr, fun k9 => by show F k9 (lpI (F k9) M) y = k9 r; rw [hk]; exact e k9⟩
  exact key n 0 (by omega) N hN x h0
def o27 (S S' : St) : Prop := ∀ k, k ≠ 27 → S' k = S k
/-- what one term brings -/
def tw (K : Nat → Nat → Nat) (p : Nat) (D e : Nat → Nat) (t n : Nat) : Nat := if (cho K p).testBit t = true then sm (fun g => D g * e (g &&& gq K p t)) n else 0
theorem and_lt32 {a b : Nat} (h : a < 32) : a &&& b < 32 := Nat.lt_of_le_of_lt Nat.and_le_left h
theorem x3_cw30 {K : Nat → Nat → Nat} {S S1 : St} {p t : Nat} {D E0 e : Nat → Nat} (hK : okK K) (h : webOK K S) (hp : p < 6) (ht : t < 5) (hD : ∀ g, g < 32 → S 26 g = nI (D g)) (hS : o27 S S1) (hE : ∀ g, g < 32 → S1 27 g = nI (E0 g)) : ∃ y, (∃ (S2 : St) (E2 : Nat → Nat), y = (nI p, nI (t + 1), S2) ∧ o27 S S2 ∧ (∀ g, g < 32 → S2 27 g = nI (E2 g)) ∧ sm (fun g => E2 g * e g) 32 = sm (fun g => E0 g * e g) 32 + tw K p D e t 32) ∧ ∀ k9, lpI (F_X3_countWith_30 4096 k9) 4096 (nI p, nI t, 0, S1) = k9 y := by
  have hc := cho_lt hK hp
  refine lp_rel2 (F := F_X3_countWith_30 4096) (fun i x => ∃ (S2 : St) (E2 : Nat → Nat), x = (nI p, nI t, nI i, S2) ∧ o27 S S2 ∧ (∀ g, g < 32 → S2 27 g = nI (E2 g)) ∧ sm (fun g => E2 g * e g) 32 = sm (fun g => E0 g * e g) 32 + tw K p D e t i) 32 4096 (by decide) (fun i hi x hx => ?_) (fun x hx => ?_) ⟨S1, E0, rfl, hS, hE, by unfold tw; by_cases q : (cho K p).testBit t = true; rw [if_pos q]; rfl; rw [if_neg q]; rfl⟩
  · obtain ⟨S2, E2, ex, hS2, hE2, hsm⟩ := hx
    subst ex
    have h31 : ¬ (31 : Int32) < nI i := by
      have q : ∀ i, i < 32 → ¬ (31 : Int32) < nI i := by decide +kernel
      exact q i hi
    have hw2 : webOK K S2 := web_out h (fun k hk => hS2 k (by omega))
    have hm : 5 * p + t < 30 := by omega
    have hg : gq K p t < 32 := gq_lt hK ht
    have hag : i &&& gq K p t < 32 := and_lt32 hi
    by_cases q : (cho K p).testBit t = true
    · refine ⟨_, ⟨sto S2 27 (i &&& gq K p t) (nI (E2 (i &&& gq K p t) + D i)), cup E2 (i &&& gq K p t) (E2 (i &&& gq K p t) + D i), rfl, fun k hk => by rw [sto_n hk]; exact hS2 k hk, fun g hg => ?_, ?_⟩, fun k9 k => ?_⟩
      · rw [sto_s]; unfold cup
        by_cases z : g = i &&& gq K p t
        · rw [if_pos z, if_pos z]
        · rw [if_neg z, if_neg z]; exact hE2 g hg
      · rw [sm_cup, if_pos hag, hsm]
        unfold tw
        rw [if_pos q, if_pos q]
        show _ = _ + (sm (fun g => D g * e (g &&& gq K p t)) i + D i * e (i &&& gq K p t))
        omega
      · show FB_X3_countWith_30 4096 k9 k (nI p) (nI t) (nI i) S2 = _
        have d26 : S2 26 i = nI (D i) := by rw [hS2 _ (by decide)]; exact hD i hi
        unfold FB_X3_countWith_30 f_X3_offer
        simp only [if_neg h31, gd_t (ix_n hp (show 6 ≤ 65536 by decide)), nI_clamp (show p < 2 ^ 31 by omega), hw2.2.2.2.1 p hp, x4_has (show cho K p < 64 by omega) (show t < 10 by omega), bd_s, i5', gd_t (ix_n hm (show 30 ≤ 65536 by decide)), nI_clamp (show 5 * p + t < 2 ^ 31 by omega), hw2.2.2.2.2.2.1 p t hp ht, pa_and, gd_t (ix_n hag (show 32 ≤ 65536 by decide)), nI_clamp (show (i &&& gq K p t) < 2 ^ 31 by omega), gd_t (ix_n hi (show 32 ≤ 65536 by decide)), nI_clamp (show i < 2 ^ 31 by omega), d26, hE2 _ hag, nI_add, nI_1]
        rw [it_b, if_pos q]
    · refine ⟨_, ⟨S2, E2, rfl, hS2, hE2, ?_⟩, fun k9 k => ?_⟩
      · rw [hsm]; unfold tw; rw [if_neg q, if_neg q]
      · show FB_X3_countWith_30 4096 k9 k (nI p) (nI t) (nI i) S2 = _
        unfold FB_X3_countWith_30
        rw [if_neg h31, gd_t (ix_n hp (show 6 ≤ 65536 by decide)), nI_clamp (show p < 2 ^ 31 by omega), hw2.2.2.2.1 p hp, x4_has (show cho K p < 64 by omega) (show t < 10 by omega), bd_s, it_b, if_neg q, nI_1]
  · obtain ⟨S2, E2, ex, hS2, hE2, hsm⟩ := hx
    subst ex
    refine ⟨(nI p, nI (t + 1), S2), ⟨S2, E2, rfl, hS2, hE2, hsm⟩, fun k9 k => ?_⟩
    show FB_X3_countWith_30 4096 k9 k (nI p) (nI t) (nI 32) S2 = _
    unfold FB_X3_countWith_30
    rw [if_pos (by decide), nI_1]
theorem x3_countWith {K : Nat → Nat → Nat} {S : St} {p : Nat} {D e : Nat → Nat} (hK : okK K) (h : webOK K S) (hp : p < 6) (hD : ∀ g, g < 32 → S 26 g = nI (D g)) : ∃ S', (∃ E2 : Nat → Nat, webOK K S' ∧ coU S S' ∧ (∀ g, g < 32 → S' 26 g = nI (E2 g)) ∧ sm (fun g => E2 g * e g) 32 = sm (fun t => tw K p D e t 32) 5) ∧ f_X3_countWith 4096 (nI p) S = some S' := by
  unfold f_X3_countWith
  refine lp_rel (F := F_X3_countWith_2 4096) (fun i x => x = (nI p, nI i, rwx S 27 (fun _ => nI 0) i)) 32 4096 (by decide) (fun i hi x hx => ?_) (fun x hx => ?_) (by rw [rwx_0]; rfl)
  · subst hx
    refine ⟨_, rfl, fun k => ?_⟩
    show FB_X3_countWith_2 4096 k (nI p) (nI i) (rwx S 27 (fun _ => nI 0) i) = _
    have h31 : ¬ (31 : Int32) < nI i := by
      have q : ∀ i, i < 32 → ¬ (31 : Int32) < nI i := by decide +kernel
      exact q i hi
    rw [← rwx_s]
    unfold FB_X3_countWith_2
    rw [if_neg h31, gd_t (ix_n hi (by decide)), nI_clamp (show i < 2 ^ 31 by omega), bd_s, nI_1]
    rfl
  · subst hx
    have hf : ∀ k, F_X3_countWith_2 4096 k (nI p, nI 32, rwx S 27 (fun _ => nI 0) 32) = lpI (F_X3_countWith_23 4096) 4096 (nI p, 0, rwx S 27 (fun _ => nI 0) 32) := fun k => by
      show FB_X3_countWith_2 4096 k (nI p) (nI 32) (rwx S 27 (fun _ => nI 0) 32) = _
      unfold FB_X3_countWith_2
      rw [if_pos (by decide)]
    have key : ∃ r, (∃ E2 : Nat → Nat, webOK K r ∧ coU S r ∧ (∀ g, g < 32 → r 26 g = nI (E2 g)) ∧ sm (fun g => E2 g * e g) 32 = sm (fun t => tw K p D e t 32) 5) ∧ lpI (F_X3_countWith_23 4096) 4096 (nI p, 0, rwx S 27 (fun _ => nI 0) 32) = some r := by
      refine lp_rel (F := F_X3_countWith_23 4096) (fun t x => ∃ (S2 : St) (E2 : Nat → Nat), x = (nI p, nI t, S2) ∧ o27 S S2 ∧ (∀ g, g < 32 → S2 27 g = nI (E2 g)) ∧ sm (fun g => E2 g * e g) 32 = sm (fun t => tw K p D e t 32) t) 5 4096 (by decide) (fun t ht x hx => ?_) (fun x hx => ?_) ⟨_, fun _ => 0, rfl, fun k hk => rwx_n hk, fun g hg => rwx_at hg, ?_⟩
      · obtain ⟨S2, E2, ex, hS2, hE2, hsm⟩ := hx
        subst ex
        obtain ⟨y, ⟨S3, E3, ey, hS3, hE3, hsm3⟩, hk⟩ := x3_cw30 (e := e) hK h hp ht hD hS2 hE2
        subst ey
        refine ⟨_, ⟨S3, E3, rfl, hS3, hE3, by rw [hsm3, hsm]; rfl⟩, fun k => ?_⟩
        show FB_X3_countWith_23 4096 k (nI p) (nI t) S2 = _
        have h5 : ¬ (5 : Int32) ≤ nI t := nI_ge (a := t) (b := 5) ht (by decide)
        unfold FB_X3_countWith_23
        rw [if_neg h5, hk]
      · obtain ⟨S2, E2, ex, hS2, hE2, hsm⟩ := hx
        subst ex
        have n2 : ∀ k, k ≠ 26 → k ≠ 27 → k ≠ 3 → swapU S2 k = S k := fun k h1 h2 h3 => by
          unfold swapU; rw [if_neg h1, if_neg h2, if_neg h3]; exact hS2 k h2
        have n3 : ∀ j, j ≠ 11 → swapU S2 3 j = S 3 j := fun j hj => by
          rw [← hS2 3 (by decide)]
          show upd (S2 3) 11 _ j = _
          unfold upd
          rw [if_neg hj]
        refine ⟨swapU S2, ⟨E2, ?_, ⟨n2 _ (by decide) (by decide) (by decide), n2 _ (by decide) (by decide) (by decide), fun k _ _ => n2 _ (by omega) (by omega) (by omega), fun k _ _ => n2 _ (by omega) (by omega) (by omega), by rw [n2 _ (by decide) (by decide) (by decide)]⟩, fun g hg => hE2 g hg, hsm⟩, fun k => ?_⟩
        · obtain ⟨a1, a2, a3, a4, a5, a6, a7, a8, a9, a10⟩ := h
          exact ⟨by rw [n2 _ (by decide) (by decide) (by decide)]; exact a1, by rw [n3 _ (by decide)]; exact a2, by rw [n3 _ (by decide)]; exact a3, by rw [n2 _ (by decide) (by decide) (by decide)]; exact a4, by rw [n2 _ (by decide) (by decide) (by decide)]; exact a5, by rw [n2 _ (by decide) (by decide) (by decide)]; exact a6, by rw [n2 _ (by decide) (by decide) (by decide)]; exact a7, by rw [n2 _ (by decide) (by decide) (by decide)]; exact a8, by rw [n2 _ (by decide) (by decide) (by decide)]; exact a9, by rw [n2 _ (by decide) (by decide) (by decide)]; exact a10⟩
        · show FB_X3_countWith_23 4096 k (nI p) (nI 5) S2 = _
          unfold FB_X3_countWith_23
          rw [if_pos (by decide)]
      · have e0 : (fun g => (fun _ => 0) g * e g) = fun _ : Nat => 0 := by funext g; exact Nat.zero_mul _
        rw [e0, sm_zero]; rfl
    obtain ⟨r, hr, he⟩ := key
    exact ⟨r, hr, fun k => by rw [hf, he]⟩
theorem En_s {K : Nat → Nat → Nat} {p : Nat} {D : Nat → Nat} (hp : p < 6) (e : (prt K).testBit p = true) : sm (fun t => tw K p D (En K (5 - p)) t 32) 5 = sm (fun g => D g * En K (6 - p) g) 32 := by
  have e1 : ∀ g, En K (6 - p) g = sm (fun t => if (cho K p).testBit t = true then En K (5 - p) (g &&& gq K p t) else 0) 5 := fun g => by
    rw [show 6 - p = (5 - p) + 1 by omega]
    show sm (fun t => if (alw K (5 - (5 - p))).testBit t = true then En K (5 - p) (g &&& gq K (5 - (5 - p)) t) else 0) 5 = _
    rw [show 5 - (5 - p) = p by omega]
    unfold alw
    rw [if_pos e]
  have e2 : (fun g => D g * En K (6 - p) g) = fun g => sm (fun t => D g * (if (cho K p).testBit t = true then En K (5 - p) (g &&& gq K p t) else 0)) 5 := by
    funext g; rw [e1, sm_mul]
  rw [e2, sm_comm]
  refine sm_congr 5 (fun t ht => ?_)
  unfold tw
  by_cases q : (cho K p).testBit t = true
  · rw [if_pos q]
    refine sm_congr 32 (fun g _ => ?_)
    rw [if_pos q]
  · rw [if_neg q]
    have e3 : (fun i => D i * (if (cho K p).testBit t = true then En K (5 - p) (i &&& gq K p t) else 0)) = fun _ => 0 := by
      funext i; rw [if_neg q, Nat.mul_zero]
    rw [e3, sm_zero]
theorem En_n {K : Nat → Nat → Nat} {p g : Nat} (hp : p < 6) (hg : g < 32) (e : ¬ (prt K).testBit p = true) : En K (6 - p) g = En K (5 - p) g := by
  rw [show 6 - p = (5 - p) + 1 by omega]
  show sm (fun t => if (alw K (5 - (5 - p))).testBit t = true then En K (5 - p) (g &&& gq K (5 - (5 - p)) t) else 0) 5 = _
  rw [show 5 - (5 - p) = p by omega]
  have ea : alw K p = 1 := by unfold alw; rw [if_neg e]
  have eg : ∀ t, g &&& gq K p t = g := fun t => by rw [gq_no e, and31' g hg]
  rw [ea]
  show 0 + (if (1 : Nat).testBit 0 = true then En K (5 - p) (g &&& gq K p 0) else 0) + (if (1 : Nat).testBit 1 = true then En K (5 - p) (g &&& gq K p 1) else 0) + (if (1 : Nat).testBit 2 = true then En K (5 - p) (g &&& gq K p 2) else 0) + (if (1 : Nat).testBit 3 = true then En K (5 - p) (g &&& gq K p 3) else 0) + (if (1 : Nat).testBit 4 = true then En K (5 - p) (g &&& gq K p 4) else 0) = _
  rw [if_pos (by decide), if_neg (by decide), if_neg (by decide), if_neg (by decide), if_neg (by decide), eg]
  omega
theorem x3_cg73 {S : St} {D : Nat → Nat} (hD : ∀ g, g < 32 → S 26 g = nI (D g)) : lpI (F_X3_countGood_73 4096) 4096 (0, 1, S) = some (nI (sm (fun g => D g * En (fun _ _ => 0) 0 g) 32), S) := by
  have e1 : ∀ i, sm (fun g => D g * En (fun _ _ => 0) 0 g) (i + 1) = sm (fun j => D (j + 1)) i := fun i => by
    induction i with
    | zero => show 0 + D 0 * 0 = 0; omega
    | succ i ih =>
      show sm (fun g => D g * En (fun _ _ => 0) 0 g) (i + 1) + D (i + 1) * (if i + 1 = 0 then 0 else 1) = sm (fun j => D (j + 1)) i + D (i + 1)
      rw [ih, if_neg (by omega)]; omega
  rw [e1 31]
  refine lp_run (F := F_X3_countGood_73 4096) (fun i => (nI (sm (fun j => D (j + 1)) i), nI (i + 1), S)) 31 4096 (by decide) (fun i hi k => ?_) (fun k => ?_)
  · show FB_X3_countGood_73 4096 k (nI (sm (fun j => D (j + 1)) i)) (nI (i + 1)) S = k (nI (sm (fun j => D (j + 1)) i + D (i + 1)), nI (i + 1 + 1), S)
    have h31 : ¬ (31 : Int32) < nI (i + 1) := nI_nlt (a := 31) (by omega) (by decide)
    unfold FB_X3_countGood_73
    rw [if_neg h31, gd_t (ix_n (show i + 1 < 32 by omega) (by decide)), nI_clamp (show i + 1 < 2 ^ 31 by omega), hD _ (by omega), bd_s, nI_add, nI_1]
  · show FB_X3_countGood_73 4096 k (nI (sm (fun j => D (j + 1)) 31)) (nI 32) S = _
    unfold FB_X3_countGood_73
    rw [if_pos (by decide)]
theorem sm_delta {e : Nat → Nat} {a : Nat} : ∀ n, sm (fun g => (if g = a then 1 else 0) * e g) n = if a < n then e a else 0
  | 0 => by rw [if_neg (by omega)]; rfl
  | n + 1 => by
    show sm (fun g => (if g = a then 1 else 0) * e g) n + (if n = a then 1 else 0) * e n = _
    rw [sm_delta n]
    by_cases q : n = a
    · subst q; rw [if_neg (by omega), if_pos rfl, if_pos (by omega)]; omega
    · rw [if_neg q]
      by_cases z : a < n
      · rw [if_pos z, if_pos (by omega)]; omega
      · rw [if_neg z, if_neg (by omega)]; omega
theorem x3_countGood {K : Nat → Nat → Nat} {S : St} (hK : okK K) (h : webOK K S) : ∃ r, (r.1 = nI (goN K) ∧ coU S r.2) ∧ f_X3_countGood 4096 S = some r := by
  have hwh := kWh hK
  have hcw := cho_lt hK hwh
  unfold f_X3_countGood
  refine lp_rel (F := F_X3_countGood_2 4096) (fun i x => x = (nI i, rwx S 26 (fun _ => nI 0) i)) 32 4096 (by decide) (fun i hi x hx => ?_) (fun x hx => ?_) (by rw [rwx_0]; rfl)
  · subst hx
    refine ⟨_, rfl, fun k => ?_⟩
    show FB_X3_countGood_2 4096 k (nI i) (rwx S 26 (fun _ => nI 0) i) = _
    have h31 : ¬ (31 : Int32) < nI i := by
      have q : ∀ i, i < 32 → ¬ (31 : Int32) < nI i := by decide +kernel
      exact q i hi
    rw [← rwx_s]
    unfold FB_X3_countGood_2
    rw [if_neg h31, gd_t (ix_n hi (by decide)), nI_clamp (show i < 2 ^ 31 by omega), bd_s, nI_1]
    rfl
  · subst hx
    have h0 : webOK K (rwx S 26 (fun _ => nI 0) 32) := web_rwx h (by omega)
    have hf : ∀ k, F_X3_countGood_2 4096 k (nI 32, rwx S 26 (fun _ => nI 0) 32) = lpI (F_X3_countGood_41 4096) 4096 (0, sto (rwx S 26 (fun _ => nI 0) 32) 26 (cho K (K 0 9)) 1) := fun k => by
      show FB_X3_countGood_2 4096 k (nI 32) (rwx S 26 (fun _ => nI 0) 32) = _
      unfold FB_X3_countGood_2
      rw [if_pos (by decide)]
      simp only [h0.1, nI_clamp (show K 0 9 < 2 ^ 31 by omega), h0.2.2.2.1 _ hwh, gd_t (ix_n hwh (show 6 ≤ 65536 by decide)), gd_t (ix_n hcw (show 32 ≤ 65536 by decide)), nI_clamp (show cho K (K 0 9) < 2 ^ 31 by omega), bd_s]
    have key : ∃ r, (r.1 = nI (goN K) ∧ coU S r.2) ∧ lpI (F_X3_countGood_41 4096) 4096 (0, sto (rwx S 26 (fun _ => nI 0) 32) 26 (cho K (K 0 9)) 1) = some r := by
      refine lp_rel (F := F_X3_countGood_41 4096) (fun p x => ∃ (S2 : St) (D : Nat → Nat), x = (nI p, S2) ∧ webOK K S2 ∧ coU S S2 ∧ (∀ g, g < 32 → S2 26 g = nI (D g)) ∧ sm (fun g => D g * En K (6 - p) g) 32 = goN K) 6 4096 (by decide) (fun p hp x hx => ?_) (fun x hx => ?_) ⟨_, fun g => if g = cho K (K 0 9) then 1 else 0, rfl, web_out h0 (fun k hk => sto_n (by omega)), coU_trans (rwx_coU (by omega)) (coU_sto (by omega)), fun g hg => ?_, ?_⟩
      · obtain ⟨S2, D, ex, hw2, hc2, hD, hsm⟩ := hx
        subst ex
        have h6 : ¬ (6 : Int32) ≤ nI p := nI_ge (a := p) (b := 6) hp (by decide)
        by_cases e : (prt K).testBit p = true
        · obtain ⟨S3, ⟨E2, w3, c3, hE, hsm3⟩, he⟩ := x3_countWith (e := En K (5 - p)) hK hw2 hp hD
          refine ⟨_, ⟨S3, E2, rfl, w3, coU_trans hc2 c3, hE, ?_⟩, fun k => ?_⟩
          · rw [show 6 - (p + 1) = 5 - p by omega, hsm3, En_s hp e, hsm]
          · show FB_X3_countGood_41 4096 k (nI p) S2 = _
            unfold FB_X3_countGood_41
            rw [if_neg h6, hw2.2.2.1, x4_has (prt_lt hK) (show p < 10 by omega), bd_s, it_b, if_pos e, he, bd_s, nI_1]
        · refine ⟨_, ⟨S2, D, rfl, hw2, hc2, hD, ?_⟩, fun k => ?_⟩
          · rw [show 6 - (p + 1) = 5 - p by omega, ← hsm]
            exact sm_congr 32 (fun g hg => by rw [En_n hp hg e])
          · show FB_X3_countGood_41 4096 k (nI p) S2 = _
            unfold FB_X3_countGood_41
            rw [if_neg h6, hw2.2.2.1, x4_has (prt_lt hK) (show p < 10 by omega), bd_s, it_b, if_neg e, nI_1]
      · obtain ⟨S2, D, ex, hw2, hc2, hD, hsm⟩ := hx
        subst ex
        refine ⟨(nI (goN K), S2), ⟨rfl, hc2⟩, fun k => ?_⟩
        show FB_X3_countGood_41 4096 k (nI 6) S2 = _
        unfold FB_X3_countGood_41
        rw [if_pos (by decide), x3_cg73 hD, ← hsm]
        rfl
      · show _ = nI (if g = cho K (K 0 9) then 1 else 0)
        rw [sto_s]
        by_cases q : g = cho K (K 0 9)
        · rw [if_pos q, if_pos q]; rfl
        · rw [if_neg q, if_neg q, rwx_at hg]
      · rw [sm_delta, if_pos hcw]; rfl
    obtain ⟨r, hr, he⟩ := key
    exact ⟨r, hr, fun k => by rw [hf, he]⟩
theorem pu_14 : lp_14 4096 Rel := by
  intro Su Sm ⟨K, hR⟩
  obtain ⟨e1, c1, w1⟩ := x3_spin hR.1 hR.2.1
  obtain ⟨⟨r, S'⟩, ⟨h1, h2⟩, h3⟩ := x3_countGood hR.1 w1
  obtain ⟨z, g⟩ := x5_good hR.1 hR.2.2.1
  have h1 : r = nI (goN K) := h1
  refine ⟨nI (goN K), S', ?_, _, g, K, RelK_co hR (coU_trans c1 h2) (coM_trans (layF_co K Sm) q10_co)⟩
  unfold f_X4_good
  rw [e1, bd_s, h3, bd2_s, h1]
