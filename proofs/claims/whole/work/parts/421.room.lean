/-! the class's room -/
def mcs (K : Nat → Nat → Nat) (p t bo : Nat) : Bool := (cho K p).testBit t && (ndf (aq K p t) bo == 0)
def lo (K : Nat → Nat → Nat) (p bo : Nat) : Nat → Nat
  | 0 => 0
  | t + 1 => if mcs K p t bo = true then lo K p bo t ||| gq K p t else lo K p bo t
def ltS (K : Nat → Nat → Nat) (set bo p : Nat) : Nat := if set.testBit p = true then lo K p bo 5 else 31
def rl (w : Nat) (f : Nat → Nat) : Nat → Nat
  | 0 => w
  | i + 1 => rl w f i &&& f i
theorem lo_lt {K : Nat → Nat → Nat} {p bo : Nat} (hK : okK K) : ∀ t, t ≤ 5 → lo K p bo t < 32
  | 0, _ => by show 0 < 32; decide
  | t + 1, h => by
    unfold lo
    split
    · exact Nat.or_lt_two_pow (n := 5) (lo_lt hK t (by omega)) (gq_lt hK (by omega))
    · exact lo_lt hK t (by omega)
theorem ltS_lt {K : Nat → Nat → Nat} {set bo p : Nat} (hK : okK K) : ltS K set bo p < 32 := by
  unfold ltS; split
  · exact lo_lt hK 5 (by decide)
  · decide
theorem rl_lt {w : Nat} {f : Nat → Nat} (hw : w < 32) : ∀ i, rl w f i < 32
  | 0 => hw
  | i + 1 => Nat.lt_of_le_of_lt Nat.and_le_left (rl_lt hw i)
theorem x4_isPartOf {a b : Nat} (ha : a < 64) (hb : b < 64) : f_X4_isPartOf (nI a) (nI b) = some (if ndf a b = 0 then 1 else 0) := by
  unfold f_X4_isPartOf
  rw [pa_ndf _ ha _ hb]
  by_cases e : ndf a b = 0
  · rw [e, if_pos (show nI 0 = 0 from rfl), if_pos rfl]
  · have hl : ndf a b < 64 := Nat.lt_of_le_of_lt (ndf_le _ _) ha
    have en : ¬ nI (ndf a b) = 0 := fun q => e (nI_inj (b := 0) (by omega) (by decide) q)
    rw [if_neg en, if_neg e]
theorem x3_mayChoose {K : Nat → Nat → Nat} {S : St} {p t bo : Nat} (hK : okK K) (h : webOK K S) (hp : p < 6) (ht : t < 5) (hb : bo < 64) : f_X3_mayChoose (nI p) (nI t) (nI bo) S = some (if mcs K p t bo = true then 1 else 0) := by
  have hc := cho_lt hK hp
  have ha := aq_lt (p := p) hK ht
  have hi : 5 * p + t < 30 := by omega
  simp only [f_X3_mayChoose, f_X3_offer, i5', bd_s, nI_clamp (show p < 2 ^ 31 by omega), gd_t (ix_n hp (show 6 ≤ 65536 by decide)), h.2.2.2.1 p hp, x4_has (show cho K p < 64 by omega) (show t < 10 by omega), gd_t (ix_n hi (show 30 ≤ 65536 by decide)), nI_clamp (show 5 * p + t < 2 ^ 31 by omega), h.2.2.2.2.2.2.1 p t hp ht, x4_isPartOf (show aq K p t < 64 by omega) hb]
  unfold mcs
  by_cases e : (cho K p).testBit t = true
  · rw [if_pos e, if_neg z01, e]
    by_cases d : ndf (aq K p t) bo = 0
    · rw [if_pos d, if_neg z01, d]; rfl
    · rw [if_neg d, if_pos rfl, if_neg (by simp [d])]
  · rw [if_neg e, if_pos rfl, if_neg (by simp [e])]
theorem x3_letsOf {K : Nat → Nat → Nat} {S : St} {p bo : Nat} (hK : okK K) (h : webOK K S) (hp : p < 6) (hb : bo < 64) : f_X3_letsOf 4096 (nI p) (nI bo) S = some (nI (lo K p bo 5)) := by
  unfold f_X3_letsOf
  refine lp_run (F := F_X3_letsOf_5 4096 S) (fun t => (nI p, nI bo, nI (lo K p bo t), nI t)) 5 4096 (by decide) (fun t ht k => ?_) (fun k => ?_)
  · show FB_X3_letsOf_5 4096 S k (nI p) (nI bo) (nI (lo K p bo t)) (nI t) = k (nI p, nI bo, nI (if mcs K p t bo = true then lo K p bo t ||| gq K p t else lo K p bo t), nI (t + 1))
    have h5 : ¬ (5 : Int32) ≤ nI t := nI_ge (a := t) (b := 5) ht (by decide)
    have hi : 5 * p + t < 30 := by omega
    simp only [FB_X3_letsOf_5, h5, x3_mayChoose hK h hp ht hb, f_X3_offer, i5', bd_s, gd_t (ix_n hi (show 30 ≤ 65536 by decide)), nI_clamp (show 5 * p + t < 2 ^ 31 by omega), h.2.2.2.2.2.1 p t hp ht, pa_or, nI_1, ↓reduceIte]
    by_cases e : mcs K p t bo = true
    · rw [if_pos e, if_neg z01, if_pos e]
    · rw [if_neg e, if_pos rfl, if_neg e]
  · show FB_X3_letsOf_5 4096 S k (nI p) (nI bo) (nI (lo K p bo 5)) (nI 5) = _
    unfold FB_X3_letsOf_5
    rw [if_pos (by decide)]
theorem x3_roomLeft {K : Nat → Nat → Nat} {S : St} {f : Nat → Nat} (hK : okK K) (h : webOK K S) (hf : ∀ p, p < 6 → S 25 p = nI (f p)) : f_X3_roomLeft 4096 S = some (nI (rl (cho K (K 0 9)) f 6)) := by
  have hw := kWh hK
  unfold f_X3_roomLeft
  rw [h.1, gd_t (ix_n hw (show 6 ≤ 65536 by decide)), nI_clamp (show K 0 9 < 2 ^ 31 by omega), h.2.2.2.1 _ hw, bd_s]
  rw [show ((nI (cho K (K 0 9)), 0) : Int32 × Int32) = (fun i => (nI (rl (cho K (K 0 9)) f i), nI i)) 0 from rfl]
  refine lp_run (F := F_X3_roomLeft_15 4096 S) (fun i => (nI (rl (cho K (K 0 9)) f i), nI i)) 6 4096 (by decide) (fun p hp k => ?_) (fun k => ?_)
  · show FB_X3_roomLeft_15 4096 S k (nI (rl (cho K (K 0 9)) f p)) (nI p) = k (nI (rl (cho K (K 0 9)) f p &&& f p), nI (p + 1))
    have h6 : ¬ (6 : Int32) ≤ nI p := nI_ge (a := p) (b := 6) hp (by decide)
    simp only [FB_X3_roomLeft_15, h6, bd_s, gd_t (ix_n hp (show 6 ≤ 65536 by decide)), nI_clamp (show p < 2 ^ 31 by omega), hf p hp, pa_and, nI_1, ↓reduceIte]
  · show FB_X3_roomLeft_15 4096 S k (nI (rl (cho K (K 0 9)) f 6)) (nI 6) = _
    unfold FB_X3_roomLeft_15
    rw [if_pos (by decide)]
def r25 (S : St) (f : Nat → Nat) (i : Nat) : St := fun k j => if k = 25 ∧ j < i then nI (f j) else S k j
theorem r25_n {S : St} {f : Nat → Nat} {i k : Nat} (h : k ≠ 25) : r25 S f i k = S k := by funext j; unfold r25; rw [if_neg (fun q => h q.1)]
theorem r25_0 {S : St} {f : Nat → Nat} : r25 S f 0 = S := by funext k j; unfold r25; rw [if_neg (by omega)]
theorem r25_s {S : St} {f : Nat → Nat} {i : Nat} : sto (r25 S f i) 25 i (nI (f i)) = r25 S f (i + 1) := by
  funext k j
  rw [sto_at]
  unfold r25
  by_cases e : k = 25 ∧ j = i
  · rw [if_pos e, if_pos (by omega), e.2]
  · rw [if_neg e]
    by_cases d : k = 25 ∧ j < i
    · rw [if_pos d, if_pos (by omega)]
    · rw [if_neg d, if_neg (by omega)]
theorem web_out {K : Nat → Nat → Nat} {S S' : St} (h : webOK K S) (hn : ∀ k, (k = 2 ∨ k = 3 ∨ k = 9 ∨ k = 10 ∨ k = 18 ∨ (21 ≤ k ∧ k ≤ 24)) → S' k = S k) : webOK K S' := by
  unfold webOK at *
  rw [hn 2 (by omega), hn 3 (by omega), hn 9 (by omega), hn 10 (by omega), hn 18 (by omega), hn 21 (by omega), hn 22 (by omega), hn 23 (by omega), hn 24 (by omega)]
  exact h
theorem web_r25 {K : Nat → Nat → Nat} {S : St} {f : Nat → Nat} {i : Nat} (h : webOK K S) : webOK K (r25 S f i) := web_out h (fun k hk => r25_n (by omega))
theorem r25_co {S : St} {f : Nat → Nat} {i : Nat} : coU S (r25 S f i) := ⟨r25_n (by decide), r25_n (by decide), fun k _ _ => r25_n (by omega), fun k _ _ => r25_n (by omega), by rw [r25_n (by decide)]⟩
def rmN (K : Nat → Nat → Nat) (set bo : Nat) : Nat := rl (cho K (K 0 9)) (ltS K set bo) 6
theorem x3_room {K : Nat → Nat → Nat} {S : St} {set bo : Nat} (hK : okK K) (h : webOK K S) (hs : set < 64) (hb : bo < 64) : f_X3_room 4096 (nI set) (nI bo) S = some (nI (rmN K set bo), r25 S (ltS K set bo) 6) := by
  unfold f_X3_room
  have e0 := r25_0 (S := S) (f := ltS K set bo)
  rw [show (nI set, nI bo, 0, S) = ((fun i => (nI set, nI bo, nI i, r25 S (ltS K set bo) i)) 0 : Int32 × Int32 × Int32 × St) by rw [show (fun i => (nI set, nI bo, nI i, r25 S (ltS K set bo) i)) 0 = (nI set, nI bo, nI 0, r25 S (ltS K set bo) 0) from rfl, e0]; rfl]
  refine lp_run (F := F_X3_room_2 4096) (fun i => (nI set, nI bo, nI i, r25 S (ltS K set bo) i)) 6 4096 (by decide) (fun p hp k => ?_) (fun k => ?_)
  · show FB_X3_room_2 4096 k (nI set) (nI bo) (nI p) (r25 S (ltS K set bo) p) = k (nI set, nI bo, nI (p + 1), r25 S (ltS K set bo) (p + 1))
    have h6 : ¬ (6 : Int32) ≤ nI p := nI_ge (a := p) (b := 6) hp (by decide)
    have hw := web_r25 (f := ltS K set bo) (i := p) h
    rw [← r25_s]
    simp only [FB_X3_room_2, h6, x4_has hs (show p < 10 by omega), x3_letsOf hK hw hp hb, bd_s, gd_t (ix_n hp (show 6 ≤ 65536 by decide)), nI_clamp (show p < 2 ^ 31 by omega), nI_1, ↓reduceIte]
    by_cases e : set.testBit p = true
    · have el : ltS K set bo p = lo K p bo 5 := by unfold ltS; rw [if_pos e]
      rw [if_pos e, if_neg z01, el]
    · have el : ltS K set bo p = 31 := by unfold ltS; rw [if_neg e]
      rw [if_neg e, if_pos rfl, el]; rfl
  · show FB_X3_room_2 4096 k (nI set) (nI bo) (nI 6) (r25 S (ltS K set bo) 6) = _
    unfold FB_X3_room_2
    rw [if_pos (by decide), x3_roomLeft (f := ltS K set bo) hK (web_r25 h) (fun p hp => by unfold r25; rw [if_pos ⟨rfl, hp⟩]), bd_s]
    rfl
