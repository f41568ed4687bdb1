section
/-- a private method of a class that the tables say can be made, by its rows of tables_1 -/
def lw_okq (q : MethodName × Nat) : Prop := (q.1.cls ≠ "java/lang/invoke/MethodHandle" ∧ q.1.cls ≠ "java/lang/invoke/VarHandle") ∧ Cond.instantiable q.1.cls q.2 ∈ tables_1 ∧ Cond.privateMethod q.1 ∈ tables_1 ∧ Cond.instanceMethod q.1 ∈ tables_1
theorem lw_p0 : lw_okq (⟨"UnderTerms$Pad", "readAsks", "()I"⟩, 5) := ⟨⟨by decide +kernel, by decide +kernel⟩, List.mem_of_getElem? (i := 19) (by decide +kernel), List.mem_of_getElem? (i := 222) (by decide +kernel), List.mem_of_getElem? (i := 223) (by decide +kernel)⟩
theorem lw_p1 : lw_okq (⟨"UnderTerms$Pad", "readGo", "(I)I"⟩, 5) := ⟨⟨by decide +kernel, by decide +kernel⟩, List.mem_of_getElem? (i := 19) (by decide +kernel), List.mem_of_getElem? (i := 230) (by decide +kernel), List.mem_of_getElem? (i := 231) (by decide +kernel)⟩
theorem lw_p2 : lw_okq (⟨"UnderTerms$Web", "spread", "()V"⟩, 13) := ⟨⟨by decide +kernel, by decide +kernel⟩, List.mem_of_getElem? (i := 102) (by decide +kernel), List.mem_of_getElem? (i := 298) (by decide +kernel), List.mem_of_getElem? (i := 299) (by decide +kernel)⟩
theorem lw_p3 : lw_okq (⟨"UnderTerms$Web", "reachedBy", "(I)I"⟩, 13) := ⟨⟨by decide +kernel, by decide +kernel⟩, List.mem_of_getElem? (i := 102) (by decide +kernel), List.mem_of_getElem? (i := 302) (by decide +kernel), List.mem_of_getElem? (i := 303) (by decide +kernel)⟩
theorem lw_p4 : lw_okq (⟨"UnderTerms$Web", "reaches", "(II)Z"⟩, 13) := ⟨⟨by decide +kernel, by decide +kernel⟩, List.mem_of_getElem? (i := 102) (by decide +kernel), List.mem_of_getElem? (i := 309) (by decide +kernel), List.mem_of_getElem? (i := 310) (by decide +kernel)⟩
theorem lw_p5 : lw_okq (⟨"UnderTerms", "takeDigits", "(I)Z"⟩, 7) := ⟨⟨by decide +kernel, by decide +kernel⟩, List.mem_of_getElem? (i := 11) (by decide +kernel), List.mem_of_getElem? (i := 321) (by decide +kernel), List.mem_of_getElem? (i := 322) (by decide +kernel)⟩
theorem lw_p6 : lw_okq (⟨"UnderTerms$Web", "leastMusts", "(I)I"⟩, 13) := ⟨⟨by decide +kernel, by decide +kernel⟩, List.mem_of_getElem? (i := 102) (by decide +kernel), List.mem_of_getElem? (i := 349) (by decide +kernel), List.mem_of_getElem? (i := 350) (by decide +kernel)⟩
theorem lw_p7 : lw_okq (⟨"UnderTerms$Web", "room", "(II)I"⟩, 13) := ⟨⟨by decide +kernel, by decide +kernel⟩, List.mem_of_getElem? (i := 102) (by decide +kernel), List.mem_of_getElem? (i := 359) (by decide +kernel), List.mem_of_getElem? (i := 360) (by decide +kernel)⟩
theorem lw_p8 : lw_okq (⟨"UnderTerms$Web", "letsOf", "(II)I"⟩, 13) := ⟨⟨by decide +kernel, by decide +kernel⟩, List.mem_of_getElem? (i := 102) (by decide +kernel), List.mem_of_getElem? (i := 363) (by decide +kernel), List.mem_of_getElem? (i := 364) (by decide +kernel)⟩
theorem lw_p9 : lw_okq (⟨"UnderTerms$Web", "mayChoose", "(III)Z"⟩, 13) := ⟨⟨by decide +kernel, by decide +kernel⟩, List.mem_of_getElem? (i := 102) (by decide +kernel), List.mem_of_getElem? (i := 367) (by decide +kernel), List.mem_of_getElem? (i := 368) (by decide +kernel)⟩
theorem lw_p10 : lw_okq (⟨"UnderTerms$Web", "roomLeft", "()I"⟩, 13) := ⟨⟨by decide +kernel, by decide +kernel⟩, List.mem_of_getElem? (i := 102) (by decide +kernel), List.mem_of_getElem? (i := 374) (by decide +kernel), List.mem_of_getElem? (i := 375) (by decide +kernel)⟩
theorem lw_p11 : lw_okq (⟨"UnderTerms$Web", "settle", "(II)I"⟩, 13) := ⟨⟨by decide +kernel, by decide +kernel⟩, List.mem_of_getElem? (i := 102) (by decide +kernel), List.mem_of_getElem? (i := 378) (by decide +kernel), List.mem_of_getElem? (i := 379) (by decide +kernel)⟩
theorem lw_p12 : lw_okq (⟨"UnderTerms$Web", "countWith", "(I)V"⟩, 13) := ⟨⟨by decide +kernel, by decide +kernel⟩, List.mem_of_getElem? (i := 102) (by decide +kernel), List.mem_of_getElem? (i := 390) (by decide +kernel), List.mem_of_getElem? (i := 391) (by decide +kernel)⟩
theorem lw_p13 : lw_okq (⟨"UnderTerms", "fewestBarring", "()I"⟩, 7) := ⟨⟨by decide +kernel, by decide +kernel⟩, List.mem_of_getElem? (i := 11) (by decide +kernel), List.mem_of_getElem? (i := 402) (by decide +kernel), List.mem_of_getElem? (i := 403) (by decide +kernel)⟩
theorem lw_p14 : lw_okq (⟨"UnderTerms", "cheapestAnew", "()I"⟩, 7) := ⟨⟨by decide +kernel, by decide +kernel⟩, List.mem_of_getElem? (i := 11) (by decide +kernel), List.mem_of_getElem? (i := 412) (by decide +kernel), List.mem_of_getElem? (i := 413) (by decide +kernel)⟩
theorem lw_p15 : lw_okq (⟨"UnderTerms", "isCheaper", "(II)Z"⟩, 7) := ⟨⟨by decide +kernel, by decide +kernel⟩, List.mem_of_getElem? (i := 11) (by decide +kernel), List.mem_of_getElem? (i := 416) (by decide +kernel), List.mem_of_getElem? (i := 417) (by decide +kernel)⟩
def lw_privs_1 : List (MethodName × Nat) := [(⟨"UnderTerms$Pad", "readAsks", "()I"⟩, 5), (⟨"UnderTerms$Pad", "readGo", "(I)I"⟩, 5), (⟨"UnderTerms$Web", "spread", "()V"⟩, 13), (⟨"UnderTerms$Web", "reachedBy", "(I)I"⟩, 13), (⟨"UnderTerms$Web", "reaches", "(II)Z"⟩, 13), (⟨"UnderTerms", "takeDigits", "(I)Z"⟩, 7), (⟨"UnderTerms$Web", "leastMusts", "(I)I"⟩, 13), (⟨"UnderTerms$Web", "room", "(II)I"⟩, 13), (⟨"UnderTerms$Web", "letsOf", "(II)I"⟩, 13), (⟨"UnderTerms$Web", "mayChoose", "(III)Z"⟩, 13), (⟨"UnderTerms$Web", "roomLeft", "()I"⟩, 13), (⟨"UnderTerms$Web", "settle", "(II)I"⟩, 13), (⟨"UnderTerms$Web", "countWith", "(I)V"⟩, 13), (⟨"UnderTerms", "fewestBarring", "()I"⟩, 7), (⟨"UnderTerms", "cheapestAnew", "()I"⟩, 7), (⟨"UnderTerms", "isCheaper", "(II)Z"⟩, 7)]
theorem lw_r1 : ∀ q ∈ lw_privs_1, lw_okq q := List.forall_mem_cons.mpr ⟨lw_p0, List.forall_mem_cons.mpr ⟨lw_p1, List.forall_mem_cons.mpr ⟨lw_p2, List.forall_mem_cons.mpr ⟨lw_p3, List.forall_mem_cons.mpr ⟨lw_p4, List.forall_mem_cons.mpr ⟨lw_p5, List.forall_mem_cons.mpr ⟨lw_p6, List.forall_mem_cons.mpr ⟨lw_p7, List.forall_mem_cons.mpr ⟨lw_p8, List.forall_mem_cons.mpr ⟨lw_p9, List.forall_mem_cons.mpr ⟨lw_p10, List.forall_mem_cons.mpr ⟨lw_p11, List.forall_mem_cons.mpr ⟨lw_p12, List.forall_mem_cons.mpr ⟨lw_p13, List.forall_mem_cons.mpr ⟨lw_p14, List.forall_mem_cons.mpr ⟨lw_p15, fun _ h => absurd h List.not_mem_nil⟩⟩⟩⟩⟩⟩⟩⟩⟩⟩⟩⟩⟩⟩⟩⟩
theorem lw_p16 : lw_okq (⟨"UnderTerms", "costOf", "(I)I"⟩, 7) := ⟨⟨by decide +kernel, by decide +kernel⟩, List.mem_of_getElem? (i := 11) (by decide +kernel), List.mem_of_getElem? (i := 420) (by decide +kernel), List.mem_of_getElem? (i := 421) (by decide +kernel)⟩
theorem lw_p17 : lw_okq (⟨"UnderTerms", "cheapestLooser", "(I)I"⟩, 7) := ⟨⟨by decide +kernel, by decide +kernel⟩, List.mem_of_getElem? (i := 11) (by decide +kernel), List.mem_of_getElem? (i := 428) (by decide +kernel), List.mem_of_getElem? (i := 429) (by decide +kernel)⟩
theorem lw_p18 : lw_okq (⟨"UnderTerms", "countNamed", "()V"⟩, 7) := ⟨⟨by decide +kernel, by decide +kernel⟩, List.mem_of_getElem? (i := 11) (by decide +kernel), List.mem_of_getElem? (i := 452) (by decide +kernel), List.mem_of_getElem? (i := 453) (by decide +kernel)⟩
theorem lw_p19 : lw_okq (⟨"UnderTerms", "namedInAll", "()I"⟩, 7) := ⟨⟨by decide +kernel, by decide +kernel⟩, List.mem_of_getElem? (i := 11) (by decide +kernel), List.mem_of_getElem? (i := 456) (by decide +kernel), List.mem_of_getElem? (i := 457) (by decide +kernel)⟩
theorem lw_p20 : lw_okq (⟨"UnderTerms", "namedAt", "(I)I"⟩, 7) := ⟨⟨by decide +kernel, by decide +kernel⟩, List.mem_of_getElem? (i := 11) (by decide +kernel), List.mem_of_getElem? (i := 460) (by decide +kernel), List.mem_of_getElem? (i := 461) (by decide +kernel)⟩
theorem lw_p21 : lw_okq (⟨"UnderTerms", "namedAhead", "(I)I"⟩, 7) := ⟨⟨by decide +kernel, by decide +kernel⟩, List.mem_of_getElem? (i := 11) (by decide +kernel), List.mem_of_getElem? (i := 464) (by decide +kernel), List.mem_of_getElem? (i := 465) (by decide +kernel)⟩
theorem lw_p22 : lw_okq (⟨"UnderTerms", "toldKind", "(I)I"⟩, 7) := ⟨⟨by decide +kernel, by decide +kernel⟩, List.mem_of_getElem? (i := 11) (by decide +kernel), List.mem_of_getElem? (i := 496) (by decide +kernel), List.mem_of_getElem? (i := 497) (by decide +kernel)⟩
theorem lw_p23 : lw_okq (⟨"UnderTerms", "toldPiece", "(II)I"⟩, 7) := ⟨⟨by decide +kernel, by decide +kernel⟩, List.mem_of_getElem? (i := 11) (by decide +kernel), List.mem_of_getElem? (i := 500) (by decide +kernel), List.mem_of_getElem? (i := 501) (by decide +kernel)⟩
theorem lw_p24 : lw_okq (⟨"UnderTermsModel", "faultOf", "()I"⟩, 26) := ⟨⟨by decide +kernel, by decide +kernel⟩, List.mem_of_getElem? (i := 504) (by decide +kernel), List.mem_of_getElem? (i := 604) (by decide +kernel), List.mem_of_getElem? (i := 605) (by decide +kernel)⟩
theorem lw_p25 : lw_okq (⟨"UnderTermsModel", "choicesOf", "(I)I"⟩, 26) := ⟨⟨by decide +kernel, by decide +kernel⟩, List.mem_of_getElem? (i := 504) (by decide +kernel), List.mem_of_getElem? (i := 644) (by decide +kernel), List.mem_of_getElem? (i := 645) (by decide +kernel)⟩
theorem lw_p26 : lw_okq (⟨"UnderTermsModel", "lay", "()V"⟩, 26) := ⟨⟨by decide +kernel, by decide +kernel⟩, List.mem_of_getElem? (i := 504) (by decide +kernel), List.mem_of_getElem? (i := 663) (by decide +kernel), List.mem_of_getElem? (i := 664) (by decide +kernel)⟩
theorem lw_p27 : lw_okq (⟨"UnderTermsModel", "isChosen", "(I)Z"⟩, 26) := ⟨⟨by decide +kernel, by decide +kernel⟩, List.mem_of_getElem? (i := 504) (by decide +kernel), List.mem_of_getElem? (i := 671) (by decide +kernel), List.mem_of_getElem? (i := 672) (by decide +kernel)⟩
theorem lw_p28 : lw_okq (⟨"UnderTermsModel", "mayGo", "()I"⟩, 26) := ⟨⟨by decide +kernel, by decide +kernel⟩, List.mem_of_getElem? (i := 504) (by decide +kernel), List.mem_of_getElem? (i := 675) (by decide +kernel), List.mem_of_getElem? (i := 676) (by decide +kernel)⟩
theorem lw_p29 : lw_okq (⟨"UnderTermsModel", "reaches", "(I)Z"⟩, 26) := ⟨⟨by decide +kernel, by decide +kernel⟩, List.mem_of_getElem? (i := 504) (by decide +kernel), List.mem_of_getElem? (i := 679) (by decide +kernel), List.mem_of_getElem? (i := 680) (by decide +kernel)⟩
theorem lw_p30 : lw_okq (⟨"UnderTermsModel", "musts", "()I"⟩, 26) := ⟨⟨by decide +kernel, by decide +kernel⟩, List.mem_of_getElem? (i := 504) (by decide +kernel), List.mem_of_getElem? (i := 683) (by decide +kernel), List.mem_of_getElem? (i := 684) (by decide +kernel)⟩
theorem lw_p31 : lw_okq (⟨"UnderTermsModel", "layBest", "(I)Z"⟩, 26) := ⟨⟨by decide +kernel, by decide +kernel⟩, List.mem_of_getElem? (i := 504) (by decide +kernel), List.mem_of_getElem? (i := 694) (by decide +kernel), List.mem_of_getElem? (i := 695) (by decide +kernel)⟩
def lw_privs_2 : List (MethodName × Nat) := [(⟨"UnderTerms", "costOf", "(I)I"⟩, 7), (⟨"UnderTerms", "cheapestLooser", "(I)I"⟩, 7), (⟨"UnderTerms", "countNamed", "()V"⟩, 7), (⟨"UnderTerms", "namedInAll", "()I"⟩, 7), (⟨"UnderTerms", "namedAt", "(I)I"⟩, 7), (⟨"UnderTerms", "namedAhead", "(I)I"⟩, 7), (⟨"UnderTerms", "toldKind", "(I)I"⟩, 7), (⟨"UnderTerms", "toldPiece", "(II)I"⟩, 7), (⟨"UnderTermsModel", "faultOf", "()I"⟩, 26), (⟨"UnderTermsModel", "choicesOf", "(I)I"⟩, 26), (⟨"UnderTermsModel", "lay", "()V"⟩, 26), (⟨"UnderTermsModel", "isChosen", "(I)Z"⟩, 26), (⟨"UnderTermsModel", "mayGo", "()I"⟩, 26), (⟨"UnderTermsModel", "reaches", "(I)Z"⟩, 26), (⟨"UnderTermsModel", "musts", "()I"⟩, 26), (⟨"UnderTermsModel", "layBest", "(I)Z"⟩, 26)]
theorem lw_r2 : ∀ q ∈ lw_privs_2, lw_okq q := List.forall_mem_cons.mpr ⟨lw_p16, List.forall_mem_cons.mpr ⟨lw_p17, List.forall_mem_cons.mpr ⟨lw_p18, List.forall_mem_cons.mpr ⟨lw_p19, List.forall_mem_cons.mpr ⟨lw_p20, List.forall_mem_cons.mpr ⟨lw_p21, List.forall_mem_cons.mpr ⟨lw_p22, List.forall_mem_cons.mpr ⟨lw_p23, List.forall_mem_cons.mpr ⟨lw_p24, List.forall_mem_cons.mpr ⟨lw_p25, List.forall_mem_cons.mpr ⟨lw_p26, List.forall_mem_cons.mpr ⟨lw_p27, List.forall_mem_cons.mpr ⟨lw_p28, List.forall_mem_cons.mpr ⟨lw_p29, List.forall_mem_cons.mpr ⟨lw_p30, List.forall_mem_cons.mpr ⟨lw_p31, fun _ h => absurd h List.not_mem_nil⟩⟩⟩⟩⟩⟩⟩⟩⟩⟩⟩⟩⟩⟩⟩⟩
theorem lw_p32 : lw_okq (⟨"UnderTermsModel", "begin", "()V"⟩, 26) := ⟨⟨by decide +kernel, by decide +kernel⟩, List.mem_of_getElem? (i := 504) (by decide +kernel), List.mem_of_getElem? (i := 698) (by decide +kernel), List.mem_of_getElem? (i := 699) (by decide +kernel)⟩
theorem lw_p33 : lw_okq (⟨"UnderTermsModel", "next", "()Z"⟩, 26) := ⟨⟨by decide +kernel, by decide +kernel⟩, List.mem_of_getElem? (i := 504) (by decide +kernel), List.mem_of_getElem? (i := 708) (by decide +kernel), List.mem_of_getElem? (i := 709) (by decide +kernel)⟩
theorem lw_p34 : lw_okq (⟨"UnderTermsModel", "someGood", "()Z"⟩, 26) := ⟨⟨by decide +kernel, by decide +kernel⟩, List.mem_of_getElem? (i := 504) (by decide +kernel), List.mem_of_getElem? (i := 720) (by decide +kernel), List.mem_of_getElem? (i := 721) (by decide +kernel)⟩
theorem lw_p35 : lw_okq (⟨"UnderTermsModel", "inside", "()I"⟩, 26) := ⟨⟨by decide +kernel, by decide +kernel⟩, List.mem_of_getElem? (i := 504) (by decide +kernel), List.mem_of_getElem? (i := 724) (by decide +kernel), List.mem_of_getElem? (i := 725) (by decide +kernel)⟩
theorem lw_p36 : lw_okq (⟨"UnderTermsModel", "coinOf", "(I)I"⟩, 26) := ⟨⟨by decide +kernel, by decide +kernel⟩, List.mem_of_getElem? (i := 504) (by decide +kernel), List.mem_of_getElem? (i := 732) (by decide +kernel), List.mem_of_getElem? (i := 733) (by decide +kernel)⟩
theorem lw_p37 : lw_okq (⟨"UnderTermsModel", "usesOf", "(I)I"⟩, 26) := ⟨⟨by decide +kernel, by decide +kernel⟩, List.mem_of_getElem? (i := 504) (by decide +kernel), List.mem_of_getElem? (i := 740) (by decide +kernel), List.mem_of_getElem? (i := 741) (by decide +kernel)⟩
theorem lw_p38 : lw_okq (⟨"UnderTermsModel", "loosen", "(II)V"⟩, 26) := ⟨⟨by decide +kernel, by decide +kernel⟩, List.mem_of_getElem? (i := 504) (by decide +kernel), List.mem_of_getElem? (i := 744) (by decide +kernel), List.mem_of_getElem? (i := 745) (by decide +kernel)⟩
def lw_privs_3 : List (MethodName × Nat) := [(⟨"UnderTermsModel", "begin", "()V"⟩, 26), (⟨"UnderTermsModel", "next", "()Z"⟩, 26), (⟨"UnderTermsModel", "someGood", "()Z"⟩, 26), (⟨"UnderTermsModel", "inside", "()I"⟩, 26), (⟨"UnderTermsModel", "coinOf", "(I)I"⟩, 26), (⟨"UnderTermsModel", "usesOf", "(I)I"⟩, 26), (⟨"UnderTermsModel", "loosen", "(II)V"⟩, 26)]
theorem lw_r3 : ∀ q ∈ lw_privs_3, lw_okq q := List.forall_mem_cons.mpr ⟨lw_p32, List.forall_mem_cons.mpr ⟨lw_p33, List.forall_mem_cons.mpr ⟨lw_p34, List.forall_mem_cons.mpr ⟨lw_p35, List.forall_mem_cons.mpr ⟨lw_p36, List.forall_mem_cons.mpr ⟨lw_p37, List.forall_mem_cons.mpr ⟨lw_p38, fun _ h => absurd h List.not_mem_nil⟩⟩⟩⟩⟩⟩⟩
def lw_privs : List (MethodName × Nat) := lw_privs_1 ++ (lw_privs_2 ++ (lw_privs_3))
def lw_tbl : List Cond := k2_sels lw_privs ++ tables_1
theorem lw_privs_ok : ∀ q ∈ lw_privs, lw_okq q := by
  show ∀ q ∈ lw_privs_1 ++ (lw_privs_2 ++ (lw_privs_3)), lw_okq q
  exact List.forall_mem_append.mpr ⟨lw_r1, List.forall_mem_append.mpr ⟨lw_r2, lw_r3⟩⟩
end
section
/-! ===== BEGIN words of one list among another's, by their places ===== -/
theorem goodIn_r {big : List Cond} (ws : List Cond) (ps : List Nat) (hp : ws = ps.filterMap (fun i => big[i]?)) (h : ws.all goodWord = true) : GoodIn big ws := by
  intro w hw
  have h1 := List.all_eq_true.mp h w hw
  rw [hp] at hw
  obtain ⟨i, -, hi⟩ := List.mem_filterMap.mp hw
  have hm : w ∈ big := by first | exact List.mem_of_getElem? hi | exact List.getElem?_mem hi
  exact ⟨hm, good_of_word h1⟩
theorem goodIn_app {big a b : List Cond} (ha : GoodIn big a) (hb : GoodIn big b) : GoodIn big (a ++ b) := fun w h => (List.mem_append.mp h).elim (ha w) (hb w)
theorem goodIn_ca {big a b : List Cond} {c : Cond} (ha : GoodIn big (c :: a)) (hb : GoodIn big b) : GoodIn big (c :: (a ++ b)) := fun w h => (List.mem_cons.mp h).elim (fun e => ha w (List.mem_cons.mpr (Or.inl e))) (fun h => (List.mem_append.mp h).elim (fun h => ha w (List.mem_cons.mpr (Or.inr h))) (hb w))
theorem goodIn_sub {big ws : List Cond} (hm : ∀ w ∈ ws, w ∈ big) (h : ws.all goodWord = true) : GoodIn big ws := fun w hw => ⟨hm w hw, good_of_word (List.all_eq_true.mp h w hw)⟩
/-! ===== END ===== -/

/-! ===== BEGIN printed: names, fields, word lists, decode rows ===== -/
def RX0 : String := "UnderTerms$Book"
def TX0 : u_T := fun k => match k with
  | 0 => ("UnderTerms$Book", "asks", "[I", true)
  | 1 => ("UnderTerms$Book", "reach", "[I", true)
  | 2 => ("UnderTerms$Book", "go", "[I", true)
  | 3 => ("UnderTerms$Book", "later", "[I", true)
  | 4 => ("UnderTerms$Book", "offered", "[I", true)
  | 5 => ("UnderTerms$Book", "orLater", "[I", true)
  | 6 => ("UnderTerms$Book", "owners", "[I", true)
  | 7 => ("UnderTerms$Book", "anew", "[I", true)
  | 8 => ("UnderTerms$Book", "kinds", "[I", true)
  | 9 => ("UnderTerms$Book", "whole", "I", false)
  | _ => ("UnderTerms$Book", "coin", "I", false)
def tyX0 : Nat → FieldType := fun k => match k with
  | 0 => .array .int
  | 1 => .array .int
  | 2 => .array .int
  | 3 => .array .int
  | 4 => .array .int
  | 5 => .array .int
  | 6 => .array .int
  | 7 => .array .int
  | 8 => .array .int
  | 9 => .int
  | _ => .int
abbrev wsX00 : List Cond := u_ws RX0 TX0 11
theorem nmX0 : ∀ a, a < 11 → ∀ b, b < 11 → a ≠ b → (TX0 a).2.1 ≠ (TX0 b).2.1 := by decide +kernel
theorem tyX0_ok : ∀ k, k < 11 → parseFieldDescriptor (TX0 k).2.2.1 = some (tyX0 k) := by decide +kernel
abbrev cX0_init : ByteArray := prog_2_method_1_code
def yX0_init : MethodName := ⟨RX0, "<init>", "()V"⟩
abbrev cX0_takeFrom : ByteArray := prog_2_method_2_code
def yX0_takeFrom : MethodName := ⟨RX0, "takeFrom", "(LUnderTerms$Book;)V"⟩
abbrev cX0_choicesOf : ByteArray := prog_2_method_3_code
def yX0_choicesOf : MethodName := ⟨RX0, "choicesOf", "(I)I"⟩
def RX1 : String := "UnderTerms$Chosen"
def TX1 : u_T := fun k => match k with
  | 0 => ("UnderTerms$Chosen", "terms", "[I", true)
  | 1 => ("UnderTerms$Chosen", "musts", "I", false)
  | _ => ("UnderTerms$Chosen", "mayGo", "I", false)
def tyX1 : Nat → FieldType := fun k => match k with
  | 0 => .array .int
  | 1 => .int
  | _ => .int
abbrev wsX10 : List Cond := u_ws RX1 TX1 3
theorem nmX1 : ∀ a, a < 3 → ∀ b, b < 3 → a ≠ b → (TX1 a).2.1 ≠ (TX1 b).2.1 := by decide +kernel
theorem tyX1_ok : ∀ k, k < 3 → parseFieldDescriptor (TX1 k).2.2.1 = some (tyX1 k) := by decide +kernel
abbrev cX1_init : ByteArray := prog_3_method_1_code
def yX1_init : MethodName := ⟨RX1, "<init>", "()V"⟩
def RX2 : String := "UnderTerms$Pad"
def TX2 : u_T := fun k => match k with
  | 0 => ("UnderTerms$Pad", "signs", "[I", true)
  | 1 => ("UnderTerms$Pad", "count", "I", false)
  | 2 => ("UnderTerms$Pad", "asks", "I", false)
  | 3 => ("UnderTerms$Pad", "reach", "I", false)
  | _ => ("UnderTerms$Pad", "go", "I", false)
def tyX2 : Nat → FieldType := fun k => match k with
  | 0 => .array .int
  | 1 => .int
  | 2 => .int
  | 3 => .int
  | _ => .int
abbrev wsX20 : List Cond := u_ws RX2 TX2 5
theorem nmX2 : ∀ a, a < 5 → ∀ b, b < 5 → a ≠ b → (TX2 a).2.1 ≠ (TX2 b).2.1 := by decide +kernel
theorem tyX2_ok : ∀ k, k < 5 → parseFieldDescriptor (TX2 k).2.2.1 = some (tyX2 k) := by decide +kernel
abbrev cX2_init : ByteArray := prog_4_method_1_code
def yX2_init : MethodName := ⟨RX2, "<init>", "()V"⟩
abbrev cX2_put : ByteArray := prog_4_method_2_code
def yX2_put : MethodName := ⟨RX2, "put", "(I)V"⟩
abbrev cX2_read : ByteArray := prog_4_method_3_code
def yX2_read : MethodName := ⟨RX2, "read", "()I"⟩
abbrev cX2_readAsks : ByteArray := prog_4_method_4_code
def yX2_readAsks : MethodName := ⟨RX2, "readAsks", "()I"⟩
abbrev cX2_readGo : ByteArray := prog_4_method_5_code
def yX2_readGo : MethodName := ⟨RX2, "readGo", "(I)I"⟩
abbrev cX2_askOf : ByteArray := prog_4_method_6_code
def yX2_askOf : MethodName := ⟨RX2, "askOf", "(I)I"⟩
def RX3 : String := "UnderTerms$Web"
def TX3 : u_T := fun k => match k with
  | 0 => ("UnderTerms$Web", "book", "LUnderTerms$Book;", true)
  | 1 => ("UnderTerms$Web", "choices", "[I", true)
  | 2 => ("UnderTerms$Web", "longest", "[I", true)
  | 3 => ("UnderTerms$Web", "ways", "[I", true)
  | 4 => ("UnderTerms$Web", "members", "I", false)
  | 5 => ("UnderTerms$Web", "parts", "I", false)
  | 6 => ("UnderTerms$Web", "kinds", "[I", true)
  | 7 => ("UnderTerms$Web", "goes", "[I", true)
  | 8 => ("UnderTerms$Web", "asks", "[I", true)
  | 9 => ("UnderTerms$Web", "reached", "[I", true)
  | 10 => ("UnderTerms$Web", "lets", "[I", true)
  | 11 => ("UnderTerms$Web", "counts", "[I", false)
  | _ => ("UnderTerms$Web", "nextCounts", "[I", false)
def tyX3 : Nat → FieldType := fun k => match k with
  | 0 => .object "UnderTerms$Book"
  | 1 => .array .int
  | 2 => .array .int
  | 3 => .array .int
  | 4 => .int
  | 5 => .int
  | 6 => .array .int
  | 7 => .array .int
  | 8 => .array .int
  | 9 => .array .int
  | 10 => .array .int
  | 11 => .array .int
  | _ => .array .int
abbrev wsX30 : List Cond := u_ws RX3 TX3 13
theorem nmX3 : ∀ a, a < 13 → ∀ b, b < 13 → a ≠ b → (TX3 a).2.1 ≠ (TX3 b).2.1 := by decide +kernel
theorem tyX3_ok : ∀ k, k < 13 → parseFieldDescriptor (TX3 k).2.2.1 = some (tyX3 k) := by decide +kernel
abbrev cX3_init : ByteArray := prog_5_method_1_code
def yX3_init : MethodName := ⟨RX3, "<init>", "(LUnderTerms$Book;)V"⟩
abbrev cX3_spin : ByteArray := prog_5_method_2_code
def yX3_spin : MethodName := ⟨RX3, "spin", "()V"⟩
abbrev cX3_tie : ByteArray := prog_5_method_3_code
def yX3_tie : MethodName := ⟨RX3, "tie", "(II)V"⟩
abbrev cX3_loosen : ByteArray := prog_5_method_4_code
def yX3_loosen : MethodName := ⟨RX3, "loosen", "(II)I"⟩
abbrev cX3_spread : ByteArray := prog_5_method_5_code
def yX3_spread : MethodName := ⟨RX3, "spread", "()V"⟩
abbrev cX3_reachedBy : ByteArray := prog_5_method_6_code
def yX3_reachedBy : MethodName := ⟨RX3, "reachedBy", "(I)I"⟩
abbrev cX3_reaches : ByteArray := prog_5_method_7_code
def yX3_reaches : MethodName := ⟨RX3, "reaches", "(II)Z"⟩
abbrev cX3_offer : ByteArray := prog_5_method_8_code
def yX3_offer : MethodName := ⟨RX3, "offer", "(II)I"⟩
abbrev cX3_askedBy : ByteArray := prog_5_method_9_code
def yX3_askedBy : MethodName := ⟨RX3, "askedBy", "(I)I"⟩
abbrev cX3_reachingBy : ByteArray := prog_5_method_10_code
def yX3_reachingBy : MethodName := ⟨RX3, "reachingBy", "([I)I"⟩
abbrev cX3_mustsBy : ByteArray := prog_5_method_11_code
def yX3_mustsBy : MethodName := ⟨RX3, "mustsBy", "([II)I"⟩
abbrev cX3_mayGoBy : ByteArray := prog_5_method_12_code
def yX3_mayGoBy : MethodName := ⟨RX3, "mayGoBy", "([I)I"⟩
abbrev cX3_someGoodWith : ByteArray := prog_5_method_13_code
def yX3_someGoodWith : MethodName := ⟨RX3, "someGoodWith", "(I)Z"⟩
abbrev cX3_room : ByteArray := prog_5_method_14_code
def yX3_room : MethodName := ⟨RX3, "room", "(II)I"⟩
abbrev cX3_letsOf : ByteArray := prog_5_method_15_code
def yX3_letsOf : MethodName := ⟨RX3, "letsOf", "(II)I"⟩
abbrev cX3_mayChoose : ByteArray := prog_5_method_16_code
def yX3_mayChoose : MethodName := ⟨RX3, "mayChoose", "(III)Z"⟩
abbrev cX3_roomLeft : ByteArray := prog_5_method_17_code
def yX3_roomLeft : MethodName := ⟨RX3, "roomLeft", "()I"⟩
abbrev cX3_findBest : ByteArray := prog_5_method_18_code
def yX3_findBest : MethodName := ⟨RX3, "findBest", "(ILUnderTerms$Chosen;)Z"⟩
abbrev cX3_leastMusts : ByteArray := prog_5_method_19_code
def yX3_leastMusts : MethodName := ⟨RX3, "leastMusts", "(I)I"⟩
abbrev cX3_settle : ByteArray := prog_5_method_20_code
def yX3_settle : MethodName := ⟨RX3, "settle", "(II)I"⟩
abbrev cX3_countGood : ByteArray := prog_5_method_21_code
def yX3_countGood : MethodName := ⟨RX3, "countGood", "()I"⟩
abbrev cX3_countWith : ByteArray := prog_5_method_22_code
def yX3_countWith : MethodName := ⟨RX3, "countWith", "(I)V"⟩
abbrev cX3_walk : ByteArray := prog_5_method_23_code
def yX3_walk : MethodName := ⟨RX3, "walk", "()V"⟩
def RX4 : String := "UnderTerms"
def TX4 : u_T := fun k => match k with
  | 0 => ("UnderTerms", "pad", "LUnderTerms$Pad;", true)
  | 1 => ("UnderTerms", "book", "LUnderTerms$Book;", true)
  | 2 => ("UnderTerms", "web", "LUnderTerms$Web;", true)
  | 3 => ("UnderTerms", "taken", "LUnderTerms$Chosen;", true)
  | 4 => ("UnderTerms", "images", "[LUnderTerms$Book;", true)
  | 5 => ("UnderTerms", "kept", "[Z", true)
  | _ => ("UnderTerms", "named", "[I", true)
def tyX4 : Nat → FieldType := fun k => match k with
  | 0 => .object "UnderTerms$Pad"
  | 1 => .object "UnderTerms$Book"
  | 2 => .object "UnderTerms$Web"
  | 3 => .object "UnderTerms$Chosen"
  | 4 => .array (.object "UnderTerms$Book")
  | 5 => .array .boolean
  | _ => .array .int
abbrev wsX40 : List Cond := u_ws RX4 TX4 7
theorem nmX4 : ∀ a, a < 7 → ∀ b, b < 7 → a ≠ b → (TX4 a).2.1 ≠ (TX4 b).2.1 := by decide +kernel
theorem tyX4_ok : ∀ k, k < 7 → parseFieldDescriptor (TX4 k).2.2.1 = some (tyX4 k) := by decide +kernel
abbrev cX4_init : ByteArray := prog_1_method_1_code
def yX4_init : MethodName := ⟨RX4, "<init>", "()V"⟩
abbrev cX4_say : ByteArray := prog_1_method_2_code
def yX4_say : MethodName := ⟨RX4, "say", "(I)I"⟩
abbrev cX4_wipe : ByteArray := prog_1_method_3_code
def yX4_wipe : MethodName := ⟨RX4, "wipe", "()I"⟩
abbrev cX4_fault : ByteArray := prog_1_method_4_code
def yX4_fault : MethodName := ⟨RX4, "fault", "()I"⟩
abbrev cX4_terms : ByteArray := prog_1_method_5_code
def yX4_terms : MethodName := ⟨RX4, "terms", "(I)I"⟩
abbrev cX4_about : ByteArray := prog_1_method_6_code
def yX4_about : MethodName := ⟨RX4, "about", "(II)I"⟩
abbrev cX4_later : ByteArray := prog_1_method_7_code
def yX4_later : MethodName := ⟨RX4, "later", "(II)I"⟩
abbrev cX4_piece : ByteArray := prog_1_method_8_code
def yX4_piece : MethodName := ⟨RX4, "piece", "(III)I"⟩
abbrev cX4_uses : ByteArray := prog_1_method_9_code
def yX4_uses : MethodName := ⟨RX4, "uses", "(III)I"⟩
abbrev cX4_choices : ByteArray := prog_1_method_10_code
def yX4_choices : MethodName := ⟨RX4, "choices", "(I)I"⟩
abbrev cX4_whole : ByteArray := prog_1_method_11_code
def yX4_whole : MethodName := ⟨RX4, "whole", "(I)I"⟩
abbrev cX4_coin : ByteArray := prog_1_method_12_code
def yX4_coin : MethodName := ⟨RX4, "coin", "(I)I"⟩
abbrev cX4_pieces : ByteArray := prog_1_method_13_code
def yX4_pieces : MethodName := ⟨RX4, "pieces", "()I"⟩
abbrev cX4_by : ByteArray := prog_1_method_14_code
def yX4_by : MethodName := ⟨RX4, "by", "(II)I"⟩
abbrev cX4_best : ByteArray := prog_1_method_15_code
def yX4_best : MethodName := ⟨RX4, "best", "(II)I"⟩
abbrev cX4_good : ByteArray := prog_1_method_16_code
def yX4_good : MethodName := ⟨RX4, "good", "()I"⟩
abbrev cX4_bar : ByteArray := prog_1_method_17_code
def yX4_bar : MethodName := ⟨RX4, "bar", "()I"⟩
abbrev cX4_anew : ByteArray := prog_1_method_18_code
def yX4_anew : MethodName := ⟨RX4, "anew", "(I)I"⟩
abbrev cX4_looser : ByteArray := prog_1_method_19_code
def yX4_looser : MethodName := ⟨RX4, "looser", "(I)I"⟩
abbrev cX4_agree : ByteArray := prog_1_method_20_code
def yX4_agree : MethodName := ⟨RX4, "agree", "(II)I"⟩
abbrev cX4_more : ByteArray := prog_1_method_21_code
def yX4_more : MethodName := ⟨RX4, "more", "(III)I"⟩
abbrev cX4_names : ByteArray := prog_1_method_22_code
def yX4_names : MethodName := ⟨RX4, "names", "(I)I"⟩
abbrev cX4_audit : ByteArray := prog_1_method_23_code
def yX4_audit : MethodName := ⟨RX4, "audit", "(II)I"⟩
abbrev cX4_image : ByteArray := prog_1_method_24_code
def yX4_image : MethodName := ⟨RX4, "image", "(I)I"⟩
abbrev cX4_restore : ByteArray := prog_1_method_25_code
def yX4_restore : MethodName := ⟨RX4, "restore", "(I)I"⟩
abbrev cX4_told : ByteArray := prog_1_method_26_code
def yX4_told : MethodName := ⟨RX4, "told", "(I)I"⟩
abbrev cX4_within : ByteArray := prog_1_method_27_code
def yX4_within : MethodName := ⟨RX4, "within", "(III)Z"⟩
abbrev cX4_isTerms : ByteArray := prog_1_method_28_code
def yX4_isTerms : MethodName := ⟨RX4, "isTerms", "(I)Z"⟩
abbrev cX4_isPiece : ByteArray := prog_1_method_29_code
def yX4_isPiece : MethodName := ⟨RX4, "isPiece", "(I)Z"⟩
abbrev cX4_has : ByteArray := prog_1_method_30_code
def yX4_has : MethodName := ⟨RX4, "has", "(II)Z"⟩
abbrev cX4_isPartOf : ByteArray := prog_1_method_31_code
def yX4_isPartOf : MethodName := ⟨RX4, "isPartOf", "(II)Z"⟩
abbrev cX4_use : ByteArray := prog_1_method_32_code
def yX4_use : MethodName := ⟨RX4, "use", "(II)I"⟩
abbrev cX4_swap : ByteArray := prog_1_method_33_code
def yX4_swap : MethodName := ⟨RX4, "swap", "([III)I"⟩
abbrev cX4_takeDigits : ByteArray := prog_1_method_34_code
def yX4_takeDigits : MethodName := ⟨RX4, "takeDigits", "(I)Z"⟩
abbrev cX4_fewestBarring : ByteArray := prog_1_method_35_code
def yX4_fewestBarring : MethodName := ⟨RX4, "fewestBarring", "()I"⟩
abbrev cX4_cheapestAnew : ByteArray := prog_1_method_36_code
def yX4_cheapestAnew : MethodName := ⟨RX4, "cheapestAnew", "()I"⟩
abbrev cX4_isCheaper : ByteArray := prog_1_method_37_code
def yX4_isCheaper : MethodName := ⟨RX4, "isCheaper", "(II)Z"⟩
abbrev cX4_costOf : ByteArray := prog_1_method_38_code
def yX4_costOf : MethodName := ⟨RX4, "costOf", "(I)I"⟩
abbrev cX4_cheapestLooser : ByteArray := prog_1_method_39_code
def yX4_cheapestLooser : MethodName := ⟨RX4, "cheapestLooser", "(I)I"⟩
abbrev cX4_countNamed : ByteArray := prog_1_method_40_code
def yX4_countNamed : MethodName := ⟨RX4, "countNamed", "()V"⟩
abbrev cX4_namedInAll : ByteArray := prog_1_method_41_code
def yX4_namedInAll : MethodName := ⟨RX4, "namedInAll", "()I"⟩
abbrev cX4_namedAt : ByteArray := prog_1_method_42_code
def yX4_namedAt : MethodName := ⟨RX4, "namedAt", "(I)I"⟩
abbrev cX4_namedAhead : ByteArray := prog_1_method_43_code
def yX4_namedAhead : MethodName := ⟨RX4, "namedAhead", "(I)I"⟩
abbrev cX4_toldKind : ByteArray := prog_1_method_44_code
def yX4_toldKind : MethodName := ⟨RX4, "toldKind", "(I)I"⟩
abbrev cX4_toldPiece : ByteArray := prog_1_method_45_code
def yX4_toldPiece : MethodName := ⟨RX4, "toldPiece", "(II)I"⟩
def RX5 : String := "UnderTermsModel"
def TX5 : u_T := fun k => match k with
  | 0 => ("UnderTermsModel", "signs", "I", false)
  | 1 => ("UnderTermsModel", "pad", "[I", true)
  | 2 => ("UnderTermsModel", "asks", "[I", true)
  | 3 => ("UnderTermsModel", "reach", "[I", true)
  | 4 => ("UnderTermsModel", "go", "[I", true)
  | 5 => ("UnderTermsModel", "later", "[I", true)
  | 6 => ("UnderTermsModel", "piece", "[I", true)
  | 7 => ("UnderTermsModel", "use", "[I", true)
  | 8 => ("UnderTermsModel", "whole", "I", false)
  | 9 => ("UnderTermsModel", "coin", "I", false)
  | 10 => ("UnderTermsModel", "readAsks", "I", false)
  | 11 => ("UnderTermsModel", "readReach", "I", false)
  | 12 => ("UnderTermsModel", "readGo", "I", false)
  | 13 => ("UnderTermsModel", "within", "[I", true)
  | 14 => ("UnderTermsModel", "may", "[I", true)
  | 15 => ("UnderTermsModel", "mute", "I", false)
  | 16 => ("UnderTermsModel", "chosen", "[I", true)
  | 17 => ("UnderTermsModel", "bestTerms", "[I", true)
  | 18 => ("UnderTermsModel", "bestMusts", "I", false)
  | 19 => ("UnderTermsModel", "bestGo", "I", false)
  | 20 => ("UnderTermsModel", "kept", "[I", true)
  | 21 => ("UnderTermsModel", "names", "[I", true)
  | 22 => ("UnderTermsModel", "longest", "[I", true)
  | 23 => ("UnderTermsModel", "ways", "[I", true)
  | 24 => ("UnderTermsModel", "image", "[I", true)
  | _ => ("UnderTermsModel", "isKept", "[Z", true)
def tyX5 : Nat → FieldType := fun k => match k with
  | 0 => .int
  | 1 => .array .int
  | 2 => .array .int
  | 3 => .array .int
  | 4 => .array .int
  | 5 => .array .int
  | 6 => .array .int
  | 7 => .array .int
  | 8 => .int
  | 9 => .int
  | 10 => .int
  | 11 => .int
  | 12 => .int
  | 13 => .array .int
  | 14 => .array .int
  | 15 => .int
  | 16 => .array .int
  | 17 => .array .int
  | 18 => .int
  | 19 => .int
  | 20 => .array .int
  | 21 => .array .int
  | 22 => .array .int
  | 23 => .array .int
  | 24 => .array .int
  | _ => .array .boolean
abbrev wsX50 : List Cond := u_ws RX5 TX5 26
theorem nmX5 : ∀ a, a < 26 → ∀ b, b < 26 → a ≠ b → (TX5 a).2.1 ≠ (TX5 b).2.1 := by decide +kernel
theorem tyX5_ok : ∀ k, k < 26 → parseFieldDescriptor (TX5 k).2.2.1 = some (tyX5 k) := by decide +kernel
abbrev cX5_init : ByteArray := prog_7_method_1_code
def yX5_init : MethodName := ⟨RX5, "<init>", "()V"⟩
abbrev cX5_in : ByteArray := prog_7_method_2_code
def yX5_in : MethodName := ⟨RX5, "in", "(III)Z"⟩
abbrev cX5_isTerms : ByteArray := prog_7_method_3_code
def yX5_isTerms : MethodName := ⟨RX5, "isTerms", "(I)Z"⟩
abbrev cX5_isPiece : ByteArray := prog_7_method_4_code
def yX5_isPiece : MethodName := ⟨RX5, "isPiece", "(I)Z"⟩
abbrev cX5_has : ByteArray := prog_7_method_5_code
def yX5_has : MethodName := ⟨RX5, "has", "(II)Z"⟩
abbrev cX5_bits : ByteArray := prog_7_method_6_code
def yX5_bits : MethodName := ⟨RX5, "bits", "(I)I"⟩
abbrev cX5_say : ByteArray := prog_7_method_7_code
def yX5_say : MethodName := ⟨RX5, "say", "(I)I"⟩
abbrev cX5_wipe : ByteArray := prog_7_method_8_code
def yX5_wipe : MethodName := ⟨RX5, "wipe", "()I"⟩
abbrev cX5_askOf : ByteArray := prog_7_method_9_code
def yX5_askOf : MethodName := ⟨RX5, "askOf", "(I)I"⟩
abbrev cX5_faultOf : ByteArray := prog_7_method_10_code
def yX5_faultOf : MethodName := ⟨RX5, "faultOf", "()I"⟩
abbrev cX5_fault : ByteArray := prog_7_method_11_code
def yX5_fault : MethodName := ⟨RX5, "fault", "()I"⟩
abbrev cX5_terms : ByteArray := prog_7_method_12_code
def yX5_terms : MethodName := ⟨RX5, "terms", "(I)I"⟩
abbrev cX5_about : ByteArray := prog_7_method_13_code
def yX5_about : MethodName := ⟨RX5, "about", "(II)I"⟩
abbrev cX5_later : ByteArray := prog_7_method_14_code
def yX5_later : MethodName := ⟨RX5, "later", "(II)I"⟩
abbrev cX5_mostOf : ByteArray := prog_7_method_15_code
def yX5_mostOf : MethodName := ⟨RX5, "mostOf", "(I)I"⟩
abbrev cX5_piece : ByteArray := prog_7_method_16_code
def yX5_piece : MethodName := ⟨RX5, "piece", "(III)I"⟩
abbrev cX5_uses : ByteArray := prog_7_method_17_code
def yX5_uses : MethodName := ⟨RX5, "uses", "(III)I"⟩
abbrev cX5_choicesOf : ByteArray := prog_7_method_18_code
def yX5_choicesOf : MethodName := ⟨RX5, "choicesOf", "(I)I"⟩
abbrev cX5_choices : ByteArray := prog_7_method_19_code
def yX5_choices : MethodName := ⟨RX5, "choices", "(I)I"⟩
abbrev cX5_whole : ByteArray := prog_7_method_20_code
def yX5_whole : MethodName := ⟨RX5, "whole", "(I)I"⟩
abbrev cX5_coin : ByteArray := prog_7_method_21_code
def yX5_coin : MethodName := ⟨RX5, "coin", "(I)I"⟩
abbrev cX5_lay : ByteArray := prog_7_method_22_code
def yX5_lay : MethodName := ⟨RX5, "lay", "()V"⟩
abbrev cX5_pieces : ByteArray := prog_7_method_23_code
def yX5_pieces : MethodName := ⟨RX5, "pieces", "()I"⟩
abbrev cX5_isChosen : ByteArray := prog_7_method_24_code
def yX5_isChosen : MethodName := ⟨RX5, "isChosen", "(I)Z"⟩
abbrev cX5_reaches : ByteArray := prog_7_method_25_code
def yX5_reaches : MethodName := ⟨RX5, "reaches", "(I)Z"⟩
abbrev cX5_byWay : ByteArray := prog_7_method_26_code
def yX5_byWay : MethodName := ⟨RX5, "byWay", "(II)I"⟩
abbrev cX5_musts : ByteArray := prog_7_method_27_code
def yX5_musts : MethodName := ⟨RX5, "musts", "()I"⟩
abbrev cX5_mayGo : ByteArray := prog_7_method_28_code
def yX5_mayGo : MethodName := ⟨RX5, "mayGo", "()I"⟩
abbrev cX5_by : ByteArray := prog_7_method_29_code
def yX5_by : MethodName := ⟨RX5, "by", "(II)I"⟩
abbrev cX5_leastIn : ByteArray := prog_7_method_30_code
def yX5_leastIn : MethodName := ⟨RX5, "leastIn", "(I)I"⟩
abbrev cX5_begin : ByteArray := prog_7_method_31_code
def yX5_begin : MethodName := ⟨RX5, "begin", "()V"⟩
abbrev cX5_next : ByteArray := prog_7_method_32_code
def yX5_next : MethodName := ⟨RX5, "next", "()Z"⟩
abbrev cX5_layBest : ByteArray := prog_7_method_33_code
def yX5_layBest : MethodName := ⟨RX5, "layBest", "(I)Z"⟩
abbrev cX5_best : ByteArray := prog_7_method_34_code
def yX5_best : MethodName := ⟨RX5, "best", "(II)I"⟩
abbrev cX5_good : ByteArray := prog_7_method_35_code
def yX5_good : MethodName := ⟨RX5, "good", "()I"⟩
abbrev cX5_someGood : ByteArray := prog_7_method_36_code
def yX5_someGood : MethodName := ⟨RX5, "someGood", "()Z"⟩
abbrev cX5_inside : ByteArray := prog_7_method_37_code
def yX5_inside : MethodName := ⟨RX5, "inside", "()I"⟩
abbrev cX5_bar : ByteArray := prog_7_method_38_code
def yX5_bar : MethodName := ⟨RX5, "bar", "()I"⟩
abbrev cX5_coinOf : ByteArray := prog_7_method_39_code
def yX5_coinOf : MethodName := ⟨RX5, "coinOf", "(I)I"⟩
abbrev cX5_anew : ByteArray := prog_7_method_40_code
def yX5_anew : MethodName := ⟨RX5, "anew", "(I)I"⟩
abbrev cX5_usesOf : ByteArray := prog_7_method_41_code
def yX5_usesOf : MethodName := ⟨RX5, "usesOf", "(I)I"⟩
abbrev cX5_loosen : ByteArray := prog_7_method_42_code
def yX5_loosen : MethodName := ⟨RX5, "loosen", "(II)V"⟩
abbrev cX5_looser : ByteArray := prog_7_method_43_code
def yX5_looser : MethodName := ⟨RX5, "looser", "(I)I"⟩
abbrev cX5_agree : ByteArray := prog_7_method_44_code
def yX5_agree : MethodName := ⟨RX5, "agree", "(II)I"⟩
abbrev cX5_more : ByteArray := prog_7_method_45_code
def yX5_more : MethodName := ⟨RX5, "more", "(III)I"⟩
abbrev cX5_names : ByteArray := prog_7_method_46_code
def yX5_names : MethodName := ⟨RX5, "names", "(I)I"⟩
abbrev cX5_audit : ByteArray := prog_7_method_47_code
def yX5_audit : MethodName := ⟨RX5, "audit", "(II)I"⟩
abbrev cX5_image : ByteArray := prog_7_method_48_code
def yX5_image : MethodName := ⟨RX5, "image", "(I)I"⟩
abbrev cX5_restore : ByteArray := prog_7_method_49_code
def yX5_restore : MethodName := ⟨RX5, "restore", "(I)I"⟩
abbrev cX5_told : ByteArray := prog_7_method_50_code
def yX5_told : MethodName := ⟨RX5, "told", "(I)I"⟩
def RJ6 : String := "java/lang/Integer"
def TJ6 : u_T := fun k => match k with
  | _ => ("", "", "", false)
def tyJ6 : Nat → FieldType := fun k => match k with
  | _ => .int
theorem nmJ6 : ∀ a, a < 0 → ∀ b, b < 0 → a ≠ b → (TJ6 a).2.1 ≠ (TJ6 b).2.1 := by decide +kernel
theorem tyJ6_ok : ∀ k, k < 0 → parseFieldDescriptor (TJ6 k).2.2.1 = some (tyJ6 k) := by decide +kernel
abbrev cJ6_bitCount_0f7a4 : ByteArray := prog_8_method_49_code
def yJ6_bitCount_0f7a4 : MethodName := ⟨RJ6, "bitCount", "(I)I"⟩
def RJ9 : String := "java/lang/Math"
def TJ9 : u_T := fun k => match k with
  | _ => ("", "", "", false)
def tyJ9 : Nat → FieldType := fun k => match k with
  | _ => .int
theorem nmJ9 : ∀ a, a < 0 → ∀ b, b < 0 → a ≠ b → (TJ9 a).2.1 ≠ (TJ9 b).2.1 := by decide +kernel
theorem tyJ9_ok : ∀ k, k < 0 → parseFieldDescriptor (TJ9 k).2.2.1 = some (tyJ9 k) := by decide +kernel
abbrev cJ9_max_7cf53 : ByteArray := prog_9_method_65_code
def yJ9_max_7cf53 : MethodName := ⟨RJ9, "max", "(II)I"⟩
def RJ10 : String := "java/lang/System"
def TJ10 : u_T := fun k => match k with
  | _ => ("", "", "", false)
def tyJ10 : Nat → FieldType := fun k => match k with
  | _ => .int
theorem nmJ10 : ∀ a, a < 0 → ∀ b, b < 0 → a ≠ b → (TJ10 a).2.1 ≠ (TJ10 b).2.1 := by decide +kernel
theorem tyJ10_ok : ∀ k, k < 0 → parseFieldDescriptor (TJ10 k).2.2.1 = some (tyJ10 k) := by decide +kernel
def RL : String := "UnderTermsLaw"
abbrev cL_law : ByteArray := code
def yL_law : MethodName := ⟨RL, "law", "([I)Z"⟩
set_option maxRecDepth 20000 in
abbrev vwCl : List vw_C := [(RX0, TX0, 11), (RX1, TX1, 3), (RX2, TX2, 5), (RX3, TX3, 13), (RX4, TX4, 7), (RX5, TX5, 26)]
end
section
theorem dX0_init_0 : decode cX0_init 0 = .ok (.aload_n 0, 1) := by decide +kernel
theorem dX0_init_1 : decode cX0_init 1 = .ok (.invokespecial 3, 3) := by decide +kernel
theorem dX0_init_4 : decode cX0_init 4 = .ok (.aload_n 0, 1) := by decide +kernel
theorem dX0_init_5 : decode cX0_init 5 = .ok (.iconst 5, 1) := by decide +kernel
theorem dX0_init_6 : decode cX0_init 6 = .ok (.newarray .int, 2) := by decide +kernel
theorem dX0_init_8 : decode cX0_init 8 = .ok (.putfield 9, 3) := by decide +kernel
theorem dX0_init_11 : decode cX0_init 11 = .ok (.aload_n 0, 1) := by decide +kernel
theorem dX0_init_12 : decode cX0_init 12 = .ok (.iconst 5, 1) := by decide +kernel
theorem dX0_init_13 : decode cX0_init 13 = .ok (.newarray .int, 2) := by decide +kernel
theorem dX0_init_15 : decode cX0_init 15 = .ok (.putfield 15, 3) := by decide +kernel
theorem dX0_init_18 : decode cX0_init 18 = .ok (.aload_n 0, 1) := by decide +kernel
theorem dX0_init_19 : decode cX0_init 19 = .ok (.iconst 5, 1) := by decide +kernel
theorem dX0_init_20 : decode cX0_init 20 = .ok (.newarray .int, 2) := by decide +kernel
theorem dX0_init_22 : decode cX0_init 22 = .ok (.putfield 18, 3) := by decide +kernel
theorem dX0_init_25 : decode cX0_init 25 = .ok (.aload_n 0, 1) := by decide +kernel
theorem dX0_init_26 : decode cX0_init 26 = .ok (.iconst 5, 1) := by decide +kernel
theorem dX0_init_27 : decode cX0_init 27 = .ok (.newarray .int, 2) := by decide +kernel
theorem dX0_init_29 : decode cX0_init 29 = .ok (.putfield 21, 3) := by decide +kernel
theorem dX0_init_32 : decode cX0_init 32 = .ok (.aload_n 0, 1) := by decide +kernel
theorem dX0_init_33 : decode cX0_init 33 = .ok (.bipush 6, 2) := by decide +kernel
theorem dX0_init_35 : decode cX0_init 35 = .ok (.newarray .int, 2) := by decide +kernel
theorem dX0_init_37 : decode cX0_init 37 = .ok (.putfield 24, 3) := by decide +kernel
theorem dX0_init_40 : decode cX0_init 40 = .ok (.aload_n 0, 1) := by decide +kernel
theorem dX0_init_41 : decode cX0_init 41 = .ok (.bipush 6, 2) := by decide +kernel
theorem dX0_init_43 : decode cX0_init 43 = .ok (.newarray .int, 2) := by decide +kernel
theorem dX0_init_45 : decode cX0_init 45 = .ok (.putfield 27, 3) := by decide +kernel
theorem dX0_init_48 : decode cX0_init 48 = .ok (.aload_n 0, 1) := by decide +kernel
theorem dX0_init_49 : decode cX0_init 49 = .ok (.bipush 6, 2) := by decide +kernel
theorem dX0_init_51 : decode cX0_init 51 = .ok (.newarray .int, 2) := by decide +kernel
theorem dX0_init_53 : decode cX0_init 53 = .ok (.putfield 30, 3) := by decide +kernel
theorem dX0_init_56 : decode cX0_init 56 = .ok (.aload_n 0, 1) := by decide +kernel
theorem dX0_init_57 : decode cX0_init 57 = .ok (.bipush 6, 2) := by decide +kernel
theorem dX0_init_59 : decode cX0_init 59 = .ok (.newarray .int, 2) := by decide +kernel
theorem dX0_init_61 : decode cX0_init 61 = .ok (.putfield 33, 3) := by decide +kernel
theorem dX0_init_64 : decode cX0_init 64 = .ok (.aload_n 0, 1) := by decide +kernel
theorem dX0_init_65 : decode cX0_init 65 = .ok (.bipush 36, 2) := by decide +kernel
theorem dX0_init_67 : decode cX0_init 67 = .ok (.newarray .int, 2) := by decide +kernel
theorem dX0_init_69 : decode cX0_init 69 = .ok (.putfield 36, 3) := by decide +kernel
theorem dX0_init_72 : decode cX0_init 72 = .ok (.aload_n 0, 1) := by decide +kernel
theorem dX0_init_73 : decode cX0_init 73 = .ok (.iconst 5, 1) := by decide +kernel
theorem dX0_init_74 : decode cX0_init 74 = .ok (.putfield 39, 3) := by decide +kernel
theorem dX0_init_77 : decode cX0_init 77 = .ok (.aload_n 0, 1) := by decide +kernel
theorem dX0_init_78 : decode cX0_init 78 = .ok (.iconst 5, 1) := by decide +kernel
theorem dX0_init_79 : decode cX0_init 79 = .ok (.putfield 43, 3) := by decide +kernel
theorem dX0_init_82 : decode cX0_init 82 = .ok (.iconst 0, 1) := by decide +kernel
theorem dX0_init_83 : decode cX0_init 83 = .ok (.istore_n 1, 1) := by decide +kernel
theorem dX0_init_84 : decode cX0_init 84 = .ok (.iload_n 1, 1) := by decide +kernel
theorem dX0_init_85 : decode cX0_init 85 = .ok (.iconst 5, 1) := by decide +kernel
theorem dX0_init_86 : decode cX0_init 86 = .ok (.if_icmp .ge 32, 3) := by decide +kernel
theorem dX0_init_89 : decode cX0_init 89 = .ok (.aload_n 0, 1) := by decide +kernel
theorem dX0_init_90 : decode cX0_init 90 = .ok (.getfield 15, 3) := by decide +kernel
theorem dX0_init_93 : decode cX0_init 93 = .ok (.iload_n 1, 1) := by decide +kernel
theorem dX0_init_94 : decode cX0_init 94 = .ok (.iconst 3, 1) := by decide +kernel
theorem dX0_init_95 : decode cX0_init 95 = .ok (.iastore, 1) := by decide +kernel
theorem dX0_init_96 : decode cX0_init 96 = .ok (.aload_n 0, 1) := by decide +kernel
theorem dX0_init_97 : decode cX0_init 97 = .ok (.getfield 18, 3) := by decide +kernel
theorem dX0_init_100 : decode cX0_init 100 = .ok (.iload_n 1, 1) := by decide +kernel
theorem dX0_init_101 : decode cX0_init 101 = .ok (.bipush 31, 2) := by decide +kernel
theorem dX0_init_103 : decode cX0_init 103 = .ok (.iastore, 1) := by decide +kernel
theorem dX0_init_104 : decode cX0_init 104 = .ok (.aload_n 0, 1) := by decide +kernel
theorem dX0_init_105 : decode cX0_init 105 = .ok (.getfield 21, 3) := by decide +kernel
theorem dX0_init_108 : decode cX0_init 108 = .ok (.iload_n 1, 1) := by decide +kernel
theorem dX0_init_109 : decode cX0_init 109 = .ok (.bipush (-6), 2) := by decide +kernel
theorem dX0_init_111 : decode cX0_init 111 = .ok (.iastore, 1) := by decide +kernel
theorem dX0_init_112 : decode cX0_init 112 = .ok (.iinc 1 1, 3) := by decide +kernel
theorem dX0_init_115 : decode cX0_init 115 = .ok (.goto (-31), 3) := by decide +kernel
theorem dX0_init_118 : decode cX0_init 118 = .ok (.iconst 0, 1) := by decide +kernel
theorem dX0_init_119 : decode cX0_init 119 = .ok (.istore_n 1, 1) := by decide +kernel
theorem dX0_init_120 : decode cX0_init 120 = .ok (.iload_n 1, 1) := by decide +kernel
theorem dX0_init_121 : decode cX0_init 121 = .ok (.bipush 6, 2) := by decide +kernel
theorem dX0_init_123 : decode cX0_init 123 = .ok (.if_icmp .ge 31, 3) := by decide +kernel
theorem dX0_init_126 : decode cX0_init 126 = .ok (.aload_n 0, 1) := by decide +kernel
theorem dX0_init_127 : decode cX0_init 127 = .ok (.getfield 24, 3) := by decide +kernel
theorem dX0_init_130 : decode cX0_init 130 = .ok (.iload_n 1, 1) := by decide +kernel
theorem dX0_init_131 : decode cX0_init 131 = .ok (.iconst 1, 1) := by decide +kernel
theorem dX0_init_132 : decode cX0_init 132 = .ok (.iastore, 1) := by decide +kernel
theorem dX0_init_133 : decode cX0_init 133 = .ok (.aload_n 0, 1) := by decide +kernel
theorem dX0_init_134 : decode cX0_init 134 = .ok (.getfield 30, 3) := by decide +kernel
theorem dX0_init_137 : decode cX0_init 137 = .ok (.iload_n 1, 1) := by decide +kernel
theorem dX0_init_138 : decode cX0_init 138 = .ok (.iconst 1, 1) := by decide +kernel
theorem dX0_init_139 : decode cX0_init 139 = .ok (.iastore, 1) := by decide +kernel
theorem dX0_init_140 : decode cX0_init 140 = .ok (.aload_n 0, 1) := by decide +kernel
theorem dX0_init_141 : decode cX0_init 141 = .ok (.getfield 33, 3) := by decide +kernel
theorem dX0_init_144 : decode cX0_init 144 = .ok (.iload_n 1, 1) := by decide +kernel
theorem dX0_init_145 : decode cX0_init 145 = .ok (.bipush 10, 2) := by decide +kernel
theorem dX0_init_147 : decode cX0_init 147 = .ok (.iastore, 1) := by decide +kernel
theorem dX0_init_148 : decode cX0_init 148 = .ok (.iinc 1 1, 3) := by decide +kernel
theorem dX0_init_151 : decode cX0_init 151 = .ok (.goto (-31), 3) := by decide +kernel
theorem dX0_init_154 : decode cX0_init 154 = .ok (.iconst 0, 1) := by decide +kernel
theorem dX0_init_155 : decode cX0_init 155 = .ok (.istore_n 1, 1) := by decide +kernel
theorem dX0_init_156 : decode cX0_init 156 = .ok (.iload_n 1, 1) := by decide +kernel
theorem dX0_init_157 : decode cX0_init 157 = .ok (.bipush 36, 2) := by decide +kernel
theorem dX0_init_159 : decode cX0_init 159 = .ok (.if_icmp .ge 17, 3) := by decide +kernel
theorem dX0_init_162 : decode cX0_init 162 = .ok (.aload_n 0, 1) := by decide +kernel
theorem dX0_init_163 : decode cX0_init 163 = .ok (.getfield 36, 3) := by decide +kernel
theorem dX0_init_166 : decode cX0_init 166 = .ok (.iload_n 1, 1) := by decide +kernel
theorem dX0_init_167 : decode cX0_init 167 = .ok (.bipush (-6), 2) := by decide +kernel
theorem dX0_init_169 : decode cX0_init 169 = .ok (.iastore, 1) := by decide +kernel
theorem dX0_init_170 : decode cX0_init 170 = .ok (.iinc 1 1, 3) := by decide +kernel
theorem dX0_init_173 : decode cX0_init 173 = .ok (.goto (-17), 3) := by decide +kernel
theorem dX0_init_176 : decode cX0_init 176 = .ok (.return_, 1) := by decide +kernel
theorem dX0_takeFrom_0 : decode cX0_takeFrom 0 = .ok (.aload_n 1, 1) := by decide +kernel
theorem dX0_takeFrom_1 : decode cX0_takeFrom 1 = .ok (.getfield 9, 3) := by decide +kernel
theorem dX0_takeFrom_4 : decode cX0_takeFrom 4 = .ok (.iconst 0, 1) := by decide +kernel
theorem dX0_takeFrom_5 : decode cX0_takeFrom 5 = .ok (.aload_n 0, 1) := by decide +kernel
theorem dX0_takeFrom_6 : decode cX0_takeFrom 6 = .ok (.getfield 9, 3) := by decide +kernel
theorem dX0_takeFrom_9 : decode cX0_takeFrom 9 = .ok (.iconst 0, 1) := by decide +kernel
theorem dX0_takeFrom_10 : decode cX0_takeFrom 10 = .ok (.iconst 5, 1) := by decide +kernel
theorem dX0_takeFrom_11 : decode cX0_takeFrom 11 = .ok (.invokestatic 46, 3) := by decide +kernel
theorem dX0_takeFrom_14 : decode cX0_takeFrom 14 = .ok (.aload_n 1, 1) := by decide +kernel
theorem dX0_takeFrom_15 : decode cX0_takeFrom 15 = .ok (.getfield 15, 3) := by decide +kernel
theorem dX0_takeFrom_18 : decode cX0_takeFrom 18 = .ok (.iconst 0, 1) := by decide +kernel
theorem dX0_takeFrom_19 : decode cX0_takeFrom 19 = .ok (.aload_n 0, 1) := by decide +kernel
theorem dX0_takeFrom_20 : decode cX0_takeFrom 20 = .ok (.getfield 15, 3) := by decide +kernel
theorem dX0_takeFrom_23 : decode cX0_takeFrom 23 = .ok (.iconst 0, 1) := by decide +kernel
theorem dX0_takeFrom_24 : decode cX0_takeFrom 24 = .ok (.iconst 5, 1) := by decide +kernel
theorem dX0_takeFrom_25 : decode cX0_takeFrom 25 = .ok (.invokestatic 46, 3) := by decide +kernel
theorem dX0_takeFrom_28 : decode cX0_takeFrom 28 = .ok (.aload_n 1, 1) := by decide +kernel
theorem dX0_takeFrom_29 : decode cX0_takeFrom 29 = .ok (.getfield 18, 3) := by decide +kernel
theorem dX0_takeFrom_32 : decode cX0_takeFrom 32 = .ok (.iconst 0, 1) := by decide +kernel
theorem dX0_takeFrom_33 : decode cX0_takeFrom 33 = .ok (.aload_n 0, 1) := by decide +kernel
theorem dX0_takeFrom_34 : decode cX0_takeFrom 34 = .ok (.getfield 18, 3) := by decide +kernel
theorem dX0_takeFrom_37 : decode cX0_takeFrom 37 = .ok (.iconst 0, 1) := by decide +kernel
theorem dX0_takeFrom_38 : decode cX0_takeFrom 38 = .ok (.iconst 5, 1) := by decide +kernel
theorem dX0_takeFrom_39 : decode cX0_takeFrom 39 = .ok (.invokestatic 46, 3) := by decide +kernel
theorem dX0_takeFrom_42 : decode cX0_takeFrom 42 = .ok (.aload_n 1, 1) := by decide +kernel
theorem dX0_takeFrom_43 : decode cX0_takeFrom 43 = .ok (.getfield 21, 3) := by decide +kernel
theorem dX0_takeFrom_46 : decode cX0_takeFrom 46 = .ok (.iconst 0, 1) := by decide +kernel
theorem dX0_takeFrom_47 : decode cX0_takeFrom 47 = .ok (.aload_n 0, 1) := by decide +kernel
theorem dX0_takeFrom_48 : decode cX0_takeFrom 48 = .ok (.getfield 21, 3) := by decide +kernel
theorem dX0_takeFrom_51 : decode cX0_takeFrom 51 = .ok (.iconst 0, 1) := by decide +kernel
theorem dX0_takeFrom_52 : decode cX0_takeFrom 52 = .ok (.iconst 5, 1) := by decide +kernel
theorem dX0_takeFrom_53 : decode cX0_takeFrom 53 = .ok (.invokestatic 46, 3) := by decide +kernel
theorem dX0_takeFrom_56 : decode cX0_takeFrom 56 = .ok (.aload_n 1, 1) := by decide +kernel
theorem dX0_takeFrom_57 : decode cX0_takeFrom 57 = .ok (.getfield 24, 3) := by decide +kernel
theorem dX0_takeFrom_60 : decode cX0_takeFrom 60 = .ok (.iconst 0, 1) := by decide +kernel
theorem dX0_takeFrom_61 : decode cX0_takeFrom 61 = .ok (.aload_n 0, 1) := by decide +kernel
theorem dX0_takeFrom_62 : decode cX0_takeFrom 62 = .ok (.getfield 24, 3) := by decide +kernel
theorem dX0_takeFrom_65 : decode cX0_takeFrom 65 = .ok (.iconst 0, 1) := by decide +kernel
theorem dX0_takeFrom_66 : decode cX0_takeFrom 66 = .ok (.bipush 6, 2) := by decide +kernel
theorem dX0_takeFrom_68 : decode cX0_takeFrom 68 = .ok (.invokestatic 46, 3) := by decide +kernel
theorem dX0_takeFrom_71 : decode cX0_takeFrom 71 = .ok (.aload_n 1, 1) := by decide +kernel
theorem dX0_takeFrom_72 : decode cX0_takeFrom 72 = .ok (.getfield 27, 3) := by decide +kernel
theorem dX0_takeFrom_75 : decode cX0_takeFrom 75 = .ok (.iconst 0, 1) := by decide +kernel
theorem dX0_takeFrom_76 : decode cX0_takeFrom 76 = .ok (.aload_n 0, 1) := by decide +kernel
theorem dX0_takeFrom_77 : decode cX0_takeFrom 77 = .ok (.getfield 27, 3) := by decide +kernel
theorem dX0_takeFrom_80 : decode cX0_takeFrom 80 = .ok (.iconst 0, 1) := by decide +kernel
theorem dX0_takeFrom_81 : decode cX0_takeFrom 81 = .ok (.bipush 6, 2) := by decide +kernel
theorem dX0_takeFrom_83 : decode cX0_takeFrom 83 = .ok (.invokestatic 46, 3) := by decide +kernel
theorem dX0_takeFrom_86 : decode cX0_takeFrom 86 = .ok (.aload_n 1, 1) := by decide +kernel
theorem dX0_takeFrom_87 : decode cX0_takeFrom 87 = .ok (.getfield 30, 3) := by decide +kernel
theorem dX0_takeFrom_90 : decode cX0_takeFrom 90 = .ok (.iconst 0, 1) := by decide +kernel
theorem dX0_takeFrom_91 : decode cX0_takeFrom 91 = .ok (.aload_n 0, 1) := by decide +kernel
theorem dX0_takeFrom_92 : decode cX0_takeFrom 92 = .ok (.getfield 30, 3) := by decide +kernel
theorem dX0_takeFrom_95 : decode cX0_takeFrom 95 = .ok (.iconst 0, 1) := by decide +kernel
theorem dX0_takeFrom_96 : decode cX0_takeFrom 96 = .ok (.bipush 6, 2) := by decide +kernel
theorem dX0_takeFrom_98 : decode cX0_takeFrom 98 = .ok (.invokestatic 46, 3) := by decide +kernel
theorem dX0_takeFrom_101 : decode cX0_takeFrom 101 = .ok (.aload_n 1, 1) := by decide +kernel
theorem dX0_takeFrom_102 : decode cX0_takeFrom 102 = .ok (.getfield 33, 3) := by decide +kernel
theorem dX0_takeFrom_105 : decode cX0_takeFrom 105 = .ok (.iconst 0, 1) := by decide +kernel
theorem dX0_takeFrom_106 : decode cX0_takeFrom 106 = .ok (.aload_n 0, 1) := by decide +kernel
theorem dX0_takeFrom_107 : decode cX0_takeFrom 107 = .ok (.getfield 33, 3) := by decide +kernel
theorem dX0_takeFrom_110 : decode cX0_takeFrom 110 = .ok (.iconst 0, 1) := by decide +kernel
theorem dX0_takeFrom_111 : decode cX0_takeFrom 111 = .ok (.bipush 6, 2) := by decide +kernel
theorem dX0_takeFrom_113 : decode cX0_takeFrom 113 = .ok (.invokestatic 46, 3) := by decide +kernel
theorem dX0_takeFrom_116 : decode cX0_takeFrom 116 = .ok (.aload_n 1, 1) := by decide +kernel
theorem dX0_takeFrom_117 : decode cX0_takeFrom 117 = .ok (.getfield 36, 3) := by decide +kernel
theorem dX0_takeFrom_120 : decode cX0_takeFrom 120 = .ok (.iconst 0, 1) := by decide +kernel
theorem dX0_takeFrom_121 : decode cX0_takeFrom 121 = .ok (.aload_n 0, 1) := by decide +kernel
theorem dX0_takeFrom_122 : decode cX0_takeFrom 122 = .ok (.getfield 36, 3) := by decide +kernel
theorem dX0_takeFrom_125 : decode cX0_takeFrom 125 = .ok (.iconst 0, 1) := by decide +kernel
theorem dX0_takeFrom_126 : decode cX0_takeFrom 126 = .ok (.bipush 36, 2) := by decide +kernel
theorem dX0_takeFrom_128 : decode cX0_takeFrom 128 = .ok (.invokestatic 46, 3) := by decide +kernel
theorem dX0_takeFrom_131 : decode cX0_takeFrom 131 = .ok (.aload_n 0, 1) := by decide +kernel
theorem dX0_takeFrom_132 : decode cX0_takeFrom 132 = .ok (.aload_n 1, 1) := by decide +kernel
theorem dX0_takeFrom_133 : decode cX0_takeFrom 133 = .ok (.getfield 39, 3) := by decide +kernel
theorem dX0_takeFrom_136 : decode cX0_takeFrom 136 = .ok (.putfield 39, 3) := by decide +kernel
theorem dX0_takeFrom_139 : decode cX0_takeFrom 139 = .ok (.aload_n 0, 1) := by decide +kernel
theorem dX0_takeFrom_140 : decode cX0_takeFrom 140 = .ok (.aload_n 1, 1) := by decide +kernel
theorem dX0_takeFrom_141 : decode cX0_takeFrom 141 = .ok (.getfield 43, 3) := by decide +kernel
theorem dX0_takeFrom_144 : decode cX0_takeFrom 144 = .ok (.putfield 43, 3) := by decide +kernel
theorem dX0_takeFrom_147 : decode cX0_takeFrom 147 = .ok (.return_, 1) := by decide +kernel
theorem dX0_choicesOf_0 : decode cX0_choicesOf 0 = .ok (.aload_n 0, 1) := by decide +kernel
theorem dX0_choicesOf_1 : decode cX0_choicesOf 1 = .ok (.getfield 24, 3) := by decide +kernel
theorem dX0_choicesOf_4 : decode cX0_choicesOf 4 = .ok (.iload_n 1, 1) := by decide +kernel
theorem dX0_choicesOf_5 : decode cX0_choicesOf 5 = .ok (.iaload, 1) := by decide +kernel
theorem dX0_choicesOf_6 : decode cX0_choicesOf 6 = .ok (.istore_n 2, 1) := by decide +kernel
theorem dX0_choicesOf_7 : decode cX0_choicesOf 7 = .ok (.aload_n 0, 1) := by decide +kernel
theorem dX0_choicesOf_8 : decode cX0_choicesOf 8 = .ok (.getfield 27, 3) := by decide +kernel
theorem dX0_choicesOf_11 : decode cX0_choicesOf 11 = .ok (.iload_n 1, 1) := by decide +kernel
theorem dX0_choicesOf_12 : decode cX0_choicesOf 12 = .ok (.iaload, 1) := by decide +kernel
theorem dX0_choicesOf_13 : decode cX0_choicesOf 13 = .ok (.ifCond .ne 5, 3) := by decide +kernel
theorem dX0_choicesOf_16 : decode cX0_choicesOf 16 = .ok (.iload_n 2, 1) := by decide +kernel
theorem dX0_choicesOf_17 : decode cX0_choicesOf 17 = .ok (.ireturn, 1) := by decide +kernel
theorem dX0_choicesOf_18 : decode cX0_choicesOf 18 = .ok (.iconst 0, 1) := by decide +kernel
theorem dX0_choicesOf_19 : decode cX0_choicesOf 19 = .ok (.istore_n 3, 1) := by decide +kernel
theorem dX0_choicesOf_20 : decode cX0_choicesOf 20 = .ok (.iload_n 3, 1) := by decide +kernel
theorem dX0_choicesOf_21 : decode cX0_choicesOf 21 = .ok (.iconst 5, 1) := by decide +kernel
theorem dX0_choicesOf_22 : decode cX0_choicesOf 22 = .ok (.if_icmp .ge 57, 3) := by decide +kernel
theorem dX0_choicesOf_25 : decode cX0_choicesOf 25 = .ok (.iconst 0, 1) := by decide +kernel
theorem dX0_choicesOf_26 : decode cX0_choicesOf 26 = .ok (.istore 4, 2) := by decide +kernel
theorem dX0_choicesOf_28 : decode cX0_choicesOf 28 = .ok (.iload 4, 2) := by decide +kernel
theorem dX0_choicesOf_30 : decode cX0_choicesOf 30 = .ok (.iconst 5, 1) := by decide +kernel
theorem dX0_choicesOf_31 : decode cX0_choicesOf 31 = .ok (.if_icmp .ge 42, 3) := by decide +kernel
theorem dX0_choicesOf_34 : decode cX0_choicesOf 34 = .ok (.iload_n 2, 1) := by decide +kernel
theorem dX0_choicesOf_35 : decode cX0_choicesOf 35 = .ok (.iload 4, 2) := by decide +kernel
theorem dX0_choicesOf_37 : decode cX0_choicesOf 37 = .ok (.invokestatic 52, 3) := by decide +kernel
theorem dX0_choicesOf_40 : decode cX0_choicesOf 40 = .ok (.ifCond .eq 27, 3) := by decide +kernel
theorem dX0_choicesOf_43 : decode cX0_choicesOf 43 = .ok (.aload_n 0, 1) := by decide +kernel
theorem dX0_choicesOf_44 : decode cX0_choicesOf 44 = .ok (.getfield 21, 3) := by decide +kernel
theorem dX0_choicesOf_47 : decode cX0_choicesOf 47 = .ok (.iload 4, 2) := by decide +kernel
theorem dX0_choicesOf_49 : decode cX0_choicesOf 49 = .ok (.iaload, 1) := by decide +kernel
theorem dX0_choicesOf_50 : decode cX0_choicesOf 50 = .ok (.bipush (-6), 2) := by decide +kernel
theorem dX0_choicesOf_52 : decode cX0_choicesOf 52 = .ok (.if_icmp .eq 15, 3) := by decide +kernel
theorem dX0_choicesOf_55 : decode cX0_choicesOf 55 = .ok (.iload_n 2, 1) := by decide +kernel
theorem dX0_choicesOf_56 : decode cX0_choicesOf 56 = .ok (.iconst 1, 1) := by decide +kernel
theorem dX0_choicesOf_57 : decode cX0_choicesOf 57 = .ok (.aload_n 0, 1) := by decide +kernel
theorem dX0_choicesOf_58 : decode cX0_choicesOf 58 = .ok (.getfield 21, 3) := by decide +kernel
theorem dX0_choicesOf_61 : decode cX0_choicesOf 61 = .ok (.iload 4, 2) := by decide +kernel
theorem dX0_choicesOf_63 : decode cX0_choicesOf 63 = .ok (.iaload, 1) := by decide +kernel
theorem dX0_choicesOf_64 : decode cX0_choicesOf 64 = .ok (.ishl, 1) := by decide +kernel
theorem dX0_choicesOf_65 : decode cX0_choicesOf 65 = .ok (.ior, 1) := by decide +kernel
theorem dX0_choicesOf_66 : decode cX0_choicesOf 66 = .ok (.istore_n 2, 1) := by decide +kernel
theorem dX0_choicesOf_67 : decode cX0_choicesOf 67 = .ok (.iinc 4 1, 3) := by decide +kernel
theorem dX0_choicesOf_70 : decode cX0_choicesOf 70 = .ok (.goto (-42), 3) := by decide +kernel
theorem dX0_choicesOf_73 : decode cX0_choicesOf 73 = .ok (.iinc 3 1, 3) := by decide +kernel
theorem dX0_choicesOf_76 : decode cX0_choicesOf 76 = .ok (.goto (-56), 3) := by decide +kernel
theorem dX0_choicesOf_79 : decode cX0_choicesOf 79 = .ok (.iload_n 2, 1) := by decide +kernel
theorem dX0_choicesOf_80 : decode cX0_choicesOf 80 = .ok (.ireturn, 1) := by decide +kernel
theorem dX1_init_0 : decode cX1_init 0 = .ok (.aload_n 0, 1) := by decide +kernel
theorem dX1_init_1 : decode cX1_init 1 = .ok (.invokespecial 3, 3) := by decide +kernel
theorem dX1_init_4 : decode cX1_init 4 = .ok (.aload_n 0, 1) := by decide +kernel
theorem dX1_init_5 : decode cX1_init 5 = .ok (.bipush 6, 2) := by decide +kernel
theorem dX1_init_7 : decode cX1_init 7 = .ok (.newarray .int, 2) := by decide +kernel
theorem dX1_init_9 : decode cX1_init 9 = .ok (.putfield 9, 3) := by decide +kernel
theorem dX1_init_12 : decode cX1_init 12 = .ok (.aload_n 0, 1) := by decide +kernel
theorem dX1_init_13 : decode cX1_init 13 = .ok (.iconst 0, 1) := by decide +kernel
theorem dX1_init_14 : decode cX1_init 14 = .ok (.putfield 15, 3) := by decide +kernel
theorem dX1_init_17 : decode cX1_init 17 = .ok (.aload_n 0, 1) := by decide +kernel
theorem dX1_init_18 : decode cX1_init 18 = .ok (.iconst 0, 1) := by decide +kernel
theorem dX1_init_19 : decode cX1_init 19 = .ok (.putfield 19, 3) := by decide +kernel
theorem dX1_init_22 : decode cX1_init 22 = .ok (.return_, 1) := by decide +kernel
theorem dX2_init_0 : decode cX2_init 0 = .ok (.aload_n 0, 1) := by decide +kernel
theorem dX2_init_1 : decode cX2_init 1 = .ok (.invokespecial 3, 3) := by decide +kernel
theorem dX2_init_4 : decode cX2_init 4 = .ok (.aload_n 0, 1) := by decide +kernel
theorem dX2_init_5 : decode cX2_init 5 = .ok (.bipush 20, 2) := by decide +kernel
theorem dX2_init_7 : decode cX2_init 7 = .ok (.newarray .int, 2) := by decide +kernel
theorem dX2_init_9 : decode cX2_init 9 = .ok (.putfield 11, 3) := by decide +kernel
theorem dX2_init_12 : decode cX2_init 12 = .ok (.aload_n 0, 1) := by decide +kernel
theorem dX2_init_13 : decode cX2_init 13 = .ok (.iconst 0, 1) := by decide +kernel
theorem dX2_init_14 : decode cX2_init 14 = .ok (.putfield 15, 3) := by decide +kernel
theorem dX2_init_17 : decode cX2_init 17 = .ok (.aload_n 0, 1) := by decide +kernel
theorem dX2_init_18 : decode cX2_init 18 = .ok (.iconst 0, 1) := by decide +kernel
theorem dX2_init_19 : decode cX2_init 19 = .ok (.putfield 19, 3) := by decide +kernel
theorem dX2_init_22 : decode cX2_init 22 = .ok (.aload_n 0, 1) := by decide +kernel
theorem dX2_init_23 : decode cX2_init 23 = .ok (.iconst 0, 1) := by decide +kernel
theorem dX2_init_24 : decode cX2_init 24 = .ok (.putfield 22, 3) := by decide +kernel
theorem dX2_init_27 : decode cX2_init 27 = .ok (.aload_n 0, 1) := by decide +kernel
theorem dX2_init_28 : decode cX2_init 28 = .ok (.iconst 0, 1) := by decide +kernel
theorem dX2_init_29 : decode cX2_init 29 = .ok (.putfield 25, 3) := by decide +kernel
theorem dX2_init_32 : decode cX2_init 32 = .ok (.return_, 1) := by decide +kernel
theorem dX2_put_0 : decode cX2_put 0 = .ok (.aload_n 0, 1) := by decide +kernel
theorem dX2_put_1 : decode cX2_put 1 = .ok (.getfield 15, 3) := by decide +kernel
theorem dX2_put_4 : decode cX2_put 4 = .ok (.bipush 20, 2) := by decide +kernel
theorem dX2_put_6 : decode cX2_put 6 = .ok (.if_icmp .ge 23, 3) := by decide +kernel
theorem dX2_put_9 : decode cX2_put 9 = .ok (.aload_n 0, 1) := by decide +kernel
theorem dX2_put_10 : decode cX2_put 10 = .ok (.getfield 11, 3) := by decide +kernel
theorem dX2_put_13 : decode cX2_put 13 = .ok (.aload_n 0, 1) := by decide +kernel
theorem dX2_put_14 : decode cX2_put 14 = .ok (.getfield 15, 3) := by decide +kernel
theorem dX2_put_17 : decode cX2_put 17 = .ok (.iload_n 1, 1) := by decide +kernel
theorem dX2_put_18 : decode cX2_put 18 = .ok (.iastore, 1) := by decide +kernel
theorem dX2_put_19 : decode cX2_put 19 = .ok (.aload_n 0, 1) := by decide +kernel
theorem dX2_put_20 : decode cX2_put 20 = .ok (.dup, 1) := by decide +kernel
theorem dX2_put_21 : decode cX2_put 21 = .ok (.getfield 15, 3) := by decide +kernel
theorem dX2_put_24 : decode cX2_put 24 = .ok (.iconst 1, 1) := by decide +kernel
theorem dX2_put_25 : decode cX2_put 25 = .ok (.iadd, 1) := by decide +kernel
theorem dX2_put_26 : decode cX2_put 26 = .ok (.putfield 15, 3) := by decide +kernel
theorem dX2_put_29 : decode cX2_put 29 = .ok (.return_, 1) := by decide +kernel
theorem dX2_read_0 : decode cX2_read 0 = .ok (.aload_n 0, 1) := by decide +kernel
theorem dX2_read_1 : decode cX2_read 1 = .ok (.invokevirtual 28, 3) := by decide +kernel
theorem dX2_read_4 : decode cX2_read 4 = .ok (.istore_n 1, 1) := by decide +kernel
theorem dX2_read_5 : decode cX2_read 5 = .ok (.iload_n 1, 1) := by decide +kernel
theorem dX2_read_6 : decode cX2_read 6 = .ok (.aload_n 0, 1) := by decide +kernel
theorem dX2_read_7 : decode cX2_read 7 = .ok (.getfield 15, 3) := by decide +kernel
theorem dX2_read_10 : decode cX2_read 10 = .ok (.if_icmp .ge 19, 3) := by decide +kernel
theorem dX2_read_13 : decode cX2_read 13 = .ok (.aload_n 0, 1) := by decide +kernel
theorem dX2_read_14 : decode cX2_read 14 = .ok (.getfield 11, 3) := by decide +kernel
theorem dX2_read_17 : decode cX2_read 17 = .ok (.iload_n 1, 1) := by decide +kernel
theorem dX2_read_18 : decode cX2_read 18 = .ok (.iaload, 1) := by decide +kernel
theorem dX2_read_19 : decode cX2_read 19 = .ok (.bipush 48, 2) := by decide +kernel
theorem dX2_read_21 : decode cX2_read 21 = .ok (.bipush 51, 2) := by decide +kernel
theorem dX2_read_23 : decode cX2_read 23 = .ok (.invokestatic 32, 3) := by decide +kernel
theorem dX2_read_26 : decode cX2_read 26 = .ok (.ifCond .ne 5, 3) := by decide +kernel
theorem dX2_read_29 : decode cX2_read 29 = .ok (.iload_n 1, 1) := by decide +kernel
theorem dX2_read_30 : decode cX2_read 30 = .ok (.ireturn, 1) := by decide +kernel
theorem dX2_read_31 : decode cX2_read 31 = .ok (.aload_n 0, 1) := by decide +kernel
theorem dX2_read_32 : decode cX2_read 32 = .ok (.aload_n 0, 1) := by decide +kernel
theorem dX2_read_33 : decode cX2_read 33 = .ok (.getfield 11, 3) := by decide +kernel
theorem dX2_read_36 : decode cX2_read 36 = .ok (.iload_n 1, 1) := by decide +kernel
theorem dX2_read_37 : decode cX2_read 37 = .ok (.iaload, 1) := by decide +kernel
theorem dX2_read_38 : decode cX2_read 38 = .ok (.bipush 48, 2) := by decide +kernel
theorem dX2_read_40 : decode cX2_read 40 = .ok (.isub, 1) := by decide +kernel
theorem dX2_read_41 : decode cX2_read 41 = .ok (.putfield 22, 3) := by decide +kernel
theorem dX2_read_44 : decode cX2_read 44 = .ok (.iinc 1 1, 3) := by decide +kernel
theorem dX2_read_47 : decode cX2_read 47 = .ok (.iload_n 1, 1) := by decide +kernel
theorem dX2_read_48 : decode cX2_read 48 = .ok (.aload_n 0, 1) := by decide +kernel
theorem dX2_read_49 : decode cX2_read 49 = .ok (.getfield 15, 3) := by decide +kernel
theorem dX2_read_52 : decode cX2_read 52 = .ok (.if_icmp .lt 12, 3) := by decide +kernel
theorem dX2_read_55 : decode cX2_read 55 = .ok (.aload_n 0, 1) := by decide +kernel
theorem dX2_read_56 : decode cX2_read 56 = .ok (.bipush 31, 2) := by decide +kernel
theorem dX2_read_58 : decode cX2_read 58 = .ok (.putfield 25, 3) := by decide +kernel
theorem dX2_read_61 : decode cX2_read 61 = .ok (.bipush (-6), 2) := by decide +kernel
theorem dX2_read_63 : decode cX2_read 63 = .ok (.ireturn, 1) := by decide +kernel
theorem dX2_read_64 : decode cX2_read 64 = .ok (.aload_n 0, 1) := by decide +kernel
theorem dX2_read_65 : decode cX2_read 65 = .ok (.getfield 11, 3) := by decide +kernel
theorem dX2_read_68 : decode cX2_read 68 = .ok (.iload_n 1, 1) := by decide +kernel
theorem dX2_read_69 : decode cX2_read 69 = .ok (.iaload, 1) := by decide +kernel
theorem dX2_read_70 : decode cX2_read 70 = .ok (.bipush 58, 2) := by decide +kernel
theorem dX2_read_72 : decode cX2_read 72 = .ok (.if_icmp .ne 13, 3) := by decide +kernel
theorem dX2_read_75 : decode cX2_read 75 = .ok (.aload_n 0, 1) := by decide +kernel
theorem dX2_read_76 : decode cX2_read 76 = .ok (.iload_n 1, 1) := by decide +kernel
theorem dX2_read_77 : decode cX2_read 77 = .ok (.iconst 1, 1) := by decide +kernel
theorem dX2_read_78 : decode cX2_read 78 = .ok (.iadd, 1) := by decide +kernel
theorem dX2_read_79 : decode cX2_read 79 = .ok (.invokevirtual 36, 3) := by decide +kernel
theorem dX2_read_82 : decode cX2_read 82 = .ok (.goto 4, 3) := by decide +kernel
theorem dX2_read_85 : decode cX2_read 85 = .ok (.iload_n 1, 1) := by decide +kernel
theorem dX2_read_86 : decode cX2_read 86 = .ok (.ireturn, 1) := by decide +kernel
theorem dX2_readAsks_0 : decode cX2_readAsks 0 = .ok (.aload_n 0, 1) := by decide +kernel
theorem dX2_readAsks_1 : decode cX2_readAsks 1 = .ok (.iconst 0, 1) := by decide +kernel
theorem dX2_readAsks_2 : decode cX2_readAsks 2 = .ok (.putfield 19, 3) := by decide +kernel
theorem dX2_readAsks_5 : decode cX2_readAsks 5 = .ok (.iconst 0, 1) := by decide +kernel
theorem dX2_readAsks_6 : decode cX2_readAsks 6 = .ok (.istore_n 1, 1) := by decide +kernel
theorem dX2_readAsks_7 : decode cX2_readAsks 7 = .ok (.iload_n 1, 1) := by decide +kernel
theorem dX2_readAsks_8 : decode cX2_readAsks 8 = .ok (.aload_n 0, 1) := by decide +kernel
theorem dX2_readAsks_9 : decode cX2_readAsks 9 = .ok (.getfield 15, 3) := by decide +kernel
theorem dX2_readAsks_12 : decode cX2_readAsks 12 = .ok (.if_icmp .ge 44, 3) := by decide +kernel
theorem dX2_readAsks_15 : decode cX2_readAsks 15 = .ok (.aload_n 0, 1) := by decide +kernel
theorem dX2_readAsks_16 : decode cX2_readAsks 16 = .ok (.getfield 11, 3) := by decide +kernel
theorem dX2_readAsks_19 : decode cX2_readAsks 19 = .ok (.iload_n 1, 1) := by decide +kernel
theorem dX2_readAsks_20 : decode cX2_readAsks 20 = .ok (.iaload, 1) := by decide +kernel
theorem dX2_readAsks_21 : decode cX2_readAsks 21 = .ok (.invokestatic 40, 3) := by decide +kernel
theorem dX2_readAsks_24 : decode cX2_readAsks 24 = .ok (.istore_n 2, 1) := by decide +kernel
theorem dX2_readAsks_25 : decode cX2_readAsks 25 = .ok (.iload_n 2, 1) := by decide +kernel
theorem dX2_readAsks_26 : decode cX2_readAsks 26 = .ok (.ifCond .eq 12, 3) := by decide +kernel
theorem dX2_readAsks_29 : decode cX2_readAsks 29 = .ok (.aload_n 0, 1) := by decide +kernel
theorem dX2_readAsks_30 : decode cX2_readAsks 30 = .ok (.getfield 19, 3) := by decide +kernel
theorem dX2_readAsks_33 : decode cX2_readAsks 33 = .ok (.iload_n 2, 1) := by decide +kernel
theorem dX2_readAsks_34 : decode cX2_readAsks 34 = .ok (.iand, 1) := by decide +kernel
theorem dX2_readAsks_35 : decode cX2_readAsks 35 = .ok (.ifCond .eq 5, 3) := by decide +kernel
theorem dX2_readAsks_38 : decode cX2_readAsks 38 = .ok (.iload_n 1, 1) := by decide +kernel
theorem dX2_readAsks_39 : decode cX2_readAsks 39 = .ok (.ireturn, 1) := by decide +kernel
theorem dX2_readAsks_40 : decode cX2_readAsks 40 = .ok (.aload_n 0, 1) := by decide +kernel
theorem dX2_readAsks_41 : decode cX2_readAsks 41 = .ok (.dup, 1) := by decide +kernel
theorem dX2_readAsks_42 : decode cX2_readAsks 42 = .ok (.getfield 19, 3) := by decide +kernel
theorem dX2_readAsks_45 : decode cX2_readAsks 45 = .ok (.iload_n 2, 1) := by decide +kernel
theorem dX2_readAsks_46 : decode cX2_readAsks 46 = .ok (.ior, 1) := by decide +kernel
theorem dX2_readAsks_47 : decode cX2_readAsks 47 = .ok (.putfield 19, 3) := by decide +kernel
theorem dX2_readAsks_50 : decode cX2_readAsks 50 = .ok (.iinc 1 1, 3) := by decide +kernel
theorem dX2_readAsks_53 : decode cX2_readAsks 53 = .ok (.goto (-46), 3) := by decide +kernel
theorem dX2_readAsks_56 : decode cX2_readAsks 56 = .ok (.aload_n 0, 1) := by decide +kernel
theorem dX2_readAsks_57 : decode cX2_readAsks 57 = .ok (.getfield 15, 3) := by decide +kernel
theorem dX2_readAsks_60 : decode cX2_readAsks 60 = .ok (.ireturn, 1) := by decide +kernel
theorem dX2_readGo_0 : decode cX2_readGo 0 = .ok (.aload_n 0, 1) := by decide +kernel
theorem dX2_readGo_1 : decode cX2_readGo 1 = .ok (.iconst 0, 1) := by decide +kernel
theorem dX2_readGo_2 : decode cX2_readGo 2 = .ok (.putfield 25, 3) := by decide +kernel
theorem dX2_readGo_5 : decode cX2_readGo 5 = .ok (.iload_n 1, 1) := by decide +kernel
theorem dX2_readGo_6 : decode cX2_readGo 6 = .ok (.istore_n 2, 1) := by decide +kernel
theorem dX2_readGo_7 : decode cX2_readGo 7 = .ok (.iload_n 2, 1) := by decide +kernel
theorem dX2_readGo_8 : decode cX2_readGo 8 = .ok (.aload_n 0, 1) := by decide +kernel
theorem dX2_readGo_9 : decode cX2_readGo 9 = .ok (.getfield 15, 3) := by decide +kernel
theorem dX2_readGo_12 : decode cX2_readGo 12 = .ok (.if_icmp .ge 49, 3) := by decide +kernel
theorem dX2_readGo_15 : decode cX2_readGo 15 = .ok (.aload_n 0, 1) := by decide +kernel
theorem dX2_readGo_16 : decode cX2_readGo 16 = .ok (.getfield 11, 3) := by decide +kernel
theorem dX2_readGo_19 : decode cX2_readGo 19 = .ok (.iload_n 2, 1) := by decide +kernel
theorem dX2_readGo_20 : decode cX2_readGo 20 = .ok (.iaload, 1) := by decide +kernel
theorem dX2_readGo_21 : decode cX2_readGo 21 = .ok (.bipush 48, 2) := by decide +kernel
theorem dX2_readGo_23 : decode cX2_readGo 23 = .ok (.isub, 1) := by decide +kernel
theorem dX2_readGo_24 : decode cX2_readGo 24 = .ok (.istore_n 3, 1) := by decide +kernel
theorem dX2_readGo_25 : decode cX2_readGo 25 = .ok (.iload_n 3, 1) := by decide +kernel
theorem dX2_readGo_26 : decode cX2_readGo 26 = .ok (.invokestatic 43, 3) := by decide +kernel
theorem dX2_readGo_29 : decode cX2_readGo 29 = .ok (.ifCond .eq 12, 3) := by decide +kernel
theorem dX2_readGo_32 : decode cX2_readGo 32 = .ok (.aload_n 0, 1) := by decide +kernel
theorem dX2_readGo_33 : decode cX2_readGo 33 = .ok (.getfield 25, 3) := by decide +kernel
theorem dX2_readGo_36 : decode cX2_readGo 36 = .ok (.iload_n 3, 1) := by decide +kernel
theorem dX2_readGo_37 : decode cX2_readGo 37 = .ok (.ishr, 1) := by decide +kernel
theorem dX2_readGo_38 : decode cX2_readGo 38 = .ok (.ifCond .eq 5, 3) := by decide +kernel
theorem dX2_readGo_41 : decode cX2_readGo 41 = .ok (.iload_n 2, 1) := by decide +kernel
theorem dX2_readGo_42 : decode cX2_readGo 42 = .ok (.ireturn, 1) := by decide +kernel
theorem dX2_readGo_43 : decode cX2_readGo 43 = .ok (.aload_n 0, 1) := by decide +kernel
theorem dX2_readGo_44 : decode cX2_readGo 44 = .ok (.dup, 1) := by decide +kernel
theorem dX2_readGo_45 : decode cX2_readGo 45 = .ok (.getfield 25, 3) := by decide +kernel
theorem dX2_readGo_48 : decode cX2_readGo 48 = .ok (.iconst 1, 1) := by decide +kernel
theorem dX2_readGo_49 : decode cX2_readGo 49 = .ok (.iload_n 3, 1) := by decide +kernel
theorem dX2_readGo_50 : decode cX2_readGo 50 = .ok (.ishl, 1) := by decide +kernel
theorem dX2_readGo_51 : decode cX2_readGo 51 = .ok (.ior, 1) := by decide +kernel
theorem dX2_readGo_52 : decode cX2_readGo 52 = .ok (.putfield 25, 3) := by decide +kernel
theorem dX2_readGo_55 : decode cX2_readGo 55 = .ok (.iinc 2 1, 3) := by decide +kernel
theorem dX2_readGo_58 : decode cX2_readGo 58 = .ok (.goto (-51), 3) := by decide +kernel
theorem dX2_readGo_61 : decode cX2_readGo 61 = .ok (.aload_n 0, 1) := by decide +kernel
theorem dX2_readGo_62 : decode cX2_readGo 62 = .ok (.getfield 25, 3) := by decide +kernel
theorem dX2_readGo_65 : decode cX2_readGo 65 = .ok (.ifCond .ne 10, 3) := by decide +kernel
theorem dX2_readGo_68 : decode cX2_readGo 68 = .ok (.aload_n 0, 1) := by decide +kernel
theorem dX2_readGo_69 : decode cX2_readGo 69 = .ok (.getfield 15, 3) := by decide +kernel
theorem dX2_readGo_72 : decode cX2_readGo 72 = .ok (.goto 5, 3) := by decide +kernel
theorem dX2_readGo_75 : decode cX2_readGo 75 = .ok (.bipush (-6), 2) := by decide +kernel
theorem dX2_readGo_77 : decode cX2_readGo 77 = .ok (.ireturn, 1) := by decide +kernel
theorem dX2_askOf_0 : decode cX2_askOf 0 = .ok (.iload_n 0, 1) := by decide +kernel
theorem dX2_askOf_1 : decode cX2_askOf 1 = .ok (.lookupswitch 63 #[(97, 57), (99, 60), (110, 51), (112, 55), (115, 53)], 51) := by decide +kernel
theorem dX2_askOf_52 : decode cX2_askOf 52 = .ok (.iconst 1, 1) := by decide +kernel
theorem dX2_askOf_53 : decode cX2_askOf 53 = .ok (.ireturn, 1) := by decide +kernel
theorem dX2_askOf_54 : decode cX2_askOf 54 = .ok (.iconst 2, 1) := by decide +kernel
theorem dX2_askOf_55 : decode cX2_askOf 55 = .ok (.ireturn, 1) := by decide +kernel
theorem dX2_askOf_56 : decode cX2_askOf 56 = .ok (.iconst 4, 1) := by decide +kernel
theorem dX2_askOf_57 : decode cX2_askOf 57 = .ok (.ireturn, 1) := by decide +kernel
theorem dX2_askOf_58 : decode cX2_askOf 58 = .ok (.bipush 8, 2) := by decide +kernel
theorem dX2_askOf_60 : decode cX2_askOf 60 = .ok (.ireturn, 1) := by decide +kernel
theorem dX2_askOf_61 : decode cX2_askOf 61 = .ok (.bipush 16, 2) := by decide +kernel
theorem dX2_askOf_63 : decode cX2_askOf 63 = .ok (.ireturn, 1) := by decide +kernel
theorem dX2_askOf_64 : decode cX2_askOf 64 = .ok (.iconst 0, 1) := by decide +kernel
theorem dX2_askOf_65 : decode cX2_askOf 65 = .ok (.ireturn, 1) := by decide +kernel
theorem dX3_init_0 : decode cX3_init 0 = .ok (.aload_n 0, 1) := by decide +kernel
theorem dX3_init_1 : decode cX3_init 1 = .ok (.invokespecial 3, 3) := by decide +kernel
theorem dX3_init_4 : decode cX3_init 4 = .ok (.aload_n 0, 1) := by decide +kernel
theorem dX3_init_5 : decode cX3_init 5 = .ok (.bipush 6, 2) := by decide +kernel
theorem dX3_init_7 : decode cX3_init 7 = .ok (.newarray .int, 2) := by decide +kernel
theorem dX3_init_9 : decode cX3_init 9 = .ok (.putfield 9, 3) := by decide +kernel
theorem dX3_init_12 : decode cX3_init 12 = .ok (.aload_n 0, 1) := by decide +kernel
theorem dX3_init_13 : decode cX3_init 13 = .ok (.bipush 6, 2) := by decide +kernel
theorem dX3_init_15 : decode cX3_init 15 = .ok (.newarray .int, 2) := by decide +kernel
theorem dX3_init_17 : decode cX3_init 17 = .ok (.putfield 15, 3) := by decide +kernel
theorem dX3_init_20 : decode cX3_init 20 = .ok (.aload_n 0, 1) := by decide +kernel
theorem dX3_init_21 : decode cX3_init 21 = .ok (.bipush 6, 2) := by decide +kernel
theorem dX3_init_23 : decode cX3_init 23 = .ok (.newarray .int, 2) := by decide +kernel
theorem dX3_init_25 : decode cX3_init 25 = .ok (.putfield 18, 3) := by decide +kernel
theorem dX3_init_28 : decode cX3_init 28 = .ok (.aload_n 0, 1) := by decide +kernel
theorem dX3_init_29 : decode cX3_init 29 = .ok (.iconst 0, 1) := by decide +kernel
theorem dX3_init_30 : decode cX3_init 30 = .ok (.putfield 21, 3) := by decide +kernel
theorem dX3_init_33 : decode cX3_init 33 = .ok (.aload_n 0, 1) := by decide +kernel
theorem dX3_init_34 : decode cX3_init 34 = .ok (.iconst 0, 1) := by decide +kernel
theorem dX3_init_35 : decode cX3_init 35 = .ok (.putfield 25, 3) := by decide +kernel
theorem dX3_init_38 : decode cX3_init 38 = .ok (.aload_n 0, 1) := by decide +kernel
theorem dX3_init_39 : decode cX3_init 39 = .ok (.bipush 36, 2) := by decide +kernel
theorem dX3_init_41 : decode cX3_init 41 = .ok (.newarray .int, 2) := by decide +kernel
theorem dX3_init_43 : decode cX3_init 43 = .ok (.putfield 28, 3) := by decide +kernel
theorem dX3_init_46 : decode cX3_init 46 = .ok (.aload_n 0, 1) := by decide +kernel
theorem dX3_init_47 : decode cX3_init 47 = .ok (.bipush 30, 2) := by decide +kernel
theorem dX3_init_49 : decode cX3_init 49 = .ok (.newarray .int, 2) := by decide +kernel
theorem dX3_init_51 : decode cX3_init 51 = .ok (.putfield 31, 3) := by decide +kernel
theorem dX3_init_54 : decode cX3_init 54 = .ok (.aload_n 0, 1) := by decide +kernel
theorem dX3_init_55 : decode cX3_init 55 = .ok (.bipush 30, 2) := by decide +kernel
theorem dX3_init_57 : decode cX3_init 57 = .ok (.newarray .int, 2) := by decide +kernel
theorem dX3_init_59 : decode cX3_init 59 = .ok (.putfield 34, 3) := by decide +kernel
theorem dX3_init_62 : decode cX3_init 62 = .ok (.aload_n 0, 1) := by decide +kernel
theorem dX3_init_63 : decode cX3_init 63 = .ok (.iconst 4, 1) := by decide +kernel
theorem dX3_init_64 : decode cX3_init 64 = .ok (.newarray .int, 2) := by decide +kernel
theorem dX3_init_66 : decode cX3_init 66 = .ok (.putfield 37, 3) := by decide +kernel
theorem dX3_init_69 : decode cX3_init 69 = .ok (.aload_n 0, 1) := by decide +kernel
theorem dX3_init_70 : decode cX3_init 70 = .ok (.bipush 6, 2) := by decide +kernel
theorem dX3_init_72 : decode cX3_init 72 = .ok (.newarray .int, 2) := by decide +kernel
theorem dX3_init_74 : decode cX3_init 74 = .ok (.putfield 40, 3) := by decide +kernel
theorem dX3_init_77 : decode cX3_init 77 = .ok (.aload_n 0, 1) := by decide +kernel
theorem dX3_init_78 : decode cX3_init 78 = .ok (.bipush 32, 2) := by decide +kernel
theorem dX3_init_80 : decode cX3_init 80 = .ok (.newarray .int, 2) := by decide +kernel
theorem dX3_init_82 : decode cX3_init 82 = .ok (.putfield 43, 3) := by decide +kernel
theorem dX3_init_85 : decode cX3_init 85 = .ok (.aload_n 0, 1) := by decide +kernel
theorem dX3_init_86 : decode cX3_init 86 = .ok (.bipush 32, 2) := by decide +kernel
theorem dX3_init_88 : decode cX3_init 88 = .ok (.newarray .int, 2) := by decide +kernel
theorem dX3_init_90 : decode cX3_init 90 = .ok (.putfield 46, 3) := by decide +kernel
theorem dX3_init_93 : decode cX3_init 93 = .ok (.aload_n 0, 1) := by decide +kernel
theorem dX3_init_94 : decode cX3_init 94 = .ok (.aload_n 1, 1) := by decide +kernel
theorem dX3_init_95 : decode cX3_init 95 = .ok (.putfield 49, 3) := by decide +kernel
theorem dX3_init_98 : decode cX3_init 98 = .ok (.return_, 1) := by decide +kernel
theorem dX3_spin_0 : decode cX3_spin 0 = .ok (.aload_n 0, 1) := by decide +kernel
theorem dX3_spin_1 : decode cX3_spin 1 = .ok (.getfield 49, 3) := by decide +kernel
theorem dX3_spin_4 : decode cX3_spin 4 = .ok (.getfield 53, 3) := by decide +kernel
theorem dX3_spin_7 : decode cX3_spin 7 = .ok (.iconst 0, 1) := by decide +kernel
theorem dX3_spin_8 : decode cX3_spin 8 = .ok (.aload_n 0, 1) := by decide +kernel
theorem dX3_spin_9 : decode cX3_spin 9 = .ok (.getfield 28, 3) := by decide +kernel
theorem dX3_spin_12 : decode cX3_spin 12 = .ok (.iconst 0, 1) := by decide +kernel
theorem dX3_spin_13 : decode cX3_spin 13 = .ok (.bipush 36, 2) := by decide +kernel
theorem dX3_spin_15 : decode cX3_spin 15 = .ok (.invokestatic 56, 3) := by decide +kernel
theorem dX3_spin_18 : decode cX3_spin 18 = .ok (.iconst 0, 1) := by decide +kernel
theorem dX3_spin_19 : decode cX3_spin 19 = .ok (.istore_n 1, 1) := by decide +kernel
theorem dX3_spin_20 : decode cX3_spin 20 = .ok (.iload_n 1, 1) := by decide +kernel
theorem dX3_spin_21 : decode cX3_spin 21 = .ok (.bipush 6, 2) := by decide +kernel
theorem dX3_spin_23 : decode cX3_spin 23 = .ok (.if_icmp .ge 23, 3) := by decide +kernel
theorem dX3_spin_26 : decode cX3_spin 26 = .ok (.aload_n 0, 1) := by decide +kernel
theorem dX3_spin_27 : decode cX3_spin 27 = .ok (.getfield 9, 3) := by decide +kernel
theorem dX3_spin_30 : decode cX3_spin 30 = .ok (.iload_n 1, 1) := by decide +kernel
theorem dX3_spin_31 : decode cX3_spin 31 = .ok (.aload_n 0, 1) := by decide +kernel
theorem dX3_spin_32 : decode cX3_spin 32 = .ok (.getfield 49, 3) := by decide +kernel
theorem dX3_spin_35 : decode cX3_spin 35 = .ok (.iload_n 1, 1) := by decide +kernel
theorem dX3_spin_36 : decode cX3_spin 36 = .ok (.invokevirtual 62, 3) := by decide +kernel
theorem dX3_spin_39 : decode cX3_spin 39 = .ok (.iastore, 1) := by decide +kernel
theorem dX3_spin_40 : decode cX3_spin 40 = .ok (.iinc 1 1, 3) := by decide +kernel
theorem dX3_spin_43 : decode cX3_spin 43 = .ok (.goto (-23), 3) := by decide +kernel
theorem dX3_spin_46 : decode cX3_spin 46 = .ok (.aload_n 0, 1) := by decide +kernel
theorem dX3_spin_47 : decode cX3_spin 47 = .ok (.invokevirtual 66, 3) := by decide +kernel
theorem dX3_spin_50 : decode cX3_spin 50 = .ok (.return_, 1) := by decide +kernel
theorem dX3_tie_0 : decode cX3_tie 0 = .ok (.aload_n 0, 1) := by decide +kernel
theorem dX3_tie_1 : decode cX3_tie 1 = .ok (.getfield 28, 3) := by decide +kernel
theorem dX3_tie_4 : decode cX3_tie 4 = .ok (.aload_n 0, 1) := by decide +kernel
theorem dX3_tie_5 : decode cX3_tie 5 = .ok (.getfield 49, 3) := by decide +kernel
theorem dX3_tie_8 : decode cX3_tie 8 = .ok (.getfield 69, 3) := by decide +kernel
theorem dX3_tie_11 : decode cX3_tie 11 = .ok (.iload_n 1, 1) := by decide +kernel
theorem dX3_tie_12 : decode cX3_tie 12 = .ok (.invokestatic 72, 3) := by decide +kernel
theorem dX3_tie_15 : decode cX3_tie 15 = .ok (.iload_n 2, 1) := by decide +kernel
theorem dX3_tie_16 : decode cX3_tie 16 = .ok (.iastore, 1) := by decide +kernel
theorem dX3_tie_17 : decode cX3_tie 17 = .ok (.aload_n 0, 1) := by decide +kernel
theorem dX3_tie_18 : decode cX3_tie 18 = .ok (.invokevirtual 66, 3) := by decide +kernel
theorem dX3_tie_21 : decode cX3_tie 21 = .ok (.return_, 1) := by decide +kernel
theorem dX3_loosen_0 : decode cX3_loosen 0 = .ok (.iconst 0, 1) := by decide +kernel
theorem dX3_loosen_1 : decode cX3_loosen 1 = .ok (.istore_n 3, 1) := by decide +kernel
theorem dX3_loosen_2 : decode cX3_loosen 2 = .ok (.iconst 0, 1) := by decide +kernel
theorem dX3_loosen_3 : decode cX3_loosen 3 = .ok (.istore 4, 2) := by decide +kernel
theorem dX3_loosen_5 : decode cX3_loosen 5 = .ok (.iload 4, 2) := by decide +kernel
theorem dX3_loosen_7 : decode cX3_loosen 7 = .ok (.bipush 6, 2) := by decide +kernel
theorem dX3_loosen_9 : decode cX3_loosen 9 = .ok (.if_icmp .ge 69, 3) := by decide +kernel
theorem dX3_loosen_12 : decode cX3_loosen 12 = .ok (.iconst 0, 1) := by decide +kernel
theorem dX3_loosen_13 : decode cX3_loosen 13 = .ok (.istore 5, 2) := by decide +kernel
theorem dX3_loosen_15 : decode cX3_loosen 15 = .ok (.iload 5, 2) := by decide +kernel
theorem dX3_loosen_17 : decode cX3_loosen 17 = .ok (.iload 4, 2) := by decide +kernel
theorem dX3_loosen_19 : decode cX3_loosen 19 = .ok (.if_icmp .ge 53, 3) := by decide +kernel
theorem dX3_loosen_22 : decode cX3_loosen 22 = .ok (.aload_n 0, 1) := by decide +kernel
theorem dX3_loosen_23 : decode cX3_loosen 23 = .ok (.getfield 21, 3) := by decide +kernel
theorem dX3_loosen_26 : decode cX3_loosen 26 = .ok (.iload 4, 2) := by decide +kernel
theorem dX3_loosen_28 : decode cX3_loosen 28 = .ok (.invokestatic 76, 3) := by decide +kernel
theorem dX3_loosen_31 : decode cX3_loosen 31 = .ok (.ifCond .eq 35, 3) := by decide +kernel
theorem dX3_loosen_34 : decode cX3_loosen 34 = .ok (.aload_n 0, 1) := by decide +kernel
theorem dX3_loosen_35 : decode cX3_loosen 35 = .ok (.getfield 28, 3) := by decide +kernel
theorem dX3_loosen_38 : decode cX3_loosen 38 = .ok (.iload 4, 2) := by decide +kernel
theorem dX3_loosen_40 : decode cX3_loosen 40 = .ok (.iload 5, 2) := by decide +kernel
theorem dX3_loosen_42 : decode cX3_loosen 42 = .ok (.invokestatic 72, 3) := by decide +kernel
theorem dX3_loosen_45 : decode cX3_loosen 45 = .ok (.iaload, 1) := by decide +kernel
theorem dX3_loosen_46 : decode cX3_loosen 46 = .ok (.iload_n 1, 1) := by decide +kernel
theorem dX3_loosen_47 : decode cX3_loosen 47 = .ok (.if_icmp .ne 19, 3) := by decide +kernel
theorem dX3_loosen_50 : decode cX3_loosen 50 = .ok (.aload_n 0, 1) := by decide +kernel
theorem dX3_loosen_51 : decode cX3_loosen 51 = .ok (.getfield 28, 3) := by decide +kernel
theorem dX3_loosen_54 : decode cX3_loosen 54 = .ok (.iload 4, 2) := by decide +kernel
theorem dX3_loosen_56 : decode cX3_loosen 56 = .ok (.iload 5, 2) := by decide +kernel
theorem dX3_loosen_58 : decode cX3_loosen 58 = .ok (.invokestatic 72, 3) := by decide +kernel
theorem dX3_loosen_61 : decode cX3_loosen 61 = .ok (.iload_n 2, 1) := by decide +kernel
theorem dX3_loosen_62 : decode cX3_loosen 62 = .ok (.iastore, 1) := by decide +kernel
theorem dX3_loosen_63 : decode cX3_loosen 63 = .ok (.iinc 3 1, 3) := by decide +kernel
theorem dX3_loosen_66 : decode cX3_loosen 66 = .ok (.iinc 5 1, 3) := by decide +kernel
theorem dX3_loosen_69 : decode cX3_loosen 69 = .ok (.goto (-54), 3) := by decide +kernel
theorem dX3_loosen_72 : decode cX3_loosen 72 = .ok (.iinc 4 1, 3) := by decide +kernel
theorem dX3_loosen_75 : decode cX3_loosen 75 = .ok (.goto (-70), 3) := by decide +kernel
theorem dX3_loosen_78 : decode cX3_loosen 78 = .ok (.aload_n 0, 1) := by decide +kernel
theorem dX3_loosen_79 : decode cX3_loosen 79 = .ok (.invokevirtual 66, 3) := by decide +kernel
theorem dX3_loosen_82 : decode cX3_loosen 82 = .ok (.iload_n 3, 1) := by decide +kernel
theorem dX3_loosen_83 : decode cX3_loosen 83 = .ok (.ireturn, 1) := by decide +kernel
theorem dX3_spread_0 : decode cX3_spread 0 = .ok (.iconst 0, 1) := by decide +kernel
theorem dX3_spread_1 : decode cX3_spread 1 = .ok (.istore_n 1, 1) := by decide +kernel
theorem dX3_spread_2 : decode cX3_spread 2 = .ok (.iload_n 1, 1) := by decide +kernel
theorem dX3_spread_3 : decode cX3_spread 3 = .ok (.iconst 3, 1) := by decide +kernel
theorem dX3_spread_4 : decode cX3_spread 4 = .ok (.if_icmp .gt 20, 3) := by decide +kernel
theorem dX3_spread_7 : decode cX3_spread 7 = .ok (.aload_n 0, 1) := by decide +kernel
theorem dX3_spread_8 : decode cX3_spread 8 = .ok (.getfield 37, 3) := by decide +kernel
theorem dX3_spread_11 : decode cX3_spread 11 = .ok (.iload_n 1, 1) := by decide +kernel
theorem dX3_spread_12 : decode cX3_spread 12 = .ok (.aload_n 0, 1) := by decide +kernel
theorem dX3_spread_13 : decode cX3_spread 13 = .ok (.iload_n 1, 1) := by decide +kernel
theorem dX3_spread_14 : decode cX3_spread 14 = .ok (.invokevirtual 80, 3) := by decide +kernel
theorem dX3_spread_17 : decode cX3_spread 17 = .ok (.iastore, 1) := by decide +kernel
theorem dX3_spread_18 : decode cX3_spread 18 = .ok (.iinc 1 1, 3) := by decide +kernel
theorem dX3_spread_21 : decode cX3_spread 21 = .ok (.goto (-19), 3) := by decide +kernel
theorem dX3_spread_24 : decode cX3_spread 24 = .ok (.aload_n 0, 1) := by decide +kernel
theorem dX3_spread_25 : decode cX3_spread 25 = .ok (.aload_n 0, 1) := by decide +kernel
theorem dX3_spread_26 : decode cX3_spread 26 = .ok (.getfield 37, 3) := by decide +kernel
theorem dX3_spread_29 : decode cX3_spread 29 = .ok (.iconst 3, 1) := by decide +kernel
theorem dX3_spread_30 : decode cX3_spread 30 = .ok (.iaload, 1) := by decide +kernel
theorem dX3_spread_31 : decode cX3_spread 31 = .ok (.putfield 21, 3) := by decide +kernel
theorem dX3_spread_34 : decode cX3_spread 34 = .ok (.aload_n 0, 1) := by decide +kernel
theorem dX3_spread_35 : decode cX3_spread 35 = .ok (.aload_n 0, 1) := by decide +kernel
theorem dX3_spread_36 : decode cX3_spread 36 = .ok (.getfield 21, 3) := by decide +kernel
theorem dX3_spread_39 : decode cX3_spread 39 = .ok (.iconst 1, 1) := by decide +kernel
theorem dX3_spread_40 : decode cX3_spread 40 = .ok (.aload_n 0, 1) := by decide +kernel
theorem dX3_spread_41 : decode cX3_spread 41 = .ok (.getfield 49, 3) := by decide +kernel
theorem dX3_spread_44 : decode cX3_spread 44 = .ok (.getfield 69, 3) := by decide +kernel
theorem dX3_spread_47 : decode cX3_spread 47 = .ok (.ishl, 1) := by decide +kernel
theorem dX3_spread_48 : decode cX3_spread 48 = .ok (.iconst (-1), 1) := by decide +kernel
theorem dX3_spread_49 : decode cX3_spread 49 = .ok (.ixor, 1) := by decide +kernel
theorem dX3_spread_50 : decode cX3_spread 50 = .ok (.iand, 1) := by decide +kernel
theorem dX3_spread_51 : decode cX3_spread 51 = .ok (.putfield 25, 3) := by decide +kernel
theorem dX3_spread_54 : decode cX3_spread 54 = .ok (.iconst 0, 1) := by decide +kernel
theorem dX3_spread_55 : decode cX3_spread 55 = .ok (.istore_n 1, 1) := by decide +kernel
theorem dX3_spread_56 : decode cX3_spread 56 = .ok (.iload_n 1, 1) := by decide +kernel
theorem dX3_spread_57 : decode cX3_spread 57 = .ok (.bipush 6, 2) := by decide +kernel
theorem dX3_spread_59 : decode cX3_spread 59 = .ok (.if_icmp .ge 84, 3) := by decide +kernel
theorem dX3_spread_62 : decode cX3_spread 62 = .ok (.iconst 0, 1) := by decide +kernel
theorem dX3_spread_63 : decode cX3_spread 63 = .ok (.istore_n 2, 1) := by decide +kernel
theorem dX3_spread_64 : decode cX3_spread 64 = .ok (.iload_n 2, 1) := by decide +kernel
theorem dX3_spread_65 : decode cX3_spread 65 = .ok (.iconst 5, 1) := by decide +kernel
theorem dX3_spread_66 : decode cX3_spread 66 = .ok (.if_icmp .ge 71, 3) := by decide +kernel
theorem dX3_spread_69 : decode cX3_spread 69 = .ok (.aload_n 0, 1) := by decide +kernel
theorem dX3_spread_70 : decode cX3_spread 70 = .ok (.iload_n 1, 1) := by decide +kernel
theorem dX3_spread_71 : decode cX3_spread 71 = .ok (.iload_n 2, 1) := by decide +kernel
theorem dX3_spread_72 : decode cX3_spread 72 = .ok (.invokevirtual 83, 3) := by decide +kernel
theorem dX3_spread_75 : decode cX3_spread 75 = .ok (.istore_n 3, 1) := by decide +kernel
theorem dX3_spread_76 : decode cX3_spread 76 = .ok (.aload_n 0, 1) := by decide +kernel
theorem dX3_spread_77 : decode cX3_spread 77 = .ok (.getfield 31, 3) := by decide +kernel
theorem dX3_spread_80 : decode cX3_spread 80 = .ok (.iload_n 1, 1) := by decide +kernel
theorem dX3_spread_81 : decode cX3_spread 81 = .ok (.iload_n 2, 1) := by decide +kernel
theorem dX3_spread_82 : decode cX3_spread 82 = .ok (.invokestatic 86, 3) := by decide +kernel
theorem dX3_spread_85 : decode cX3_spread 85 = .ok (.iload_n 3, 1) := by decide +kernel
theorem dX3_spread_86 : decode cX3_spread 86 = .ok (.ifCond .eq 15, 3) := by decide +kernel
theorem dX3_spread_89 : decode cX3_spread 89 = .ok (.aload_n 0, 1) := by decide +kernel
theorem dX3_spread_90 : decode cX3_spread 90 = .ok (.getfield 49, 3) := by decide +kernel
theorem dX3_spread_93 : decode cX3_spread 93 = .ok (.getfield 89, 3) := by decide +kernel
theorem dX3_spread_96 : decode cX3_spread 96 = .ok (.iload_n 2, 1) := by decide +kernel
theorem dX3_spread_97 : decode cX3_spread 97 = .ok (.iaload, 1) := by decide +kernel
theorem dX3_spread_98 : decode cX3_spread 98 = .ok (.goto 5, 3) := by decide +kernel
theorem dX3_spread_101 : decode cX3_spread 101 = .ok (.bipush 31, 2) := by decide +kernel
theorem dX3_spread_103 : decode cX3_spread 103 = .ok (.iastore, 1) := by decide +kernel
theorem dX3_spread_104 : decode cX3_spread 104 = .ok (.aload_n 0, 1) := by decide +kernel
theorem dX3_spread_105 : decode cX3_spread 105 = .ok (.getfield 34, 3) := by decide +kernel
theorem dX3_spread_108 : decode cX3_spread 108 = .ok (.iload_n 1, 1) := by decide +kernel
theorem dX3_spread_109 : decode cX3_spread 109 = .ok (.iload_n 2, 1) := by decide +kernel
theorem dX3_spread_110 : decode cX3_spread 110 = .ok (.invokestatic 86, 3) := by decide +kernel
theorem dX3_spread_113 : decode cX3_spread 113 = .ok (.iload_n 3, 1) := by decide +kernel
theorem dX3_spread_114 : decode cX3_spread 114 = .ok (.ifCond .eq 15, 3) := by decide +kernel
theorem dX3_spread_117 : decode cX3_spread 117 = .ok (.aload_n 0, 1) := by decide +kernel
theorem dX3_spread_118 : decode cX3_spread 118 = .ok (.getfield 49, 3) := by decide +kernel
theorem dX3_spread_121 : decode cX3_spread 121 = .ok (.getfield 92, 3) := by decide +kernel
theorem dX3_spread_124 : decode cX3_spread 124 = .ok (.iload_n 2, 1) := by decide +kernel
theorem dX3_spread_125 : decode cX3_spread 125 = .ok (.iaload, 1) := by decide +kernel
theorem dX3_spread_126 : decode cX3_spread 126 = .ok (.goto 4, 3) := by decide +kernel
theorem dX3_spread_129 : decode cX3_spread 129 = .ok (.iconst 0, 1) := by decide +kernel
theorem dX3_spread_130 : decode cX3_spread 130 = .ok (.iastore, 1) := by decide +kernel
theorem dX3_spread_131 : decode cX3_spread 131 = .ok (.iinc 2 1, 3) := by decide +kernel
theorem dX3_spread_134 : decode cX3_spread 134 = .ok (.goto (-70), 3) := by decide +kernel
theorem dX3_spread_137 : decode cX3_spread 137 = .ok (.iinc 1 1, 3) := by decide +kernel
theorem dX3_spread_140 : decode cX3_spread 140 = .ok (.goto (-84), 3) := by decide +kernel
theorem dX3_spread_143 : decode cX3_spread 143 = .ok (.return_, 1) := by decide +kernel
theorem dX3_reachedBy_0 : decode cX3_reachedBy 0 = .ok (.iconst 1, 1) := by decide +kernel
theorem dX3_reachedBy_1 : decode cX3_reachedBy 1 = .ok (.aload_n 0, 1) := by decide +kernel
theorem dX3_reachedBy_2 : decode cX3_reachedBy 2 = .ok (.getfield 49, 3) := by decide +kernel
theorem dX3_reachedBy_5 : decode cX3_reachedBy 5 = .ok (.getfield 69, 3) := by decide +kernel
theorem dX3_reachedBy_8 : decode cX3_reachedBy 8 = .ok (.ishl, 1) := by decide +kernel
theorem dX3_reachedBy_9 : decode cX3_reachedBy 9 = .ok (.istore_n 2, 1) := by decide +kernel
theorem dX3_reachedBy_10 : decode cX3_reachedBy 10 = .ok (.aload_n 0, 1) := by decide +kernel
theorem dX3_reachedBy_11 : decode cX3_reachedBy 11 = .ok (.getfield 49, 3) := by decide +kernel
theorem dX3_reachedBy_14 : decode cX3_reachedBy 14 = .ok (.getfield 69, 3) := by decide +kernel
theorem dX3_reachedBy_17 : decode cX3_reachedBy 17 = .ok (.istore_n 3, 1) := by decide +kernel
theorem dX3_reachedBy_18 : decode cX3_reachedBy 18 = .ok (.iload_n 3, 1) := by decide +kernel
theorem dX3_reachedBy_19 : decode cX3_reachedBy 19 = .ok (.ifCond .le 58, 3) := by decide +kernel
theorem dX3_reachedBy_22 : decode cX3_reachedBy 22 = .ok (.iconst 0, 1) := by decide +kernel
theorem dX3_reachedBy_23 : decode cX3_reachedBy 23 = .ok (.istore 4, 2) := by decide +kernel
theorem dX3_reachedBy_25 : decode cX3_reachedBy 25 = .ok (.iload 4, 2) := by decide +kernel
theorem dX3_reachedBy_27 : decode cX3_reachedBy 27 = .ok (.iload_n 3, 1) := by decide +kernel
theorem dX3_reachedBy_28 : decode cX3_reachedBy 28 = .ok (.if_icmp .ge 43, 3) := by decide +kernel
theorem dX3_reachedBy_31 : decode cX3_reachedBy 31 = .ok (.iload_n 2, 1) := by decide +kernel
theorem dX3_reachedBy_32 : decode cX3_reachedBy 32 = .ok (.iload_n 3, 1) := by decide +kernel
theorem dX3_reachedBy_33 : decode cX3_reachedBy 33 = .ok (.invokestatic 76, 3) := by decide +kernel
theorem dX3_reachedBy_36 : decode cX3_reachedBy 36 = .ok (.ifCond .eq 29, 3) := by decide +kernel
theorem dX3_reachedBy_39 : decode cX3_reachedBy 39 = .ok (.aload_n 0, 1) := by decide +kernel
theorem dX3_reachedBy_40 : decode cX3_reachedBy 40 = .ok (.getfield 28, 3) := by decide +kernel
theorem dX3_reachedBy_43 : decode cX3_reachedBy 43 = .ok (.iload_n 3, 1) := by decide +kernel
theorem dX3_reachedBy_44 : decode cX3_reachedBy 44 = .ok (.iload 4, 2) := by decide +kernel
theorem dX3_reachedBy_46 : decode cX3_reachedBy 46 = .ok (.invokestatic 72, 3) := by decide +kernel
theorem dX3_reachedBy_49 : decode cX3_reachedBy 49 = .ok (.iaload, 1) := by decide +kernel
theorem dX3_reachedBy_50 : decode cX3_reachedBy 50 = .ok (.iconst 0, 1) := by decide +kernel
theorem dX3_reachedBy_51 : decode cX3_reachedBy 51 = .ok (.iload_n 1, 1) := by decide +kernel
theorem dX3_reachedBy_52 : decode cX3_reachedBy 52 = .ok (.invokestatic 93, 3) := by decide +kernel
theorem dX3_reachedBy_55 : decode cX3_reachedBy 55 = .ok (.ifCond .eq 10, 3) := by decide +kernel
theorem dX3_reachedBy_58 : decode cX3_reachedBy 58 = .ok (.iload_n 2, 1) := by decide +kernel
theorem dX3_reachedBy_59 : decode cX3_reachedBy 59 = .ok (.iconst 1, 1) := by decide +kernel
theorem dX3_reachedBy_60 : decode cX3_reachedBy 60 = .ok (.iload 4, 2) := by decide +kernel
theorem dX3_reachedBy_62 : decode cX3_reachedBy 62 = .ok (.ishl, 1) := by decide +kernel
theorem dX3_reachedBy_63 : decode cX3_reachedBy 63 = .ok (.ior, 1) := by decide +kernel
theorem dX3_reachedBy_64 : decode cX3_reachedBy 64 = .ok (.istore_n 2, 1) := by decide +kernel
theorem dX3_reachedBy_65 : decode cX3_reachedBy 65 = .ok (.iinc 4 1, 3) := by decide +kernel
theorem dX3_reachedBy_68 : decode cX3_reachedBy 68 = .ok (.goto (-43), 3) := by decide +kernel
theorem dX3_reachedBy_71 : decode cX3_reachedBy 71 = .ok (.iinc 3 (-1), 3) := by decide +kernel
theorem dX3_reachedBy_74 : decode cX3_reachedBy 74 = .ok (.goto (-56), 3) := by decide +kernel
theorem dX3_reachedBy_77 : decode cX3_reachedBy 77 = .ok (.iload_n 2, 1) := by decide +kernel
theorem dX3_reachedBy_78 : decode cX3_reachedBy 78 = .ok (.ireturn, 1) := by decide +kernel
theorem dX3_reaches_0 : decode cX3_reaches 0 = .ok (.aload_n 0, 1) := by decide +kernel
theorem dX3_reaches_1 : decode cX3_reaches 1 = .ok (.getfield 25, 3) := by decide +kernel
theorem dX3_reaches_4 : decode cX3_reaches 4 = .ok (.aload_n 0, 1) := by decide +kernel
theorem dX3_reaches_5 : decode cX3_reaches 5 = .ok (.getfield 37, 3) := by decide +kernel
theorem dX3_reaches_8 : decode cX3_reaches 8 = .ok (.aload_n 0, 1) := by decide +kernel
theorem dX3_reaches_9 : decode cX3_reaches 9 = .ok (.getfield 49, 3) := by decide +kernel
theorem dX3_reaches_12 : decode cX3_reaches 12 = .ok (.getfield 97, 3) := by decide +kernel
theorem dX3_reaches_15 : decode cX3_reaches 15 = .ok (.iload_n 2, 1) := by decide +kernel
theorem dX3_reaches_16 : decode cX3_reaches 16 = .ok (.iaload, 1) := by decide +kernel
theorem dX3_reaches_17 : decode cX3_reaches 17 = .ok (.iaload, 1) := by decide +kernel
theorem dX3_reaches_18 : decode cX3_reaches 18 = .ok (.iand, 1) := by decide +kernel
theorem dX3_reaches_19 : decode cX3_reaches 19 = .ok (.iload_n 1, 1) := by decide +kernel
theorem dX3_reaches_20 : decode cX3_reaches 20 = .ok (.invokestatic 76, 3) := by decide +kernel
theorem dX3_reaches_23 : decode cX3_reaches 23 = .ok (.ireturn, 1) := by decide +kernel
theorem dX3_offer_0 : decode cX3_offer 0 = .ok (.iload_n 0, 1) := by decide +kernel
theorem dX3_offer_1 : decode cX3_offer 1 = .ok (.iconst 5, 1) := by decide +kernel
theorem dX3_offer_2 : decode cX3_offer 2 = .ok (.imul, 1) := by decide +kernel
theorem dX3_offer_3 : decode cX3_offer 3 = .ok (.iload_n 1, 1) := by decide +kernel
theorem dX3_offer_4 : decode cX3_offer 4 = .ok (.iadd, 1) := by decide +kernel
theorem dX3_offer_5 : decode cX3_offer 5 = .ok (.ireturn, 1) := by decide +kernel
theorem dX3_askedBy_0 : decode cX3_askedBy 0 = .ok (.iload_n 0, 1) := by decide +kernel
theorem dX3_askedBy_1 : decode cX3_askedBy 1 = .ok (.lookupswitch 33 #[(0, 27), (1, 30)], 27) := by decide +kernel
theorem dX3_askedBy_28 : decode cX3_askedBy 28 = .ok (.bipush 31, 2) := by decide +kernel
end
section
theorem dX3_askedBy_30 : decode cX3_askedBy 30 = .ok (.ireturn, 1) := by decide +kernel
theorem dX3_askedBy_31 : decode cX3_askedBy 31 = .ok (.bipush 22, 2) := by decide +kernel
theorem dX3_askedBy_33 : decode cX3_askedBy 33 = .ok (.ireturn, 1) := by decide +kernel
theorem dX3_askedBy_34 : decode cX3_askedBy 34 = .ok (.iconst 4, 1) := by decide +kernel
theorem dX3_askedBy_35 : decode cX3_askedBy 35 = .ok (.ireturn, 1) := by decide +kernel
theorem dX3_reachingBy_0 : decode cX3_reachingBy 0 = .ok (.iconst 0, 1) := by decide +kernel
theorem dX3_reachingBy_1 : decode cX3_reachingBy 1 = .ok (.istore_n 2, 1) := by decide +kernel
theorem dX3_reachingBy_2 : decode cX3_reachingBy 2 = .ok (.iconst 0, 1) := by decide +kernel
theorem dX3_reachingBy_3 : decode cX3_reachingBy 3 = .ok (.istore_n 3, 1) := by decide +kernel
theorem dX3_reachingBy_4 : decode cX3_reachingBy 4 = .ok (.iload_n 3, 1) := by decide +kernel
theorem dX3_reachingBy_5 : decode cX3_reachingBy 5 = .ok (.bipush 6, 2) := by decide +kernel
theorem dX3_reachingBy_7 : decode cX3_reachingBy 7 = .ok (.if_icmp .ge 26, 3) := by decide +kernel
theorem dX3_reachingBy_10 : decode cX3_reachingBy 10 = .ok (.aload_n 0, 1) := by decide +kernel
theorem dX3_reachingBy_11 : decode cX3_reachingBy 11 = .ok (.iload_n 3, 1) := by decide +kernel
theorem dX3_reachingBy_12 : decode cX3_reachingBy 12 = .ok (.aload_n 1, 1) := by decide +kernel
theorem dX3_reachingBy_13 : decode cX3_reachingBy 13 = .ok (.iload_n 3, 1) := by decide +kernel
theorem dX3_reachingBy_14 : decode cX3_reachingBy 14 = .ok (.iaload, 1) := by decide +kernel
theorem dX3_reachingBy_15 : decode cX3_reachingBy 15 = .ok (.invokevirtual 83, 3) := by decide +kernel
theorem dX3_reachingBy_18 : decode cX3_reachingBy 18 = .ok (.ifCond .eq 9, 3) := by decide +kernel
theorem dX3_reachingBy_21 : decode cX3_reachingBy 21 = .ok (.iload_n 2, 1) := by decide +kernel
theorem dX3_reachingBy_22 : decode cX3_reachingBy 22 = .ok (.iconst 1, 1) := by decide +kernel
theorem dX3_reachingBy_23 : decode cX3_reachingBy 23 = .ok (.iload_n 3, 1) := by decide +kernel
theorem dX3_reachingBy_24 : decode cX3_reachingBy 24 = .ok (.ishl, 1) := by decide +kernel
theorem dX3_reachingBy_25 : decode cX3_reachingBy 25 = .ok (.ior, 1) := by decide +kernel
theorem dX3_reachingBy_26 : decode cX3_reachingBy 26 = .ok (.istore_n 2, 1) := by decide +kernel
theorem dX3_reachingBy_27 : decode cX3_reachingBy 27 = .ok (.iinc 3 1, 3) := by decide +kernel
theorem dX3_reachingBy_30 : decode cX3_reachingBy 30 = .ok (.goto (-26), 3) := by decide +kernel
theorem dX3_reachingBy_33 : decode cX3_reachingBy 33 = .ok (.iload_n 2, 1) := by decide +kernel
theorem dX3_reachingBy_34 : decode cX3_reachingBy 34 = .ok (.ireturn, 1) := by decide +kernel
theorem dX3_mustsBy_0 : decode cX3_mustsBy 0 = .ok (.iconst 0, 1) := by decide +kernel
theorem dX3_mustsBy_1 : decode cX3_mustsBy 1 = .ok (.istore_n 3, 1) := by decide +kernel
theorem dX3_mustsBy_2 : decode cX3_mustsBy 2 = .ok (.iconst 0, 1) := by decide +kernel
theorem dX3_mustsBy_3 : decode cX3_mustsBy 3 = .ok (.istore 4, 2) := by decide +kernel
theorem dX3_mustsBy_5 : decode cX3_mustsBy 5 = .ok (.iload 4, 2) := by decide +kernel
theorem dX3_mustsBy_7 : decode cX3_mustsBy 7 = .ok (.bipush 6, 2) := by decide +kernel
theorem dX3_mustsBy_9 : decode cX3_mustsBy 9 = .ok (.if_icmp .ge 26, 3) := by decide +kernel
theorem dX3_mustsBy_12 : decode cX3_mustsBy 12 = .ok (.iload_n 3, 1) := by decide +kernel
theorem dX3_mustsBy_13 : decode cX3_mustsBy 13 = .ok (.aload_n 0, 1) := by decide +kernel
theorem dX3_mustsBy_14 : decode cX3_mustsBy 14 = .ok (.getfield 34, 3) := by decide +kernel
theorem dX3_mustsBy_17 : decode cX3_mustsBy 17 = .ok (.iload 4, 2) := by decide +kernel
theorem dX3_mustsBy_19 : decode cX3_mustsBy 19 = .ok (.aload_n 1, 1) := by decide +kernel
theorem dX3_mustsBy_20 : decode cX3_mustsBy 20 = .ok (.iload 4, 2) := by decide +kernel
theorem dX3_mustsBy_22 : decode cX3_mustsBy 22 = .ok (.iaload, 1) := by decide +kernel
theorem dX3_mustsBy_23 : decode cX3_mustsBy 23 = .ok (.invokestatic 86, 3) := by decide +kernel
theorem dX3_mustsBy_26 : decode cX3_mustsBy 26 = .ok (.iaload, 1) := by decide +kernel
theorem dX3_mustsBy_27 : decode cX3_mustsBy 27 = .ok (.ior, 1) := by decide +kernel
theorem dX3_mustsBy_28 : decode cX3_mustsBy 28 = .ok (.istore_n 3, 1) := by decide +kernel
theorem dX3_mustsBy_29 : decode cX3_mustsBy 29 = .ok (.iinc 4 1, 3) := by decide +kernel
theorem dX3_mustsBy_32 : decode cX3_mustsBy 32 = .ok (.goto (-27), 3) := by decide +kernel
theorem dX3_mustsBy_35 : decode cX3_mustsBy 35 = .ok (.iload_n 3, 1) := by decide +kernel
theorem dX3_mustsBy_36 : decode cX3_mustsBy 36 = .ok (.iload_n 2, 1) := by decide +kernel
theorem dX3_mustsBy_37 : decode cX3_mustsBy 37 = .ok (.invokestatic 100, 3) := by decide +kernel
theorem dX3_mustsBy_40 : decode cX3_mustsBy 40 = .ok (.iand, 1) := by decide +kernel
theorem dX3_mustsBy_41 : decode cX3_mustsBy 41 = .ok (.ireturn, 1) := by decide +kernel
theorem dX3_mayGoBy_0 : decode cX3_mayGoBy 0 = .ok (.aload_n 0, 1) := by decide +kernel
theorem dX3_mayGoBy_1 : decode cX3_mayGoBy 1 = .ok (.getfield 9, 3) := by decide +kernel
theorem dX3_mayGoBy_4 : decode cX3_mayGoBy 4 = .ok (.aload_n 0, 1) := by decide +kernel
theorem dX3_mayGoBy_5 : decode cX3_mayGoBy 5 = .ok (.getfield 49, 3) := by decide +kernel
theorem dX3_mayGoBy_8 : decode cX3_mayGoBy 8 = .ok (.getfield 69, 3) := by decide +kernel
theorem dX3_mayGoBy_11 : decode cX3_mayGoBy 11 = .ok (.iaload, 1) := by decide +kernel
theorem dX3_mayGoBy_12 : decode cX3_mayGoBy 12 = .ok (.istore_n 2, 1) := by decide +kernel
theorem dX3_mayGoBy_13 : decode cX3_mayGoBy 13 = .ok (.iconst 0, 1) := by decide +kernel
theorem dX3_mayGoBy_14 : decode cX3_mayGoBy 14 = .ok (.istore_n 3, 1) := by decide +kernel
theorem dX3_mayGoBy_15 : decode cX3_mayGoBy 15 = .ok (.iload_n 3, 1) := by decide +kernel
theorem dX3_mayGoBy_16 : decode cX3_mayGoBy 16 = .ok (.bipush 6, 2) := by decide +kernel
theorem dX3_mayGoBy_18 : decode cX3_mayGoBy 18 = .ok (.if_icmp .ge 24, 3) := by decide +kernel
theorem dX3_mayGoBy_21 : decode cX3_mayGoBy 21 = .ok (.iload_n 2, 1) := by decide +kernel
theorem dX3_mayGoBy_22 : decode cX3_mayGoBy 22 = .ok (.aload_n 0, 1) := by decide +kernel
theorem dX3_mayGoBy_23 : decode cX3_mayGoBy 23 = .ok (.getfield 31, 3) := by decide +kernel
theorem dX3_mayGoBy_26 : decode cX3_mayGoBy 26 = .ok (.iload_n 3, 1) := by decide +kernel
theorem dX3_mayGoBy_27 : decode cX3_mayGoBy 27 = .ok (.aload_n 1, 1) := by decide +kernel
theorem dX3_mayGoBy_28 : decode cX3_mayGoBy 28 = .ok (.iload_n 3, 1) := by decide +kernel
theorem dX3_mayGoBy_29 : decode cX3_mayGoBy 29 = .ok (.iaload, 1) := by decide +kernel
theorem dX3_mayGoBy_30 : decode cX3_mayGoBy 30 = .ok (.invokestatic 86, 3) := by decide +kernel
theorem dX3_mayGoBy_33 : decode cX3_mayGoBy 33 = .ok (.iaload, 1) := by decide +kernel
theorem dX3_mayGoBy_34 : decode cX3_mayGoBy 34 = .ok (.iand, 1) := by decide +kernel
theorem dX3_mayGoBy_35 : decode cX3_mayGoBy 35 = .ok (.istore_n 2, 1) := by decide +kernel
theorem dX3_mayGoBy_36 : decode cX3_mayGoBy 36 = .ok (.iinc 3 1, 3) := by decide +kernel
theorem dX3_mayGoBy_39 : decode cX3_mayGoBy 39 = .ok (.goto (-24), 3) := by decide +kernel
theorem dX3_mayGoBy_42 : decode cX3_mayGoBy 42 = .ok (.iload_n 2, 1) := by decide +kernel
theorem dX3_mayGoBy_43 : decode cX3_mayGoBy 43 = .ok (.ireturn, 1) := by decide +kernel
theorem dX3_someGoodWith_0 : decode cX3_someGoodWith 0 = .ok (.aload_n 0, 1) := by decide +kernel
theorem dX3_someGoodWith_1 : decode cX3_someGoodWith 1 = .ok (.iload_n 1, 1) := by decide +kernel
theorem dX3_someGoodWith_2 : decode cX3_someGoodWith 2 = .ok (.bipush 31, 2) := by decide +kernel
theorem dX3_someGoodWith_4 : decode cX3_someGoodWith 4 = .ok (.invokevirtual 103, 3) := by decide +kernel
theorem dX3_someGoodWith_7 : decode cX3_someGoodWith 7 = .ok (.ifCond .eq 7, 3) := by decide +kernel
theorem dX3_someGoodWith_10 : decode cX3_someGoodWith 10 = .ok (.iconst 1, 1) := by decide +kernel
theorem dX3_someGoodWith_11 : decode cX3_someGoodWith 11 = .ok (.goto 4, 3) := by decide +kernel
theorem dX3_someGoodWith_14 : decode cX3_someGoodWith 14 = .ok (.iconst 0, 1) := by decide +kernel
theorem dX3_someGoodWith_15 : decode cX3_someGoodWith 15 = .ok (.ireturn, 1) := by decide +kernel
theorem dX3_room_0 : decode cX3_room 0 = .ok (.iconst 0, 1) := by decide +kernel
theorem dX3_room_1 : decode cX3_room 1 = .ok (.istore_n 3, 1) := by decide +kernel
theorem dX3_room_2 : decode cX3_room 2 = .ok (.iload_n 3, 1) := by decide +kernel
theorem dX3_room_3 : decode cX3_room 3 = .ok (.bipush 6, 2) := by decide +kernel
theorem dX3_room_5 : decode cX3_room 5 = .ok (.if_icmp .ge 34, 3) := by decide +kernel
theorem dX3_room_8 : decode cX3_room 8 = .ok (.aload_n 0, 1) := by decide +kernel
theorem dX3_room_9 : decode cX3_room 9 = .ok (.getfield 40, 3) := by decide +kernel
theorem dX3_room_12 : decode cX3_room 12 = .ok (.iload_n 3, 1) := by decide +kernel
theorem dX3_room_13 : decode cX3_room 13 = .ok (.iload_n 1, 1) := by decide +kernel
theorem dX3_room_14 : decode cX3_room 14 = .ok (.iload_n 3, 1) := by decide +kernel
theorem dX3_room_15 : decode cX3_room 15 = .ok (.invokestatic 76, 3) := by decide +kernel
theorem dX3_room_18 : decode cX3_room 18 = .ok (.ifCond .eq 12, 3) := by decide +kernel
theorem dX3_room_21 : decode cX3_room 21 = .ok (.aload_n 0, 1) := by decide +kernel
theorem dX3_room_22 : decode cX3_room 22 = .ok (.iload_n 3, 1) := by decide +kernel
theorem dX3_room_23 : decode cX3_room 23 = .ok (.iload_n 2, 1) := by decide +kernel
theorem dX3_room_24 : decode cX3_room 24 = .ok (.invokevirtual 106, 3) := by decide +kernel
theorem dX3_room_27 : decode cX3_room 27 = .ok (.goto 5, 3) := by decide +kernel
theorem dX3_room_30 : decode cX3_room 30 = .ok (.bipush 31, 2) := by decide +kernel
theorem dX3_room_32 : decode cX3_room 32 = .ok (.iastore, 1) := by decide +kernel
theorem dX3_room_33 : decode cX3_room 33 = .ok (.iinc 3 1, 3) := by decide +kernel
theorem dX3_room_36 : decode cX3_room 36 = .ok (.goto (-34), 3) := by decide +kernel
theorem dX3_room_39 : decode cX3_room 39 = .ok (.aload_n 0, 1) := by decide +kernel
theorem dX3_room_40 : decode cX3_room 40 = .ok (.invokevirtual 109, 3) := by decide +kernel
theorem dX3_room_43 : decode cX3_room 43 = .ok (.ireturn, 1) := by decide +kernel
theorem dX3_letsOf_0 : decode cX3_letsOf 0 = .ok (.iconst 0, 1) := by decide +kernel
theorem dX3_letsOf_1 : decode cX3_letsOf 1 = .ok (.istore_n 3, 1) := by decide +kernel
theorem dX3_letsOf_2 : decode cX3_letsOf 2 = .ok (.iconst 0, 1) := by decide +kernel
theorem dX3_letsOf_3 : decode cX3_letsOf 3 = .ok (.istore 4, 2) := by decide +kernel
theorem dX3_letsOf_5 : decode cX3_letsOf 5 = .ok (.iload 4, 2) := by decide +kernel
theorem dX3_letsOf_7 : decode cX3_letsOf 7 = .ok (.iconst 5, 1) := by decide +kernel
theorem dX3_letsOf_8 : decode cX3_letsOf 8 = .ok (.if_icmp .ge 34, 3) := by decide +kernel
theorem dX3_letsOf_11 : decode cX3_letsOf 11 = .ok (.aload_n 0, 1) := by decide +kernel
theorem dX3_letsOf_12 : decode cX3_letsOf 12 = .ok (.iload_n 1, 1) := by decide +kernel
theorem dX3_letsOf_13 : decode cX3_letsOf 13 = .ok (.iload 4, 2) := by decide +kernel
theorem dX3_letsOf_15 : decode cX3_letsOf 15 = .ok (.iload_n 2, 1) := by decide +kernel
theorem dX3_letsOf_16 : decode cX3_letsOf 16 = .ok (.invokevirtual 113, 3) := by decide +kernel
theorem dX3_letsOf_19 : decode cX3_letsOf 19 = .ok (.ifCond .eq 17, 3) := by decide +kernel
theorem dX3_letsOf_22 : decode cX3_letsOf 22 = .ok (.iload_n 3, 1) := by decide +kernel
theorem dX3_letsOf_23 : decode cX3_letsOf 23 = .ok (.aload_n 0, 1) := by decide +kernel
theorem dX3_letsOf_24 : decode cX3_letsOf 24 = .ok (.getfield 31, 3) := by decide +kernel
theorem dX3_letsOf_27 : decode cX3_letsOf 27 = .ok (.iload_n 1, 1) := by decide +kernel
theorem dX3_letsOf_28 : decode cX3_letsOf 28 = .ok (.iload 4, 2) := by decide +kernel
theorem dX3_letsOf_30 : decode cX3_letsOf 30 = .ok (.invokestatic 86, 3) := by decide +kernel
theorem dX3_letsOf_33 : decode cX3_letsOf 33 = .ok (.iaload, 1) := by decide +kernel
theorem dX3_letsOf_34 : decode cX3_letsOf 34 = .ok (.ior, 1) := by decide +kernel
theorem dX3_letsOf_35 : decode cX3_letsOf 35 = .ok (.istore_n 3, 1) := by decide +kernel
theorem dX3_letsOf_36 : decode cX3_letsOf 36 = .ok (.iinc 4 1, 3) := by decide +kernel
theorem dX3_letsOf_39 : decode cX3_letsOf 39 = .ok (.goto (-34), 3) := by decide +kernel
theorem dX3_letsOf_42 : decode cX3_letsOf 42 = .ok (.iload_n 3, 1) := by decide +kernel
theorem dX3_letsOf_43 : decode cX3_letsOf 43 = .ok (.ireturn, 1) := by decide +kernel
theorem dX3_mayChoose_0 : decode cX3_mayChoose 0 = .ok (.aload_n 0, 1) := by decide +kernel
theorem dX3_mayChoose_1 : decode cX3_mayChoose 1 = .ok (.getfield 9, 3) := by decide +kernel
theorem dX3_mayChoose_4 : decode cX3_mayChoose 4 = .ok (.iload_n 1, 1) := by decide +kernel
theorem dX3_mayChoose_5 : decode cX3_mayChoose 5 = .ok (.iaload, 1) := by decide +kernel
theorem dX3_mayChoose_6 : decode cX3_mayChoose 6 = .ok (.iload_n 2, 1) := by decide +kernel
theorem dX3_mayChoose_7 : decode cX3_mayChoose 7 = .ok (.invokestatic 76, 3) := by decide +kernel
theorem dX3_mayChoose_10 : decode cX3_mayChoose 10 = .ok (.ifCond .eq 24, 3) := by decide +kernel
theorem dX3_mayChoose_13 : decode cX3_mayChoose 13 = .ok (.aload_n 0, 1) := by decide +kernel
theorem dX3_mayChoose_14 : decode cX3_mayChoose 14 = .ok (.getfield 34, 3) := by decide +kernel
theorem dX3_mayChoose_17 : decode cX3_mayChoose 17 = .ok (.iload_n 1, 1) := by decide +kernel
theorem dX3_mayChoose_18 : decode cX3_mayChoose 18 = .ok (.iload_n 2, 1) := by decide +kernel
theorem dX3_mayChoose_19 : decode cX3_mayChoose 19 = .ok (.invokestatic 86, 3) := by decide +kernel
theorem dX3_mayChoose_22 : decode cX3_mayChoose 22 = .ok (.iaload, 1) := by decide +kernel
theorem dX3_mayChoose_23 : decode cX3_mayChoose 23 = .ok (.iload_n 3, 1) := by decide +kernel
theorem dX3_mayChoose_24 : decode cX3_mayChoose 24 = .ok (.invokestatic 116, 3) := by decide +kernel
theorem dX3_mayChoose_27 : decode cX3_mayChoose 27 = .ok (.ifCond .eq 7, 3) := by decide +kernel
theorem dX3_mayChoose_30 : decode cX3_mayChoose 30 = .ok (.iconst 1, 1) := by decide +kernel
theorem dX3_mayChoose_31 : decode cX3_mayChoose 31 = .ok (.goto 4, 3) := by decide +kernel
theorem dX3_mayChoose_34 : decode cX3_mayChoose 34 = .ok (.iconst 0, 1) := by decide +kernel
theorem dX3_mayChoose_35 : decode cX3_mayChoose 35 = .ok (.ireturn, 1) := by decide +kernel
theorem dX3_roomLeft_0 : decode cX3_roomLeft 0 = .ok (.aload_n 0, 1) := by decide +kernel
theorem dX3_roomLeft_1 : decode cX3_roomLeft 1 = .ok (.getfield 9, 3) := by decide +kernel
theorem dX3_roomLeft_4 : decode cX3_roomLeft 4 = .ok (.aload_n 0, 1) := by decide +kernel
theorem dX3_roomLeft_5 : decode cX3_roomLeft 5 = .ok (.getfield 49, 3) := by decide +kernel
theorem dX3_roomLeft_8 : decode cX3_roomLeft 8 = .ok (.getfield 69, 3) := by decide +kernel
theorem dX3_roomLeft_11 : decode cX3_roomLeft 11 = .ok (.iaload, 1) := by decide +kernel
theorem dX3_roomLeft_12 : decode cX3_roomLeft 12 = .ok (.istore_n 1, 1) := by decide +kernel
theorem dX3_roomLeft_13 : decode cX3_roomLeft 13 = .ok (.iconst 0, 1) := by decide +kernel
theorem dX3_roomLeft_14 : decode cX3_roomLeft 14 = .ok (.istore_n 2, 1) := by decide +kernel
theorem dX3_roomLeft_15 : decode cX3_roomLeft 15 = .ok (.iload_n 2, 1) := by decide +kernel
theorem dX3_roomLeft_16 : decode cX3_roomLeft 16 = .ok (.bipush 6, 2) := by decide +kernel
theorem dX3_roomLeft_18 : decode cX3_roomLeft 18 = .ok (.if_icmp .ge 18, 3) := by decide +kernel
theorem dX3_roomLeft_21 : decode cX3_roomLeft 21 = .ok (.iload_n 1, 1) := by decide +kernel
theorem dX3_roomLeft_22 : decode cX3_roomLeft 22 = .ok (.aload_n 0, 1) := by decide +kernel
theorem dX3_roomLeft_23 : decode cX3_roomLeft 23 = .ok (.getfield 40, 3) := by decide +kernel
theorem dX3_roomLeft_26 : decode cX3_roomLeft 26 = .ok (.iload_n 2, 1) := by decide +kernel
theorem dX3_roomLeft_27 : decode cX3_roomLeft 27 = .ok (.iaload, 1) := by decide +kernel
theorem dX3_roomLeft_28 : decode cX3_roomLeft 28 = .ok (.iand, 1) := by decide +kernel
theorem dX3_roomLeft_29 : decode cX3_roomLeft 29 = .ok (.istore_n 1, 1) := by decide +kernel
theorem dX3_roomLeft_30 : decode cX3_roomLeft 30 = .ok (.iinc 2 1, 3) := by decide +kernel
theorem dX3_roomLeft_33 : decode cX3_roomLeft 33 = .ok (.goto (-18), 3) := by decide +kernel
theorem dX3_roomLeft_36 : decode cX3_roomLeft 36 = .ok (.iload_n 1, 1) := by decide +kernel
theorem dX3_roomLeft_37 : decode cX3_roomLeft 37 = .ok (.ireturn, 1) := by decide +kernel
theorem dX3_findBest_0 : decode cX3_findBest 0 = .ok (.bipush 31, 2) := by decide +kernel
theorem dX3_findBest_2 : decode cX3_findBest 2 = .ok (.iload_n 1, 1) := by decide +kernel
theorem dX3_findBest_3 : decode cX3_findBest 3 = .ok (.invokestatic 100, 3) := by decide +kernel
theorem dX3_findBest_6 : decode cX3_findBest 6 = .ok (.iconst (-1), 1) := by decide +kernel
theorem dX3_findBest_7 : decode cX3_findBest 7 = .ok (.ixor, 1) := by decide +kernel
theorem dX3_findBest_8 : decode cX3_findBest 8 = .ok (.iand, 1) := by decide +kernel
theorem dX3_findBest_9 : decode cX3_findBest 9 = .ok (.istore_n 3, 1) := by decide +kernel
theorem dX3_findBest_10 : decode cX3_findBest 10 = .ok (.aload_n 0, 1) := by decide +kernel
theorem dX3_findBest_11 : decode cX3_findBest 11 = .ok (.iload_n 3, 1) := by decide +kernel
theorem dX3_findBest_12 : decode cX3_findBest 12 = .ok (.invokevirtual 119, 3) := by decide +kernel
theorem dX3_findBest_15 : decode cX3_findBest 15 = .ok (.istore 4, 2) := by decide +kernel
theorem dX3_findBest_17 : decode cX3_findBest 17 = .ok (.iload 4, 2) := by decide +kernel
theorem dX3_findBest_19 : decode cX3_findBest 19 = .ok (.bipush (-6), 2) := by decide +kernel
theorem dX3_findBest_21 : decode cX3_findBest 21 = .ok (.if_icmp .eq 18, 3) := by decide +kernel
theorem dX3_findBest_24 : decode cX3_findBest 24 = .ok (.aload_n 0, 1) := by decide +kernel
theorem dX3_findBest_25 : decode cX3_findBest 25 = .ok (.aload_n 0, 1) := by decide +kernel
theorem dX3_findBest_26 : decode cX3_findBest 26 = .ok (.getfield 25, 3) := by decide +kernel
theorem dX3_findBest_29 : decode cX3_findBest 29 = .ok (.iload 4, 2) := by decide +kernel
theorem dX3_findBest_31 : decode cX3_findBest 31 = .ok (.iload_n 3, 1) := by decide +kernel
theorem dX3_findBest_32 : decode cX3_findBest 32 = .ok (.ior, 1) := by decide +kernel
theorem dX3_findBest_33 : decode cX3_findBest 33 = .ok (.invokevirtual 103, 3) := by decide +kernel
theorem dX3_findBest_36 : decode cX3_findBest 36 = .ok (.ifCond .ne 5, 3) := by decide +kernel
theorem dX3_findBest_39 : decode cX3_findBest 39 = .ok (.iconst 0, 1) := by decide +kernel
theorem dX3_findBest_40 : decode cX3_findBest 40 = .ok (.ireturn, 1) := by decide +kernel
theorem dX3_findBest_41 : decode cX3_findBest 41 = .ok (.aload_n 2, 1) := by decide +kernel
theorem dX3_findBest_42 : decode cX3_findBest 42 = .ok (.iload 4, 2) := by decide +kernel
theorem dX3_findBest_44 : decode cX3_findBest 44 = .ok (.putfield 122, 3) := by decide +kernel
theorem dX3_findBest_47 : decode cX3_findBest 47 = .ok (.iconst 0, 1) := by decide +kernel
theorem dX3_findBest_48 : decode cX3_findBest 48 = .ok (.istore 5, 2) := by decide +kernel
theorem dX3_findBest_50 : decode cX3_findBest 50 = .ok (.iload 5, 2) := by decide +kernel
theorem dX3_findBest_52 : decode cX3_findBest 52 = .ok (.bipush 6, 2) := by decide +kernel
theorem dX3_findBest_54 : decode cX3_findBest 54 = .ok (.if_icmp .ge 42, 3) := by decide +kernel
theorem dX3_findBest_57 : decode cX3_findBest 57 = .ok (.aload_n 2, 1) := by decide +kernel
theorem dX3_findBest_58 : decode cX3_findBest 58 = .ok (.getfield 127, 3) := by decide +kernel
theorem dX3_findBest_61 : decode cX3_findBest 61 = .ok (.iload 5, 2) := by decide +kernel
theorem dX3_findBest_63 : decode cX3_findBest 63 = .ok (.aload_n 0, 1) := by decide +kernel
theorem dX3_findBest_64 : decode cX3_findBest 64 = .ok (.getfield 25, 3) := by decide +kernel
theorem dX3_findBest_67 : decode cX3_findBest 67 = .ok (.iload 5, 2) := by decide +kernel
theorem dX3_findBest_69 : decode cX3_findBest 69 = .ok (.invokestatic 76, 3) := by decide +kernel
theorem dX3_findBest_72 : decode cX3_findBest 72 = .ok (.ifCond .eq 16, 3) := by decide +kernel
theorem dX3_findBest_75 : decode cX3_findBest 75 = .ok (.aload_n 0, 1) := by decide +kernel
theorem dX3_findBest_76 : decode cX3_findBest 76 = .ok (.iload 5, 2) := by decide +kernel
theorem dX3_findBest_78 : decode cX3_findBest 78 = .ok (.iload 4, 2) := by decide +kernel
theorem dX3_findBest_80 : decode cX3_findBest 80 = .ok (.iload_n 3, 1) := by decide +kernel
theorem dX3_findBest_81 : decode cX3_findBest 81 = .ok (.ior, 1) := by decide +kernel
theorem dX3_findBest_82 : decode cX3_findBest 82 = .ok (.invokevirtual 130, 3) := by decide +kernel
theorem dX3_findBest_85 : decode cX3_findBest 85 = .ok (.goto 4, 3) := by decide +kernel
theorem dX3_findBest_88 : decode cX3_findBest 88 = .ok (.iconst 0, 1) := by decide +kernel
theorem dX3_findBest_89 : decode cX3_findBest 89 = .ok (.iastore, 1) := by decide +kernel
theorem dX3_findBest_90 : decode cX3_findBest 90 = .ok (.iinc 5 1, 3) := by decide +kernel
theorem dX3_findBest_93 : decode cX3_findBest 93 = .ok (.goto (-43), 3) := by decide +kernel
theorem dX3_findBest_96 : decode cX3_findBest 96 = .ok (.aload_n 2, 1) := by decide +kernel
theorem dX3_findBest_97 : decode cX3_findBest 97 = .ok (.aload_n 0, 1) := by decide +kernel
theorem dX3_findBest_98 : decode cX3_findBest 98 = .ok (.invokevirtual 109, 3) := by decide +kernel
theorem dX3_findBest_101 : decode cX3_findBest 101 = .ok (.putfield 133, 3) := by decide +kernel
theorem dX3_findBest_104 : decode cX3_findBest 104 = .ok (.iconst 1, 1) := by decide +kernel
theorem dX3_findBest_105 : decode cX3_findBest 105 = .ok (.ireturn, 1) := by decide +kernel
theorem dX3_leastMusts_0 : decode cX3_leastMusts 0 = .ok (.bipush (-6), 2) := by decide +kernel
theorem dX3_leastMusts_2 : decode cX3_leastMusts 2 = .ok (.istore_n 2, 1) := by decide +kernel
theorem dX3_leastMusts_3 : decode cX3_leastMusts 3 = .ok (.iconst 0, 1) := by decide +kernel
theorem dX3_leastMusts_4 : decode cX3_leastMusts 4 = .ok (.istore_n 3, 1) := by decide +kernel
theorem dX3_leastMusts_5 : decode cX3_leastMusts 5 = .ok (.iload_n 3, 1) := by decide +kernel
theorem dX3_leastMusts_6 : decode cX3_leastMusts 6 = .ok (.bipush 31, 2) := by decide +kernel
theorem dX3_leastMusts_8 : decode cX3_leastMusts 8 = .ok (.if_icmp .gt 54, 3) := by decide +kernel
theorem dX3_leastMusts_11 : decode cX3_leastMusts 11 = .ok (.iload_n 2, 1) := by decide +kernel
theorem dX3_leastMusts_12 : decode cX3_leastMusts 12 = .ok (.bipush (-6), 2) := by decide +kernel
theorem dX3_leastMusts_14 : decode cX3_leastMusts 14 = .ok (.if_icmp .eq 14, 3) := by decide +kernel
theorem dX3_leastMusts_17 : decode cX3_leastMusts 17 = .ok (.iload_n 3, 1) := by decide +kernel
theorem dX3_leastMusts_18 : decode cX3_leastMusts 18 = .ok (.invokestatic 136, 3) := by decide +kernel
theorem dX3_leastMusts_21 : decode cX3_leastMusts 21 = .ok (.iload_n 2, 1) := by decide +kernel
theorem dX3_leastMusts_22 : decode cX3_leastMusts 22 = .ok (.invokestatic 136, 3) := by decide +kernel
theorem dX3_leastMusts_25 : decode cX3_leastMusts 25 = .ok (.if_icmp .ge 7, 3) := by decide +kernel
theorem dX3_leastMusts_28 : decode cX3_leastMusts 28 = .ok (.iconst 1, 1) := by decide +kernel
theorem dX3_leastMusts_29 : decode cX3_leastMusts 29 = .ok (.goto 4, 3) := by decide +kernel
theorem dX3_leastMusts_32 : decode cX3_leastMusts 32 = .ok (.iconst 0, 1) := by decide +kernel
theorem dX3_leastMusts_33 : decode cX3_leastMusts 33 = .ok (.istore 4, 2) := by decide +kernel
theorem dX3_leastMusts_35 : decode cX3_leastMusts 35 = .ok (.iload 4, 2) := by decide +kernel
theorem dX3_leastMusts_37 : decode cX3_leastMusts 37 = .ok (.ifCond .eq 19, 3) := by decide +kernel
theorem dX3_leastMusts_40 : decode cX3_leastMusts 40 = .ok (.aload_n 0, 1) := by decide +kernel
theorem dX3_leastMusts_41 : decode cX3_leastMusts 41 = .ok (.aload_n 0, 1) := by decide +kernel
theorem dX3_leastMusts_42 : decode cX3_leastMusts 42 = .ok (.getfield 25, 3) := by decide +kernel
theorem dX3_leastMusts_45 : decode cX3_leastMusts 45 = .ok (.iload_n 3, 1) := by decide +kernel
theorem dX3_leastMusts_46 : decode cX3_leastMusts 46 = .ok (.iload_n 1, 1) := by decide +kernel
theorem dX3_leastMusts_47 : decode cX3_leastMusts 47 = .ok (.ior, 1) := by decide +kernel
theorem dX3_leastMusts_48 : decode cX3_leastMusts 48 = .ok (.invokevirtual 103, 3) := by decide +kernel
theorem dX3_leastMusts_51 : decode cX3_leastMusts 51 = .ok (.ifCond .eq 5, 3) := by decide +kernel
theorem dX3_leastMusts_54 : decode cX3_leastMusts 54 = .ok (.iload_n 3, 1) := by decide +kernel
theorem dX3_leastMusts_55 : decode cX3_leastMusts 55 = .ok (.istore_n 2, 1) := by decide +kernel
theorem dX3_leastMusts_56 : decode cX3_leastMusts 56 = .ok (.iinc 3 1, 3) := by decide +kernel
theorem dX3_leastMusts_59 : decode cX3_leastMusts 59 = .ok (.goto (-54), 3) := by decide +kernel
theorem dX3_leastMusts_62 : decode cX3_leastMusts 62 = .ok (.iload_n 2, 1) := by decide +kernel
theorem dX3_leastMusts_63 : decode cX3_leastMusts 63 = .ok (.ireturn, 1) := by decide +kernel
theorem dX3_settle_0 : decode cX3_settle 0 = .ok (.iconst 0, 1) := by decide +kernel
theorem dX3_settle_1 : decode cX3_settle 1 = .ok (.istore_n 3, 1) := by decide +kernel
theorem dX3_settle_2 : decode cX3_settle 2 = .ok (.iload_n 3, 1) := by decide +kernel
theorem dX3_settle_3 : decode cX3_settle 3 = .ok (.iconst 5, 1) := by decide +kernel
theorem dX3_settle_4 : decode cX3_settle 4 = .ok (.if_icmp .ge 44, 3) := by decide +kernel
theorem dX3_settle_7 : decode cX3_settle 7 = .ok (.aload_n 0, 1) := by decide +kernel
theorem dX3_settle_8 : decode cX3_settle 8 = .ok (.iload_n 1, 1) := by decide +kernel
theorem dX3_settle_9 : decode cX3_settle 9 = .ok (.iload_n 3, 1) := by decide +kernel
theorem dX3_settle_10 : decode cX3_settle 10 = .ok (.iload_n 2, 1) := by decide +kernel
theorem dX3_settle_11 : decode cX3_settle 11 = .ok (.invokevirtual 113, 3) := by decide +kernel
theorem dX3_settle_14 : decode cX3_settle 14 = .ok (.ifCond .eq 28, 3) := by decide +kernel
theorem dX3_settle_17 : decode cX3_settle 17 = .ok (.aload_n 0, 1) := by decide +kernel
theorem dX3_settle_18 : decode cX3_settle 18 = .ok (.getfield 40, 3) := by decide +kernel
theorem dX3_settle_21 : decode cX3_settle 21 = .ok (.iload_n 1, 1) := by decide +kernel
theorem dX3_settle_22 : decode cX3_settle 22 = .ok (.aload_n 0, 1) := by decide +kernel
theorem dX3_settle_23 : decode cX3_settle 23 = .ok (.getfield 31, 3) := by decide +kernel
theorem dX3_settle_26 : decode cX3_settle 26 = .ok (.iload_n 1, 1) := by decide +kernel
theorem dX3_settle_27 : decode cX3_settle 27 = .ok (.iload_n 3, 1) := by decide +kernel
theorem dX3_settle_28 : decode cX3_settle 28 = .ok (.invokestatic 86, 3) := by decide +kernel
theorem dX3_settle_31 : decode cX3_settle 31 = .ok (.iaload, 1) := by decide +kernel
theorem dX3_settle_32 : decode cX3_settle 32 = .ok (.iastore, 1) := by decide +kernel
theorem dX3_settle_33 : decode cX3_settle 33 = .ok (.aload_n 0, 1) := by decide +kernel
theorem dX3_settle_34 : decode cX3_settle 34 = .ok (.invokevirtual 109, 3) := by decide +kernel
theorem dX3_settle_37 : decode cX3_settle 37 = .ok (.ifCond .eq 5, 3) := by decide +kernel
theorem dX3_settle_40 : decode cX3_settle 40 = .ok (.iload_n 3, 1) := by decide +kernel
theorem dX3_settle_41 : decode cX3_settle 41 = .ok (.ireturn, 1) := by decide +kernel
theorem dX3_settle_42 : decode cX3_settle 42 = .ok (.iinc 3 1, 3) := by decide +kernel
theorem dX3_settle_45 : decode cX3_settle 45 = .ok (.goto (-43), 3) := by decide +kernel
theorem dX3_settle_48 : decode cX3_settle 48 = .ok (.iconst 0, 1) := by decide +kernel
theorem dX3_settle_49 : decode cX3_settle 49 = .ok (.ireturn, 1) := by decide +kernel
theorem dX3_countGood_0 : decode cX3_countGood 0 = .ok (.iconst 0, 1) := by decide +kernel
theorem dX3_countGood_1 : decode cX3_countGood 1 = .ok (.istore_n 1, 1) := by decide +kernel
theorem dX3_countGood_2 : decode cX3_countGood 2 = .ok (.iload_n 1, 1) := by decide +kernel
theorem dX3_countGood_3 : decode cX3_countGood 3 = .ok (.bipush 31, 2) := by decide +kernel
theorem dX3_countGood_5 : decode cX3_countGood 5 = .ok (.if_icmp .gt 16, 3) := by decide +kernel
theorem dX3_countGood_8 : decode cX3_countGood 8 = .ok (.aload_n 0, 1) := by decide +kernel
theorem dX3_countGood_9 : decode cX3_countGood 9 = .ok (.getfield 43, 3) := by decide +kernel
theorem dX3_countGood_12 : decode cX3_countGood 12 = .ok (.iload_n 1, 1) := by decide +kernel
theorem dX3_countGood_13 : decode cX3_countGood 13 = .ok (.iconst 0, 1) := by decide +kernel
theorem dX3_countGood_14 : decode cX3_countGood 14 = .ok (.iastore, 1) := by decide +kernel
theorem dX3_countGood_15 : decode cX3_countGood 15 = .ok (.iinc 1 1, 3) := by decide +kernel
theorem dX3_countGood_18 : decode cX3_countGood 18 = .ok (.goto (-16), 3) := by decide +kernel
theorem dX3_countGood_21 : decode cX3_countGood 21 = .ok (.aload_n 0, 1) := by decide +kernel
theorem dX3_countGood_22 : decode cX3_countGood 22 = .ok (.getfield 43, 3) := by decide +kernel
theorem dX3_countGood_25 : decode cX3_countGood 25 = .ok (.aload_n 0, 1) := by decide +kernel
theorem dX3_countGood_26 : decode cX3_countGood 26 = .ok (.getfield 9, 3) := by decide +kernel
theorem dX3_countGood_29 : decode cX3_countGood 29 = .ok (.aload_n 0, 1) := by decide +kernel
theorem dX3_countGood_30 : decode cX3_countGood 30 = .ok (.getfield 49, 3) := by decide +kernel
theorem dX3_countGood_33 : decode cX3_countGood 33 = .ok (.getfield 69, 3) := by decide +kernel
theorem dX3_countGood_36 : decode cX3_countGood 36 = .ok (.iaload, 1) := by decide +kernel
theorem dX3_countGood_37 : decode cX3_countGood 37 = .ok (.iconst 1, 1) := by decide +kernel
theorem dX3_countGood_38 : decode cX3_countGood 38 = .ok (.iastore, 1) := by decide +kernel
theorem dX3_countGood_39 : decode cX3_countGood 39 = .ok (.iconst 0, 1) := by decide +kernel
theorem dX3_countGood_40 : decode cX3_countGood 40 = .ok (.istore_n 1, 1) := by decide +kernel
theorem dX3_countGood_41 : decode cX3_countGood 41 = .ok (.iload_n 1, 1) := by decide +kernel
theorem dX3_countGood_42 : decode cX3_countGood 42 = .ok (.bipush 6, 2) := by decide +kernel
theorem dX3_countGood_44 : decode cX3_countGood 44 = .ok (.if_icmp .ge 25, 3) := by decide +kernel
theorem dX3_countGood_47 : decode cX3_countGood 47 = .ok (.aload_n 0, 1) := by decide +kernel
theorem dX3_countGood_48 : decode cX3_countGood 48 = .ok (.getfield 25, 3) := by decide +kernel
theorem dX3_countGood_51 : decode cX3_countGood 51 = .ok (.iload_n 1, 1) := by decide +kernel
theorem dX3_countGood_52 : decode cX3_countGood 52 = .ok (.invokestatic 76, 3) := by decide +kernel
theorem dX3_countGood_55 : decode cX3_countGood 55 = .ok (.ifCond .eq 8, 3) := by decide +kernel
theorem dX3_countGood_58 : decode cX3_countGood 58 = .ok (.aload_n 0, 1) := by decide +kernel
theorem dX3_countGood_59 : decode cX3_countGood 59 = .ok (.iload_n 1, 1) := by decide +kernel
theorem dX3_countGood_60 : decode cX3_countGood 60 = .ok (.invokevirtual 141, 3) := by decide +kernel
theorem dX3_countGood_63 : decode cX3_countGood 63 = .ok (.iinc 1 1, 3) := by decide +kernel
theorem dX3_countGood_66 : decode cX3_countGood 66 = .ok (.goto (-25), 3) := by decide +kernel
theorem dX3_countGood_69 : decode cX3_countGood 69 = .ok (.iconst 0, 1) := by decide +kernel
theorem dX3_countGood_70 : decode cX3_countGood 70 = .ok (.istore_n 1, 1) := by decide +kernel
theorem dX3_countGood_71 : decode cX3_countGood 71 = .ok (.iconst 1, 1) := by decide +kernel
theorem dX3_countGood_72 : decode cX3_countGood 72 = .ok (.istore_n 2, 1) := by decide +kernel
theorem dX3_countGood_73 : decode cX3_countGood 73 = .ok (.iload_n 2, 1) := by decide +kernel
theorem dX3_countGood_74 : decode cX3_countGood 74 = .ok (.bipush 31, 2) := by decide +kernel
theorem dX3_countGood_76 : decode cX3_countGood 76 = .ok (.if_icmp .gt 18, 3) := by decide +kernel
theorem dX3_countGood_79 : decode cX3_countGood 79 = .ok (.iload_n 1, 1) := by decide +kernel
theorem dX3_countGood_80 : decode cX3_countGood 80 = .ok (.aload_n 0, 1) := by decide +kernel
theorem dX3_countGood_81 : decode cX3_countGood 81 = .ok (.getfield 43, 3) := by decide +kernel
theorem dX3_countGood_84 : decode cX3_countGood 84 = .ok (.iload_n 2, 1) := by decide +kernel
theorem dX3_countGood_85 : decode cX3_countGood 85 = .ok (.iaload, 1) := by decide +kernel
theorem dX3_countGood_86 : decode cX3_countGood 86 = .ok (.iadd, 1) := by decide +kernel
theorem dX3_countGood_87 : decode cX3_countGood 87 = .ok (.istore_n 1, 1) := by decide +kernel
theorem dX3_countGood_88 : decode cX3_countGood 88 = .ok (.iinc 2 1, 3) := by decide +kernel
theorem dX3_countGood_91 : decode cX3_countGood 91 = .ok (.goto (-18), 3) := by decide +kernel
theorem dX3_countGood_94 : decode cX3_countGood 94 = .ok (.iload_n 1, 1) := by decide +kernel
theorem dX3_countGood_95 : decode cX3_countGood 95 = .ok (.ireturn, 1) := by decide +kernel
theorem dX3_countWith_0 : decode cX3_countWith 0 = .ok (.iconst 0, 1) := by decide +kernel
theorem dX3_countWith_1 : decode cX3_countWith 1 = .ok (.istore_n 2, 1) := by decide +kernel
theorem dX3_countWith_2 : decode cX3_countWith 2 = .ok (.iload_n 2, 1) := by decide +kernel
theorem dX3_countWith_3 : decode cX3_countWith 3 = .ok (.bipush 31, 2) := by decide +kernel
theorem dX3_countWith_5 : decode cX3_countWith 5 = .ok (.if_icmp .gt 16, 3) := by decide +kernel
theorem dX3_countWith_8 : decode cX3_countWith 8 = .ok (.aload_n 0, 1) := by decide +kernel
theorem dX3_countWith_9 : decode cX3_countWith 9 = .ok (.getfield 46, 3) := by decide +kernel
theorem dX3_countWith_12 : decode cX3_countWith 12 = .ok (.iload_n 2, 1) := by decide +kernel
theorem dX3_countWith_13 : decode cX3_countWith 13 = .ok (.iconst 0, 1) := by decide +kernel
theorem dX3_countWith_14 : decode cX3_countWith 14 = .ok (.iastore, 1) := by decide +kernel
theorem dX3_countWith_15 : decode cX3_countWith 15 = .ok (.iinc 2 1, 3) := by decide +kernel
theorem dX3_countWith_18 : decode cX3_countWith 18 = .ok (.goto (-16), 3) := by decide +kernel
theorem dX3_countWith_21 : decode cX3_countWith 21 = .ok (.iconst 0, 1) := by decide +kernel
theorem dX3_countWith_22 : decode cX3_countWith 22 = .ok (.istore_n 2, 1) := by decide +kernel
theorem dX3_countWith_23 : decode cX3_countWith 23 = .ok (.iload_n 2, 1) := by decide +kernel
theorem dX3_countWith_24 : decode cX3_countWith 24 = .ok (.iconst 5, 1) := by decide +kernel
theorem dX3_countWith_25 : decode cX3_countWith 25 = .ok (.if_icmp .ge 62, 3) := by decide +kernel
theorem dX3_countWith_28 : decode cX3_countWith 28 = .ok (.iconst 0, 1) := by decide +kernel
theorem dX3_countWith_29 : decode cX3_countWith 29 = .ok (.istore_n 3, 1) := by decide +kernel
theorem dX3_countWith_30 : decode cX3_countWith 30 = .ok (.iload_n 3, 1) := by decide +kernel
theorem dX3_countWith_31 : decode cX3_countWith 31 = .ok (.bipush 31, 2) := by decide +kernel
theorem dX3_countWith_33 : decode cX3_countWith 33 = .ok (.if_icmp .gt 48, 3) := by decide +kernel
theorem dX3_countWith_36 : decode cX3_countWith 36 = .ok (.aload_n 0, 1) := by decide +kernel
theorem dX3_countWith_37 : decode cX3_countWith 37 = .ok (.getfield 9, 3) := by decide +kernel
theorem dX3_countWith_40 : decode cX3_countWith 40 = .ok (.iload_n 1, 1) := by decide +kernel
theorem dX3_countWith_41 : decode cX3_countWith 41 = .ok (.iaload, 1) := by decide +kernel
theorem dX3_countWith_42 : decode cX3_countWith 42 = .ok (.iload_n 2, 1) := by decide +kernel
theorem dX3_countWith_43 : decode cX3_countWith 43 = .ok (.invokestatic 76, 3) := by decide +kernel
theorem dX3_countWith_46 : decode cX3_countWith 46 = .ok (.ifCond .eq 29, 3) := by decide +kernel
theorem dX3_countWith_49 : decode cX3_countWith 49 = .ok (.aload_n 0, 1) := by decide +kernel
theorem dX3_countWith_50 : decode cX3_countWith 50 = .ok (.getfield 46, 3) := by decide +kernel
theorem dX3_countWith_53 : decode cX3_countWith 53 = .ok (.iload_n 3, 1) := by decide +kernel
theorem dX3_countWith_54 : decode cX3_countWith 54 = .ok (.aload_n 0, 1) := by decide +kernel
theorem dX3_countWith_55 : decode cX3_countWith 55 = .ok (.getfield 31, 3) := by decide +kernel
theorem dX3_countWith_58 : decode cX3_countWith 58 = .ok (.iload_n 1, 1) := by decide +kernel
theorem dX3_countWith_59 : decode cX3_countWith 59 = .ok (.iload_n 2, 1) := by decide +kernel
theorem dX3_countWith_60 : decode cX3_countWith 60 = .ok (.invokestatic 86, 3) := by decide +kernel
theorem dX3_countWith_63 : decode cX3_countWith 63 = .ok (.iaload, 1) := by decide +kernel
theorem dX3_countWith_64 : decode cX3_countWith 64 = .ok (.iand, 1) := by decide +kernel
theorem dX3_countWith_65 : decode cX3_countWith 65 = .ok (.dup2, 1) := by decide +kernel
theorem dX3_countWith_66 : decode cX3_countWith 66 = .ok (.iaload, 1) := by decide +kernel
theorem dX3_countWith_67 : decode cX3_countWith 67 = .ok (.aload_n 0, 1) := by decide +kernel
theorem dX3_countWith_68 : decode cX3_countWith 68 = .ok (.getfield 43, 3) := by decide +kernel
theorem dX3_countWith_71 : decode cX3_countWith 71 = .ok (.iload_n 3, 1) := by decide +kernel
theorem dX3_countWith_72 : decode cX3_countWith 72 = .ok (.iaload, 1) := by decide +kernel
theorem dX3_countWith_73 : decode cX3_countWith 73 = .ok (.iadd, 1) := by decide +kernel
theorem dX3_countWith_74 : decode cX3_countWith 74 = .ok (.iastore, 1) := by decide +kernel
theorem dX3_countWith_75 : decode cX3_countWith 75 = .ok (.iinc 3 1, 3) := by decide +kernel
theorem dX3_countWith_78 : decode cX3_countWith 78 = .ok (.goto (-48), 3) := by decide +kernel
theorem dX3_countWith_81 : decode cX3_countWith 81 = .ok (.iinc 2 1, 3) := by decide +kernel
theorem dX3_countWith_84 : decode cX3_countWith 84 = .ok (.goto (-61), 3) := by decide +kernel
theorem dX3_countWith_87 : decode cX3_countWith 87 = .ok (.aload_n 0, 1) := by decide +kernel
theorem dX3_countWith_88 : decode cX3_countWith 88 = .ok (.getfield 43, 3) := by decide +kernel
theorem dX3_countWith_91 : decode cX3_countWith 91 = .ok (.astore_n 2, 1) := by decide +kernel
theorem dX3_countWith_92 : decode cX3_countWith 92 = .ok (.aload_n 0, 1) := by decide +kernel
theorem dX3_countWith_93 : decode cX3_countWith 93 = .ok (.aload_n 0, 1) := by decide +kernel
theorem dX3_countWith_94 : decode cX3_countWith 94 = .ok (.getfield 46, 3) := by decide +kernel
theorem dX3_countWith_97 : decode cX3_countWith 97 = .ok (.putfield 43, 3) := by decide +kernel
theorem dX3_countWith_100 : decode cX3_countWith 100 = .ok (.aload_n 0, 1) := by decide +kernel
theorem dX3_countWith_101 : decode cX3_countWith 101 = .ok (.aload_n 2, 1) := by decide +kernel
theorem dX3_countWith_102 : decode cX3_countWith 102 = .ok (.putfield 46, 3) := by decide +kernel
theorem dX3_countWith_105 : decode cX3_countWith 105 = .ok (.return_, 1) := by decide +kernel
theorem dX3_walk_0 : decode cX3_walk 0 = .ok (.iconst 0, 1) := by decide +kernel
theorem dX3_walk_1 : decode cX3_walk 1 = .ok (.istore_n 1, 1) := by decide +kernel
theorem dX3_walk_2 : decode cX3_walk 2 = .ok (.iload_n 1, 1) := by decide +kernel
theorem dX3_walk_3 : decode cX3_walk 3 = .ok (.bipush 6, 2) := by decide +kernel
theorem dX3_walk_5 : decode cX3_walk 5 = .ok (.if_icmp .ge 38, 3) := by decide +kernel
theorem dX3_walk_8 : decode cX3_walk 8 = .ok (.aload_n 0, 1) := by decide +kernel
theorem dX3_walk_9 : decode cX3_walk 9 = .ok (.getfield 15, 3) := by decide +kernel
theorem dX3_walk_12 : decode cX3_walk 12 = .ok (.iload_n 1, 1) := by decide +kernel
theorem dX3_walk_13 : decode cX3_walk 13 = .ok (.iconst 0, 1) := by decide +kernel
theorem dX3_walk_14 : decode cX3_walk 14 = .ok (.iastore, 1) := by decide +kernel
theorem dX3_walk_15 : decode cX3_walk 15 = .ok (.aload_n 0, 1) := by decide +kernel
theorem dX3_walk_16 : decode cX3_walk 16 = .ok (.getfield 18, 3) := by decide +kernel
theorem dX3_walk_19 : decode cX3_walk 19 = .ok (.iload_n 1, 1) := by decide +kernel
theorem dX3_walk_20 : decode cX3_walk 20 = .ok (.iload_n 1, 1) := by decide +kernel
theorem dX3_walk_21 : decode cX3_walk 21 = .ok (.aload_n 0, 1) := by decide +kernel
theorem dX3_walk_22 : decode cX3_walk 22 = .ok (.getfield 49, 3) := by decide +kernel
theorem dX3_walk_25 : decode cX3_walk 25 = .ok (.getfield 69, 3) := by decide +kernel
theorem dX3_walk_28 : decode cX3_walk 28 = .ok (.if_icmp .ne 7, 3) := by decide +kernel
theorem dX3_walk_31 : decode cX3_walk 31 = .ok (.iconst 1, 1) := by decide +kernel
theorem dX3_walk_32 : decode cX3_walk 32 = .ok (.goto 4, 3) := by decide +kernel
theorem dX3_walk_35 : decode cX3_walk 35 = .ok (.iconst 0, 1) := by decide +kernel
theorem dX3_walk_36 : decode cX3_walk 36 = .ok (.iastore, 1) := by decide +kernel
theorem dX3_walk_37 : decode cX3_walk 37 = .ok (.iinc 1 1, 3) := by decide +kernel
theorem dX3_walk_40 : decode cX3_walk 40 = .ok (.goto (-38), 3) := by decide +kernel
theorem dX3_walk_43 : decode cX3_walk 43 = .ok (.aload_n 0, 1) := by decide +kernel
theorem dX3_walk_44 : decode cX3_walk 44 = .ok (.getfield 49, 3) := by decide +kernel
theorem dX3_walk_47 : decode cX3_walk 47 = .ok (.getfield 69, 3) := by decide +kernel
theorem dX3_walk_50 : decode cX3_walk 50 = .ok (.istore_n 1, 1) := by decide +kernel
theorem dX3_walk_51 : decode cX3_walk 51 = .ok (.iload_n 1, 1) := by decide +kernel
theorem dX3_walk_52 : decode cX3_walk 52 = .ok (.ifCond .le 84, 3) := by decide +kernel
theorem dX3_walk_55 : decode cX3_walk 55 = .ok (.iconst 0, 1) := by decide +kernel
theorem dX3_walk_56 : decode cX3_walk 56 = .ok (.istore_n 2, 1) := by decide +kernel
theorem dX3_walk_57 : decode cX3_walk 57 = .ok (.iload_n 2, 1) := by decide +kernel
theorem dX3_walk_58 : decode cX3_walk 58 = .ok (.iload_n 1, 1) := by decide +kernel
theorem dX3_walk_59 : decode cX3_walk 59 = .ok (.if_icmp .ge 71, 3) := by decide +kernel
theorem dX3_walk_62 : decode cX3_walk 62 = .ok (.aload_n 0, 1) := by decide +kernel
theorem dX3_walk_63 : decode cX3_walk 63 = .ok (.getfield 18, 3) := by decide +kernel
theorem dX3_walk_66 : decode cX3_walk 66 = .ok (.iload_n 1, 1) := by decide +kernel
theorem dX3_walk_67 : decode cX3_walk 67 = .ok (.iaload, 1) := by decide +kernel
theorem dX3_walk_68 : decode cX3_walk 68 = .ok (.ifCond .le 56, 3) := by decide +kernel
theorem dX3_walk_71 : decode cX3_walk 71 = .ok (.aload_n 0, 1) := by decide +kernel
theorem dX3_walk_72 : decode cX3_walk 72 = .ok (.getfield 28, 3) := by decide +kernel
theorem dX3_walk_75 : decode cX3_walk 75 = .ok (.iload_n 1, 1) := by decide +kernel
theorem dX3_walk_76 : decode cX3_walk 76 = .ok (.iload_n 2, 1) := by decide +kernel
theorem dX3_walk_77 : decode cX3_walk 77 = .ok (.invokestatic 72, 3) := by decide +kernel
theorem dX3_walk_80 : decode cX3_walk 80 = .ok (.iaload, 1) := by decide +kernel
theorem dX3_walk_81 : decode cX3_walk 81 = .ok (.bipush (-6), 2) := by decide +kernel
theorem dX3_walk_83 : decode cX3_walk 83 = .ok (.if_icmp .eq 41, 3) := by decide +kernel
theorem dX3_walk_86 : decode cX3_walk 86 = .ok (.aload_n 0, 1) := by decide +kernel
theorem dX3_walk_87 : decode cX3_walk 87 = .ok (.getfield 18, 3) := by decide +kernel
theorem dX3_walk_90 : decode cX3_walk 90 = .ok (.iload_n 2, 1) := by decide +kernel
theorem dX3_walk_91 : decode cX3_walk 91 = .ok (.dup2, 1) := by decide +kernel
theorem dX3_walk_92 : decode cX3_walk 92 = .ok (.iaload, 1) := by decide +kernel
theorem dX3_walk_93 : decode cX3_walk 93 = .ok (.aload_n 0, 1) := by decide +kernel
theorem dX3_walk_94 : decode cX3_walk 94 = .ok (.getfield 18, 3) := by decide +kernel
theorem dX3_walk_97 : decode cX3_walk 97 = .ok (.iload_n 1, 1) := by decide +kernel
theorem dX3_walk_98 : decode cX3_walk 98 = .ok (.iaload, 1) := by decide +kernel
theorem dX3_walk_99 : decode cX3_walk 99 = .ok (.iadd, 1) := by decide +kernel
theorem dX3_walk_100 : decode cX3_walk 100 = .ok (.iastore, 1) := by decide +kernel
theorem dX3_walk_101 : decode cX3_walk 101 = .ok (.aload_n 0, 1) := by decide +kernel
theorem dX3_walk_102 : decode cX3_walk 102 = .ok (.getfield 15, 3) := by decide +kernel
theorem dX3_walk_105 : decode cX3_walk 105 = .ok (.iload_n 2, 1) := by decide +kernel
theorem dX3_walk_106 : decode cX3_walk 106 = .ok (.aload_n 0, 1) := by decide +kernel
theorem dX3_walk_107 : decode cX3_walk 107 = .ok (.getfield 15, 3) := by decide +kernel
theorem dX3_walk_110 : decode cX3_walk 110 = .ok (.iload_n 2, 1) := by decide +kernel
theorem dX3_walk_111 : decode cX3_walk 111 = .ok (.iaload, 1) := by decide +kernel
theorem dX3_walk_112 : decode cX3_walk 112 = .ok (.aload_n 0, 1) := by decide +kernel
theorem dX3_walk_113 : decode cX3_walk 113 = .ok (.getfield 15, 3) := by decide +kernel
theorem dX3_walk_116 : decode cX3_walk 116 = .ok (.iload_n 1, 1) := by decide +kernel
theorem dX3_walk_117 : decode cX3_walk 117 = .ok (.iaload, 1) := by decide +kernel
theorem dX3_walk_118 : decode cX3_walk 118 = .ok (.iconst 1, 1) := by decide +kernel
theorem dX3_walk_119 : decode cX3_walk 119 = .ok (.iadd, 1) := by decide +kernel
theorem dX3_walk_120 : decode cX3_walk 120 = .ok (.invokestatic 145, 3) := by decide +kernel
theorem dX3_walk_123 : decode cX3_walk 123 = .ok (.iastore, 1) := by decide +kernel
theorem dX3_walk_124 : decode cX3_walk 124 = .ok (.iinc 2 1, 3) := by decide +kernel
theorem dX3_walk_127 : decode cX3_walk 127 = .ok (.goto (-70), 3) := by decide +kernel
theorem dX3_walk_130 : decode cX3_walk 130 = .ok (.iinc 1 (-1), 3) := by decide +kernel
theorem dX3_walk_133 : decode cX3_walk 133 = .ok (.goto (-82), 3) := by decide +kernel
theorem dX3_walk_136 : decode cX3_walk 136 = .ok (.return_, 1) := by decide +kernel
theorem dX4_init_0 : decode cX4_init 0 = .ok (.aload_n 0, 1) := by decide +kernel
theorem dX4_init_1 : decode cX4_init 1 = .ok (.invokespecial 1, 3) := by decide +kernel
theorem dX4_init_4 : decode cX4_init 4 = .ok (.aload_n 0, 1) := by decide +kernel
theorem dX4_init_5 : decode cX4_init 5 = .ok (.new 7, 3) := by decide +kernel
theorem dX4_init_8 : decode cX4_init 8 = .ok (.dup, 1) := by decide +kernel
theorem dX4_init_9 : decode cX4_init 9 = .ok (.invokespecial 9, 3) := by decide +kernel
theorem dX4_init_12 : decode cX4_init 12 = .ok (.putfield 10, 3) := by decide +kernel
theorem dX4_init_15 : decode cX4_init 15 = .ok (.aload_n 0, 1) := by decide +kernel
theorem dX4_init_16 : decode cX4_init 16 = .ok (.new 16, 3) := by decide +kernel
theorem dX4_init_19 : decode cX4_init 19 = .ok (.dup, 1) := by decide +kernel
theorem dX4_init_20 : decode cX4_init 20 = .ok (.invokespecial 18, 3) := by decide +kernel
theorem dX4_init_23 : decode cX4_init 23 = .ok (.putfield 19, 3) := by decide +kernel
theorem dX4_init_26 : decode cX4_init 26 = .ok (.aload_n 0, 1) := by decide +kernel
theorem dX4_init_27 : decode cX4_init 27 = .ok (.new 23, 3) := by decide +kernel
theorem dX4_init_30 : decode cX4_init 30 = .ok (.dup, 1) := by decide +kernel
theorem dX4_init_31 : decode cX4_init 31 = .ok (.aload_n 0, 1) := by decide +kernel
theorem dX4_init_32 : decode cX4_init 32 = .ok (.getfield 19, 3) := by decide +kernel
theorem dX4_init_35 : decode cX4_init 35 = .ok (.invokespecial 25, 3) := by decide +kernel
theorem dX4_init_38 : decode cX4_init 38 = .ok (.putfield 28, 3) := by decide +kernel
theorem dX4_init_41 : decode cX4_init 41 = .ok (.aload_n 0, 1) := by decide +kernel
theorem dX4_init_42 : decode cX4_init 42 = .ok (.new 32, 3) := by decide +kernel
theorem dX4_init_45 : decode cX4_init 45 = .ok (.dup, 1) := by decide +kernel
theorem dX4_init_46 : decode cX4_init 46 = .ok (.invokespecial 34, 3) := by decide +kernel
theorem dX4_init_49 : decode cX4_init 49 = .ok (.putfield 35, 3) := by decide +kernel
theorem dX4_init_52 : decode cX4_init 52 = .ok (.aload_n 0, 1) := by decide +kernel
theorem dX4_init_53 : decode cX4_init 53 = .ok (.iconst 2, 1) := by decide +kernel
theorem dX4_init_54 : decode cX4_init 54 = .ok (.anewarray 16, 3) := by decide +kernel
theorem dX4_init_57 : decode cX4_init 57 = .ok (.putfield 39, 3) := by decide +kernel
theorem dX4_init_60 : decode cX4_init 60 = .ok (.iconst 0, 1) := by decide +kernel
theorem dX4_init_61 : decode cX4_init 61 = .ok (.istore_n 1, 1) := by decide +kernel
theorem dX4_init_62 : decode cX4_init 62 = .ok (.iload_n 1, 1) := by decide +kernel
theorem dX4_init_63 : decode cX4_init 63 = .ok (.iconst 2, 1) := by decide +kernel
theorem dX4_init_64 : decode cX4_init 64 = .ok (.if_icmp .ge 22, 3) := by decide +kernel
theorem dX4_init_67 : decode cX4_init 67 = .ok (.aload_n 0, 1) := by decide +kernel
theorem dX4_init_68 : decode cX4_init 68 = .ok (.getfield 39, 3) := by decide +kernel
theorem dX4_init_71 : decode cX4_init 71 = .ok (.iload_n 1, 1) := by decide +kernel
theorem dX4_init_72 : decode cX4_init 72 = .ok (.new 16, 3) := by decide +kernel
theorem dX4_init_75 : decode cX4_init 75 = .ok (.dup, 1) := by decide +kernel
theorem dX4_init_76 : decode cX4_init 76 = .ok (.invokespecial 18, 3) := by decide +kernel
theorem dX4_init_79 : decode cX4_init 79 = .ok (.aastore, 1) := by decide +kernel
theorem dX4_init_80 : decode cX4_init 80 = .ok (.iinc 1 1, 3) := by decide +kernel
theorem dX4_init_83 : decode cX4_init 83 = .ok (.goto (-21), 3) := by decide +kernel
theorem dX4_init_86 : decode cX4_init 86 = .ok (.aload_n 0, 1) := by decide +kernel
theorem dX4_init_87 : decode cX4_init 87 = .ok (.iconst 2, 1) := by decide +kernel
theorem dX4_init_88 : decode cX4_init 88 = .ok (.newarray .boolean, 2) := by decide +kernel
theorem dX4_init_90 : decode cX4_init 90 = .ok (.putfield 43, 3) := by decide +kernel
theorem dX4_init_93 : decode cX4_init 93 = .ok (.aload_n 0, 1) := by decide +kernel
theorem dX4_init_94 : decode cX4_init 94 = .ok (.bipush 6, 2) := by decide +kernel
theorem dX4_init_96 : decode cX4_init 96 = .ok (.newarray .int, 2) := by decide +kernel
theorem dX4_init_98 : decode cX4_init 98 = .ok (.putfield 47, 3) := by decide +kernel
theorem dX4_init_101 : decode cX4_init 101 = .ok (.return_, 1) := by decide +kernel
theorem dX4_say_0 : decode cX4_say 0 = .ok (.iload_n 1, 1) := by decide +kernel
theorem dX4_say_1 : decode cX4_say 1 = .ok (.bipush 33, 2) := by decide +kernel
theorem dX4_say_3 : decode cX4_say 3 = .ok (.bipush 126, 2) := by decide +kernel
theorem dX4_say_5 : decode cX4_say 5 = .ok (.invokestatic 51, 3) := by decide +kernel
theorem dX4_say_8 : decode cX4_say 8 = .ok (.ifCond .ne 6, 3) := by decide +kernel
theorem dX4_say_11 : decode cX4_say 11 = .ok (.bipush (-2), 2) := by decide +kernel
theorem dX4_say_13 : decode cX4_say 13 = .ok (.ireturn, 1) := by decide +kernel
theorem dX4_say_14 : decode cX4_say 14 = .ok (.aload_n 0, 1) := by decide +kernel
theorem dX4_say_15 : decode cX4_say 15 = .ok (.getfield 10, 3) := by decide +kernel
theorem dX4_say_18 : decode cX4_say 18 = .ok (.getfield 55, 3) := by decide +kernel
theorem dX4_say_21 : decode cX4_say 21 = .ok (.bipush 20, 2) := by decide +kernel
theorem dX4_say_23 : decode cX4_say 23 = .ok (.if_icmp .lt 6, 3) := by decide +kernel
theorem dX4_say_26 : decode cX4_say 26 = .ok (.bipush (-4), 2) := by decide +kernel
theorem dX4_say_28 : decode cX4_say 28 = .ok (.ireturn, 1) := by decide +kernel
theorem dX4_say_29 : decode cX4_say 29 = .ok (.aload_n 0, 1) := by decide +kernel
theorem dX4_say_30 : decode cX4_say 30 = .ok (.getfield 10, 3) := by decide +kernel
theorem dX4_say_33 : decode cX4_say 33 = .ok (.iload_n 1, 1) := by decide +kernel
theorem dX4_say_34 : decode cX4_say 34 = .ok (.invokevirtual 59, 3) := by decide +kernel
theorem dX4_say_37 : decode cX4_say 37 = .ok (.aload_n 0, 1) := by decide +kernel
theorem dX4_say_38 : decode cX4_say 38 = .ok (.getfield 10, 3) := by decide +kernel
theorem dX4_say_41 : decode cX4_say 41 = .ok (.getfield 55, 3) := by decide +kernel
theorem dX4_say_44 : decode cX4_say 44 = .ok (.ireturn, 1) := by decide +kernel
theorem dX4_wipe_0 : decode cX4_wipe 0 = .ok (.aload_n 0, 1) := by decide +kernel
theorem dX4_wipe_1 : decode cX4_wipe 1 = .ok (.getfield 10, 3) := by decide +kernel
theorem dX4_wipe_4 : decode cX4_wipe 4 = .ok (.getfield 55, 3) := by decide +kernel
theorem dX4_wipe_7 : decode cX4_wipe 7 = .ok (.istore_n 1, 1) := by decide +kernel
theorem dX4_wipe_8 : decode cX4_wipe 8 = .ok (.aload_n 0, 1) := by decide +kernel
theorem dX4_wipe_9 : decode cX4_wipe 9 = .ok (.getfield 10, 3) := by decide +kernel
theorem dX4_wipe_12 : decode cX4_wipe 12 = .ok (.iconst 0, 1) := by decide +kernel
theorem dX4_wipe_13 : decode cX4_wipe 13 = .ok (.putfield 55, 3) := by decide +kernel
theorem dX4_wipe_16 : decode cX4_wipe 16 = .ok (.iload_n 1, 1) := by decide +kernel
theorem dX4_wipe_17 : decode cX4_wipe 17 = .ok (.ireturn, 1) := by decide +kernel
theorem dX4_fault_0 : decode cX4_fault 0 = .ok (.aload_n 0, 1) := by decide +kernel
theorem dX4_fault_1 : decode cX4_fault 1 = .ok (.getfield 10, 3) := by decide +kernel
theorem dX4_fault_4 : decode cX4_fault 4 = .ok (.invokevirtual 63, 3) := by decide +kernel
theorem dX4_fault_7 : decode cX4_fault 7 = .ok (.ireturn, 1) := by decide +kernel
theorem dX4_terms_0 : decode cX4_terms 0 = .ok (.iload_n 1, 1) := by decide +kernel
theorem dX4_terms_1 : decode cX4_terms 1 = .ok (.invokestatic 67, 3) := by decide +kernel
theorem dX4_terms_4 : decode cX4_terms 4 = .ok (.ifCond .ne 5, 3) := by decide +kernel
theorem dX4_terms_7 : decode cX4_terms 7 = .ok (.iconst (-1), 1) := by decide +kernel
theorem dX4_terms_8 : decode cX4_terms 8 = .ok (.ireturn, 1) := by decide +kernel
theorem dX4_terms_9 : decode cX4_terms 9 = .ok (.aload_n 0, 1) := by decide +kernel
theorem dX4_terms_10 : decode cX4_terms 10 = .ok (.getfield 10, 3) := by decide +kernel
theorem dX4_terms_13 : decode cX4_terms 13 = .ok (.invokevirtual 63, 3) := by decide +kernel
theorem dX4_terms_16 : decode cX4_terms 16 = .ok (.bipush (-6), 2) := by decide +kernel
theorem dX4_terms_18 : decode cX4_terms 18 = .ok (.if_icmp .eq 6, 3) := by decide +kernel
theorem dX4_terms_21 : decode cX4_terms 21 = .ok (.bipush (-5), 2) := by decide +kernel
theorem dX4_terms_23 : decode cX4_terms 23 = .ok (.ireturn, 1) := by decide +kernel
theorem dX4_terms_24 : decode cX4_terms 24 = .ok (.aload_n 0, 1) := by decide +kernel
theorem dX4_terms_25 : decode cX4_terms 25 = .ok (.getfield 19, 3) := by decide +kernel
theorem dX4_terms_28 : decode cX4_terms 28 = .ok (.getfield 71, 3) := by decide +kernel
theorem dX4_terms_31 : decode cX4_terms 31 = .ok (.iload_n 1, 1) := by decide +kernel
theorem dX4_terms_32 : decode cX4_terms 32 = .ok (.aload_n 0, 1) := by decide +kernel
theorem dX4_terms_33 : decode cX4_terms 33 = .ok (.getfield 10, 3) := by decide +kernel
theorem dX4_terms_36 : decode cX4_terms 36 = .ok (.getfield 74, 3) := by decide +kernel
theorem dX4_terms_39 : decode cX4_terms 39 = .ok (.iastore, 1) := by decide +kernel
theorem dX4_terms_40 : decode cX4_terms 40 = .ok (.aload_n 0, 1) := by decide +kernel
theorem dX4_terms_41 : decode cX4_terms 41 = .ok (.getfield 19, 3) := by decide +kernel
theorem dX4_terms_44 : decode cX4_terms 44 = .ok (.getfield 76, 3) := by decide +kernel
theorem dX4_terms_47 : decode cX4_terms 47 = .ok (.iload_n 1, 1) := by decide +kernel
theorem dX4_terms_48 : decode cX4_terms 48 = .ok (.aload_n 0, 1) := by decide +kernel
theorem dX4_terms_49 : decode cX4_terms 49 = .ok (.getfield 10, 3) := by decide +kernel
theorem dX4_terms_52 : decode cX4_terms 52 = .ok (.getfield 79, 3) := by decide +kernel
theorem dX4_terms_55 : decode cX4_terms 55 = .ok (.iastore, 1) := by decide +kernel
theorem dX4_terms_56 : decode cX4_terms 56 = .ok (.aload_n 0, 1) := by decide +kernel
theorem dX4_terms_57 : decode cX4_terms 57 = .ok (.getfield 19, 3) := by decide +kernel
theorem dX4_terms_60 : decode cX4_terms 60 = .ok (.getfield 81, 3) := by decide +kernel
theorem dX4_terms_63 : decode cX4_terms 63 = .ok (.iload_n 1, 1) := by decide +kernel
theorem dX4_terms_64 : decode cX4_terms 64 = .ok (.aload_n 0, 1) := by decide +kernel
theorem dX4_terms_65 : decode cX4_terms 65 = .ok (.getfield 10, 3) := by decide +kernel
theorem dX4_terms_68 : decode cX4_terms 68 = .ok (.getfield 84, 3) := by decide +kernel
theorem dX4_terms_71 : decode cX4_terms 71 = .ok (.iastore, 1) := by decide +kernel
theorem dX4_terms_72 : decode cX4_terms 72 = .ok (.aload_n 0, 1) := by decide +kernel
theorem dX4_terms_73 : decode cX4_terms 73 = .ok (.getfield 10, 3) := by decide +kernel
theorem dX4_terms_76 : decode cX4_terms 76 = .ok (.iconst 0, 1) := by decide +kernel
theorem dX4_terms_77 : decode cX4_terms 77 = .ok (.putfield 55, 3) := by decide +kernel
theorem dX4_terms_80 : decode cX4_terms 80 = .ok (.aload_n 0, 1) := by decide +kernel
theorem dX4_terms_81 : decode cX4_terms 81 = .ok (.getfield 19, 3) := by decide +kernel
theorem dX4_terms_84 : decode cX4_terms 84 = .ok (.getfield 71, 3) := by decide +kernel
theorem dX4_terms_87 : decode cX4_terms 87 = .ok (.iload_n 1, 1) := by decide +kernel
theorem dX4_terms_88 : decode cX4_terms 88 = .ok (.iaload, 1) := by decide +kernel
theorem dX4_terms_89 : decode cX4_terms 89 = .ok (.ireturn, 1) := by decide +kernel
theorem dX4_about_0 : decode cX4_about 0 = .ok (.iload_n 1, 1) := by decide +kernel
theorem dX4_about_1 : decode cX4_about 1 = .ok (.invokestatic 67, 3) := by decide +kernel
theorem dX4_about_4 : decode cX4_about 4 = .ok (.ifCond .ne 5, 3) := by decide +kernel
theorem dX4_about_7 : decode cX4_about 7 = .ok (.iconst (-1), 1) := by decide +kernel
theorem dX4_about_8 : decode cX4_about 8 = .ok (.ireturn, 1) := by decide +kernel
theorem dX4_about_9 : decode cX4_about 9 = .ok (.iload_n 2, 1) := by decide +kernel
theorem dX4_about_10 : decode cX4_about 10 = .ok (.tableswitch 70 0 3 #[30, 40, 50, 60], 30) := by decide +kernel
theorem dX4_about_40 : decode cX4_about 40 = .ok (.aload_n 0, 1) := by decide +kernel
theorem dX4_about_41 : decode cX4_about 41 = .ok (.getfield 19, 3) := by decide +kernel
theorem dX4_about_44 : decode cX4_about 44 = .ok (.getfield 71, 3) := by decide +kernel
theorem dX4_about_47 : decode cX4_about 47 = .ok (.iload_n 1, 1) := by decide +kernel
theorem dX4_about_48 : decode cX4_about 48 = .ok (.iaload, 1) := by decide +kernel
theorem dX4_about_49 : decode cX4_about 49 = .ok (.ireturn, 1) := by decide +kernel
theorem dX4_about_50 : decode cX4_about 50 = .ok (.aload_n 0, 1) := by decide +kernel
theorem dX4_about_51 : decode cX4_about 51 = .ok (.getfield 19, 3) := by decide +kernel
theorem dX4_about_54 : decode cX4_about 54 = .ok (.getfield 76, 3) := by decide +kernel
theorem dX4_about_57 : decode cX4_about 57 = .ok (.iload_n 1, 1) := by decide +kernel
theorem dX4_about_58 : decode cX4_about 58 = .ok (.iaload, 1) := by decide +kernel
theorem dX4_about_59 : decode cX4_about 59 = .ok (.ireturn, 1) := by decide +kernel
theorem dX4_about_60 : decode cX4_about 60 = .ok (.aload_n 0, 1) := by decide +kernel
theorem dX4_about_61 : decode cX4_about 61 = .ok (.getfield 19, 3) := by decide +kernel
theorem dX4_about_64 : decode cX4_about 64 = .ok (.getfield 81, 3) := by decide +kernel
theorem dX4_about_67 : decode cX4_about 67 = .ok (.iload_n 1, 1) := by decide +kernel
theorem dX4_about_68 : decode cX4_about 68 = .ok (.iaload, 1) := by decide +kernel
theorem dX4_about_69 : decode cX4_about 69 = .ok (.ireturn, 1) := by decide +kernel
theorem dX4_about_70 : decode cX4_about 70 = .ok (.aload_n 0, 1) := by decide +kernel
theorem dX4_about_71 : decode cX4_about 71 = .ok (.getfield 19, 3) := by decide +kernel
theorem dX4_about_74 : decode cX4_about 74 = .ok (.getfield 86, 3) := by decide +kernel
theorem dX4_about_77 : decode cX4_about 77 = .ok (.iload_n 1, 1) := by decide +kernel
theorem dX4_about_78 : decode cX4_about 78 = .ok (.iaload, 1) := by decide +kernel
theorem dX4_about_79 : decode cX4_about 79 = .ok (.ireturn, 1) := by decide +kernel
theorem dX4_about_80 : decode cX4_about 80 = .ok (.bipush (-2), 2) := by decide +kernel
theorem dX4_about_82 : decode cX4_about 82 = .ok (.ireturn, 1) := by decide +kernel
theorem dX4_later_0 : decode cX4_later 0 = .ok (.iload_n 1, 1) := by decide +kernel
theorem dX4_later_1 : decode cX4_later 1 = .ok (.invokestatic 67, 3) := by decide +kernel
theorem dX4_later_4 : decode cX4_later 4 = .ok (.ifCond .ne 5, 3) := by decide +kernel
theorem dX4_later_7 : decode cX4_later 7 = .ok (.iconst (-1), 1) := by decide +kernel
theorem dX4_later_8 : decode cX4_later 8 = .ok (.ireturn, 1) := by decide +kernel
theorem dX4_later_9 : decode cX4_later 9 = .ok (.iload_n 2, 1) := by decide +kernel
theorem dX4_later_10 : decode cX4_later 10 = .ok (.iconst (-1), 1) := by decide +kernel
theorem dX4_later_11 : decode cX4_later 11 = .ok (.iconst 4, 1) := by decide +kernel
theorem dX4_later_12 : decode cX4_later 12 = .ok (.invokestatic 51, 3) := by decide +kernel
theorem dX4_later_15 : decode cX4_later 15 = .ok (.ifCond .eq 8, 3) := by decide +kernel
theorem dX4_later_18 : decode cX4_later 18 = .ok (.iload_n 2, 1) := by decide +kernel
theorem dX4_later_19 : decode cX4_later 19 = .ok (.iload_n 1, 1) := by decide +kernel
theorem dX4_later_20 : decode cX4_later 20 = .ok (.if_icmp .ne 6, 3) := by decide +kernel
theorem dX4_later_23 : decode cX4_later 23 = .ok (.bipush (-2), 2) := by decide +kernel
theorem dX4_later_25 : decode cX4_later 25 = .ok (.ireturn, 1) := by decide +kernel
theorem dX4_later_26 : decode cX4_later 26 = .ok (.aload_n 0, 1) := by decide +kernel
theorem dX4_later_27 : decode cX4_later 27 = .ok (.getfield 19, 3) := by decide +kernel
theorem dX4_later_30 : decode cX4_later 30 = .ok (.getfield 86, 3) := by decide +kernel
theorem dX4_later_33 : decode cX4_later 33 = .ok (.iload_n 1, 1) := by decide +kernel
theorem dX4_later_34 : decode cX4_later 34 = .ok (.iaload, 1) := by decide +kernel
theorem dX4_later_35 : decode cX4_later 35 = .ok (.istore_n 3, 1) := by decide +kernel
theorem dX4_later_36 : decode cX4_later 36 = .ok (.aload_n 0, 1) := by decide +kernel
theorem dX4_later_37 : decode cX4_later 37 = .ok (.getfield 19, 3) := by decide +kernel
theorem dX4_later_40 : decode cX4_later 40 = .ok (.getfield 86, 3) := by decide +kernel
theorem dX4_later_43 : decode cX4_later 43 = .ok (.iload_n 1, 1) := by decide +kernel
theorem dX4_later_44 : decode cX4_later 44 = .ok (.iload_n 2, 1) := by decide +kernel
theorem dX4_later_45 : decode cX4_later 45 = .ok (.iconst (-1), 1) := by decide +kernel
theorem dX4_later_46 : decode cX4_later 46 = .ok (.if_icmp .ne 8, 3) := by decide +kernel
theorem dX4_later_49 : decode cX4_later 49 = .ok (.bipush (-6), 2) := by decide +kernel
theorem dX4_later_51 : decode cX4_later 51 = .ok (.goto 4, 3) := by decide +kernel
theorem dX4_later_54 : decode cX4_later 54 = .ok (.iload_n 2, 1) := by decide +kernel
theorem dX4_later_55 : decode cX4_later 55 = .ok (.iastore, 1) := by decide +kernel
theorem dX4_later_56 : decode cX4_later 56 = .ok (.iload_n 3, 1) := by decide +kernel
end
section
theorem dX4_later_57 : decode cX4_later 57 = .ok (.ireturn, 1) := by decide +kernel
theorem dX4_piece_0 : decode cX4_piece 0 = .ok (.iload_n 1, 1) := by decide +kernel
theorem dX4_piece_1 : decode cX4_piece 1 = .ok (.invokestatic 89, 3) := by decide +kernel
theorem dX4_piece_4 : decode cX4_piece 4 = .ok (.ifCond .ne 5, 3) := by decide +kernel
theorem dX4_piece_7 : decode cX4_piece 7 = .ok (.iconst (-1), 1) := by decide +kernel
theorem dX4_piece_8 : decode cX4_piece 8 = .ok (.ireturn, 1) := by decide +kernel
theorem dX4_piece_9 : decode cX4_piece 9 = .ok (.iload_n 2, 1) := by decide +kernel
theorem dX4_piece_10 : decode cX4_piece 10 = .ok (.tableswitch 142 0 3 #[30, 58, 85, 113], 30) := by decide +kernel
theorem dX4_piece_40 : decode cX4_piece 40 = .ok (.iload_n 3, 1) := by decide +kernel
theorem dX4_piece_41 : decode cX4_piece 41 = .ok (.iconst 1, 1) := by decide +kernel
theorem dX4_piece_42 : decode cX4_piece 42 = .ok (.bipush 31, 2) := by decide +kernel
theorem dX4_piece_44 : decode cX4_piece 44 = .ok (.invokestatic 51, 3) := by decide +kernel
theorem dX4_piece_47 : decode cX4_piece 47 = .ok (.ifCond .eq 18, 3) := by decide +kernel
theorem dX4_piece_50 : decode cX4_piece 50 = .ok (.aload_n 0, 1) := by decide +kernel
theorem dX4_piece_51 : decode cX4_piece 51 = .ok (.getfield 19, 3) := by decide +kernel
theorem dX4_piece_54 : decode cX4_piece 54 = .ok (.getfield 92, 3) := by decide +kernel
theorem dX4_piece_57 : decode cX4_piece 57 = .ok (.iload_n 1, 1) := by decide +kernel
theorem dX4_piece_58 : decode cX4_piece 58 = .ok (.iload_n 3, 1) := by decide +kernel
theorem dX4_piece_59 : decode cX4_piece 59 = .ok (.invokestatic 95, 3) := by decide +kernel
theorem dX4_piece_62 : decode cX4_piece 62 = .ok (.goto 5, 3) := by decide +kernel
theorem dX4_piece_65 : decode cX4_piece 65 = .ok (.bipush (-2), 2) := by decide +kernel
theorem dX4_piece_67 : decode cX4_piece 67 = .ok (.ireturn, 1) := by decide +kernel
theorem dX4_piece_68 : decode cX4_piece 68 = .ok (.iload_n 3, 1) := by decide +kernel
theorem dX4_piece_69 : decode cX4_piece 69 = .ok (.iconst 0, 1) := by decide +kernel
theorem dX4_piece_70 : decode cX4_piece 70 = .ok (.iconst 1, 1) := by decide +kernel
theorem dX4_piece_71 : decode cX4_piece 71 = .ok (.invokestatic 51, 3) := by decide +kernel
theorem dX4_piece_74 : decode cX4_piece 74 = .ok (.ifCond .eq 18, 3) := by decide +kernel
theorem dX4_piece_77 : decode cX4_piece 77 = .ok (.aload_n 0, 1) := by decide +kernel
theorem dX4_piece_78 : decode cX4_piece 78 = .ok (.getfield 19, 3) := by decide +kernel
theorem dX4_piece_81 : decode cX4_piece 81 = .ok (.getfield 99, 3) := by decide +kernel
theorem dX4_piece_84 : decode cX4_piece 84 = .ok (.iload_n 1, 1) := by decide +kernel
theorem dX4_piece_85 : decode cX4_piece 85 = .ok (.iload_n 3, 1) := by decide +kernel
theorem dX4_piece_86 : decode cX4_piece 86 = .ok (.invokestatic 95, 3) := by decide +kernel
theorem dX4_piece_89 : decode cX4_piece 89 = .ok (.goto 5, 3) := by decide +kernel
theorem dX4_piece_92 : decode cX4_piece 92 = .ok (.bipush (-2), 2) := by decide +kernel
theorem dX4_piece_94 : decode cX4_piece 94 = .ok (.ireturn, 1) := by decide +kernel
theorem dX4_piece_95 : decode cX4_piece 95 = .ok (.iload_n 3, 1) := by decide +kernel
theorem dX4_piece_96 : decode cX4_piece 96 = .ok (.iconst 0, 1) := by decide +kernel
theorem dX4_piece_97 : decode cX4_piece 97 = .ok (.bipush 63, 2) := by decide +kernel
theorem dX4_piece_99 : decode cX4_piece 99 = .ok (.invokestatic 51, 3) := by decide +kernel
theorem dX4_piece_102 : decode cX4_piece 102 = .ok (.ifCond .eq 18, 3) := by decide +kernel
theorem dX4_piece_105 : decode cX4_piece 105 = .ok (.aload_n 0, 1) := by decide +kernel
theorem dX4_piece_106 : decode cX4_piece 106 = .ok (.getfield 19, 3) := by decide +kernel
theorem dX4_piece_109 : decode cX4_piece 109 = .ok (.getfield 102, 3) := by decide +kernel
theorem dX4_piece_112 : decode cX4_piece 112 = .ok (.iload_n 1, 1) := by decide +kernel
theorem dX4_piece_113 : decode cX4_piece 113 = .ok (.iload_n 3, 1) := by decide +kernel
theorem dX4_piece_114 : decode cX4_piece 114 = .ok (.invokestatic 95, 3) := by decide +kernel
theorem dX4_piece_117 : decode cX4_piece 117 = .ok (.goto 5, 3) := by decide +kernel
theorem dX4_piece_120 : decode cX4_piece 120 = .ok (.bipush (-2), 2) := by decide +kernel
theorem dX4_piece_122 : decode cX4_piece 122 = .ok (.ireturn, 1) := by decide +kernel
theorem dX4_piece_123 : decode cX4_piece 123 = .ok (.iload_n 3, 1) := by decide +kernel
theorem dX4_piece_124 : decode cX4_piece 124 = .ok (.iconst 0, 1) := by decide +kernel
theorem dX4_piece_125 : decode cX4_piece 125 = .ok (.sipush 999, 3) := by decide +kernel
theorem dX4_piece_128 : decode cX4_piece 128 = .ok (.invokestatic 51, 3) := by decide +kernel
theorem dX4_piece_131 : decode cX4_piece 131 = .ok (.ifCond .eq 18, 3) := by decide +kernel
theorem dX4_piece_134 : decode cX4_piece 134 = .ok (.aload_n 0, 1) := by decide +kernel
theorem dX4_piece_135 : decode cX4_piece 135 = .ok (.getfield 19, 3) := by decide +kernel
theorem dX4_piece_138 : decode cX4_piece 138 = .ok (.getfield 105, 3) := by decide +kernel
theorem dX4_piece_141 : decode cX4_piece 141 = .ok (.iload_n 1, 1) := by decide +kernel
theorem dX4_piece_142 : decode cX4_piece 142 = .ok (.iload_n 3, 1) := by decide +kernel
theorem dX4_piece_143 : decode cX4_piece 143 = .ok (.invokestatic 95, 3) := by decide +kernel
theorem dX4_piece_146 : decode cX4_piece 146 = .ok (.goto 5, 3) := by decide +kernel
theorem dX4_piece_149 : decode cX4_piece 149 = .ok (.bipush (-2), 2) := by decide +kernel
theorem dX4_piece_151 : decode cX4_piece 151 = .ok (.ireturn, 1) := by decide +kernel
theorem dX4_piece_152 : decode cX4_piece 152 = .ok (.bipush (-2), 2) := by decide +kernel
theorem dX4_piece_154 : decode cX4_piece 154 = .ok (.ireturn, 1) := by decide +kernel
theorem dX4_uses_0 : decode cX4_uses 0 = .ok (.iload_n 1, 1) := by decide +kernel
theorem dX4_uses_1 : decode cX4_uses 1 = .ok (.invokestatic 89, 3) := by decide +kernel
theorem dX4_uses_4 : decode cX4_uses 4 = .ok (.ifCond .eq 14, 3) := by decide +kernel
theorem dX4_uses_7 : decode cX4_uses 7 = .ok (.iload_n 2, 1) := by decide +kernel
theorem dX4_uses_8 : decode cX4_uses 8 = .ok (.iconst 0, 1) := by decide +kernel
theorem dX4_uses_9 : decode cX4_uses 9 = .ok (.iload_n 1, 1) := by decide +kernel
theorem dX4_uses_10 : decode cX4_uses 10 = .ok (.iconst 1, 1) := by decide +kernel
theorem dX4_uses_11 : decode cX4_uses 11 = .ok (.isub, 1) := by decide +kernel
theorem dX4_uses_12 : decode cX4_uses 12 = .ok (.invokestatic 51, 3) := by decide +kernel
theorem dX4_uses_15 : decode cX4_uses 15 = .ok (.ifCond .ne 5, 3) := by decide +kernel
theorem dX4_uses_18 : decode cX4_uses 18 = .ok (.iconst (-1), 1) := by decide +kernel
theorem dX4_uses_19 : decode cX4_uses 19 = .ok (.ireturn, 1) := by decide +kernel
theorem dX4_uses_20 : decode cX4_uses 20 = .ok (.iload_n 3, 1) := by decide +kernel
theorem dX4_uses_21 : decode cX4_uses 21 = .ok (.iconst (-1), 1) := by decide +kernel
theorem dX4_uses_22 : decode cX4_uses 22 = .ok (.iconst 3, 1) := by decide +kernel
theorem dX4_uses_23 : decode cX4_uses 23 = .ok (.invokestatic 51, 3) := by decide +kernel
theorem dX4_uses_26 : decode cX4_uses 26 = .ok (.ifCond .ne 6, 3) := by decide +kernel
theorem dX4_uses_29 : decode cX4_uses 29 = .ok (.bipush (-2), 2) := by decide +kernel
theorem dX4_uses_31 : decode cX4_uses 31 = .ok (.ireturn, 1) := by decide +kernel
theorem dX4_uses_32 : decode cX4_uses 32 = .ok (.aload_n 0, 1) := by decide +kernel
theorem dX4_uses_33 : decode cX4_uses 33 = .ok (.getfield 19, 3) := by decide +kernel
theorem dX4_uses_36 : decode cX4_uses 36 = .ok (.getfield 108, 3) := by decide +kernel
theorem dX4_uses_39 : decode cX4_uses 39 = .ok (.iload_n 1, 1) := by decide +kernel
theorem dX4_uses_40 : decode cX4_uses 40 = .ok (.iload_n 2, 1) := by decide +kernel
theorem dX4_uses_41 : decode cX4_uses 41 = .ok (.invokestatic 111, 3) := by decide +kernel
theorem dX4_uses_44 : decode cX4_uses 44 = .ok (.iload_n 3, 1) := by decide +kernel
theorem dX4_uses_45 : decode cX4_uses 45 = .ok (.iconst (-1), 1) := by decide +kernel
theorem dX4_uses_46 : decode cX4_uses 46 = .ok (.if_icmp .ne 8, 3) := by decide +kernel
theorem dX4_uses_49 : decode cX4_uses 49 = .ok (.bipush (-6), 2) := by decide +kernel
theorem dX4_uses_51 : decode cX4_uses 51 = .ok (.goto 4, 3) := by decide +kernel
theorem dX4_uses_54 : decode cX4_uses 54 = .ok (.iload_n 3, 1) := by decide +kernel
theorem dX4_uses_55 : decode cX4_uses 55 = .ok (.invokestatic 95, 3) := by decide +kernel
theorem dX4_uses_58 : decode cX4_uses 58 = .ok (.ireturn, 1) := by decide +kernel
theorem dX4_choices_0 : decode cX4_choices 0 = .ok (.iload_n 1, 1) := by decide +kernel
theorem dX4_choices_1 : decode cX4_choices 1 = .ok (.invokestatic 89, 3) := by decide +kernel
theorem dX4_choices_4 : decode cX4_choices 4 = .ok (.ifCond .eq 14, 3) := by decide +kernel
theorem dX4_choices_7 : decode cX4_choices 7 = .ok (.aload_n 0, 1) := by decide +kernel
theorem dX4_choices_8 : decode cX4_choices 8 = .ok (.getfield 19, 3) := by decide +kernel
theorem dX4_choices_11 : decode cX4_choices 11 = .ok (.iload_n 1, 1) := by decide +kernel
theorem dX4_choices_12 : decode cX4_choices 12 = .ok (.invokevirtual 115, 3) := by decide +kernel
theorem dX4_choices_15 : decode cX4_choices 15 = .ok (.goto 4, 3) := by decide +kernel
theorem dX4_choices_18 : decode cX4_choices 18 = .ok (.iconst (-1), 1) := by decide +kernel
theorem dX4_choices_19 : decode cX4_choices 19 = .ok (.ireturn, 1) := by decide +kernel
theorem dX4_whole_0 : decode cX4_whole 0 = .ok (.iload_n 1, 1) := by decide +kernel
theorem dX4_whole_1 : decode cX4_whole 1 = .ok (.invokestatic 89, 3) := by decide +kernel
theorem dX4_whole_4 : decode cX4_whole 4 = .ok (.ifCond .ne 5, 3) := by decide +kernel
theorem dX4_whole_7 : decode cX4_whole 7 = .ok (.iconst (-1), 1) := by decide +kernel
theorem dX4_whole_8 : decode cX4_whole 8 = .ok (.ireturn, 1) := by decide +kernel
theorem dX4_whole_9 : decode cX4_whole 9 = .ok (.aload_n 0, 1) := by decide +kernel
theorem dX4_whole_10 : decode cX4_whole 10 = .ok (.getfield 19, 3) := by decide +kernel
theorem dX4_whole_13 : decode cX4_whole 13 = .ok (.getfield 119, 3) := by decide +kernel
theorem dX4_whole_16 : decode cX4_whole 16 = .ok (.istore_n 2, 1) := by decide +kernel
theorem dX4_whole_17 : decode cX4_whole 17 = .ok (.aload_n 0, 1) := by decide +kernel
theorem dX4_whole_18 : decode cX4_whole 18 = .ok (.getfield 19, 3) := by decide +kernel
theorem dX4_whole_21 : decode cX4_whole 21 = .ok (.iload_n 1, 1) := by decide +kernel
theorem dX4_whole_22 : decode cX4_whole 22 = .ok (.putfield 119, 3) := by decide +kernel
theorem dX4_whole_25 : decode cX4_whole 25 = .ok (.iload_n 2, 1) := by decide +kernel
theorem dX4_whole_26 : decode cX4_whole 26 = .ok (.ireturn, 1) := by decide +kernel
theorem dX4_coin_0 : decode cX4_coin 0 = .ok (.iload_n 1, 1) := by decide +kernel
theorem dX4_coin_1 : decode cX4_coin 1 = .ok (.iconst 0, 1) := by decide +kernel
theorem dX4_coin_2 : decode cX4_coin 2 = .ok (.bipush 99, 2) := by decide +kernel
theorem dX4_coin_4 : decode cX4_coin 4 = .ok (.invokestatic 51, 3) := by decide +kernel
theorem dX4_coin_7 : decode cX4_coin 7 = .ok (.ifCond .ne 6, 3) := by decide +kernel
theorem dX4_coin_10 : decode cX4_coin 10 = .ok (.bipush (-2), 2) := by decide +kernel
theorem dX4_coin_12 : decode cX4_coin 12 = .ok (.ireturn, 1) := by decide +kernel
theorem dX4_coin_13 : decode cX4_coin 13 = .ok (.aload_n 0, 1) := by decide +kernel
theorem dX4_coin_14 : decode cX4_coin 14 = .ok (.getfield 19, 3) := by decide +kernel
theorem dX4_coin_17 : decode cX4_coin 17 = .ok (.getfield 122, 3) := by decide +kernel
theorem dX4_coin_20 : decode cX4_coin 20 = .ok (.istore_n 2, 1) := by decide +kernel
theorem dX4_coin_21 : decode cX4_coin 21 = .ok (.aload_n 0, 1) := by decide +kernel
theorem dX4_coin_22 : decode cX4_coin 22 = .ok (.getfield 19, 3) := by decide +kernel
theorem dX4_coin_25 : decode cX4_coin 25 = .ok (.iload_n 1, 1) := by decide +kernel
theorem dX4_coin_26 : decode cX4_coin 26 = .ok (.putfield 122, 3) := by decide +kernel
theorem dX4_coin_29 : decode cX4_coin 29 = .ok (.iload_n 2, 1) := by decide +kernel
theorem dX4_coin_30 : decode cX4_coin 30 = .ok (.ireturn, 1) := by decide +kernel
theorem dX4_pieces_0 : decode cX4_pieces 0 = .ok (.aload_n 0, 1) := by decide +kernel
theorem dX4_pieces_1 : decode cX4_pieces 1 = .ok (.getfield 28, 3) := by decide +kernel
theorem dX4_pieces_4 : decode cX4_pieces 4 = .ok (.invokevirtual 125, 3) := by decide +kernel
theorem dX4_pieces_7 : decode cX4_pieces 7 = .ok (.aload_n 0, 1) := by decide +kernel
theorem dX4_pieces_8 : decode cX4_pieces 8 = .ok (.getfield 28, 3) := by decide +kernel
theorem dX4_pieces_11 : decode cX4_pieces 11 = .ok (.getfield 128, 3) := by decide +kernel
theorem dX4_pieces_14 : decode cX4_pieces 14 = .ok (.ireturn, 1) := by decide +kernel
theorem dX4_by_0 : decode cX4_by 0 = .ok (.iload_n 1, 1) := by decide +kernel
theorem dX4_by_1 : decode cX4_by 1 = .ok (.iconst 0, 1) := by decide +kernel
theorem dX4_by_2 : decode cX4_by 2 = .ok (.ldc 131, 2) := by decide +kernel
theorem dX4_by_4 : decode cX4_by 4 = .ok (.invokestatic 51, 3) := by decide +kernel
theorem dX4_by_7 : decode cX4_by 7 = .ok (.ifCond .eq 12, 3) := by decide +kernel
theorem dX4_by_10 : decode cX4_by 10 = .ok (.iload_n 2, 1) := by decide +kernel
theorem dX4_by_11 : decode cX4_by 11 = .ok (.iconst 0, 1) := by decide +kernel
theorem dX4_by_12 : decode cX4_by 12 = .ok (.iconst 4, 1) := by decide +kernel
theorem dX4_by_13 : decode cX4_by 13 = .ok (.invokestatic 51, 3) := by decide +kernel
theorem dX4_by_16 : decode cX4_by 16 = .ok (.ifCond .ne 6, 3) := by decide +kernel
theorem dX4_by_19 : decode cX4_by 19 = .ok (.bipush (-2), 2) := by decide +kernel
theorem dX4_by_21 : decode cX4_by 21 = .ok (.ireturn, 1) := by decide +kernel
theorem dX4_by_22 : decode cX4_by 22 = .ok (.aload_n 0, 1) := by decide +kernel
theorem dX4_by_23 : decode cX4_by 23 = .ok (.getfield 28, 3) := by decide +kernel
theorem dX4_by_26 : decode cX4_by 26 = .ok (.invokevirtual 125, 3) := by decide +kernel
theorem dX4_by_29 : decode cX4_by 29 = .ok (.aload_n 0, 1) := by decide +kernel
theorem dX4_by_30 : decode cX4_by 30 = .ok (.iload_n 1, 1) := by decide +kernel
theorem dX4_by_31 : decode cX4_by 31 = .ok (.invokevirtual 132, 3) := by decide +kernel
theorem dX4_by_34 : decode cX4_by 34 = .ok (.ifCond .ne 6, 3) := by decide +kernel
theorem dX4_by_37 : decode cX4_by 37 = .ok (.bipush (-2), 2) := by decide +kernel
theorem dX4_by_39 : decode cX4_by 39 = .ok (.ireturn, 1) := by decide +kernel
theorem dX4_by_40 : decode cX4_by 40 = .ok (.iload_n 2, 1) := by decide +kernel
theorem dX4_by_41 : decode cX4_by 41 = .ok (.lookupswitch 57 #[(0, 27), (4, 42)], 27) := by decide +kernel
theorem dX4_by_68 : decode cX4_by 68 = .ok (.aload_n 0, 1) := by decide +kernel
theorem dX4_by_69 : decode cX4_by 69 = .ok (.getfield 28, 3) := by decide +kernel
theorem dX4_by_72 : decode cX4_by 72 = .ok (.aload_n 0, 1) := by decide +kernel
theorem dX4_by_73 : decode cX4_by 73 = .ok (.getfield 35, 3) := by decide +kernel
theorem dX4_by_76 : decode cX4_by 76 = .ok (.getfield 135, 3) := by decide +kernel
theorem dX4_by_79 : decode cX4_by 79 = .ok (.invokevirtual 138, 3) := by decide +kernel
theorem dX4_by_82 : decode cX4_by 82 = .ok (.ireturn, 1) := by decide +kernel
theorem dX4_by_83 : decode cX4_by 83 = .ok (.aload_n 0, 1) := by decide +kernel
theorem dX4_by_84 : decode cX4_by 84 = .ok (.getfield 28, 3) := by decide +kernel
theorem dX4_by_87 : decode cX4_by 87 = .ok (.aload_n 0, 1) := by decide +kernel
theorem dX4_by_88 : decode cX4_by 88 = .ok (.getfield 35, 3) := by decide +kernel
theorem dX4_by_91 : decode cX4_by 91 = .ok (.getfield 135, 3) := by decide +kernel
theorem dX4_by_94 : decode cX4_by 94 = .ok (.invokevirtual 142, 3) := by decide +kernel
theorem dX4_by_97 : decode cX4_by 97 = .ok (.ireturn, 1) := by decide +kernel
theorem dX4_by_98 : decode cX4_by 98 = .ok (.aload_n 0, 1) := by decide +kernel
theorem dX4_by_99 : decode cX4_by 99 = .ok (.getfield 28, 3) := by decide +kernel
theorem dX4_by_102 : decode cX4_by 102 = .ok (.aload_n 0, 1) := by decide +kernel
theorem dX4_by_103 : decode cX4_by 103 = .ok (.getfield 35, 3) := by decide +kernel
theorem dX4_by_106 : decode cX4_by 106 = .ok (.getfield 135, 3) := by decide +kernel
theorem dX4_by_109 : decode cX4_by 109 = .ok (.iload_n 2, 1) := by decide +kernel
theorem dX4_by_110 : decode cX4_by 110 = .ok (.iconst 1, 1) := by decide +kernel
theorem dX4_by_111 : decode cX4_by 111 = .ok (.isub, 1) := by decide +kernel
theorem dX4_by_112 : decode cX4_by 112 = .ok (.invokevirtual 145, 3) := by decide +kernel
theorem dX4_by_115 : decode cX4_by 115 = .ok (.ireturn, 1) := by decide +kernel
theorem dX4_best_0 : decode cX4_best 0 = .ok (.iload_n 2, 1) := by decide +kernel
theorem dX4_best_1 : decode cX4_best 1 = .ok (.bipush (-2), 2) := by decide +kernel
theorem dX4_best_3 : decode cX4_best 3 = .ok (.iconst 5, 1) := by decide +kernel
theorem dX4_best_4 : decode cX4_best 4 = .ok (.invokestatic 51, 3) := by decide +kernel
theorem dX4_best_7 : decode cX4_best 7 = .ok (.ifCond .ne 5, 3) := by decide +kernel
theorem dX4_best_10 : decode cX4_best 10 = .ok (.iconst (-1), 1) := by decide +kernel
theorem dX4_best_11 : decode cX4_best 11 = .ok (.ireturn, 1) := by decide +kernel
theorem dX4_best_12 : decode cX4_best 12 = .ok (.iload_n 1, 1) := by decide +kernel
theorem dX4_best_13 : decode cX4_best 13 = .ok (.iconst 0, 1) := by decide +kernel
theorem dX4_best_14 : decode cX4_best 14 = .ok (.iconst 2, 1) := by decide +kernel
theorem dX4_best_15 : decode cX4_best 15 = .ok (.invokestatic 51, 3) := by decide +kernel
theorem dX4_best_18 : decode cX4_best 18 = .ok (.ifCond .ne 6, 3) := by decide +kernel
theorem dX4_best_21 : decode cX4_best 21 = .ok (.bipush (-2), 2) := by decide +kernel
theorem dX4_best_23 : decode cX4_best 23 = .ok (.ireturn, 1) := by decide +kernel
theorem dX4_best_24 : decode cX4_best 24 = .ok (.aload_n 0, 1) := by decide +kernel
theorem dX4_best_25 : decode cX4_best 25 = .ok (.getfield 28, 3) := by decide +kernel
theorem dX4_best_28 : decode cX4_best 28 = .ok (.invokevirtual 125, 3) := by decide +kernel
theorem dX4_best_31 : decode cX4_best 31 = .ok (.aload_n 0, 1) := by decide +kernel
theorem dX4_best_32 : decode cX4_best 32 = .ok (.getfield 28, 3) := by decide +kernel
theorem dX4_best_35 : decode cX4_best 35 = .ok (.iload_n 1, 1) := by decide +kernel
theorem dX4_best_36 : decode cX4_best 36 = .ok (.aload_n 0, 1) := by decide +kernel
theorem dX4_best_37 : decode cX4_best 37 = .ok (.getfield 35, 3) := by decide +kernel
theorem dX4_best_40 : decode cX4_best 40 = .ok (.invokevirtual 149, 3) := by decide +kernel
theorem dX4_best_43 : decode cX4_best 43 = .ok (.ifCond .ne 6, 3) := by decide +kernel
theorem dX4_best_46 : decode cX4_best 46 = .ok (.bipush (-6), 2) := by decide +kernel
theorem dX4_best_48 : decode cX4_best 48 = .ok (.ireturn, 1) := by decide +kernel
theorem dX4_best_49 : decode cX4_best 49 = .ok (.iload_n 2, 1) := by decide +kernel
theorem dX4_best_50 : decode cX4_best 50 = .ok (.bipush (-2), 2) := by decide +kernel
theorem dX4_best_52 : decode cX4_best 52 = .ok (.if_icmp .ne 11, 3) := by decide +kernel
theorem dX4_best_55 : decode cX4_best 55 = .ok (.aload_n 0, 1) := by decide +kernel
theorem dX4_best_56 : decode cX4_best 56 = .ok (.getfield 35, 3) := by decide +kernel
theorem dX4_best_59 : decode cX4_best 59 = .ok (.getfield 153, 3) := by decide +kernel
theorem dX4_best_62 : decode cX4_best 62 = .ok (.ireturn, 1) := by decide +kernel
theorem dX4_best_63 : decode cX4_best 63 = .ok (.iload_n 2, 1) := by decide +kernel
theorem dX4_best_64 : decode cX4_best 64 = .ok (.iconst (-1), 1) := by decide +kernel
theorem dX4_best_65 : decode cX4_best 65 = .ok (.if_icmp .ne 11, 3) := by decide +kernel
theorem dX4_best_68 : decode cX4_best 68 = .ok (.aload_n 0, 1) := by decide +kernel
theorem dX4_best_69 : decode cX4_best 69 = .ok (.getfield 35, 3) := by decide +kernel
theorem dX4_best_72 : decode cX4_best 72 = .ok (.getfield 156, 3) := by decide +kernel
theorem dX4_best_75 : decode cX4_best 75 = .ok (.ireturn, 1) := by decide +kernel
theorem dX4_best_76 : decode cX4_best 76 = .ok (.aload_n 0, 1) := by decide +kernel
theorem dX4_best_77 : decode cX4_best 77 = .ok (.getfield 28, 3) := by decide +kernel
theorem dX4_best_80 : decode cX4_best 80 = .ok (.getfield 159, 3) := by decide +kernel
theorem dX4_best_83 : decode cX4_best 83 = .ok (.iload_n 2, 1) := by decide +kernel
theorem dX4_best_84 : decode cX4_best 84 = .ok (.invokestatic 162, 3) := by decide +kernel
theorem dX4_best_87 : decode cX4_best 87 = .ok (.ifCond .eq 15, 3) := by decide +kernel
theorem dX4_best_90 : decode cX4_best 90 = .ok (.aload_n 0, 1) := by decide +kernel
theorem dX4_best_91 : decode cX4_best 91 = .ok (.getfield 35, 3) := by decide +kernel
theorem dX4_best_94 : decode cX4_best 94 = .ok (.getfield 135, 3) := by decide +kernel
theorem dX4_best_97 : decode cX4_best 97 = .ok (.iload_n 2, 1) := by decide +kernel
theorem dX4_best_98 : decode cX4_best 98 = .ok (.iaload, 1) := by decide +kernel
theorem dX4_best_99 : decode cX4_best 99 = .ok (.goto 5, 3) := by decide +kernel
theorem dX4_best_102 : decode cX4_best 102 = .ok (.bipush (-6), 2) := by decide +kernel
theorem dX4_best_104 : decode cX4_best 104 = .ok (.ireturn, 1) := by decide +kernel
theorem dX4_good_0 : decode cX4_good 0 = .ok (.aload_n 0, 1) := by decide +kernel
theorem dX4_good_1 : decode cX4_good 1 = .ok (.getfield 28, 3) := by decide +kernel
theorem dX4_good_4 : decode cX4_good 4 = .ok (.invokevirtual 125, 3) := by decide +kernel
theorem dX4_good_7 : decode cX4_good 7 = .ok (.aload_n 0, 1) := by decide +kernel
theorem dX4_good_8 : decode cX4_good 8 = .ok (.getfield 28, 3) := by decide +kernel
theorem dX4_good_11 : decode cX4_good 11 = .ok (.invokevirtual 166, 3) := by decide +kernel
theorem dX4_good_14 : decode cX4_good 14 = .ok (.ireturn, 1) := by decide +kernel
theorem dX4_bar_0 : decode cX4_bar 0 = .ok (.aload_n 0, 1) := by decide +kernel
theorem dX4_bar_1 : decode cX4_bar 1 = .ok (.getfield 28, 3) := by decide +kernel
theorem dX4_bar_4 : decode cX4_bar 4 = .ok (.invokevirtual 125, 3) := by decide +kernel
theorem dX4_bar_7 : decode cX4_bar 7 = .ok (.aload_n 0, 1) := by decide +kernel
theorem dX4_bar_8 : decode cX4_bar 8 = .ok (.getfield 28, 3) := by decide +kernel
theorem dX4_bar_11 : decode cX4_bar 11 = .ok (.aload_n 0, 1) := by decide +kernel
theorem dX4_bar_12 : decode cX4_bar 12 = .ok (.getfield 28, 3) := by decide +kernel
theorem dX4_bar_15 : decode cX4_bar 15 = .ok (.getfield 159, 3) := by decide +kernel
theorem dX4_bar_18 : decode cX4_bar 18 = .ok (.invokevirtual 169, 3) := by decide +kernel
theorem dX4_bar_21 : decode cX4_bar 21 = .ok (.ifCond .eq 6, 3) := by decide +kernel
theorem dX4_bar_24 : decode cX4_bar 24 = .ok (.bipush (-3), 2) := by decide +kernel
theorem dX4_bar_26 : decode cX4_bar 26 = .ok (.ireturn, 1) := by decide +kernel
theorem dX4_bar_27 : decode cX4_bar 27 = .ok (.aload_n 0, 1) := by decide +kernel
theorem dX4_bar_28 : decode cX4_bar 28 = .ok (.invokevirtual 172, 3) := by decide +kernel
theorem dX4_bar_31 : decode cX4_bar 31 = .ok (.ireturn, 1) := by decide +kernel
theorem dX4_anew_0 : decode cX4_anew 0 = .ok (.iload_n 1, 1) := by decide +kernel
theorem dX4_anew_1 : decode cX4_anew 1 = .ok (.iconst 0, 1) := by decide +kernel
theorem dX4_anew_2 : decode cX4_anew 2 = .ok (.iconst 1, 1) := by decide +kernel
theorem dX4_anew_3 : decode cX4_anew 3 = .ok (.invokestatic 51, 3) := by decide +kernel
theorem dX4_anew_6 : decode cX4_anew 6 = .ok (.ifCond .ne 6, 3) := by decide +kernel
theorem dX4_anew_9 : decode cX4_anew 9 = .ok (.bipush (-2), 2) := by decide +kernel
theorem dX4_anew_11 : decode cX4_anew 11 = .ok (.ireturn, 1) := by decide +kernel
theorem dX4_anew_12 : decode cX4_anew 12 = .ok (.aload_n 0, 1) := by decide +kernel
theorem dX4_anew_13 : decode cX4_anew 13 = .ok (.getfield 28, 3) := by decide +kernel
theorem dX4_anew_16 : decode cX4_anew 16 = .ok (.invokevirtual 125, 3) := by decide +kernel
theorem dX4_anew_19 : decode cX4_anew 19 = .ok (.aload_n 0, 1) := by decide +kernel
theorem dX4_anew_20 : decode cX4_anew 20 = .ok (.invokevirtual 175, 3) := by decide +kernel
theorem dX4_anew_23 : decode cX4_anew 23 = .ok (.istore_n 2, 1) := by decide +kernel
theorem dX4_anew_24 : decode cX4_anew 24 = .ok (.iload_n 1, 1) := by decide +kernel
theorem dX4_anew_25 : decode cX4_anew 25 = .ok (.ifCond .ne 7, 3) := by decide +kernel
theorem dX4_anew_28 : decode cX4_anew 28 = .ok (.iload_n 2, 1) := by decide +kernel
theorem dX4_anew_29 : decode cX4_anew 29 = .ok (.goto 8, 3) := by decide +kernel
theorem dX4_anew_32 : decode cX4_anew 32 = .ok (.aload_n 0, 1) := by decide +kernel
theorem dX4_anew_33 : decode cX4_anew 33 = .ok (.iload_n 2, 1) := by decide +kernel
theorem dX4_anew_34 : decode cX4_anew 34 = .ok (.invokevirtual 178, 3) := by decide +kernel
theorem dX4_anew_37 : decode cX4_anew 37 = .ok (.ireturn, 1) := by decide +kernel
theorem dX4_looser_0 : decode cX4_looser 0 = .ok (.iload_n 1, 1) := by decide +kernel
theorem dX4_looser_1 : decode cX4_looser 1 = .ok (.iconst 0, 1) := by decide +kernel
theorem dX4_looser_2 : decode cX4_looser 2 = .ok (.iconst 1, 1) := by decide +kernel
theorem dX4_looser_3 : decode cX4_looser 3 = .ok (.invokestatic 51, 3) := by decide +kernel
theorem dX4_looser_6 : decode cX4_looser 6 = .ok (.ifCond .ne 6, 3) := by decide +kernel
theorem dX4_looser_9 : decode cX4_looser 9 = .ok (.bipush (-2), 2) := by decide +kernel
theorem dX4_looser_11 : decode cX4_looser 11 = .ok (.ireturn, 1) := by decide +kernel
theorem dX4_looser_12 : decode cX4_looser 12 = .ok (.aload_n 0, 1) := by decide +kernel
theorem dX4_looser_13 : decode cX4_looser 13 = .ok (.getfield 28, 3) := by decide +kernel
theorem dX4_looser_16 : decode cX4_looser 16 = .ok (.invokevirtual 125, 3) := by decide +kernel
theorem dX4_looser_19 : decode cX4_looser 19 = .ok (.aload_n 0, 1) := by decide +kernel
theorem dX4_looser_20 : decode cX4_looser 20 = .ok (.getfield 28, 3) := by decide +kernel
theorem dX4_looser_23 : decode cX4_looser 23 = .ok (.aload_n 0, 1) := by decide +kernel
theorem dX4_looser_24 : decode cX4_looser 24 = .ok (.getfield 28, 3) := by decide +kernel
theorem dX4_looser_27 : decode cX4_looser 27 = .ok (.getfield 159, 3) := by decide +kernel
theorem dX4_looser_30 : decode cX4_looser 30 = .ok (.invokevirtual 169, 3) := by decide +kernel
theorem dX4_looser_33 : decode cX4_looser 33 = .ok (.ifCond .eq 5, 3) := by decide +kernel
theorem dX4_looser_36 : decode cX4_looser 36 = .ok (.iconst 0, 1) := by decide +kernel
theorem dX4_looser_37 : decode cX4_looser 37 = .ok (.ireturn, 1) := by decide +kernel
theorem dX4_looser_38 : decode cX4_looser 38 = .ok (.aload_n 0, 1) := by decide +kernel
theorem dX4_looser_39 : decode cX4_looser 39 = .ok (.iload_n 1, 1) := by decide +kernel
theorem dX4_looser_40 : decode cX4_looser 40 = .ok (.invokevirtual 181, 3) := by decide +kernel
theorem dX4_looser_43 : decode cX4_looser 43 = .ok (.ireturn, 1) := by decide +kernel
theorem dX4_agree_0 : decode cX4_agree 0 = .ok (.iload_n 1, 1) := by decide +kernel
theorem dX4_agree_1 : decode cX4_agree 1 = .ok (.invokestatic 67, 3) := by decide +kernel
theorem dX4_agree_4 : decode cX4_agree 4 = .ok (.ifCond .ne 5, 3) := by decide +kernel
theorem dX4_agree_7 : decode cX4_agree 7 = .ok (.iconst (-1), 1) := by decide +kernel
theorem dX4_agree_8 : decode cX4_agree 8 = .ok (.ireturn, 1) := by decide +kernel
theorem dX4_agree_9 : decode cX4_agree 9 = .ok (.iload_n 2, 1) := by decide +kernel
theorem dX4_agree_10 : decode cX4_agree 10 = .ok (.iconst 0, 1) := by decide +kernel
theorem dX4_agree_11 : decode cX4_agree 11 = .ok (.bipush 63, 2) := by decide +kernel
theorem dX4_agree_13 : decode cX4_agree 13 = .ok (.invokestatic 51, 3) := by decide +kernel
theorem dX4_agree_16 : decode cX4_agree 16 = .ok (.ifCond .ne 6, 3) := by decide +kernel
theorem dX4_agree_19 : decode cX4_agree 19 = .ok (.bipush (-2), 2) := by decide +kernel
theorem dX4_agree_21 : decode cX4_agree 21 = .ok (.ireturn, 1) := by decide +kernel
theorem dX4_agree_22 : decode cX4_agree 22 = .ok (.aload_n 0, 1) := by decide +kernel
theorem dX4_agree_23 : decode cX4_agree 23 = .ok (.getfield 28, 3) := by decide +kernel
theorem dX4_agree_26 : decode cX4_agree 26 = .ok (.invokevirtual 125, 3) := by decide +kernel
theorem dX4_agree_29 : decode cX4_agree 29 = .ok (.aload_n 0, 1) := by decide +kernel
theorem dX4_agree_30 : decode cX4_agree 30 = .ok (.getfield 28, 3) := by decide +kernel
theorem dX4_agree_33 : decode cX4_agree 33 = .ok (.getfield 128, 3) := by decide +kernel
theorem dX4_agree_36 : decode cX4_agree 36 = .ok (.iload_n 2, 1) := by decide +kernel
theorem dX4_agree_37 : decode cX4_agree 37 = .ok (.iconst (-1), 1) := by decide +kernel
theorem dX4_agree_38 : decode cX4_agree 38 = .ok (.ixor, 1) := by decide +kernel
theorem dX4_agree_39 : decode cX4_agree 39 = .ok (.iand, 1) := by decide +kernel
theorem dX4_agree_40 : decode cX4_agree 40 = .ok (.istore_n 3, 1) := by decide +kernel
theorem dX4_agree_41 : decode cX4_agree 41 = .ok (.iconst 0, 1) := by decide +kernel
theorem dX4_agree_42 : decode cX4_agree 42 = .ok (.istore 4, 2) := by decide +kernel
theorem dX4_agree_44 : decode cX4_agree 44 = .ok (.iconst 0, 1) := by decide +kernel
theorem dX4_agree_45 : decode cX4_agree 45 = .ok (.istore 5, 2) := by decide +kernel
theorem dX4_agree_47 : decode cX4_agree 47 = .ok (.iload 5, 2) := by decide +kernel
theorem dX4_agree_49 : decode cX4_agree 49 = .ok (.bipush 6, 2) := by decide +kernel
theorem dX4_agree_51 : decode cX4_agree 51 = .ok (.if_icmp .ge 50, 3) := by decide +kernel
theorem dX4_agree_54 : decode cX4_agree 54 = .ok (.iload_n 3, 1) := by decide +kernel
theorem dX4_agree_55 : decode cX4_agree 55 = .ok (.iload 5, 2) := by decide +kernel
theorem dX4_agree_57 : decode cX4_agree 57 = .ok (.invokestatic 162, 3) := by decide +kernel
theorem dX4_agree_60 : decode cX4_agree 60 = .ok (.ifCond .eq 35, 3) := by decide +kernel
theorem dX4_agree_63 : decode cX4_agree 63 = .ok (.aload_n 0, 1) := by decide +kernel
theorem dX4_agree_64 : decode cX4_agree 64 = .ok (.getfield 28, 3) := by decide +kernel
theorem dX4_agree_67 : decode cX4_agree 67 = .ok (.getfield 184, 3) := by decide +kernel
theorem dX4_agree_70 : decode cX4_agree 70 = .ok (.iload 5, 2) := by decide +kernel
theorem dX4_agree_72 : decode cX4_agree 72 = .ok (.iaload, 1) := by decide +kernel
theorem dX4_agree_73 : decode cX4_agree 73 = .ok (.iload_n 1, 1) := by decide +kernel
theorem dX4_agree_74 : decode cX4_agree 74 = .ok (.invokestatic 162, 3) := by decide +kernel
theorem dX4_agree_77 : decode cX4_agree 77 = .ok (.ifCond .ne 18, 3) := by decide +kernel
theorem dX4_agree_80 : decode cX4_agree 80 = .ok (.iload 4, 2) := by decide +kernel
theorem dX4_agree_82 : decode cX4_agree 82 = .ok (.aload_n 0, 1) := by decide +kernel
theorem dX4_agree_83 : decode cX4_agree 83 = .ok (.getfield 19, 3) := by decide +kernel
theorem dX4_agree_86 : decode cX4_agree 86 = .ok (.getfield 102, 3) := by decide +kernel
theorem dX4_agree_89 : decode cX4_agree 89 = .ok (.iload 5, 2) := by decide +kernel
theorem dX4_agree_91 : decode cX4_agree 91 = .ok (.iaload, 1) := by decide +kernel
theorem dX4_agree_92 : decode cX4_agree 92 = .ok (.ior, 1) := by decide +kernel
theorem dX4_agree_93 : decode cX4_agree 93 = .ok (.istore 4, 2) := by decide +kernel
theorem dX4_agree_95 : decode cX4_agree 95 = .ok (.iinc 5 1, 3) := by decide +kernel
theorem dX4_agree_98 : decode cX4_agree 98 = .ok (.goto (-51), 3) := by decide +kernel
theorem dX4_agree_101 : decode cX4_agree 101 = .ok (.iload 4, 2) := by decide +kernel
theorem dX4_agree_103 : decode cX4_agree 103 = .ok (.ireturn, 1) := by decide +kernel
theorem dX4_more_0 : decode cX4_more 0 = .ok (.iload_n 1, 1) := by decide +kernel
theorem dX4_more_1 : decode cX4_more 1 = .ok (.iconst 0, 1) := by decide +kernel
theorem dX4_more_2 : decode cX4_more 2 = .ok (.aload_n 0, 1) := by decide +kernel
theorem dX4_more_3 : decode cX4_more 3 = .ok (.getfield 19, 3) := by decide +kernel
theorem dX4_more_6 : decode cX4_more 6 = .ok (.getfield 119, 3) := by decide +kernel
theorem dX4_more_9 : decode cX4_more 9 = .ok (.iconst 1, 1) := by decide +kernel
theorem dX4_more_10 : decode cX4_more 10 = .ok (.isub, 1) := by decide +kernel
theorem dX4_more_11 : decode cX4_more 11 = .ok (.invokestatic 51, 3) := by decide +kernel
theorem dX4_more_14 : decode cX4_more 14 = .ok (.ifCond .ne 5, 3) := by decide +kernel
theorem dX4_more_17 : decode cX4_more 17 = .ok (.iconst (-1), 1) := by decide +kernel
theorem dX4_more_18 : decode cX4_more 18 = .ok (.ireturn, 1) := by decide +kernel
theorem dX4_more_19 : decode cX4_more 19 = .ok (.iload_n 2, 1) := by decide +kernel
theorem dX4_more_20 : decode cX4_more 20 = .ok (.iconst 0, 1) := by decide +kernel
theorem dX4_more_21 : decode cX4_more 21 = .ok (.iconst 3, 1) := by decide +kernel
theorem dX4_more_22 : decode cX4_more 22 = .ok (.invokestatic 51, 3) := by decide +kernel
theorem dX4_more_25 : decode cX4_more 25 = .ok (.ifCond .eq 12, 3) := by decide +kernel
theorem dX4_more_28 : decode cX4_more 28 = .ok (.iload_n 3, 1) := by decide +kernel
theorem dX4_more_29 : decode cX4_more 29 = .ok (.iconst 0, 1) := by decide +kernel
theorem dX4_more_30 : decode cX4_more 30 = .ok (.iconst 2, 1) := by decide +kernel
theorem dX4_more_31 : decode cX4_more 31 = .ok (.invokestatic 51, 3) := by decide +kernel
theorem dX4_more_34 : decode cX4_more 34 = .ok (.ifCond .ne 6, 3) := by decide +kernel
theorem dX4_more_37 : decode cX4_more 37 = .ok (.bipush (-2), 2) := by decide +kernel
theorem dX4_more_39 : decode cX4_more 39 = .ok (.ireturn, 1) := by decide +kernel
theorem dX4_more_40 : decode cX4_more 40 = .ok (.aload_n 0, 1) := by decide +kernel
theorem dX4_more_41 : decode cX4_more 41 = .ok (.getfield 19, 3) := by decide +kernel
theorem dX4_more_44 : decode cX4_more 44 = .ok (.getfield 108, 3) := by decide +kernel
theorem dX4_more_47 : decode cX4_more 47 = .ok (.aload_n 0, 1) := by decide +kernel
theorem dX4_more_48 : decode cX4_more 48 = .ok (.getfield 19, 3) := by decide +kernel
theorem dX4_more_51 : decode cX4_more 51 = .ok (.getfield 119, 3) := by decide +kernel
theorem dX4_more_54 : decode cX4_more 54 = .ok (.iload_n 1, 1) := by decide +kernel
theorem dX4_more_55 : decode cX4_more 55 = .ok (.invokestatic 111, 3) := by decide +kernel
theorem dX4_more_58 : decode cX4_more 58 = .ok (.iaload, 1) := by decide +kernel
theorem dX4_more_59 : decode cX4_more 59 = .ok (.bipush (-6), 2) := by decide +kernel
theorem dX4_more_61 : decode cX4_more 61 = .ok (.if_icmp .eq 6, 3) := by decide +kernel
theorem dX4_more_64 : decode cX4_more 64 = .ok (.bipush (-3), 2) := by decide +kernel
theorem dX4_more_66 : decode cX4_more 66 = .ok (.ireturn, 1) := by decide +kernel
theorem dX4_more_67 : decode cX4_more 67 = .ok (.aload_n 0, 1) := by decide +kernel
theorem dX4_more_68 : decode cX4_more 68 = .ok (.getfield 28, 3) := by decide +kernel
theorem dX4_more_71 : decode cX4_more 71 = .ok (.invokevirtual 125, 3) := by decide +kernel
theorem dX4_more_74 : decode cX4_more 74 = .ok (.aload_n 0, 1) := by decide +kernel
theorem dX4_more_75 : decode cX4_more 75 = .ok (.getfield 28, 3) := by decide +kernel
theorem dX4_more_78 : decode cX4_more 78 = .ok (.iload_n 3, 1) := by decide +kernel
theorem dX4_more_79 : decode cX4_more 79 = .ok (.aload_n 0, 1) := by decide +kernel
theorem dX4_more_80 : decode cX4_more 80 = .ok (.getfield 35, 3) := by decide +kernel
theorem dX4_more_83 : decode cX4_more 83 = .ok (.invokevirtual 149, 3) := by decide +kernel
theorem dX4_more_86 : decode cX4_more 86 = .ok (.ifCond .ne 6, 3) := by decide +kernel
theorem dX4_more_89 : decode cX4_more 89 = .ok (.bipush (-6), 2) := by decide +kernel
theorem dX4_more_91 : decode cX4_more 91 = .ok (.ireturn, 1) := by decide +kernel
theorem dX4_more_92 : decode cX4_more 92 = .ok (.aload_n 0, 1) := by decide +kernel
theorem dX4_more_93 : decode cX4_more 93 = .ok (.getfield 35, 3) := by decide +kernel
theorem dX4_more_96 : decode cX4_more 96 = .ok (.getfield 156, 3) := by decide +kernel
theorem dX4_more_99 : decode cX4_more 99 = .ok (.istore 4, 2) := by decide +kernel
theorem dX4_more_101 : decode cX4_more 101 = .ok (.aload_n 0, 1) := by decide +kernel
theorem dX4_more_102 : decode cX4_more 102 = .ok (.getfield 28, 3) := by decide +kernel
theorem dX4_more_105 : decode cX4_more 105 = .ok (.iload_n 1, 1) := by decide +kernel
theorem dX4_more_106 : decode cX4_more 106 = .ok (.iload_n 2, 1) := by decide +kernel
theorem dX4_more_107 : decode cX4_more 107 = .ok (.invokevirtual 187, 3) := by decide +kernel
theorem dX4_more_110 : decode cX4_more 110 = .ok (.aload_n 0, 1) := by decide +kernel
theorem dX4_more_111 : decode cX4_more 111 = .ok (.getfield 28, 3) := by decide +kernel
theorem dX4_more_114 : decode cX4_more 114 = .ok (.iload_n 3, 1) := by decide +kernel
theorem dX4_more_115 : decode cX4_more 115 = .ok (.aload_n 0, 1) := by decide +kernel
theorem dX4_more_116 : decode cX4_more 116 = .ok (.getfield 35, 3) := by decide +kernel
theorem dX4_more_119 : decode cX4_more 119 = .ok (.invokevirtual 149, 3) := by decide +kernel
theorem dX4_more_122 : decode cX4_more 122 = .ok (.ifCond .eq 18, 3) := by decide +kernel
theorem dX4_more_125 : decode cX4_more 125 = .ok (.aload_n 0, 1) := by decide +kernel
theorem dX4_more_126 : decode cX4_more 126 = .ok (.getfield 35, 3) := by decide +kernel
theorem dX4_more_129 : decode cX4_more 129 = .ok (.getfield 156, 3) := by decide +kernel
theorem dX4_more_132 : decode cX4_more 132 = .ok (.iload 4, 2) := by decide +kernel
theorem dX4_more_134 : decode cX4_more 134 = .ok (.iconst (-1), 1) := by decide +kernel
theorem dX4_more_135 : decode cX4_more 135 = .ok (.ixor, 1) := by decide +kernel
theorem dX4_more_136 : decode cX4_more 136 = .ok (.iand, 1) := by decide +kernel
theorem dX4_more_137 : decode cX4_more 137 = .ok (.goto 5, 3) := by decide +kernel
theorem dX4_more_140 : decode cX4_more 140 = .ok (.bipush (-6), 2) := by decide +kernel
theorem dX4_more_142 : decode cX4_more 142 = .ok (.ireturn, 1) := by decide +kernel
theorem dX4_names_0 : decode cX4_names 0 = .ok (.aload_n 0, 1) := by decide +kernel
theorem dX4_names_1 : decode cX4_names 1 = .ok (.getfield 28, 3) := by decide +kernel
theorem dX4_names_4 : decode cX4_names 4 = .ok (.invokevirtual 125, 3) := by decide +kernel
theorem dX4_names_7 : decode cX4_names 7 = .ok (.aload_n 0, 1) := by decide +kernel
theorem dX4_names_8 : decode cX4_names 8 = .ok (.getfield 28, 3) := by decide +kernel
theorem dX4_names_11 : decode cX4_names 11 = .ok (.iconst 0, 1) := by decide +kernel
theorem dX4_names_12 : decode cX4_names 12 = .ok (.aload_n 0, 1) := by decide +kernel
theorem dX4_names_13 : decode cX4_names 13 = .ok (.getfield 35, 3) := by decide +kernel
theorem dX4_names_16 : decode cX4_names 16 = .ok (.invokevirtual 149, 3) := by decide +kernel
theorem dX4_names_19 : decode cX4_names 19 = .ok (.ifCond .ne 6, 3) := by decide +kernel
theorem dX4_names_22 : decode cX4_names 22 = .ok (.bipush (-6), 2) := by decide +kernel
theorem dX4_names_24 : decode cX4_names 24 = .ok (.ireturn, 1) := by decide +kernel
theorem dX4_names_25 : decode cX4_names 25 = .ok (.aload_n 0, 1) := by decide +kernel
theorem dX4_names_26 : decode cX4_names 26 = .ok (.invokevirtual 191, 3) := by decide +kernel
theorem dX4_names_29 : decode cX4_names 29 = .ok (.iload_n 1, 1) := by decide +kernel
theorem dX4_names_30 : decode cX4_names 30 = .ok (.iconst (-1), 1) := by decide +kernel
theorem dX4_names_31 : decode cX4_names 31 = .ok (.if_icmp .ne 10, 3) := by decide +kernel
theorem dX4_names_34 : decode cX4_names 34 = .ok (.aload_n 0, 1) := by decide +kernel
theorem dX4_names_35 : decode cX4_names 35 = .ok (.invokevirtual 194, 3) := by decide +kernel
theorem dX4_names_38 : decode cX4_names 38 = .ok (.goto 8, 3) := by decide +kernel
theorem dX4_names_41 : decode cX4_names 41 = .ok (.aload_n 0, 1) := by decide +kernel
theorem dX4_names_42 : decode cX4_names 42 = .ok (.iload_n 1, 1) := by decide +kernel
theorem dX4_names_43 : decode cX4_names 43 = .ok (.invokevirtual 197, 3) := by decide +kernel
theorem dX4_names_46 : decode cX4_names 46 = .ok (.ireturn, 1) := by decide +kernel
theorem dX4_audit_0 : decode cX4_audit 0 = .ok (.iload_n 1, 1) := by decide +kernel
theorem dX4_audit_1 : decode cX4_audit 1 = .ok (.invokestatic 89, 3) := by decide +kernel
theorem dX4_audit_4 : decode cX4_audit 4 = .ok (.ifCond .ne 5, 3) := by decide +kernel
theorem dX4_audit_7 : decode cX4_audit 7 = .ok (.iconst (-1), 1) := by decide +kernel
theorem dX4_audit_8 : decode cX4_audit 8 = .ok (.ireturn, 1) := by decide +kernel
theorem dX4_audit_9 : decode cX4_audit 9 = .ok (.iload_n 2, 1) := by decide +kernel
theorem dX4_audit_10 : decode cX4_audit 10 = .ok (.iconst 0, 1) := by decide +kernel
theorem dX4_audit_11 : decode cX4_audit 11 = .ok (.iconst 1, 1) := by decide +kernel
theorem dX4_audit_12 : decode cX4_audit 12 = .ok (.invokestatic 51, 3) := by decide +kernel
theorem dX4_audit_15 : decode cX4_audit 15 = .ok (.ifCond .ne 6, 3) := by decide +kernel
theorem dX4_audit_18 : decode cX4_audit 18 = .ok (.bipush (-2), 2) := by decide +kernel
theorem dX4_audit_20 : decode cX4_audit 20 = .ok (.ireturn, 1) := by decide +kernel
theorem dX4_audit_21 : decode cX4_audit 21 = .ok (.aload_n 0, 1) := by decide +kernel
theorem dX4_audit_22 : decode cX4_audit 22 = .ok (.getfield 28, 3) := by decide +kernel
theorem dX4_audit_25 : decode cX4_audit 25 = .ok (.invokevirtual 125, 3) := by decide +kernel
theorem dX4_audit_28 : decode cX4_audit 28 = .ok (.aload_n 0, 1) := by decide +kernel
theorem dX4_audit_29 : decode cX4_audit 29 = .ok (.getfield 28, 3) := by decide +kernel
theorem dX4_audit_32 : decode cX4_audit 32 = .ok (.getfield 128, 3) := by decide +kernel
theorem dX4_audit_35 : decode cX4_audit 35 = .ok (.iload_n 1, 1) := by decide +kernel
theorem dX4_audit_36 : decode cX4_audit 36 = .ok (.invokestatic 162, 3) := by decide +kernel
theorem dX4_audit_39 : decode cX4_audit 39 = .ok (.ifCond .ne 6, 3) := by decide +kernel
theorem dX4_audit_42 : decode cX4_audit 42 = .ok (.bipush (-6), 2) := by decide +kernel
theorem dX4_audit_44 : decode cX4_audit 44 = .ok (.ireturn, 1) := by decide +kernel
theorem dX4_audit_45 : decode cX4_audit 45 = .ok (.aload_n 0, 1) := by decide +kernel
theorem dX4_audit_46 : decode cX4_audit 46 = .ok (.getfield 28, 3) := by decide +kernel
theorem dX4_audit_49 : decode cX4_audit 49 = .ok (.invokevirtual 200, 3) := by decide +kernel
theorem dX4_audit_52 : decode cX4_audit 52 = .ok (.iload_n 2, 1) := by decide +kernel
theorem dX4_audit_53 : decode cX4_audit 53 = .ok (.ifCond .ne 15, 3) := by decide +kernel
theorem dX4_audit_56 : decode cX4_audit 56 = .ok (.aload_n 0, 1) := by decide +kernel
theorem dX4_audit_57 : decode cX4_audit 57 = .ok (.getfield 28, 3) := by decide +kernel
theorem dX4_audit_60 : decode cX4_audit 60 = .ok (.getfield 203, 3) := by decide +kernel
theorem dX4_audit_63 : decode cX4_audit 63 = .ok (.iload_n 1, 1) := by decide +kernel
theorem dX4_audit_64 : decode cX4_audit 64 = .ok (.iaload, 1) := by decide +kernel
theorem dX4_audit_65 : decode cX4_audit 65 = .ok (.goto 12, 3) := by decide +kernel
theorem dX4_audit_68 : decode cX4_audit 68 = .ok (.aload_n 0, 1) := by decide +kernel
theorem dX4_audit_69 : decode cX4_audit 69 = .ok (.getfield 28, 3) := by decide +kernel
theorem dX4_audit_72 : decode cX4_audit 72 = .ok (.getfield 206, 3) := by decide +kernel
theorem dX4_audit_75 : decode cX4_audit 75 = .ok (.iload_n 1, 1) := by decide +kernel
theorem dX4_audit_76 : decode cX4_audit 76 = .ok (.iaload, 1) := by decide +kernel
theorem dX4_audit_77 : decode cX4_audit 77 = .ok (.ireturn, 1) := by decide +kernel
theorem dX4_image_0 : decode cX4_image 0 = .ok (.iload_n 1, 1) := by decide +kernel
theorem dX4_image_1 : decode cX4_image 1 = .ok (.iconst 0, 1) := by decide +kernel
theorem dX4_image_2 : decode cX4_image 2 = .ok (.iconst 1, 1) := by decide +kernel
theorem dX4_image_3 : decode cX4_image 3 = .ok (.invokestatic 51, 3) := by decide +kernel
theorem dX4_image_6 : decode cX4_image 6 = .ok (.ifCond .ne 6, 3) := by decide +kernel
theorem dX4_image_9 : decode cX4_image 9 = .ok (.bipush (-2), 2) := by decide +kernel
theorem dX4_image_11 : decode cX4_image 11 = .ok (.ireturn, 1) := by decide +kernel
theorem dX4_image_12 : decode cX4_image 12 = .ok (.aload_n 0, 1) := by decide +kernel
theorem dX4_image_13 : decode cX4_image 13 = .ok (.getfield 39, 3) := by decide +kernel
theorem dX4_image_16 : decode cX4_image 16 = .ok (.iload_n 1, 1) := by decide +kernel
theorem dX4_image_17 : decode cX4_image 17 = .ok (.aaload, 1) := by decide +kernel
theorem dX4_image_18 : decode cX4_image 18 = .ok (.aload_n 0, 1) := by decide +kernel
theorem dX4_image_19 : decode cX4_image 19 = .ok (.getfield 19, 3) := by decide +kernel
theorem dX4_image_22 : decode cX4_image 22 = .ok (.invokevirtual 209, 3) := by decide +kernel
theorem dX4_image_25 : decode cX4_image 25 = .ok (.aload_n 0, 1) := by decide +kernel
theorem dX4_image_26 : decode cX4_image 26 = .ok (.getfield 43, 3) := by decide +kernel
theorem dX4_image_29 : decode cX4_image 29 = .ok (.iload_n 1, 1) := by decide +kernel
theorem dX4_image_30 : decode cX4_image 30 = .ok (.iconst 1, 1) := by decide +kernel
theorem dX4_image_31 : decode cX4_image 31 = .ok (.bastore, 1) := by decide +kernel
theorem dX4_image_32 : decode cX4_image 32 = .ok (.iconst 1, 1) := by decide +kernel
theorem dX4_image_33 : decode cX4_image 33 = .ok (.ireturn, 1) := by decide +kernel
theorem dX4_restore_0 : decode cX4_restore 0 = .ok (.iload_n 1, 1) := by decide +kernel
theorem dX4_restore_1 : decode cX4_restore 1 = .ok (.iconst 0, 1) := by decide +kernel
theorem dX4_restore_2 : decode cX4_restore 2 = .ok (.iconst 1, 1) := by decide +kernel
theorem dX4_restore_3 : decode cX4_restore 3 = .ok (.invokestatic 51, 3) := by decide +kernel
theorem dX4_restore_6 : decode cX4_restore 6 = .ok (.ifCond .ne 6, 3) := by decide +kernel
theorem dX4_restore_9 : decode cX4_restore 9 = .ok (.bipush (-2), 2) := by decide +kernel
theorem dX4_restore_11 : decode cX4_restore 11 = .ok (.ireturn, 1) := by decide +kernel
theorem dX4_restore_12 : decode cX4_restore 12 = .ok (.aload_n 0, 1) := by decide +kernel
theorem dX4_restore_13 : decode cX4_restore 13 = .ok (.getfield 43, 3) := by decide +kernel
theorem dX4_restore_16 : decode cX4_restore 16 = .ok (.iload_n 1, 1) := by decide +kernel
theorem dX4_restore_17 : decode cX4_restore 17 = .ok (.baload, 1) := by decide +kernel
theorem dX4_restore_18 : decode cX4_restore 18 = .ok (.ifCond .ne 6, 3) := by decide +kernel
theorem dX4_restore_21 : decode cX4_restore 21 = .ok (.bipush (-3), 2) := by decide +kernel
theorem dX4_restore_23 : decode cX4_restore 23 = .ok (.ireturn, 1) := by decide +kernel
theorem dX4_restore_24 : decode cX4_restore 24 = .ok (.aload_n 0, 1) := by decide +kernel
theorem dX4_restore_25 : decode cX4_restore 25 = .ok (.getfield 19, 3) := by decide +kernel
theorem dX4_restore_28 : decode cX4_restore 28 = .ok (.aload_n 0, 1) := by decide +kernel
theorem dX4_restore_29 : decode cX4_restore 29 = .ok (.getfield 39, 3) := by decide +kernel
theorem dX4_restore_32 : decode cX4_restore 32 = .ok (.iload_n 1, 1) := by decide +kernel
theorem dX4_restore_33 : decode cX4_restore 33 = .ok (.aaload, 1) := by decide +kernel
theorem dX4_restore_34 : decode cX4_restore 34 = .ok (.invokevirtual 209, 3) := by decide +kernel
theorem dX4_restore_37 : decode cX4_restore 37 = .ok (.iconst 1, 1) := by decide +kernel
theorem dX4_restore_38 : decode cX4_restore 38 = .ok (.ireturn, 1) := by decide +kernel
theorem dX4_told_0 : decode cX4_told 0 = .ok (.iload_n 1, 1) := by decide +kernel
theorem dX4_told_1 : decode cX4_told 1 = .ok (.bipush 100, 2) := by decide +kernel
theorem dX4_told_3 : decode cX4_told 3 = .ok (.if_icmp .lt 12, 3) := by decide +kernel
theorem dX4_told_6 : decode cX4_told 6 = .ok (.aload_n 0, 1) := by decide +kernel
theorem dX4_told_7 : decode cX4_told 7 = .ok (.iload_n 1, 1) := by decide +kernel
theorem dX4_told_8 : decode cX4_told 8 = .ok (.bipush 100, 2) := by decide +kernel
theorem dX4_told_10 : decode cX4_told 10 = .ok (.isub, 1) := by decide +kernel
theorem dX4_told_11 : decode cX4_told 11 = .ok (.invokevirtual 212, 3) := by decide +kernel
theorem dX4_told_14 : decode cX4_told 14 = .ok (.ireturn, 1) := by decide +kernel
theorem dX4_told_15 : decode cX4_told 15 = .ok (.iload_n 1, 1) := by decide +kernel
theorem dX4_told_16 : decode cX4_told 16 = .ok (.bipush 10, 2) := by decide +kernel
theorem dX4_told_18 : decode cX4_told 18 = .ok (.if_icmp .lt 16, 3) := by decide +kernel
theorem dX4_told_21 : decode cX4_told 21 = .ok (.aload_n 0, 1) := by decide +kernel
theorem dX4_told_22 : decode cX4_told 22 = .ok (.iload_n 1, 1) := by decide +kernel
theorem dX4_told_23 : decode cX4_told 23 = .ok (.bipush 10, 2) := by decide +kernel
theorem dX4_told_25 : decode cX4_told 25 = .ok (.idiv, 1) := by decide +kernel
theorem dX4_told_26 : decode cX4_told 26 = .ok (.iload_n 1, 1) := by decide +kernel
theorem dX4_told_27 : decode cX4_told 27 = .ok (.bipush 10, 2) := by decide +kernel
theorem dX4_told_29 : decode cX4_told 29 = .ok (.irem, 1) := by decide +kernel
theorem dX4_told_30 : decode cX4_told 30 = .ok (.invokevirtual 215, 3) := by decide +kernel
theorem dX4_told_33 : decode cX4_told 33 = .ok (.ireturn, 1) := by decide +kernel
theorem dX4_told_34 : decode cX4_told 34 = .ok (.iload_n 1, 1) := by decide +kernel
theorem dX4_told_35 : decode cX4_told 35 = .ok (.tableswitch 49 0 2 #[25, 33, 41], 25) := by decide +kernel
theorem dX4_told_60 : decode cX4_told 60 = .ok (.aload_n 0, 1) := by decide +kernel
theorem dX4_told_61 : decode cX4_told 61 = .ok (.getfield 10, 3) := by decide +kernel
theorem dX4_told_64 : decode cX4_told 64 = .ok (.getfield 55, 3) := by decide +kernel
theorem dX4_told_67 : decode cX4_told 67 = .ok (.ireturn, 1) := by decide +kernel
theorem dX4_told_68 : decode cX4_told 68 = .ok (.aload_n 0, 1) := by decide +kernel
theorem dX4_told_69 : decode cX4_told 69 = .ok (.getfield 19, 3) := by decide +kernel
theorem dX4_told_72 : decode cX4_told 72 = .ok (.getfield 119, 3) := by decide +kernel
theorem dX4_told_75 : decode cX4_told 75 = .ok (.ireturn, 1) := by decide +kernel
theorem dX4_told_76 : decode cX4_told 76 = .ok (.aload_n 0, 1) := by decide +kernel
theorem dX4_told_77 : decode cX4_told 77 = .ok (.getfield 19, 3) := by decide +kernel
theorem dX4_told_80 : decode cX4_told 80 = .ok (.getfield 122, 3) := by decide +kernel
theorem dX4_told_83 : decode cX4_told 83 = .ok (.ireturn, 1) := by decide +kernel
theorem dX4_told_84 : decode cX4_told 84 = .ok (.bipush (-2), 2) := by decide +kernel
theorem dX4_told_86 : decode cX4_told 86 = .ok (.ireturn, 1) := by decide +kernel
theorem dX4_within_0 : decode cX4_within 0 = .ok (.iload_n 0, 1) := by decide +kernel
theorem dX4_within_1 : decode cX4_within 1 = .ok (.iload_n 1, 1) := by decide +kernel
theorem dX4_within_2 : decode cX4_within 2 = .ok (.if_icmp .lt 12, 3) := by decide +kernel
theorem dX4_within_5 : decode cX4_within 5 = .ok (.iload_n 0, 1) := by decide +kernel
theorem dX4_within_6 : decode cX4_within 6 = .ok (.iload_n 2, 1) := by decide +kernel
theorem dX4_within_7 : decode cX4_within 7 = .ok (.if_icmp .gt 7, 3) := by decide +kernel
theorem dX4_within_10 : decode cX4_within 10 = .ok (.iconst 1, 1) := by decide +kernel
theorem dX4_within_11 : decode cX4_within 11 = .ok (.goto 4, 3) := by decide +kernel
theorem dX4_within_14 : decode cX4_within 14 = .ok (.iconst 0, 1) := by decide +kernel
theorem dX4_within_15 : decode cX4_within 15 = .ok (.ireturn, 1) := by decide +kernel
theorem dX4_isTerms_0 : decode cX4_isTerms 0 = .ok (.iload_n 0, 1) := by decide +kernel
theorem dX4_isTerms_1 : decode cX4_isTerms 1 = .ok (.iconst 0, 1) := by decide +kernel
theorem dX4_isTerms_2 : decode cX4_isTerms 2 = .ok (.iconst 4, 1) := by decide +kernel
theorem dX4_isTerms_3 : decode cX4_isTerms 3 = .ok (.invokestatic 51, 3) := by decide +kernel
theorem dX4_isTerms_6 : decode cX4_isTerms 6 = .ok (.ireturn, 1) := by decide +kernel
theorem dX4_isPiece_0 : decode cX4_isPiece 0 = .ok (.iload_n 0, 1) := by decide +kernel
theorem dX4_isPiece_1 : decode cX4_isPiece 1 = .ok (.iconst 0, 1) := by decide +kernel
theorem dX4_isPiece_2 : decode cX4_isPiece 2 = .ok (.iconst 5, 1) := by decide +kernel
theorem dX4_isPiece_3 : decode cX4_isPiece 3 = .ok (.invokestatic 51, 3) := by decide +kernel
theorem dX4_isPiece_6 : decode cX4_isPiece 6 = .ok (.ireturn, 1) := by decide +kernel
theorem dX4_has_0 : decode cX4_has 0 = .ok (.iload_n 0, 1) := by decide +kernel
theorem dX4_has_1 : decode cX4_has 1 = .ok (.iload_n 1, 1) := by decide +kernel
theorem dX4_has_2 : decode cX4_has 2 = .ok (.ishr, 1) := by decide +kernel
theorem dX4_has_3 : decode cX4_has 3 = .ok (.iconst 1, 1) := by decide +kernel
theorem dX4_has_4 : decode cX4_has 4 = .ok (.iand, 1) := by decide +kernel
theorem dX4_has_5 : decode cX4_has 5 = .ok (.ifCond .eq 7, 3) := by decide +kernel
theorem dX4_has_8 : decode cX4_has 8 = .ok (.iconst 1, 1) := by decide +kernel
theorem dX4_has_9 : decode cX4_has 9 = .ok (.goto 4, 3) := by decide +kernel
theorem dX4_has_12 : decode cX4_has 12 = .ok (.iconst 0, 1) := by decide +kernel
theorem dX4_has_13 : decode cX4_has 13 = .ok (.ireturn, 1) := by decide +kernel
theorem dX4_isPartOf_0 : decode cX4_isPartOf 0 = .ok (.iload_n 0, 1) := by decide +kernel
theorem dX4_isPartOf_1 : decode cX4_isPartOf 1 = .ok (.iload_n 1, 1) := by decide +kernel
theorem dX4_isPartOf_2 : decode cX4_isPartOf 2 = .ok (.iconst (-1), 1) := by decide +kernel
theorem dX4_isPartOf_3 : decode cX4_isPartOf 3 = .ok (.ixor, 1) := by decide +kernel
theorem dX4_isPartOf_4 : decode cX4_isPartOf 4 = .ok (.iand, 1) := by decide +kernel
theorem dX4_isPartOf_5 : decode cX4_isPartOf 5 = .ok (.ifCond .ne 7, 3) := by decide +kernel
theorem dX4_isPartOf_8 : decode cX4_isPartOf 8 = .ok (.iconst 1, 1) := by decide +kernel
theorem dX4_isPartOf_9 : decode cX4_isPartOf 9 = .ok (.goto 4, 3) := by decide +kernel
theorem dX4_isPartOf_12 : decode cX4_isPartOf 12 = .ok (.iconst 0, 1) := by decide +kernel
theorem dX4_isPartOf_13 : decode cX4_isPartOf 13 = .ok (.ireturn, 1) := by decide +kernel
theorem dX4_use_0 : decode cX4_use 0 = .ok (.iload_n 0, 1) := by decide +kernel
theorem dX4_use_1 : decode cX4_use 1 = .ok (.bipush 6, 2) := by decide +kernel
theorem dX4_use_3 : decode cX4_use 3 = .ok (.imul, 1) := by decide +kernel
theorem dX4_use_4 : decode cX4_use 4 = .ok (.iload_n 1, 1) := by decide +kernel
theorem dX4_use_5 : decode cX4_use 5 = .ok (.iadd, 1) := by decide +kernel
theorem dX4_use_6 : decode cX4_use 6 = .ok (.ireturn, 1) := by decide +kernel
theorem dX4_swap_0 : decode cX4_swap 0 = .ok (.aload_n 0, 1) := by decide +kernel
theorem dX4_swap_1 : decode cX4_swap 1 = .ok (.iload_n 1, 1) := by decide +kernel
theorem dX4_swap_2 : decode cX4_swap 2 = .ok (.iaload, 1) := by decide +kernel
theorem dX4_swap_3 : decode cX4_swap 3 = .ok (.istore_n 3, 1) := by decide +kernel
theorem dX4_swap_4 : decode cX4_swap 4 = .ok (.aload_n 0, 1) := by decide +kernel
theorem dX4_swap_5 : decode cX4_swap 5 = .ok (.iload_n 1, 1) := by decide +kernel
theorem dX4_swap_6 : decode cX4_swap 6 = .ok (.iload_n 2, 1) := by decide +kernel
theorem dX4_swap_7 : decode cX4_swap 7 = .ok (.iastore, 1) := by decide +kernel
theorem dX4_swap_8 : decode cX4_swap 8 = .ok (.iload_n 3, 1) := by decide +kernel
theorem dX4_swap_9 : decode cX4_swap 9 = .ok (.ireturn, 1) := by decide +kernel
theorem dX4_takeDigits_0 : decode cX4_takeDigits 0 = .ok (.iload_n 1, 1) := by decide +kernel
theorem dX4_takeDigits_1 : decode cX4_takeDigits 1 = .ok (.istore_n 2, 1) := by decide +kernel
theorem dX4_takeDigits_2 : decode cX4_takeDigits 2 = .ok (.iconst 0, 1) := by decide +kernel
theorem dX4_takeDigits_3 : decode cX4_takeDigits 3 = .ok (.istore_n 3, 1) := by decide +kernel
theorem dX4_takeDigits_4 : decode cX4_takeDigits 4 = .ok (.iload_n 3, 1) := by decide +kernel
theorem dX4_takeDigits_5 : decode cX4_takeDigits 5 = .ok (.bipush 6, 2) := by decide +kernel
theorem dX4_takeDigits_7 : decode cX4_takeDigits 7 = .ok (.if_icmp .ge 72, 3) := by decide +kernel
theorem dX4_takeDigits_10 : decode cX4_takeDigits 10 = .ok (.iload_n 2, 1) := by decide +kernel
theorem dX4_takeDigits_11 : decode cX4_takeDigits 11 = .ok (.bipush 10, 2) := by decide +kernel
theorem dX4_takeDigits_13 : decode cX4_takeDigits 13 = .ok (.irem, 1) := by decide +kernel
theorem dX4_takeDigits_14 : decode cX4_takeDigits 14 = .ok (.istore 4, 2) := by decide +kernel
theorem dX4_takeDigits_16 : decode cX4_takeDigits 16 = .ok (.iload_n 2, 1) := by decide +kernel
theorem dX4_takeDigits_17 : decode cX4_takeDigits 17 = .ok (.bipush 10, 2) := by decide +kernel
theorem dX4_takeDigits_19 : decode cX4_takeDigits 19 = .ok (.idiv, 1) := by decide +kernel
theorem dX4_takeDigits_20 : decode cX4_takeDigits 20 = .ok (.istore_n 2, 1) := by decide +kernel
theorem dX4_takeDigits_21 : decode cX4_takeDigits 21 = .ok (.aload_n 0, 1) := by decide +kernel
theorem dX4_takeDigits_22 : decode cX4_takeDigits 22 = .ok (.getfield 28, 3) := by decide +kernel
theorem dX4_takeDigits_25 : decode cX4_takeDigits 25 = .ok (.getfield 159, 3) := by decide +kernel
theorem dX4_takeDigits_28 : decode cX4_takeDigits 28 = .ok (.iload_n 3, 1) := by decide +kernel
theorem dX4_takeDigits_29 : decode cX4_takeDigits 29 = .ok (.invokestatic 162, 3) := by decide +kernel
theorem dX4_takeDigits_32 : decode cX4_takeDigits 32 = .ok (.ifCond .eq 15, 3) := by decide +kernel
theorem dX4_takeDigits_35 : decode cX4_takeDigits 35 = .ok (.aload_n 0, 1) := by decide +kernel
theorem dX4_takeDigits_36 : decode cX4_takeDigits 36 = .ok (.getfield 28, 3) := by decide +kernel
theorem dX4_takeDigits_39 : decode cX4_takeDigits 39 = .ok (.getfield 184, 3) := by decide +kernel
theorem dX4_takeDigits_42 : decode cX4_takeDigits 42 = .ok (.iload_n 3, 1) := by decide +kernel
theorem dX4_takeDigits_43 : decode cX4_takeDigits 43 = .ok (.iaload, 1) := by decide +kernel
theorem dX4_takeDigits_44 : decode cX4_takeDigits 44 = .ok (.goto 4, 3) := by decide +kernel
theorem dX4_takeDigits_47 : decode cX4_takeDigits 47 = .ok (.iconst 1, 1) := by decide +kernel
theorem dX4_takeDigits_48 : decode cX4_takeDigits 48 = .ok (.istore 5, 2) := by decide +kernel
theorem dX4_takeDigits_50 : decode cX4_takeDigits 50 = .ok (.iload 5, 2) := by decide +kernel
theorem dX4_takeDigits_52 : decode cX4_takeDigits 52 = .ok (.iload 4, 2) := by decide +kernel
theorem dX4_takeDigits_54 : decode cX4_takeDigits 54 = .ok (.invokestatic 162, 3) := by decide +kernel
theorem dX4_takeDigits_57 : decode cX4_takeDigits 57 = .ok (.ifCond .ne 5, 3) := by decide +kernel
theorem dX4_takeDigits_60 : decode cX4_takeDigits 60 = .ok (.iconst 0, 1) := by decide +kernel
theorem dX4_takeDigits_61 : decode cX4_takeDigits 61 = .ok (.ireturn, 1) := by decide +kernel
theorem dX4_takeDigits_62 : decode cX4_takeDigits 62 = .ok (.aload_n 0, 1) := by decide +kernel
theorem dX4_takeDigits_63 : decode cX4_takeDigits 63 = .ok (.getfield 35, 3) := by decide +kernel
theorem dX4_takeDigits_66 : decode cX4_takeDigits 66 = .ok (.getfield 135, 3) := by decide +kernel
theorem dX4_takeDigits_69 : decode cX4_takeDigits 69 = .ok (.iload_n 3, 1) := by decide +kernel
theorem dX4_takeDigits_70 : decode cX4_takeDigits 70 = .ok (.iload 4, 2) := by decide +kernel
theorem dX4_takeDigits_72 : decode cX4_takeDigits 72 = .ok (.iastore, 1) := by decide +kernel
theorem dX4_takeDigits_73 : decode cX4_takeDigits 73 = .ok (.iinc 3 1, 3) := by decide +kernel
theorem dX4_takeDigits_76 : decode cX4_takeDigits 76 = .ok (.goto (-72), 3) := by decide +kernel
theorem dX4_takeDigits_79 : decode cX4_takeDigits 79 = .ok (.iconst 1, 1) := by decide +kernel
theorem dX4_takeDigits_80 : decode cX4_takeDigits 80 = .ok (.ireturn, 1) := by decide +kernel
theorem dX4_fewestBarring_0 : decode cX4_fewestBarring 0 = .ok (.aload_n 0, 1) := by decide +kernel
theorem dX4_fewestBarring_1 : decode cX4_fewestBarring 1 = .ok (.getfield 28, 3) := by decide +kernel
theorem dX4_fewestBarring_4 : decode cX4_fewestBarring 4 = .ok (.getfield 159, 3) := by decide +kernel
theorem dX4_fewestBarring_7 : decode cX4_fewestBarring 7 = .ok (.istore_n 1, 1) := by decide +kernel
theorem dX4_fewestBarring_8 : decode cX4_fewestBarring 8 = .ok (.iconst 0, 1) := by decide +kernel
theorem dX4_fewestBarring_9 : decode cX4_fewestBarring 9 = .ok (.istore_n 2, 1) := by decide +kernel
theorem dX4_fewestBarring_10 : decode cX4_fewestBarring 10 = .ok (.iload_n 2, 1) := by decide +kernel
theorem dX4_fewestBarring_11 : decode cX4_fewestBarring 11 = .ok (.bipush 63, 2) := by decide +kernel
theorem dX4_fewestBarring_13 : decode cX4_fewestBarring 13 = .ok (.if_icmp .gt 57, 3) := by decide +kernel
theorem dX4_fewestBarring_16 : decode cX4_fewestBarring 16 = .ok (.iload_n 2, 1) := by decide +kernel
theorem dX4_fewestBarring_17 : decode cX4_fewestBarring 17 = .ok (.invokestatic 218, 3) := by decide +kernel
end
section
theorem dX4_fewestBarring_20 : decode cX4_fewestBarring 20 = .ok (.iload_n 1, 1) := by decide +kernel
theorem dX4_fewestBarring_21 : decode cX4_fewestBarring 21 = .ok (.invokestatic 218, 3) := by decide +kernel
theorem dX4_fewestBarring_24 : decode cX4_fewestBarring 24 = .ok (.if_icmp .ge 7, 3) := by decide +kernel
theorem dX4_fewestBarring_27 : decode cX4_fewestBarring 27 = .ok (.iconst 1, 1) := by decide +kernel
theorem dX4_fewestBarring_28 : decode cX4_fewestBarring 28 = .ok (.goto 4, 3) := by decide +kernel
theorem dX4_fewestBarring_31 : decode cX4_fewestBarring 31 = .ok (.iconst 0, 1) := by decide +kernel
theorem dX4_fewestBarring_32 : decode cX4_fewestBarring 32 = .ok (.istore_n 3, 1) := by decide +kernel
theorem dX4_fewestBarring_33 : decode cX4_fewestBarring 33 = .ok (.iload_n 3, 1) := by decide +kernel
theorem dX4_fewestBarring_34 : decode cX4_fewestBarring 34 = .ok (.ifCond .eq 30, 3) := by decide +kernel
theorem dX4_fewestBarring_37 : decode cX4_fewestBarring 37 = .ok (.iload_n 2, 1) := by decide +kernel
theorem dX4_fewestBarring_38 : decode cX4_fewestBarring 38 = .ok (.aload_n 0, 1) := by decide +kernel
theorem dX4_fewestBarring_39 : decode cX4_fewestBarring 39 = .ok (.getfield 28, 3) := by decide +kernel
theorem dX4_fewestBarring_42 : decode cX4_fewestBarring 42 = .ok (.getfield 159, 3) := by decide +kernel
theorem dX4_fewestBarring_45 : decode cX4_fewestBarring 45 = .ok (.invokestatic 223, 3) := by decide +kernel
theorem dX4_fewestBarring_48 : decode cX4_fewestBarring 48 = .ok (.ifCond .eq 16, 3) := by decide +kernel
theorem dX4_fewestBarring_51 : decode cX4_fewestBarring 51 = .ok (.aload_n 0, 1) := by decide +kernel
theorem dX4_fewestBarring_52 : decode cX4_fewestBarring 52 = .ok (.getfield 28, 3) := by decide +kernel
theorem dX4_fewestBarring_55 : decode cX4_fewestBarring 55 = .ok (.iload_n 2, 1) := by decide +kernel
theorem dX4_fewestBarring_56 : decode cX4_fewestBarring 56 = .ok (.invokevirtual 169, 3) := by decide +kernel
theorem dX4_fewestBarring_59 : decode cX4_fewestBarring 59 = .ok (.ifCond .ne 5, 3) := by decide +kernel
theorem dX4_fewestBarring_62 : decode cX4_fewestBarring 62 = .ok (.iload_n 2, 1) := by decide +kernel
theorem dX4_fewestBarring_63 : decode cX4_fewestBarring 63 = .ok (.istore_n 1, 1) := by decide +kernel
theorem dX4_fewestBarring_64 : decode cX4_fewestBarring 64 = .ok (.iinc 2 1, 3) := by decide +kernel
theorem dX4_fewestBarring_67 : decode cX4_fewestBarring 67 = .ok (.goto (-57), 3) := by decide +kernel
theorem dX4_fewestBarring_70 : decode cX4_fewestBarring 70 = .ok (.iload_n 1, 1) := by decide +kernel
theorem dX4_fewestBarring_71 : decode cX4_fewestBarring 71 = .ok (.ireturn, 1) := by decide +kernel
theorem dX4_cheapestAnew_0 : decode cX4_cheapestAnew 0 = .ok (.aload_n 0, 1) := by decide +kernel
theorem dX4_cheapestAnew_1 : decode cX4_cheapestAnew 1 = .ok (.getfield 28, 3) := by decide +kernel
theorem dX4_cheapestAnew_4 : decode cX4_cheapestAnew 4 = .ok (.getfield 159, 3) := by decide +kernel
theorem dX4_cheapestAnew_7 : decode cX4_cheapestAnew 7 = .ok (.istore_n 1, 1) := by decide +kernel
theorem dX4_cheapestAnew_8 : decode cX4_cheapestAnew 8 = .ok (.iconst 0, 1) := by decide +kernel
theorem dX4_cheapestAnew_9 : decode cX4_cheapestAnew 9 = .ok (.istore_n 2, 1) := by decide +kernel
theorem dX4_cheapestAnew_10 : decode cX4_cheapestAnew 10 = .ok (.iload_n 2, 1) := by decide +kernel
theorem dX4_cheapestAnew_11 : decode cX4_cheapestAnew 11 = .ok (.bipush 63, 2) := by decide +kernel
theorem dX4_cheapestAnew_13 : decode cX4_cheapestAnew 13 = .ok (.if_icmp .gt 55, 3) := by decide +kernel
theorem dX4_cheapestAnew_16 : decode cX4_cheapestAnew 16 = .ok (.iload_n 2, 1) := by decide +kernel
theorem dX4_cheapestAnew_17 : decode cX4_cheapestAnew 17 = .ok (.aload_n 0, 1) := by decide +kernel
theorem dX4_cheapestAnew_18 : decode cX4_cheapestAnew 18 = .ok (.getfield 28, 3) := by decide +kernel
theorem dX4_cheapestAnew_21 : decode cX4_cheapestAnew 21 = .ok (.getfield 159, 3) := by decide +kernel
theorem dX4_cheapestAnew_24 : decode cX4_cheapestAnew 24 = .ok (.invokestatic 223, 3) := by decide +kernel
theorem dX4_cheapestAnew_27 : decode cX4_cheapestAnew 27 = .ok (.ifCond .eq 35, 3) := by decide +kernel
theorem dX4_cheapestAnew_30 : decode cX4_cheapestAnew 30 = .ok (.aload_n 0, 1) := by decide +kernel
theorem dX4_cheapestAnew_31 : decode cX4_cheapestAnew 31 = .ok (.iload_n 2, 1) := by decide +kernel
theorem dX4_cheapestAnew_32 : decode cX4_cheapestAnew 32 = .ok (.iload_n 1, 1) := by decide +kernel
theorem dX4_cheapestAnew_33 : decode cX4_cheapestAnew 33 = .ok (.invokevirtual 226, 3) := by decide +kernel
theorem dX4_cheapestAnew_36 : decode cX4_cheapestAnew 36 = .ok (.ifCond .eq 26, 3) := by decide +kernel
theorem dX4_cheapestAnew_39 : decode cX4_cheapestAnew 39 = .ok (.aload_n 0, 1) := by decide +kernel
theorem dX4_cheapestAnew_40 : decode cX4_cheapestAnew 40 = .ok (.getfield 28, 3) := by decide +kernel
theorem dX4_cheapestAnew_43 : decode cX4_cheapestAnew 43 = .ok (.aload_n 0, 1) := by decide +kernel
theorem dX4_cheapestAnew_44 : decode cX4_cheapestAnew 44 = .ok (.getfield 28, 3) := by decide +kernel
theorem dX4_cheapestAnew_47 : decode cX4_cheapestAnew 47 = .ok (.getfield 159, 3) := by decide +kernel
theorem dX4_cheapestAnew_50 : decode cX4_cheapestAnew 50 = .ok (.iload_n 2, 1) := by decide +kernel
theorem dX4_cheapestAnew_51 : decode cX4_cheapestAnew 51 = .ok (.iconst (-1), 1) := by decide +kernel
theorem dX4_cheapestAnew_52 : decode cX4_cheapestAnew 52 = .ok (.ixor, 1) := by decide +kernel
theorem dX4_cheapestAnew_53 : decode cX4_cheapestAnew 53 = .ok (.iand, 1) := by decide +kernel
theorem dX4_cheapestAnew_54 : decode cX4_cheapestAnew 54 = .ok (.invokevirtual 169, 3) := by decide +kernel
theorem dX4_cheapestAnew_57 : decode cX4_cheapestAnew 57 = .ok (.ifCond .eq 5, 3) := by decide +kernel
theorem dX4_cheapestAnew_60 : decode cX4_cheapestAnew 60 = .ok (.iload_n 2, 1) := by decide +kernel
theorem dX4_cheapestAnew_61 : decode cX4_cheapestAnew 61 = .ok (.istore_n 1, 1) := by decide +kernel
theorem dX4_cheapestAnew_62 : decode cX4_cheapestAnew 62 = .ok (.iinc 2 1, 3) := by decide +kernel
theorem dX4_cheapestAnew_65 : decode cX4_cheapestAnew 65 = .ok (.goto (-55), 3) := by decide +kernel
theorem dX4_cheapestAnew_68 : decode cX4_cheapestAnew 68 = .ok (.iload_n 1, 1) := by decide +kernel
theorem dX4_cheapestAnew_69 : decode cX4_cheapestAnew 69 = .ok (.ireturn, 1) := by decide +kernel
theorem dX4_isCheaper_0 : decode cX4_isCheaper 0 = .ok (.aload_n 0, 1) := by decide +kernel
theorem dX4_isCheaper_1 : decode cX4_isCheaper 1 = .ok (.iload_n 1, 1) := by decide +kernel
theorem dX4_isCheaper_2 : decode cX4_isCheaper 2 = .ok (.invokevirtual 178, 3) := by decide +kernel
theorem dX4_isCheaper_5 : decode cX4_isCheaper 5 = .ok (.istore_n 3, 1) := by decide +kernel
theorem dX4_isCheaper_6 : decode cX4_isCheaper 6 = .ok (.aload_n 0, 1) := by decide +kernel
theorem dX4_isCheaper_7 : decode cX4_isCheaper 7 = .ok (.iload_n 2, 1) := by decide +kernel
theorem dX4_isCheaper_8 : decode cX4_isCheaper 8 = .ok (.invokevirtual 178, 3) := by decide +kernel
theorem dX4_isCheaper_11 : decode cX4_isCheaper 11 = .ok (.istore 4, 2) := by decide +kernel
theorem dX4_isCheaper_13 : decode cX4_isCheaper 13 = .ok (.iload_n 3, 1) := by decide +kernel
theorem dX4_isCheaper_14 : decode cX4_isCheaper 14 = .ok (.iload 4, 2) := by decide +kernel
theorem dX4_isCheaper_16 : decode cX4_isCheaper 16 = .ok (.if_icmp .eq 15, 3) := by decide +kernel
theorem dX4_isCheaper_19 : decode cX4_isCheaper 19 = .ok (.iload_n 3, 1) := by decide +kernel
theorem dX4_isCheaper_20 : decode cX4_isCheaper 20 = .ok (.iload 4, 2) := by decide +kernel
theorem dX4_isCheaper_22 : decode cX4_isCheaper 22 = .ok (.if_icmp .ge 7, 3) := by decide +kernel
theorem dX4_isCheaper_25 : decode cX4_isCheaper 25 = .ok (.iconst 1, 1) := by decide +kernel
theorem dX4_isCheaper_26 : decode cX4_isCheaper 26 = .ok (.goto 4, 3) := by decide +kernel
theorem dX4_isCheaper_29 : decode cX4_isCheaper 29 = .ok (.iconst 0, 1) := by decide +kernel
theorem dX4_isCheaper_30 : decode cX4_isCheaper 30 = .ok (.ireturn, 1) := by decide +kernel
theorem dX4_isCheaper_31 : decode cX4_isCheaper 31 = .ok (.iload_n 1, 1) := by decide +kernel
theorem dX4_isCheaper_32 : decode cX4_isCheaper 32 = .ok (.invokestatic 218, 3) := by decide +kernel
theorem dX4_isCheaper_35 : decode cX4_isCheaper 35 = .ok (.iload_n 2, 1) := by decide +kernel
theorem dX4_isCheaper_36 : decode cX4_isCheaper 36 = .ok (.invokestatic 218, 3) := by decide +kernel
theorem dX4_isCheaper_39 : decode cX4_isCheaper 39 = .ok (.if_icmp .ge 7, 3) := by decide +kernel
theorem dX4_isCheaper_42 : decode cX4_isCheaper 42 = .ok (.iconst 1, 1) := by decide +kernel
theorem dX4_isCheaper_43 : decode cX4_isCheaper 43 = .ok (.goto 4, 3) := by decide +kernel
theorem dX4_isCheaper_46 : decode cX4_isCheaper 46 = .ok (.iconst 0, 1) := by decide +kernel
theorem dX4_isCheaper_47 : decode cX4_isCheaper 47 = .ok (.ireturn, 1) := by decide +kernel
theorem dX4_costOf_0 : decode cX4_costOf 0 = .ok (.iconst 0, 1) := by decide +kernel
theorem dX4_costOf_1 : decode cX4_costOf 1 = .ok (.istore_n 2, 1) := by decide +kernel
theorem dX4_costOf_2 : decode cX4_costOf 2 = .ok (.iconst 0, 1) := by decide +kernel
theorem dX4_costOf_3 : decode cX4_costOf 3 = .ok (.istore_n 3, 1) := by decide +kernel
theorem dX4_costOf_4 : decode cX4_costOf 4 = .ok (.iload_n 3, 1) := by decide +kernel
theorem dX4_costOf_5 : decode cX4_costOf 5 = .ok (.bipush 6, 2) := by decide +kernel
theorem dX4_costOf_7 : decode cX4_costOf 7 = .ok (.if_icmp .ge 29, 3) := by decide +kernel
theorem dX4_costOf_10 : decode cX4_costOf 10 = .ok (.iload_n 1, 1) := by decide +kernel
theorem dX4_costOf_11 : decode cX4_costOf 11 = .ok (.iload_n 3, 1) := by decide +kernel
theorem dX4_costOf_12 : decode cX4_costOf 12 = .ok (.invokestatic 162, 3) := by decide +kernel
theorem dX4_costOf_15 : decode cX4_costOf 15 = .ok (.ifCond .eq 15, 3) := by decide +kernel
theorem dX4_costOf_18 : decode cX4_costOf 18 = .ok (.iload_n 2, 1) := by decide +kernel
theorem dX4_costOf_19 : decode cX4_costOf 19 = .ok (.aload_n 0, 1) := by decide +kernel
theorem dX4_costOf_20 : decode cX4_costOf 20 = .ok (.getfield 19, 3) := by decide +kernel
theorem dX4_costOf_23 : decode cX4_costOf 23 = .ok (.getfield 105, 3) := by decide +kernel
theorem dX4_costOf_26 : decode cX4_costOf 26 = .ok (.iload_n 3, 1) := by decide +kernel
theorem dX4_costOf_27 : decode cX4_costOf 27 = .ok (.iaload, 1) := by decide +kernel
theorem dX4_costOf_28 : decode cX4_costOf 28 = .ok (.iadd, 1) := by decide +kernel
theorem dX4_costOf_29 : decode cX4_costOf 29 = .ok (.istore_n 2, 1) := by decide +kernel
theorem dX4_costOf_30 : decode cX4_costOf 30 = .ok (.iinc 3 1, 3) := by decide +kernel
theorem dX4_costOf_33 : decode cX4_costOf 33 = .ok (.goto (-29), 3) := by decide +kernel
theorem dX4_costOf_36 : decode cX4_costOf 36 = .ok (.iload_n 2, 1) := by decide +kernel
theorem dX4_costOf_37 : decode cX4_costOf 37 = .ok (.ireturn, 1) := by decide +kernel
theorem dX4_cheapestLooser_0 : decode cX4_cheapestLooser 0 = .ok (.bipush (-6), 2) := by decide +kernel
theorem dX4_cheapestLooser_2 : decode cX4_cheapestLooser 2 = .ok (.istore_n 2, 1) := by decide +kernel
theorem dX4_cheapestLooser_3 : decode cX4_cheapestLooser 3 = .ok (.bipush (-6), 2) := by decide +kernel
theorem dX4_cheapestLooser_5 : decode cX4_cheapestLooser 5 = .ok (.istore_n 3, 1) := by decide +kernel
theorem dX4_cheapestLooser_6 : decode cX4_cheapestLooser 6 = .ok (.iconst 0, 1) := by decide +kernel
theorem dX4_cheapestLooser_7 : decode cX4_cheapestLooser 7 = .ok (.istore 4, 2) := by decide +kernel
theorem dX4_cheapestLooser_9 : decode cX4_cheapestLooser 9 = .ok (.iload 4, 2) := by decide +kernel
theorem dX4_cheapestLooser_11 : decode cX4_cheapestLooser 11 = .ok (.iconst 3, 1) := by decide +kernel
theorem dX4_cheapestLooser_12 : decode cX4_cheapestLooser 12 = .ok (.if_icmp .ge 106, 3) := by decide +kernel
theorem dX4_cheapestLooser_15 : decode cX4_cheapestLooser 15 = .ok (.iload 4, 2) := by decide +kernel
theorem dX4_cheapestLooser_17 : decode cX4_cheapestLooser 17 = .ok (.iconst 1, 1) := by decide +kernel
theorem dX4_cheapestLooser_18 : decode cX4_cheapestLooser 18 = .ok (.iadd, 1) := by decide +kernel
theorem dX4_cheapestLooser_19 : decode cX4_cheapestLooser 19 = .ok (.istore 5, 2) := by decide +kernel
theorem dX4_cheapestLooser_21 : decode cX4_cheapestLooser 21 = .ok (.iload 5, 2) := by decide +kernel
theorem dX4_cheapestLooser_23 : decode cX4_cheapestLooser 23 = .ok (.iconst 3, 1) := by decide +kernel
theorem dX4_cheapestLooser_24 : decode cX4_cheapestLooser 24 = .ok (.if_icmp .gt 88, 3) := by decide +kernel
theorem dX4_cheapestLooser_27 : decode cX4_cheapestLooser 27 = .ok (.aload_n 0, 1) := by decide +kernel
theorem dX4_cheapestLooser_28 : decode cX4_cheapestLooser 28 = .ok (.getfield 28, 3) := by decide +kernel
theorem dX4_cheapestLooser_31 : decode cX4_cheapestLooser 31 = .ok (.invokevirtual 125, 3) := by decide +kernel
theorem dX4_cheapestLooser_34 : decode cX4_cheapestLooser 34 = .ok (.aload_n 0, 1) := by decide +kernel
theorem dX4_cheapestLooser_35 : decode cX4_cheapestLooser 35 = .ok (.getfield 28, 3) := by decide +kernel
theorem dX4_cheapestLooser_38 : decode cX4_cheapestLooser 38 = .ok (.iload 4, 2) := by decide +kernel
theorem dX4_cheapestLooser_40 : decode cX4_cheapestLooser 40 = .ok (.iload 5, 2) := by decide +kernel
theorem dX4_cheapestLooser_42 : decode cX4_cheapestLooser 42 = .ok (.invokevirtual 229, 3) := by decide +kernel
theorem dX4_cheapestLooser_45 : decode cX4_cheapestLooser 45 = .ok (.istore 6, 2) := by decide +kernel
theorem dX4_cheapestLooser_47 : decode cX4_cheapestLooser 47 = .ok (.iload 5, 2) := by decide +kernel
theorem dX4_cheapestLooser_49 : decode cX4_cheapestLooser 49 = .ok (.iload 4, 2) := by decide +kernel
theorem dX4_cheapestLooser_51 : decode cX4_cheapestLooser 51 = .ok (.isub, 1) := by decide +kernel
theorem dX4_cheapestLooser_52 : decode cX4_cheapestLooser 52 = .ok (.aload_n 0, 1) := by decide +kernel
theorem dX4_cheapestLooser_53 : decode cX4_cheapestLooser 53 = .ok (.getfield 19, 3) := by decide +kernel
theorem dX4_cheapestLooser_56 : decode cX4_cheapestLooser 56 = .ok (.getfield 122, 3) := by decide +kernel
theorem dX4_cheapestLooser_59 : decode cX4_cheapestLooser 59 = .ok (.imul, 1) := by decide +kernel
theorem dX4_cheapestLooser_60 : decode cX4_cheapestLooser 60 = .ok (.iload 6, 2) := by decide +kernel
theorem dX4_cheapestLooser_62 : decode cX4_cheapestLooser 62 = .ok (.imul, 1) := by decide +kernel
theorem dX4_cheapestLooser_63 : decode cX4_cheapestLooser 63 = .ok (.istore 7, 2) := by decide +kernel
theorem dX4_cheapestLooser_65 : decode cX4_cheapestLooser 65 = .ok (.iload_n 3, 1) := by decide +kernel
theorem dX4_cheapestLooser_66 : decode cX4_cheapestLooser 66 = .ok (.bipush (-6), 2) := by decide +kernel
theorem dX4_cheapestLooser_68 : decode cX4_cheapestLooser 68 = .ok (.if_icmp .eq 9, 3) := by decide +kernel
theorem dX4_cheapestLooser_71 : decode cX4_cheapestLooser 71 = .ok (.iload 7, 2) := by decide +kernel
theorem dX4_cheapestLooser_73 : decode cX4_cheapestLooser 73 = .ok (.iload_n 3, 1) := by decide +kernel
theorem dX4_cheapestLooser_74 : decode cX4_cheapestLooser 74 = .ok (.if_icmp .ge 32, 3) := by decide +kernel
theorem dX4_cheapestLooser_77 : decode cX4_cheapestLooser 77 = .ok (.aload_n 0, 1) := by decide +kernel
theorem dX4_cheapestLooser_78 : decode cX4_cheapestLooser 78 = .ok (.getfield 28, 3) := by decide +kernel
theorem dX4_cheapestLooser_81 : decode cX4_cheapestLooser 81 = .ok (.aload_n 0, 1) := by decide +kernel
theorem dX4_cheapestLooser_82 : decode cX4_cheapestLooser 82 = .ok (.getfield 28, 3) := by decide +kernel
theorem dX4_cheapestLooser_85 : decode cX4_cheapestLooser 85 = .ok (.getfield 159, 3) := by decide +kernel
theorem dX4_cheapestLooser_88 : decode cX4_cheapestLooser 88 = .ok (.invokevirtual 169, 3) := by decide +kernel
theorem dX4_cheapestLooser_91 : decode cX4_cheapestLooser 91 = .ok (.ifCond .eq 15, 3) := by decide +kernel
theorem dX4_cheapestLooser_94 : decode cX4_cheapestLooser 94 = .ok (.iload 7, 2) := by decide +kernel
theorem dX4_cheapestLooser_96 : decode cX4_cheapestLooser 96 = .ok (.istore_n 3, 1) := by decide +kernel
theorem dX4_cheapestLooser_97 : decode cX4_cheapestLooser 97 = .ok (.bipush 10, 2) := by decide +kernel
theorem dX4_cheapestLooser_99 : decode cX4_cheapestLooser 99 = .ok (.iload 4, 2) := by decide +kernel
theorem dX4_cheapestLooser_101 : decode cX4_cheapestLooser 101 = .ok (.imul, 1) := by decide +kernel
theorem dX4_cheapestLooser_102 : decode cX4_cheapestLooser 102 = .ok (.iload 5, 2) := by decide +kernel
theorem dX4_cheapestLooser_104 : decode cX4_cheapestLooser 104 = .ok (.iadd, 1) := by decide +kernel
theorem dX4_cheapestLooser_105 : decode cX4_cheapestLooser 105 = .ok (.istore_n 2, 1) := by decide +kernel
theorem dX4_cheapestLooser_106 : decode cX4_cheapestLooser 106 = .ok (.iinc 5 1, 3) := by decide +kernel
theorem dX4_cheapestLooser_109 : decode cX4_cheapestLooser 109 = .ok (.goto (-88), 3) := by decide +kernel
theorem dX4_cheapestLooser_112 : decode cX4_cheapestLooser 112 = .ok (.iinc 4 1, 3) := by decide +kernel
theorem dX4_cheapestLooser_115 : decode cX4_cheapestLooser 115 = .ok (.goto (-106), 3) := by decide +kernel
theorem dX4_cheapestLooser_118 : decode cX4_cheapestLooser 118 = .ok (.iload_n 1, 1) := by decide +kernel
theorem dX4_cheapestLooser_119 : decode cX4_cheapestLooser 119 = .ok (.ifCond .ne 7, 3) := by decide +kernel
theorem dX4_cheapestLooser_122 : decode cX4_cheapestLooser 122 = .ok (.iload_n 2, 1) := by decide +kernel
theorem dX4_cheapestLooser_123 : decode cX4_cheapestLooser 123 = .ok (.goto 4, 3) := by decide +kernel
theorem dX4_cheapestLooser_126 : decode cX4_cheapestLooser 126 = .ok (.iload_n 3, 1) := by decide +kernel
theorem dX4_cheapestLooser_127 : decode cX4_cheapestLooser 127 = .ok (.ireturn, 1) := by decide +kernel
theorem dX4_countNamed_0 : decode cX4_countNamed 0 = .ok (.aload_n 0, 1) := by decide +kernel
theorem dX4_countNamed_1 : decode cX4_countNamed 1 = .ok (.getfield 28, 3) := by decide +kernel
theorem dX4_countNamed_4 : decode cX4_countNamed 4 = .ok (.aload_n 0, 1) := by decide +kernel
theorem dX4_countNamed_5 : decode cX4_countNamed 5 = .ok (.getfield 35, 3) := by decide +kernel
theorem dX4_countNamed_8 : decode cX4_countNamed 8 = .ok (.getfield 135, 3) := by decide +kernel
theorem dX4_countNamed_11 : decode cX4_countNamed 11 = .ok (.invokevirtual 138, 3) := by decide +kernel
theorem dX4_countNamed_14 : decode cX4_countNamed 14 = .ok (.istore_n 1, 1) := by decide +kernel
theorem dX4_countNamed_15 : decode cX4_countNamed 15 = .ok (.iconst 0, 1) := by decide +kernel
theorem dX4_countNamed_16 : decode cX4_countNamed 16 = .ok (.istore_n 2, 1) := by decide +kernel
theorem dX4_countNamed_17 : decode cX4_countNamed 17 = .ok (.iload_n 2, 1) := by decide +kernel
theorem dX4_countNamed_18 : decode cX4_countNamed 18 = .ok (.bipush 6, 2) := by decide +kernel
theorem dX4_countNamed_20 : decode cX4_countNamed 20 = .ok (.if_icmp .ge 98, 3) := by decide +kernel
theorem dX4_countNamed_23 : decode cX4_countNamed 23 = .ok (.aload_n 0, 1) := by decide +kernel
theorem dX4_countNamed_24 : decode cX4_countNamed 24 = .ok (.getfield 47, 3) := by decide +kernel
theorem dX4_countNamed_27 : decode cX4_countNamed 27 = .ok (.iload_n 2, 1) := by decide +kernel
theorem dX4_countNamed_28 : decode cX4_countNamed 28 = .ok (.iconst 0, 1) := by decide +kernel
theorem dX4_countNamed_29 : decode cX4_countNamed 29 = .ok (.iastore, 1) := by decide +kernel
theorem dX4_countNamed_30 : decode cX4_countNamed 30 = .ok (.iconst 0, 1) := by decide +kernel
theorem dX4_countNamed_31 : decode cX4_countNamed 31 = .ok (.istore_n 3, 1) := by decide +kernel
theorem dX4_countNamed_32 : decode cX4_countNamed 32 = .ok (.iload_n 3, 1) := by decide +kernel
theorem dX4_countNamed_33 : decode cX4_countNamed 33 = .ok (.bipush 6, 2) := by decide +kernel
theorem dX4_countNamed_35 : decode cX4_countNamed 35 = .ok (.if_icmp .ge 77, 3) := by decide +kernel
theorem dX4_countNamed_38 : decode cX4_countNamed 38 = .ok (.iload_n 1, 1) := by decide +kernel
theorem dX4_countNamed_39 : decode cX4_countNamed 39 = .ok (.iload_n 3, 1) := by decide +kernel
theorem dX4_countNamed_40 : decode cX4_countNamed 40 = .ok (.invokestatic 162, 3) := by decide +kernel
theorem dX4_countNamed_43 : decode cX4_countNamed 43 = .ok (.ifCond .eq 29, 3) := by decide +kernel
theorem dX4_countNamed_46 : decode cX4_countNamed 46 = .ok (.aload_n 0, 1) := by decide +kernel
theorem dX4_countNamed_47 : decode cX4_countNamed 47 = .ok (.getfield 19, 3) := by decide +kernel
theorem dX4_countNamed_50 : decode cX4_countNamed 50 = .ok (.getfield 71, 3) := by decide +kernel
theorem dX4_countNamed_53 : decode cX4_countNamed 53 = .ok (.aload_n 0, 1) := by decide +kernel
theorem dX4_countNamed_54 : decode cX4_countNamed 54 = .ok (.getfield 35, 3) := by decide +kernel
theorem dX4_countNamed_57 : decode cX4_countNamed 57 = .ok (.getfield 135, 3) := by decide +kernel
theorem dX4_countNamed_60 : decode cX4_countNamed 60 = .ok (.iload_n 3, 1) := by decide +kernel
theorem dX4_countNamed_61 : decode cX4_countNamed 61 = .ok (.iaload, 1) := by decide +kernel
theorem dX4_countNamed_62 : decode cX4_countNamed 62 = .ok (.iaload, 1) := by decide +kernel
theorem dX4_countNamed_63 : decode cX4_countNamed 63 = .ok (.iconst 1, 1) := by decide +kernel
theorem dX4_countNamed_64 : decode cX4_countNamed 64 = .ok (.iand, 1) := by decide +kernel
theorem dX4_countNamed_65 : decode cX4_countNamed 65 = .ok (.ifCond .eq 7, 3) := by decide +kernel
theorem dX4_countNamed_68 : decode cX4_countNamed 68 = .ok (.iconst 1, 1) := by decide +kernel
theorem dX4_countNamed_69 : decode cX4_countNamed 69 = .ok (.goto 4, 3) := by decide +kernel
theorem dX4_countNamed_72 : decode cX4_countNamed 72 = .ok (.iconst 0, 1) := by decide +kernel
theorem dX4_countNamed_73 : decode cX4_countNamed 73 = .ok (.istore 4, 2) := by decide +kernel
theorem dX4_countNamed_75 : decode cX4_countNamed 75 = .ok (.iload 4, 2) := by decide +kernel
theorem dX4_countNamed_77 : decode cX4_countNamed 77 = .ok (.ifCond .eq 29, 3) := by decide +kernel
theorem dX4_countNamed_80 : decode cX4_countNamed 80 = .ok (.aload_n 0, 1) := by decide +kernel
theorem dX4_countNamed_81 : decode cX4_countNamed 81 = .ok (.getfield 19, 3) := by decide +kernel
theorem dX4_countNamed_84 : decode cX4_countNamed 84 = .ok (.getfield 102, 3) := by decide +kernel
theorem dX4_countNamed_87 : decode cX4_countNamed 87 = .ok (.iload_n 3, 1) := by decide +kernel
theorem dX4_countNamed_88 : decode cX4_countNamed 88 = .ok (.iaload, 1) := by decide +kernel
theorem dX4_countNamed_89 : decode cX4_countNamed 89 = .ok (.iload_n 2, 1) := by decide +kernel
theorem dX4_countNamed_90 : decode cX4_countNamed 90 = .ok (.invokestatic 162, 3) := by decide +kernel
theorem dX4_countNamed_93 : decode cX4_countNamed 93 = .ok (.ifCond .eq 13, 3) := by decide +kernel
theorem dX4_countNamed_96 : decode cX4_countNamed 96 = .ok (.aload_n 0, 1) := by decide +kernel
theorem dX4_countNamed_97 : decode cX4_countNamed 97 = .ok (.getfield 47, 3) := by decide +kernel
theorem dX4_countNamed_100 : decode cX4_countNamed 100 = .ok (.iload_n 2, 1) := by decide +kernel
theorem dX4_countNamed_101 : decode cX4_countNamed 101 = .ok (.dup2, 1) := by decide +kernel
theorem dX4_countNamed_102 : decode cX4_countNamed 102 = .ok (.iaload, 1) := by decide +kernel
theorem dX4_countNamed_103 : decode cX4_countNamed 103 = .ok (.iconst 1, 1) := by decide +kernel
theorem dX4_countNamed_104 : decode cX4_countNamed 104 = .ok (.iadd, 1) := by decide +kernel
theorem dX4_countNamed_105 : decode cX4_countNamed 105 = .ok (.iastore, 1) := by decide +kernel
theorem dX4_countNamed_106 : decode cX4_countNamed 106 = .ok (.iinc 3 1, 3) := by decide +kernel
theorem dX4_countNamed_109 : decode cX4_countNamed 109 = .ok (.goto (-77), 3) := by decide +kernel
theorem dX4_countNamed_112 : decode cX4_countNamed 112 = .ok (.iinc 2 1, 3) := by decide +kernel
theorem dX4_countNamed_115 : decode cX4_countNamed 115 = .ok (.goto (-98), 3) := by decide +kernel
theorem dX4_countNamed_118 : decode cX4_countNamed 118 = .ok (.return_, 1) := by decide +kernel
theorem dX4_namedInAll_0 : decode cX4_namedInAll 0 = .ok (.iconst 0, 1) := by decide +kernel
theorem dX4_namedInAll_1 : decode cX4_namedInAll 1 = .ok (.istore_n 1, 1) := by decide +kernel
theorem dX4_namedInAll_2 : decode cX4_namedInAll 2 = .ok (.iconst 0, 1) := by decide +kernel
theorem dX4_namedInAll_3 : decode cX4_namedInAll 3 = .ok (.istore_n 2, 1) := by decide +kernel
theorem dX4_namedInAll_4 : decode cX4_namedInAll 4 = .ok (.iload_n 2, 1) := by decide +kernel
theorem dX4_namedInAll_5 : decode cX4_namedInAll 5 = .ok (.bipush 6, 2) := by decide +kernel
theorem dX4_namedInAll_7 : decode cX4_namedInAll 7 = .ok (.if_icmp .ge 21, 3) := by decide +kernel
theorem dX4_namedInAll_10 : decode cX4_namedInAll 10 = .ok (.aload_n 0, 1) := by decide +kernel
theorem dX4_namedInAll_11 : decode cX4_namedInAll 11 = .ok (.getfield 47, 3) := by decide +kernel
theorem dX4_namedInAll_14 : decode cX4_namedInAll 14 = .ok (.iload_n 2, 1) := by decide +kernel
theorem dX4_namedInAll_15 : decode cX4_namedInAll 15 = .ok (.iaload, 1) := by decide +kernel
theorem dX4_namedInAll_16 : decode cX4_namedInAll 16 = .ok (.ifCond .le 6, 3) := by decide +kernel
theorem dX4_namedInAll_19 : decode cX4_namedInAll 19 = .ok (.iinc 1 1, 3) := by decide +kernel
theorem dX4_namedInAll_22 : decode cX4_namedInAll 22 = .ok (.iinc 2 1, 3) := by decide +kernel
theorem dX4_namedInAll_25 : decode cX4_namedInAll 25 = .ok (.goto (-21), 3) := by decide +kernel
theorem dX4_namedInAll_28 : decode cX4_namedInAll 28 = .ok (.iload_n 1, 1) := by decide +kernel
theorem dX4_namedInAll_29 : decode cX4_namedInAll 29 = .ok (.ireturn, 1) := by decide +kernel
theorem dX4_namedAt_0 : decode cX4_namedAt 0 = .ok (.iconst 0, 1) := by decide +kernel
theorem dX4_namedAt_1 : decode cX4_namedAt 1 = .ok (.istore_n 2, 1) := by decide +kernel
theorem dX4_namedAt_2 : decode cX4_namedAt 2 = .ok (.iload_n 2, 1) := by decide +kernel
theorem dX4_namedAt_3 : decode cX4_namedAt 3 = .ok (.bipush 6, 2) := by decide +kernel
theorem dX4_namedAt_5 : decode cX4_namedAt 5 = .ok (.if_icmp .ge 29, 3) := by decide +kernel
theorem dX4_namedAt_8 : decode cX4_namedAt 8 = .ok (.aload_n 0, 1) := by decide +kernel
theorem dX4_namedAt_9 : decode cX4_namedAt 9 = .ok (.getfield 47, 3) := by decide +kernel
theorem dX4_namedAt_12 : decode cX4_namedAt 12 = .ok (.iload_n 2, 1) := by decide +kernel
theorem dX4_namedAt_13 : decode cX4_namedAt 13 = .ok (.iaload, 1) := by decide +kernel
theorem dX4_namedAt_14 : decode cX4_namedAt 14 = .ok (.ifCond .le 14, 3) := by decide +kernel
theorem dX4_namedAt_17 : decode cX4_namedAt 17 = .ok (.aload_n 0, 1) := by decide +kernel
theorem dX4_namedAt_18 : decode cX4_namedAt 18 = .ok (.iload_n 2, 1) := by decide +kernel
theorem dX4_namedAt_19 : decode cX4_namedAt 19 = .ok (.invokevirtual 232, 3) := by decide +kernel
theorem dX4_namedAt_22 : decode cX4_namedAt 22 = .ok (.iload_n 1, 1) := by decide +kernel
theorem dX4_namedAt_23 : decode cX4_namedAt 23 = .ok (.if_icmp .ne 5, 3) := by decide +kernel
theorem dX4_namedAt_26 : decode cX4_namedAt 26 = .ok (.iload_n 2, 1) := by decide +kernel
theorem dX4_namedAt_27 : decode cX4_namedAt 27 = .ok (.ireturn, 1) := by decide +kernel
theorem dX4_namedAt_28 : decode cX4_namedAt 28 = .ok (.iinc 2 1, 3) := by decide +kernel
theorem dX4_namedAt_31 : decode cX4_namedAt 31 = .ok (.goto (-29), 3) := by decide +kernel
theorem dX4_namedAt_34 : decode cX4_namedAt 34 = .ok (.bipush (-6), 2) := by decide +kernel
theorem dX4_namedAt_36 : decode cX4_namedAt 36 = .ok (.ireturn, 1) := by decide +kernel
theorem dX4_namedAhead_0 : decode cX4_namedAhead 0 = .ok (.iconst 0, 1) := by decide +kernel
theorem dX4_namedAhead_1 : decode cX4_namedAhead 1 = .ok (.istore_n 2, 1) := by decide +kernel
theorem dX4_namedAhead_2 : decode cX4_namedAhead 2 = .ok (.iconst 0, 1) := by decide +kernel
theorem dX4_namedAhead_3 : decode cX4_namedAhead 3 = .ok (.istore_n 3, 1) := by decide +kernel
theorem dX4_namedAhead_4 : decode cX4_namedAhead 4 = .ok (.iload_n 3, 1) := by decide +kernel
theorem dX4_namedAhead_5 : decode cX4_namedAhead 5 = .ok (.bipush 6, 2) := by decide +kernel
theorem dX4_namedAhead_7 : decode cX4_namedAhead 7 = .ok (.if_icmp .ge 47, 3) := by decide +kernel
theorem dX4_namedAhead_10 : decode cX4_namedAhead 10 = .ok (.aload_n 0, 1) := by decide +kernel
theorem dX4_namedAhead_11 : decode cX4_namedAhead 11 = .ok (.getfield 47, 3) := by decide +kernel
theorem dX4_namedAhead_14 : decode cX4_namedAhead 14 = .ok (.iload_n 3, 1) := by decide +kernel
theorem dX4_namedAhead_15 : decode cX4_namedAhead 15 = .ok (.iaload, 1) := by decide +kernel
theorem dX4_namedAhead_16 : decode cX4_namedAhead 16 = .ok (.aload_n 0, 1) := by decide +kernel
theorem dX4_namedAhead_17 : decode cX4_namedAhead 17 = .ok (.getfield 47, 3) := by decide +kernel
theorem dX4_namedAhead_20 : decode cX4_namedAhead 20 = .ok (.iload_n 1, 1) := by decide +kernel
theorem dX4_namedAhead_21 : decode cX4_namedAhead 21 = .ok (.iaload, 1) := by decide +kernel
theorem dX4_namedAhead_22 : decode cX4_namedAhead 22 = .ok (.if_icmp .gt 23, 3) := by decide +kernel
theorem dX4_namedAhead_25 : decode cX4_namedAhead 25 = .ok (.aload_n 0, 1) := by decide +kernel
theorem dX4_namedAhead_26 : decode cX4_namedAhead 26 = .ok (.getfield 47, 3) := by decide +kernel
theorem dX4_namedAhead_29 : decode cX4_namedAhead 29 = .ok (.iload_n 3, 1) := by decide +kernel
theorem dX4_namedAhead_30 : decode cX4_namedAhead 30 = .ok (.iaload, 1) := by decide +kernel
theorem dX4_namedAhead_31 : decode cX4_namedAhead 31 = .ok (.aload_n 0, 1) := by decide +kernel
theorem dX4_namedAhead_32 : decode cX4_namedAhead 32 = .ok (.getfield 47, 3) := by decide +kernel
theorem dX4_namedAhead_35 : decode cX4_namedAhead 35 = .ok (.iload_n 1, 1) := by decide +kernel
theorem dX4_namedAhead_36 : decode cX4_namedAhead 36 = .ok (.iaload, 1) := by decide +kernel
theorem dX4_namedAhead_37 : decode cX4_namedAhead 37 = .ok (.if_icmp .ne 11, 3) := by decide +kernel
theorem dX4_namedAhead_40 : decode cX4_namedAhead 40 = .ok (.iload_n 3, 1) := by decide +kernel
theorem dX4_namedAhead_41 : decode cX4_namedAhead 41 = .ok (.iload_n 1, 1) := by decide +kernel
theorem dX4_namedAhead_42 : decode cX4_namedAhead 42 = .ok (.if_icmp .ge 6, 3) := by decide +kernel
theorem dX4_namedAhead_45 : decode cX4_namedAhead 45 = .ok (.iinc 2 1, 3) := by decide +kernel
theorem dX4_namedAhead_48 : decode cX4_namedAhead 48 = .ok (.iinc 3 1, 3) := by decide +kernel
theorem dX4_namedAhead_51 : decode cX4_namedAhead 51 = .ok (.goto (-47), 3) := by decide +kernel
theorem dX4_namedAhead_54 : decode cX4_namedAhead 54 = .ok (.iload_n 2, 1) := by decide +kernel
theorem dX4_namedAhead_55 : decode cX4_namedAhead 55 = .ok (.ireturn, 1) := by decide +kernel
theorem dX4_toldKind_0 : decode cX4_toldKind 0 = .ok (.iload_n 1, 1) := by decide +kernel
theorem dX4_toldKind_1 : decode cX4_toldKind 1 = .ok (.bipush 8, 2) := by decide +kernel
theorem dX4_toldKind_3 : decode cX4_toldKind 3 = .ok (.idiv, 1) := by decide +kernel
theorem dX4_toldKind_4 : decode cX4_toldKind 4 = .ok (.istore_n 2, 1) := by decide +kernel
theorem dX4_toldKind_5 : decode cX4_toldKind 5 = .ok (.iload_n 1, 1) := by decide +kernel
theorem dX4_toldKind_6 : decode cX4_toldKind 6 = .ok (.bipush 8, 2) := by decide +kernel
theorem dX4_toldKind_8 : decode cX4_toldKind 8 = .ok (.irem, 1) := by decide +kernel
theorem dX4_toldKind_9 : decode cX4_toldKind 9 = .ok (.istore_n 3, 1) := by decide +kernel
theorem dX4_toldKind_10 : decode cX4_toldKind 10 = .ok (.iload_n 2, 1) := by decide +kernel
theorem dX4_toldKind_11 : decode cX4_toldKind 11 = .ok (.invokestatic 89, 3) := by decide +kernel
theorem dX4_toldKind_14 : decode cX4_toldKind 14 = .ok (.ifCond .eq 26, 3) := by decide +kernel
theorem dX4_toldKind_17 : decode cX4_toldKind 17 = .ok (.iload_n 3, 1) := by decide +kernel
theorem dX4_toldKind_18 : decode cX4_toldKind 18 = .ok (.invokestatic 89, 3) := by decide +kernel
theorem dX4_toldKind_21 : decode cX4_toldKind 21 = .ok (.ifCond .eq 19, 3) := by decide +kernel
theorem dX4_toldKind_24 : decode cX4_toldKind 24 = .ok (.aload_n 0, 1) := by decide +kernel
theorem dX4_toldKind_25 : decode cX4_toldKind 25 = .ok (.getfield 19, 3) := by decide +kernel
theorem dX4_toldKind_28 : decode cX4_toldKind 28 = .ok (.getfield 108, 3) := by decide +kernel
theorem dX4_toldKind_31 : decode cX4_toldKind 31 = .ok (.iload_n 2, 1) := by decide +kernel
theorem dX4_toldKind_32 : decode cX4_toldKind 32 = .ok (.iload_n 3, 1) := by decide +kernel
theorem dX4_toldKind_33 : decode cX4_toldKind 33 = .ok (.invokestatic 111, 3) := by decide +kernel
theorem dX4_toldKind_36 : decode cX4_toldKind 36 = .ok (.iaload, 1) := by decide +kernel
theorem dX4_toldKind_37 : decode cX4_toldKind 37 = .ok (.goto 5, 3) := by decide +kernel
theorem dX4_toldKind_40 : decode cX4_toldKind 40 = .ok (.bipush (-2), 2) := by decide +kernel
theorem dX4_toldKind_42 : decode cX4_toldKind 42 = .ok (.ireturn, 1) := by decide +kernel
theorem dX4_toldPiece_0 : decode cX4_toldPiece 0 = .ok (.iload_n 2, 1) := by decide +kernel
theorem dX4_toldPiece_1 : decode cX4_toldPiece 1 = .ok (.invokestatic 89, 3) := by decide +kernel
theorem dX4_toldPiece_4 : decode cX4_toldPiece 4 = .ok (.ifCond .ne 6, 3) := by decide +kernel
theorem dX4_toldPiece_7 : decode cX4_toldPiece 7 = .ok (.bipush (-2), 2) := by decide +kernel
theorem dX4_toldPiece_9 : decode cX4_toldPiece 9 = .ok (.ireturn, 1) := by decide +kernel
theorem dX4_toldPiece_10 : decode cX4_toldPiece 10 = .ok (.iload_n 1, 1) := by decide +kernel
theorem dX4_toldPiece_11 : decode cX4_toldPiece 11 = .ok (.tableswitch 69 1 4 #[29, 39, 49, 59], 29) := by decide +kernel
theorem dX4_toldPiece_40 : decode cX4_toldPiece 40 = .ok (.aload_n 0, 1) := by decide +kernel
theorem dX4_toldPiece_41 : decode cX4_toldPiece 41 = .ok (.getfield 19, 3) := by decide +kernel
theorem dX4_toldPiece_44 : decode cX4_toldPiece 44 = .ok (.getfield 92, 3) := by decide +kernel
theorem dX4_toldPiece_47 : decode cX4_toldPiece 47 = .ok (.iload_n 2, 1) := by decide +kernel
theorem dX4_toldPiece_48 : decode cX4_toldPiece 48 = .ok (.iaload, 1) := by decide +kernel
theorem dX4_toldPiece_49 : decode cX4_toldPiece 49 = .ok (.ireturn, 1) := by decide +kernel
theorem dX4_toldPiece_50 : decode cX4_toldPiece 50 = .ok (.aload_n 0, 1) := by decide +kernel
theorem dX4_toldPiece_51 : decode cX4_toldPiece 51 = .ok (.getfield 19, 3) := by decide +kernel
theorem dX4_toldPiece_54 : decode cX4_toldPiece 54 = .ok (.getfield 102, 3) := by decide +kernel
theorem dX4_toldPiece_57 : decode cX4_toldPiece 57 = .ok (.iload_n 2, 1) := by decide +kernel
theorem dX4_toldPiece_58 : decode cX4_toldPiece 58 = .ok (.iaload, 1) := by decide +kernel
theorem dX4_toldPiece_59 : decode cX4_toldPiece 59 = .ok (.ireturn, 1) := by decide +kernel
theorem dX4_toldPiece_60 : decode cX4_toldPiece 60 = .ok (.aload_n 0, 1) := by decide +kernel
theorem dX4_toldPiece_61 : decode cX4_toldPiece 61 = .ok (.getfield 19, 3) := by decide +kernel
theorem dX4_toldPiece_64 : decode cX4_toldPiece 64 = .ok (.getfield 105, 3) := by decide +kernel
theorem dX4_toldPiece_67 : decode cX4_toldPiece 67 = .ok (.iload_n 2, 1) := by decide +kernel
theorem dX4_toldPiece_68 : decode cX4_toldPiece 68 = .ok (.iaload, 1) := by decide +kernel
theorem dX4_toldPiece_69 : decode cX4_toldPiece 69 = .ok (.ireturn, 1) := by decide +kernel
theorem dX4_toldPiece_70 : decode cX4_toldPiece 70 = .ok (.aload_n 0, 1) := by decide +kernel
theorem dX4_toldPiece_71 : decode cX4_toldPiece 71 = .ok (.getfield 19, 3) := by decide +kernel
theorem dX4_toldPiece_74 : decode cX4_toldPiece 74 = .ok (.getfield 99, 3) := by decide +kernel
theorem dX4_toldPiece_77 : decode cX4_toldPiece 77 = .ok (.iload_n 2, 1) := by decide +kernel
theorem dX4_toldPiece_78 : decode cX4_toldPiece 78 = .ok (.iaload, 1) := by decide +kernel
theorem dX4_toldPiece_79 : decode cX4_toldPiece 79 = .ok (.ireturn, 1) := by decide +kernel
theorem dX4_toldPiece_80 : decode cX4_toldPiece 80 = .ok (.bipush (-2), 2) := by decide +kernel
theorem dX4_toldPiece_82 : decode cX4_toldPiece 82 = .ok (.ireturn, 1) := by decide +kernel
theorem dX5_init_0 : decode cX5_init 0 = .ok (.aload_n 0, 1) := by decide +kernel
theorem dX5_init_1 : decode cX5_init 1 = .ok (.invokespecial 1, 3) := by decide +kernel
theorem dX5_init_4 : decode cX5_init 4 = .ok (.aload_n 0, 1) := by decide +kernel
theorem dX5_init_5 : decode cX5_init 5 = .ok (.bipush 20, 2) := by decide +kernel
theorem dX5_init_7 : decode cX5_init 7 = .ok (.newarray .int, 2) := by decide +kernel
theorem dX5_init_9 : decode cX5_init 9 = .ok (.putfield 7, 3) := by decide +kernel
theorem dX5_init_12 : decode cX5_init 12 = .ok (.aload_n 0, 1) := by decide +kernel
theorem dX5_init_13 : decode cX5_init 13 = .ok (.iconst 5, 1) := by decide +kernel
theorem dX5_init_14 : decode cX5_init 14 = .ok (.newarray .int, 2) := by decide +kernel
theorem dX5_init_16 : decode cX5_init 16 = .ok (.putfield 13, 3) := by decide +kernel
theorem dX5_init_19 : decode cX5_init 19 = .ok (.aload_n 0, 1) := by decide +kernel
theorem dX5_init_20 : decode cX5_init 20 = .ok (.iconst 5, 1) := by decide +kernel
theorem dX5_init_21 : decode cX5_init 21 = .ok (.newarray .int, 2) := by decide +kernel
theorem dX5_init_23 : decode cX5_init 23 = .ok (.putfield 16, 3) := by decide +kernel
theorem dX5_init_26 : decode cX5_init 26 = .ok (.aload_n 0, 1) := by decide +kernel
theorem dX5_init_27 : decode cX5_init 27 = .ok (.iconst 5, 1) := by decide +kernel
theorem dX5_init_28 : decode cX5_init 28 = .ok (.newarray .int, 2) := by decide +kernel
theorem dX5_init_30 : decode cX5_init 30 = .ok (.putfield 19, 3) := by decide +kernel
theorem dX5_init_33 : decode cX5_init 33 = .ok (.aload_n 0, 1) := by decide +kernel
theorem dX5_init_34 : decode cX5_init 34 = .ok (.iconst 5, 1) := by decide +kernel
theorem dX5_init_35 : decode cX5_init 35 = .ok (.newarray .int, 2) := by decide +kernel
theorem dX5_init_37 : decode cX5_init 37 = .ok (.putfield 22, 3) := by decide +kernel
theorem dX5_init_40 : decode cX5_init 40 = .ok (.aload_n 0, 1) := by decide +kernel
theorem dX5_init_41 : decode cX5_init 41 = .ok (.bipush 24, 2) := by decide +kernel
theorem dX5_init_43 : decode cX5_init 43 = .ok (.newarray .int, 2) := by decide +kernel
theorem dX5_init_45 : decode cX5_init 45 = .ok (.putfield 25, 3) := by decide +kernel
theorem dX5_init_48 : decode cX5_init 48 = .ok (.aload_n 0, 1) := by decide +kernel
theorem dX5_init_49 : decode cX5_init 49 = .ok (.bipush 36, 2) := by decide +kernel
theorem dX5_init_51 : decode cX5_init 51 = .ok (.newarray .int, 2) := by decide +kernel
theorem dX5_init_53 : decode cX5_init 53 = .ok (.putfield 28, 3) := by decide +kernel
theorem dX5_init_56 : decode cX5_init 56 = .ok (.aload_n 0, 1) := by decide +kernel
theorem dX5_init_57 : decode cX5_init 57 = .ok (.iconst 5, 1) := by decide +kernel
theorem dX5_init_58 : decode cX5_init 58 = .ok (.putfield 31, 3) := by decide +kernel
theorem dX5_init_61 : decode cX5_init 61 = .ok (.aload_n 0, 1) := by decide +kernel
theorem dX5_init_62 : decode cX5_init 62 = .ok (.iconst 5, 1) := by decide +kernel
theorem dX5_init_63 : decode cX5_init 63 = .ok (.putfield 35, 3) := by decide +kernel
theorem dX5_init_66 : decode cX5_init 66 = .ok (.aload_n 0, 1) := by decide +kernel
theorem dX5_init_67 : decode cX5_init 67 = .ok (.iconst 4, 1) := by decide +kernel
theorem dX5_init_68 : decode cX5_init 68 = .ok (.newarray .int, 2) := by decide +kernel
theorem dX5_init_70 : decode cX5_init 70 = .ok (.putfield 38, 3) := by decide +kernel
theorem dX5_init_73 : decode cX5_init 73 = .ok (.aload_n 0, 1) := by decide +kernel
theorem dX5_init_74 : decode cX5_init 74 = .ok (.bipush 6, 2) := by decide +kernel
theorem dX5_init_76 : decode cX5_init 76 = .ok (.newarray .int, 2) := by decide +kernel
theorem dX5_init_78 : decode cX5_init 78 = .ok (.putfield 41, 3) := by decide +kernel
theorem dX5_init_81 : decode cX5_init 81 = .ok (.aload_n 0, 1) := by decide +kernel
theorem dX5_init_82 : decode cX5_init 82 = .ok (.bipush 6, 2) := by decide +kernel
theorem dX5_init_84 : decode cX5_init 84 = .ok (.newarray .int, 2) := by decide +kernel
theorem dX5_init_86 : decode cX5_init 86 = .ok (.putfield 44, 3) := by decide +kernel
theorem dX5_init_89 : decode cX5_init 89 = .ok (.aload_n 0, 1) := by decide +kernel
theorem dX5_init_90 : decode cX5_init 90 = .ok (.bipush 6, 2) := by decide +kernel
theorem dX5_init_92 : decode cX5_init 92 = .ok (.newarray .int, 2) := by decide +kernel
theorem dX5_init_94 : decode cX5_init 94 = .ok (.putfield 47, 3) := by decide +kernel
theorem dX5_init_97 : decode cX5_init 97 = .ok (.aload_n 0, 1) := by decide +kernel
theorem dX5_init_98 : decode cX5_init 98 = .ok (.bipush 36, 2) := by decide +kernel
theorem dX5_init_100 : decode cX5_init 100 = .ok (.newarray .int, 2) := by decide +kernel
theorem dX5_init_102 : decode cX5_init 102 = .ok (.putfield 50, 3) := by decide +kernel
theorem dX5_init_105 : decode cX5_init 105 = .ok (.aload_n 0, 1) := by decide +kernel
theorem dX5_init_106 : decode cX5_init 106 = .ok (.bipush 6, 2) := by decide +kernel
theorem dX5_init_108 : decode cX5_init 108 = .ok (.newarray .int, 2) := by decide +kernel
theorem dX5_init_110 : decode cX5_init 110 = .ok (.putfield 53, 3) := by decide +kernel
theorem dX5_init_113 : decode cX5_init 113 = .ok (.aload_n 0, 1) := by decide +kernel
theorem dX5_init_114 : decode cX5_init 114 = .ok (.bipush 6, 2) := by decide +kernel
theorem dX5_init_116 : decode cX5_init 116 = .ok (.newarray .int, 2) := by decide +kernel
theorem dX5_init_118 : decode cX5_init 118 = .ok (.putfield 56, 3) := by decide +kernel
theorem dX5_init_121 : decode cX5_init 121 = .ok (.aload_n 0, 1) := by decide +kernel
theorem dX5_init_122 : decode cX5_init 122 = .ok (.bipush 6, 2) := by decide +kernel
theorem dX5_init_124 : decode cX5_init 124 = .ok (.newarray .int, 2) := by decide +kernel
theorem dX5_init_126 : decode cX5_init 126 = .ok (.putfield 59, 3) := by decide +kernel
theorem dX5_init_129 : decode cX5_init 129 = .ok (.aload_n 0, 1) := by decide +kernel
theorem dX5_init_130 : decode cX5_init 130 = .ok (.sipush 164, 3) := by decide +kernel
theorem dX5_init_133 : decode cX5_init 133 = .ok (.newarray .int, 2) := by decide +kernel
theorem dX5_init_135 : decode cX5_init 135 = .ok (.putfield 62, 3) := by decide +kernel
theorem dX5_init_138 : decode cX5_init 138 = .ok (.aload_n 0, 1) := by decide +kernel
theorem dX5_init_139 : decode cX5_init 139 = .ok (.iconst 2, 1) := by decide +kernel
theorem dX5_init_140 : decode cX5_init 140 = .ok (.newarray .boolean, 2) := by decide +kernel
theorem dX5_init_142 : decode cX5_init 142 = .ok (.putfield 65, 3) := by decide +kernel
theorem dX5_init_145 : decode cX5_init 145 = .ok (.iconst 0, 1) := by decide +kernel
theorem dX5_init_146 : decode cX5_init 146 = .ok (.istore_n 1, 1) := by decide +kernel
theorem dX5_init_147 : decode cX5_init 147 = .ok (.iload_n 1, 1) := by decide +kernel
theorem dX5_init_148 : decode cX5_init 148 = .ok (.iconst 5, 1) := by decide +kernel
theorem dX5_init_149 : decode cX5_init 149 = .ok (.if_icmp .ge 32, 3) := by decide +kernel
theorem dX5_init_152 : decode cX5_init 152 = .ok (.aload_n 0, 1) := by decide +kernel
theorem dX5_init_153 : decode cX5_init 153 = .ok (.getfield 16, 3) := by decide +kernel
theorem dX5_init_156 : decode cX5_init 156 = .ok (.iload_n 1, 1) := by decide +kernel
theorem dX5_init_157 : decode cX5_init 157 = .ok (.iconst 3, 1) := by decide +kernel
theorem dX5_init_158 : decode cX5_init 158 = .ok (.iastore, 1) := by decide +kernel
theorem dX5_init_159 : decode cX5_init 159 = .ok (.aload_n 0, 1) := by decide +kernel
theorem dX5_init_160 : decode cX5_init 160 = .ok (.getfield 19, 3) := by decide +kernel
theorem dX5_init_163 : decode cX5_init 163 = .ok (.iload_n 1, 1) := by decide +kernel
theorem dX5_init_164 : decode cX5_init 164 = .ok (.bipush 31, 2) := by decide +kernel
theorem dX5_init_166 : decode cX5_init 166 = .ok (.iastore, 1) := by decide +kernel
theorem dX5_init_167 : decode cX5_init 167 = .ok (.aload_n 0, 1) := by decide +kernel
theorem dX5_init_168 : decode cX5_init 168 = .ok (.getfield 22, 3) := by decide +kernel
theorem dX5_init_171 : decode cX5_init 171 = .ok (.iload_n 1, 1) := by decide +kernel
theorem dX5_init_172 : decode cX5_init 172 = .ok (.bipush (-6), 2) := by decide +kernel
theorem dX5_init_174 : decode cX5_init 174 = .ok (.iastore, 1) := by decide +kernel
theorem dX5_init_175 : decode cX5_init 175 = .ok (.iinc 1 1, 3) := by decide +kernel
theorem dX5_init_178 : decode cX5_init 178 = .ok (.goto (-31), 3) := by decide +kernel
theorem dX5_init_181 : decode cX5_init 181 = .ok (.iconst 0, 1) := by decide +kernel
theorem dX5_init_182 : decode cX5_init 182 = .ok (.istore_n 1, 1) := by decide +kernel
theorem dX5_init_183 : decode cX5_init 183 = .ok (.iload_n 1, 1) := by decide +kernel
theorem dX5_init_184 : decode cX5_init 184 = .ok (.bipush 6, 2) := by decide +kernel
theorem dX5_init_186 : decode cX5_init 186 = .ok (.if_icmp .ge 41, 3) := by decide +kernel
theorem dX5_init_189 : decode cX5_init 189 = .ok (.aload_n 0, 1) := by decide +kernel
theorem dX5_init_190 : decode cX5_init 190 = .ok (.getfield 25, 3) := by decide +kernel
theorem dX5_init_193 : decode cX5_init 193 = .ok (.iconst 4, 1) := by decide +kernel
theorem dX5_init_194 : decode cX5_init 194 = .ok (.iload_n 1, 1) := by decide +kernel
theorem dX5_init_195 : decode cX5_init 195 = .ok (.imul, 1) := by decide +kernel
theorem dX5_init_196 : decode cX5_init 196 = .ok (.iconst 1, 1) := by decide +kernel
theorem dX5_init_197 : decode cX5_init 197 = .ok (.iastore, 1) := by decide +kernel
theorem dX5_init_198 : decode cX5_init 198 = .ok (.aload_n 0, 1) := by decide +kernel
theorem dX5_init_199 : decode cX5_init 199 = .ok (.getfield 25, 3) := by decide +kernel
theorem dX5_init_202 : decode cX5_init 202 = .ok (.iconst 4, 1) := by decide +kernel
theorem dX5_init_203 : decode cX5_init 203 = .ok (.iload_n 1, 1) := by decide +kernel
theorem dX5_init_204 : decode cX5_init 204 = .ok (.imul, 1) := by decide +kernel
theorem dX5_init_205 : decode cX5_init 205 = .ok (.iconst 2, 1) := by decide +kernel
theorem dX5_init_206 : decode cX5_init 206 = .ok (.iadd, 1) := by decide +kernel
theorem dX5_init_207 : decode cX5_init 207 = .ok (.iconst 1, 1) := by decide +kernel
theorem dX5_init_208 : decode cX5_init 208 = .ok (.iastore, 1) := by decide +kernel
theorem dX5_init_209 : decode cX5_init 209 = .ok (.aload_n 0, 1) := by decide +kernel
theorem dX5_init_210 : decode cX5_init 210 = .ok (.getfield 25, 3) := by decide +kernel
theorem dX5_init_213 : decode cX5_init 213 = .ok (.iconst 4, 1) := by decide +kernel
theorem dX5_init_214 : decode cX5_init 214 = .ok (.iload_n 1, 1) := by decide +kernel
theorem dX5_init_215 : decode cX5_init 215 = .ok (.imul, 1) := by decide +kernel
theorem dX5_init_216 : decode cX5_init 216 = .ok (.iconst 3, 1) := by decide +kernel
theorem dX5_init_217 : decode cX5_init 217 = .ok (.iadd, 1) := by decide +kernel
theorem dX5_init_218 : decode cX5_init 218 = .ok (.bipush 10, 2) := by decide +kernel
theorem dX5_init_220 : decode cX5_init 220 = .ok (.iastore, 1) := by decide +kernel
theorem dX5_init_221 : decode cX5_init 221 = .ok (.iinc 1 1, 3) := by decide +kernel
theorem dX5_init_224 : decode cX5_init 224 = .ok (.goto (-41), 3) := by decide +kernel
theorem dX5_init_227 : decode cX5_init 227 = .ok (.iconst 0, 1) := by decide +kernel
theorem dX5_init_228 : decode cX5_init 228 = .ok (.istore_n 1, 1) := by decide +kernel
theorem dX5_init_229 : decode cX5_init 229 = .ok (.iload_n 1, 1) := by decide +kernel
theorem dX5_init_230 : decode cX5_init 230 = .ok (.bipush 36, 2) := by decide +kernel
theorem dX5_init_232 : decode cX5_init 232 = .ok (.if_icmp .ge 17, 3) := by decide +kernel
theorem dX5_init_235 : decode cX5_init 235 = .ok (.aload_n 0, 1) := by decide +kernel
theorem dX5_init_236 : decode cX5_init 236 = .ok (.getfield 28, 3) := by decide +kernel
theorem dX5_init_239 : decode cX5_init 239 = .ok (.iload_n 1, 1) := by decide +kernel
theorem dX5_init_240 : decode cX5_init 240 = .ok (.bipush (-6), 2) := by decide +kernel
theorem dX5_init_242 : decode cX5_init 242 = .ok (.iastore, 1) := by decide +kernel
theorem dX5_init_243 : decode cX5_init 243 = .ok (.iinc 1 1, 3) := by decide +kernel
theorem dX5_init_246 : decode cX5_init 246 = .ok (.goto (-17), 3) := by decide +kernel
theorem dX5_init_249 : decode cX5_init 249 = .ok (.return_, 1) := by decide +kernel
theorem dX5_in_0 : decode cX5_in 0 = .ok (.iload_n 0, 1) := by decide +kernel
theorem dX5_in_1 : decode cX5_in 1 = .ok (.iload_n 1, 1) := by decide +kernel
theorem dX5_in_2 : decode cX5_in 2 = .ok (.if_icmp .lt 12, 3) := by decide +kernel
theorem dX5_in_5 : decode cX5_in 5 = .ok (.iload_n 0, 1) := by decide +kernel
theorem dX5_in_6 : decode cX5_in 6 = .ok (.iload_n 2, 1) := by decide +kernel
theorem dX5_in_7 : decode cX5_in 7 = .ok (.if_icmp .gt 7, 3) := by decide +kernel
theorem dX5_in_10 : decode cX5_in 10 = .ok (.iconst 1, 1) := by decide +kernel
theorem dX5_in_11 : decode cX5_in 11 = .ok (.goto 4, 3) := by decide +kernel
theorem dX5_in_14 : decode cX5_in 14 = .ok (.iconst 0, 1) := by decide +kernel
theorem dX5_in_15 : decode cX5_in 15 = .ok (.ireturn, 1) := by decide +kernel
theorem dX5_isTerms_0 : decode cX5_isTerms 0 = .ok (.iload_n 0, 1) := by decide +kernel
theorem dX5_isTerms_1 : decode cX5_isTerms 1 = .ok (.iconst 0, 1) := by decide +kernel
theorem dX5_isTerms_2 : decode cX5_isTerms 2 = .ok (.iconst 4, 1) := by decide +kernel
theorem dX5_isTerms_3 : decode cX5_isTerms 3 = .ok (.invokestatic 69, 3) := by decide +kernel
theorem dX5_isTerms_6 : decode cX5_isTerms 6 = .ok (.ireturn, 1) := by decide +kernel
theorem dX5_isPiece_0 : decode cX5_isPiece 0 = .ok (.iload_n 0, 1) := by decide +kernel
theorem dX5_isPiece_1 : decode cX5_isPiece 1 = .ok (.iconst 0, 1) := by decide +kernel
theorem dX5_isPiece_2 : decode cX5_isPiece 2 = .ok (.iconst 5, 1) := by decide +kernel
theorem dX5_isPiece_3 : decode cX5_isPiece 3 = .ok (.invokestatic 69, 3) := by decide +kernel
theorem dX5_isPiece_6 : decode cX5_isPiece 6 = .ok (.ireturn, 1) := by decide +kernel
theorem dX5_has_0 : decode cX5_has 0 = .ok (.iload_n 0, 1) := by decide +kernel
theorem dX5_has_1 : decode cX5_has 1 = .ok (.iload_n 1, 1) := by decide +kernel
theorem dX5_has_2 : decode cX5_has 2 = .ok (.ishr, 1) := by decide +kernel
theorem dX5_has_3 : decode cX5_has 3 = .ok (.iconst 1, 1) := by decide +kernel
theorem dX5_has_4 : decode cX5_has 4 = .ok (.iand, 1) := by decide +kernel
theorem dX5_has_5 : decode cX5_has 5 = .ok (.iconst 1, 1) := by decide +kernel
theorem dX5_has_6 : decode cX5_has 6 = .ok (.if_icmp .ne 7, 3) := by decide +kernel
theorem dX5_has_9 : decode cX5_has 9 = .ok (.iconst 1, 1) := by decide +kernel
theorem dX5_has_10 : decode cX5_has 10 = .ok (.goto 4, 3) := by decide +kernel
theorem dX5_has_13 : decode cX5_has 13 = .ok (.iconst 0, 1) := by decide +kernel
theorem dX5_has_14 : decode cX5_has 14 = .ok (.ireturn, 1) := by decide +kernel
theorem dX5_bits_0 : decode cX5_bits 0 = .ok (.iconst 0, 1) := by decide +kernel
theorem dX5_bits_1 : decode cX5_bits 1 = .ok (.istore_n 1, 1) := by decide +kernel
theorem dX5_bits_2 : decode cX5_bits 2 = .ok (.iconst 0, 1) := by decide +kernel
theorem dX5_bits_3 : decode cX5_bits 3 = .ok (.istore_n 2, 1) := by decide +kernel
theorem dX5_bits_4 : decode cX5_bits 4 = .ok (.iload_n 2, 1) := by decide +kernel
theorem dX5_bits_5 : decode cX5_bits 5 = .ok (.bipush 6, 2) := by decide +kernel
theorem dX5_bits_7 : decode cX5_bits 7 = .ok (.if_icmp .ge 17, 3) := by decide +kernel
theorem dX5_bits_10 : decode cX5_bits 10 = .ok (.iload_n 1, 1) := by decide +kernel
theorem dX5_bits_11 : decode cX5_bits 11 = .ok (.iload_n 0, 1) := by decide +kernel
theorem dX5_bits_12 : decode cX5_bits 12 = .ok (.iload_n 2, 1) := by decide +kernel
theorem dX5_bits_13 : decode cX5_bits 13 = .ok (.ishr, 1) := by decide +kernel
theorem dX5_bits_14 : decode cX5_bits 14 = .ok (.iconst 1, 1) := by decide +kernel
theorem dX5_bits_15 : decode cX5_bits 15 = .ok (.iand, 1) := by decide +kernel
theorem dX5_bits_16 : decode cX5_bits 16 = .ok (.iadd, 1) := by decide +kernel
theorem dX5_bits_17 : decode cX5_bits 17 = .ok (.istore_n 1, 1) := by decide +kernel
theorem dX5_bits_18 : decode cX5_bits 18 = .ok (.iinc 2 1, 3) := by decide +kernel
theorem dX5_bits_21 : decode cX5_bits 21 = .ok (.goto (-17), 3) := by decide +kernel
theorem dX5_bits_24 : decode cX5_bits 24 = .ok (.iload_n 1, 1) := by decide +kernel
theorem dX5_bits_25 : decode cX5_bits 25 = .ok (.ireturn, 1) := by decide +kernel
theorem dX5_say_0 : decode cX5_say 0 = .ok (.iload_n 1, 1) := by decide +kernel
theorem dX5_say_1 : decode cX5_say 1 = .ok (.bipush 33, 2) := by decide +kernel
theorem dX5_say_3 : decode cX5_say 3 = .ok (.bipush 126, 2) := by decide +kernel
theorem dX5_say_5 : decode cX5_say 5 = .ok (.invokestatic 69, 3) := by decide +kernel
theorem dX5_say_8 : decode cX5_say 8 = .ok (.ifCond .ne 6, 3) := by decide +kernel
theorem dX5_say_11 : decode cX5_say 11 = .ok (.bipush (-2), 2) := by decide +kernel
theorem dX5_say_13 : decode cX5_say 13 = .ok (.ireturn, 1) := by decide +kernel
theorem dX5_say_14 : decode cX5_say 14 = .ok (.aload_n 0, 1) := by decide +kernel
theorem dX5_say_15 : decode cX5_say 15 = .ok (.getfield 73, 3) := by decide +kernel
theorem dX5_say_18 : decode cX5_say 18 = .ok (.bipush 20, 2) := by decide +kernel
theorem dX5_say_20 : decode cX5_say 20 = .ok (.if_icmp .ne 6, 3) := by decide +kernel
theorem dX5_say_23 : decode cX5_say 23 = .ok (.bipush (-4), 2) := by decide +kernel
theorem dX5_say_25 : decode cX5_say 25 = .ok (.ireturn, 1) := by decide +kernel
theorem dX5_say_26 : decode cX5_say 26 = .ok (.aload_n 0, 1) := by decide +kernel
theorem dX5_say_27 : decode cX5_say 27 = .ok (.getfield 7, 3) := by decide +kernel
theorem dX5_say_30 : decode cX5_say 30 = .ok (.aload_n 0, 1) := by decide +kernel
theorem dX5_say_31 : decode cX5_say 31 = .ok (.getfield 73, 3) := by decide +kernel
theorem dX5_say_34 : decode cX5_say 34 = .ok (.iload_n 1, 1) := by decide +kernel
theorem dX5_say_35 : decode cX5_say 35 = .ok (.iastore, 1) := by decide +kernel
theorem dX5_say_36 : decode cX5_say 36 = .ok (.aload_n 0, 1) := by decide +kernel
theorem dX5_say_37 : decode cX5_say 37 = .ok (.dup, 1) := by decide +kernel
theorem dX5_say_38 : decode cX5_say 38 = .ok (.getfield 73, 3) := by decide +kernel
theorem dX5_say_41 : decode cX5_say 41 = .ok (.iconst 1, 1) := by decide +kernel
theorem dX5_say_42 : decode cX5_say 42 = .ok (.iadd, 1) := by decide +kernel
theorem dX5_say_43 : decode cX5_say 43 = .ok (.putfield 73, 3) := by decide +kernel
theorem dX5_say_46 : decode cX5_say 46 = .ok (.aload_n 0, 1) := by decide +kernel
theorem dX5_say_47 : decode cX5_say 47 = .ok (.getfield 73, 3) := by decide +kernel
theorem dX5_say_50 : decode cX5_say 50 = .ok (.ireturn, 1) := by decide +kernel
theorem dX5_wipe_0 : decode cX5_wipe 0 = .ok (.aload_n 0, 1) := by decide +kernel
theorem dX5_wipe_1 : decode cX5_wipe 1 = .ok (.getfield 73, 3) := by decide +kernel
theorem dX5_wipe_4 : decode cX5_wipe 4 = .ok (.istore_n 1, 1) := by decide +kernel
theorem dX5_wipe_5 : decode cX5_wipe 5 = .ok (.aload_n 0, 1) := by decide +kernel
theorem dX5_wipe_6 : decode cX5_wipe 6 = .ok (.iconst 0, 1) := by decide +kernel
theorem dX5_wipe_7 : decode cX5_wipe 7 = .ok (.putfield 73, 3) := by decide +kernel
theorem dX5_wipe_10 : decode cX5_wipe 10 = .ok (.iload_n 1, 1) := by decide +kernel
theorem dX5_wipe_11 : decode cX5_wipe 11 = .ok (.ireturn, 1) := by decide +kernel
theorem dX5_askOf_0 : decode cX5_askOf 0 = .ok (.iload_n 0, 1) := by decide +kernel
theorem dX5_askOf_1 : decode cX5_askOf 1 = .ok (.lookupswitch 63 #[(97, 57), (99, 60), (110, 51), (112, 55), (115, 53)], 51) := by decide +kernel
theorem dX5_askOf_52 : decode cX5_askOf 52 = .ok (.iconst 1, 1) := by decide +kernel
theorem dX5_askOf_53 : decode cX5_askOf 53 = .ok (.ireturn, 1) := by decide +kernel
theorem dX5_askOf_54 : decode cX5_askOf 54 = .ok (.iconst 2, 1) := by decide +kernel
theorem dX5_askOf_55 : decode cX5_askOf 55 = .ok (.ireturn, 1) := by decide +kernel
theorem dX5_askOf_56 : decode cX5_askOf 56 = .ok (.iconst 4, 1) := by decide +kernel
theorem dX5_askOf_57 : decode cX5_askOf 57 = .ok (.ireturn, 1) := by decide +kernel
theorem dX5_askOf_58 : decode cX5_askOf 58 = .ok (.bipush 8, 2) := by decide +kernel
theorem dX5_askOf_60 : decode cX5_askOf 60 = .ok (.ireturn, 1) := by decide +kernel
theorem dX5_askOf_61 : decode cX5_askOf 61 = .ok (.bipush 16, 2) := by decide +kernel
theorem dX5_askOf_63 : decode cX5_askOf 63 = .ok (.ireturn, 1) := by decide +kernel
theorem dX5_askOf_64 : decode cX5_askOf 64 = .ok (.iconst 0, 1) := by decide +kernel
theorem dX5_askOf_65 : decode cX5_askOf 65 = .ok (.ireturn, 1) := by decide +kernel
theorem dX5_faultOf_0 : decode cX5_faultOf 0 = .ok (.aload_n 0, 1) := by decide +kernel
theorem dX5_faultOf_1 : decode cX5_faultOf 1 = .ok (.iconst 0, 1) := by decide +kernel
theorem dX5_faultOf_2 : decode cX5_faultOf 2 = .ok (.putfield 76, 3) := by decide +kernel
theorem dX5_faultOf_5 : decode cX5_faultOf 5 = .ok (.aload_n 0, 1) := by decide +kernel
theorem dX5_faultOf_6 : decode cX5_faultOf 6 = .ok (.bipush (-6), 2) := by decide +kernel
theorem dX5_faultOf_8 : decode cX5_faultOf 8 = .ok (.putfield 79, 3) := by decide +kernel
theorem dX5_faultOf_11 : decode cX5_faultOf 11 = .ok (.aload_n 0, 1) := by decide +kernel
theorem dX5_faultOf_12 : decode cX5_faultOf 12 = .ok (.iconst 0, 1) := by decide +kernel
theorem dX5_faultOf_13 : decode cX5_faultOf 13 = .ok (.putfield 82, 3) := by decide +kernel
theorem dX5_faultOf_16 : decode cX5_faultOf 16 = .ok (.iconst 0, 1) := by decide +kernel
theorem dX5_faultOf_17 : decode cX5_faultOf 17 = .ok (.istore_n 1, 1) := by decide +kernel
theorem dX5_faultOf_18 : decode cX5_faultOf 18 = .ok (.bipush (-6), 2) := by decide +kernel
theorem dX5_faultOf_20 : decode cX5_faultOf 20 = .ok (.istore_n 2, 1) := by decide +kernel
theorem dX5_faultOf_21 : decode cX5_faultOf 21 = .ok (.iconst 0, 1) := by decide +kernel
theorem dX5_faultOf_22 : decode cX5_faultOf 22 = .ok (.istore_n 3, 1) := by decide +kernel
theorem dX5_faultOf_23 : decode cX5_faultOf 23 = .ok (.iload_n 3, 1) := by decide +kernel
theorem dX5_faultOf_24 : decode cX5_faultOf 24 = .ok (.aload_n 0, 1) := by decide +kernel
theorem dX5_faultOf_25 : decode cX5_faultOf 25 = .ok (.getfield 73, 3) := by decide +kernel
theorem dX5_faultOf_28 : decode cX5_faultOf 28 = .ok (.if_icmp .ge 164, 3) := by decide +kernel
theorem dX5_faultOf_31 : decode cX5_faultOf 31 = .ok (.aload_n 0, 1) := by decide +kernel
theorem dX5_faultOf_32 : decode cX5_faultOf 32 = .ok (.getfield 7, 3) := by decide +kernel
theorem dX5_faultOf_35 : decode cX5_faultOf 35 = .ok (.iload_n 3, 1) := by decide +kernel
theorem dX5_faultOf_36 : decode cX5_faultOf 36 = .ok (.iaload, 1) := by decide +kernel
theorem dX5_faultOf_37 : decode cX5_faultOf 37 = .ok (.istore 4, 2) := by decide +kernel
theorem dX5_faultOf_39 : decode cX5_faultOf 39 = .ok (.aload_n 0, 1) := by decide +kernel
theorem dX5_faultOf_40 : decode cX5_faultOf 40 = .ok (.getfield 79, 3) := by decide +kernel
theorem dX5_faultOf_43 : decode cX5_faultOf 43 = .ok (.ifCond .ge 41, 3) := by decide +kernel
theorem dX5_faultOf_46 : decode cX5_faultOf 46 = .ok (.iload 4, 2) := by decide +kernel
theorem dX5_faultOf_48 : decode cX5_faultOf 48 = .ok (.invokestatic 85, 3) := by decide +kernel
theorem dX5_faultOf_51 : decode cX5_faultOf 51 = .ok (.ifCond .le 33, 3) := by decide +kernel
theorem dX5_faultOf_54 : decode cX5_faultOf 54 = .ok (.aload_n 0, 1) := by decide +kernel
theorem dX5_faultOf_55 : decode cX5_faultOf 55 = .ok (.getfield 76, 3) := by decide +kernel
theorem dX5_faultOf_58 : decode cX5_faultOf 58 = .ok (.iload 4, 2) := by decide +kernel
theorem dX5_faultOf_60 : decode cX5_faultOf 60 = .ok (.invokestatic 85, 3) := by decide +kernel
theorem dX5_faultOf_63 : decode cX5_faultOf 63 = .ok (.iand, 1) := by decide +kernel
theorem dX5_faultOf_64 : decode cX5_faultOf 64 = .ok (.ifCond .ne 20, 3) := by decide +kernel
theorem dX5_faultOf_67 : decode cX5_faultOf 67 = .ok (.aload_n 0, 1) := by decide +kernel
theorem dX5_faultOf_68 : decode cX5_faultOf 68 = .ok (.dup, 1) := by decide +kernel
theorem dX5_faultOf_69 : decode cX5_faultOf 69 = .ok (.getfield 76, 3) := by decide +kernel
theorem dX5_faultOf_72 : decode cX5_faultOf 72 = .ok (.iload 4, 2) := by decide +kernel
theorem dX5_faultOf_74 : decode cX5_faultOf 74 = .ok (.invokestatic 85, 3) := by decide +kernel
theorem dX5_faultOf_77 : decode cX5_faultOf 77 = .ok (.ior, 1) := by decide +kernel
theorem dX5_faultOf_78 : decode cX5_faultOf 78 = .ok (.putfield 76, 3) := by decide +kernel
theorem dX5_faultOf_81 : decode cX5_faultOf 81 = .ok (.goto 105, 3) := by decide +kernel
theorem dX5_faultOf_84 : decode cX5_faultOf 84 = .ok (.aload_n 0, 1) := by decide +kernel
theorem dX5_faultOf_85 : decode cX5_faultOf 85 = .ok (.getfield 79, 3) := by decide +kernel
theorem dX5_faultOf_88 : decode cX5_faultOf 88 = .ok (.ifCond .ge 27, 3) := by decide +kernel
theorem dX5_faultOf_91 : decode cX5_faultOf 91 = .ok (.iload 4, 2) := by decide +kernel
theorem dX5_faultOf_93 : decode cX5_faultOf 93 = .ok (.bipush 48, 2) := by decide +kernel
theorem dX5_faultOf_95 : decode cX5_faultOf 95 = .ok (.bipush 51, 2) := by decide +kernel
theorem dX5_faultOf_97 : decode cX5_faultOf 97 = .ok (.invokestatic 69, 3) := by decide +kernel
theorem dX5_faultOf_100 : decode cX5_faultOf 100 = .ok (.ifCond .eq 15, 3) := by decide +kernel
theorem dX5_faultOf_103 : decode cX5_faultOf 103 = .ok (.aload_n 0, 1) := by decide +kernel
theorem dX5_faultOf_104 : decode cX5_faultOf 104 = .ok (.iload 4, 2) := by decide +kernel
theorem dX5_faultOf_106 : decode cX5_faultOf 106 = .ok (.bipush 48, 2) := by decide +kernel
theorem dX5_faultOf_108 : decode cX5_faultOf 108 = .ok (.isub, 1) := by decide +kernel
theorem dX5_faultOf_109 : decode cX5_faultOf 109 = .ok (.putfield 79, 3) := by decide +kernel
theorem dX5_faultOf_112 : decode cX5_faultOf 112 = .ok (.goto 74, 3) := by decide +kernel
theorem dX5_faultOf_115 : decode cX5_faultOf 115 = .ok (.aload_n 0, 1) := by decide +kernel
theorem dX5_faultOf_116 : decode cX5_faultOf 116 = .ok (.getfield 79, 3) := by decide +kernel
theorem dX5_faultOf_119 : decode cX5_faultOf 119 = .ok (.ifCond .lt 19, 3) := by decide +kernel
theorem dX5_faultOf_122 : decode cX5_faultOf 122 = .ok (.iload_n 1, 1) := by decide +kernel
theorem dX5_faultOf_123 : decode cX5_faultOf 123 = .ok (.ifCond .ne 15, 3) := by decide +kernel
theorem dX5_faultOf_126 : decode cX5_faultOf 126 = .ok (.iload 4, 2) := by decide +kernel
theorem dX5_faultOf_128 : decode cX5_faultOf 128 = .ok (.bipush 58, 2) := by decide +kernel
theorem dX5_faultOf_130 : decode cX5_faultOf 130 = .ok (.if_icmp .ne 8, 3) := by decide +kernel
theorem dX5_faultOf_133 : decode cX5_faultOf 133 = .ok (.iconst 1, 1) := by decide +kernel
theorem dX5_faultOf_134 : decode cX5_faultOf 134 = .ok (.istore_n 1, 1) := by decide +kernel
theorem dX5_faultOf_135 : decode cX5_faultOf 135 = .ok (.goto 51, 3) := by decide +kernel
theorem dX5_faultOf_138 : decode cX5_faultOf 138 = .ok (.iload_n 1, 1) := by decide +kernel
theorem dX5_faultOf_139 : decode cX5_faultOf 139 = .ok (.ifCond .eq 45, 3) := by decide +kernel
theorem dX5_faultOf_142 : decode cX5_faultOf 142 = .ok (.iload 4, 2) := by decide +kernel
theorem dX5_faultOf_144 : decode cX5_faultOf 144 = .ok (.bipush 48, 2) := by decide +kernel
theorem dX5_faultOf_146 : decode cX5_faultOf 146 = .ok (.bipush 52, 2) := by decide +kernel
theorem dX5_faultOf_148 : decode cX5_faultOf 148 = .ok (.invokestatic 69, 3) := by decide +kernel
theorem dX5_faultOf_151 : decode cX5_faultOf 151 = .ok (.ifCond .eq 33, 3) := by decide +kernel
theorem dX5_faultOf_154 : decode cX5_faultOf 154 = .ok (.iload 4, 2) := by decide +kernel
theorem dX5_faultOf_156 : decode cX5_faultOf 156 = .ok (.bipush 48, 2) := by decide +kernel
theorem dX5_faultOf_158 : decode cX5_faultOf 158 = .ok (.isub, 1) := by decide +kernel
theorem dX5_faultOf_159 : decode cX5_faultOf 159 = .ok (.iload_n 2, 1) := by decide +kernel
theorem dX5_faultOf_160 : decode cX5_faultOf 160 = .ok (.if_icmp .le 24, 3) := by decide +kernel
theorem dX5_faultOf_163 : decode cX5_faultOf 163 = .ok (.iload 4, 2) := by decide +kernel
theorem dX5_faultOf_165 : decode cX5_faultOf 165 = .ok (.bipush 48, 2) := by decide +kernel
theorem dX5_faultOf_167 : decode cX5_faultOf 167 = .ok (.isub, 1) := by decide +kernel
theorem dX5_faultOf_168 : decode cX5_faultOf 168 = .ok (.istore_n 2, 1) := by decide +kernel
end
section
theorem dX5_faultOf_169 : decode cX5_faultOf 169 = .ok (.aload_n 0, 1) := by decide +kernel
theorem dX5_faultOf_170 : decode cX5_faultOf 170 = .ok (.dup, 1) := by decide +kernel
theorem dX5_faultOf_171 : decode cX5_faultOf 171 = .ok (.getfield 82, 3) := by decide +kernel
theorem dX5_faultOf_174 : decode cX5_faultOf 174 = .ok (.iconst 1, 1) := by decide +kernel
theorem dX5_faultOf_175 : decode cX5_faultOf 175 = .ok (.iload_n 2, 1) := by decide +kernel
theorem dX5_faultOf_176 : decode cX5_faultOf 176 = .ok (.ishl, 1) := by decide +kernel
theorem dX5_faultOf_177 : decode cX5_faultOf 177 = .ok (.ior, 1) := by decide +kernel
theorem dX5_faultOf_178 : decode cX5_faultOf 178 = .ok (.putfield 82, 3) := by decide +kernel
theorem dX5_faultOf_181 : decode cX5_faultOf 181 = .ok (.goto 5, 3) := by decide +kernel
theorem dX5_faultOf_184 : decode cX5_faultOf 184 = .ok (.iload_n 3, 1) := by decide +kernel
theorem dX5_faultOf_185 : decode cX5_faultOf 185 = .ok (.ireturn, 1) := by decide +kernel
theorem dX5_faultOf_186 : decode cX5_faultOf 186 = .ok (.iinc 3 1, 3) := by decide +kernel
theorem dX5_faultOf_189 : decode cX5_faultOf 189 = .ok (.goto (-166), 3) := by decide +kernel
theorem dX5_faultOf_192 : decode cX5_faultOf 192 = .ok (.aload_n 0, 1) := by decide +kernel
theorem dX5_faultOf_193 : decode cX5_faultOf 193 = .ok (.getfield 79, 3) := by decide +kernel
theorem dX5_faultOf_196 : decode cX5_faultOf 196 = .ok (.ifCond .lt 14, 3) := by decide +kernel
theorem dX5_faultOf_199 : decode cX5_faultOf 199 = .ok (.iload_n 1, 1) := by decide +kernel
theorem dX5_faultOf_200 : decode cX5_faultOf 200 = .ok (.ifCond .eq 15, 3) := by decide +kernel
theorem dX5_faultOf_203 : decode cX5_faultOf 203 = .ok (.aload_n 0, 1) := by decide +kernel
theorem dX5_faultOf_204 : decode cX5_faultOf 204 = .ok (.getfield 82, 3) := by decide +kernel
theorem dX5_faultOf_207 : decode cX5_faultOf 207 = .ok (.ifCond .ne 8, 3) := by decide +kernel
theorem dX5_faultOf_210 : decode cX5_faultOf 210 = .ok (.aload_n 0, 1) := by decide +kernel
theorem dX5_faultOf_211 : decode cX5_faultOf 211 = .ok (.getfield 73, 3) := by decide +kernel
theorem dX5_faultOf_214 : decode cX5_faultOf 214 = .ok (.ireturn, 1) := by decide +kernel
theorem dX5_faultOf_215 : decode cX5_faultOf 215 = .ok (.aload_n 0, 1) := by decide +kernel
theorem dX5_faultOf_216 : decode cX5_faultOf 216 = .ok (.iload_n 1, 1) := by decide +kernel
theorem dX5_faultOf_217 : decode cX5_faultOf 217 = .ok (.ifCond .eq 10, 3) := by decide +kernel
theorem dX5_faultOf_220 : decode cX5_faultOf 220 = .ok (.aload_n 0, 1) := by decide +kernel
theorem dX5_faultOf_221 : decode cX5_faultOf 221 = .ok (.getfield 82, 3) := by decide +kernel
theorem dX5_faultOf_224 : decode cX5_faultOf 224 = .ok (.goto 5, 3) := by decide +kernel
theorem dX5_faultOf_227 : decode cX5_faultOf 227 = .ok (.bipush 31, 2) := by decide +kernel
theorem dX5_faultOf_229 : decode cX5_faultOf 229 = .ok (.putfield 82, 3) := by decide +kernel
theorem dX5_faultOf_232 : decode cX5_faultOf 232 = .ok (.bipush (-6), 2) := by decide +kernel
theorem dX5_faultOf_234 : decode cX5_faultOf 234 = .ok (.ireturn, 1) := by decide +kernel
theorem dX5_fault_0 : decode cX5_fault 0 = .ok (.aload_n 0, 1) := by decide +kernel
theorem dX5_fault_1 : decode cX5_fault 1 = .ok (.invokevirtual 89, 3) := by decide +kernel
theorem dX5_fault_4 : decode cX5_fault 4 = .ok (.ireturn, 1) := by decide +kernel
theorem dX5_terms_0 : decode cX5_terms 0 = .ok (.iload_n 1, 1) := by decide +kernel
theorem dX5_terms_1 : decode cX5_terms 1 = .ok (.invokestatic 93, 3) := by decide +kernel
theorem dX5_terms_4 : decode cX5_terms 4 = .ok (.ifCond .ne 5, 3) := by decide +kernel
theorem dX5_terms_7 : decode cX5_terms 7 = .ok (.iconst (-1), 1) := by decide +kernel
theorem dX5_terms_8 : decode cX5_terms 8 = .ok (.ireturn, 1) := by decide +kernel
theorem dX5_terms_9 : decode cX5_terms 9 = .ok (.aload_n 0, 1) := by decide +kernel
theorem dX5_terms_10 : decode cX5_terms 10 = .ok (.invokevirtual 89, 3) := by decide +kernel
theorem dX5_terms_13 : decode cX5_terms 13 = .ok (.ifCond .lt 6, 3) := by decide +kernel
theorem dX5_terms_16 : decode cX5_terms 16 = .ok (.bipush (-5), 2) := by decide +kernel
theorem dX5_terms_18 : decode cX5_terms 18 = .ok (.ireturn, 1) := by decide +kernel
theorem dX5_terms_19 : decode cX5_terms 19 = .ok (.aload_n 0, 1) := by decide +kernel
theorem dX5_terms_20 : decode cX5_terms 20 = .ok (.getfield 13, 3) := by decide +kernel
theorem dX5_terms_23 : decode cX5_terms 23 = .ok (.iload_n 1, 1) := by decide +kernel
theorem dX5_terms_24 : decode cX5_terms 24 = .ok (.aload_n 0, 1) := by decide +kernel
theorem dX5_terms_25 : decode cX5_terms 25 = .ok (.getfield 76, 3) := by decide +kernel
theorem dX5_terms_28 : decode cX5_terms 28 = .ok (.iastore, 1) := by decide +kernel
theorem dX5_terms_29 : decode cX5_terms 29 = .ok (.aload_n 0, 1) := by decide +kernel
theorem dX5_terms_30 : decode cX5_terms 30 = .ok (.getfield 16, 3) := by decide +kernel
theorem dX5_terms_33 : decode cX5_terms 33 = .ok (.iload_n 1, 1) := by decide +kernel
theorem dX5_terms_34 : decode cX5_terms 34 = .ok (.aload_n 0, 1) := by decide +kernel
theorem dX5_terms_35 : decode cX5_terms 35 = .ok (.getfield 79, 3) := by decide +kernel
theorem dX5_terms_38 : decode cX5_terms 38 = .ok (.iastore, 1) := by decide +kernel
theorem dX5_terms_39 : decode cX5_terms 39 = .ok (.aload_n 0, 1) := by decide +kernel
theorem dX5_terms_40 : decode cX5_terms 40 = .ok (.getfield 19, 3) := by decide +kernel
theorem dX5_terms_43 : decode cX5_terms 43 = .ok (.iload_n 1, 1) := by decide +kernel
theorem dX5_terms_44 : decode cX5_terms 44 = .ok (.aload_n 0, 1) := by decide +kernel
theorem dX5_terms_45 : decode cX5_terms 45 = .ok (.getfield 82, 3) := by decide +kernel
theorem dX5_terms_48 : decode cX5_terms 48 = .ok (.iastore, 1) := by decide +kernel
theorem dX5_terms_49 : decode cX5_terms 49 = .ok (.aload_n 0, 1) := by decide +kernel
theorem dX5_terms_50 : decode cX5_terms 50 = .ok (.iconst 0, 1) := by decide +kernel
theorem dX5_terms_51 : decode cX5_terms 51 = .ok (.putfield 73, 3) := by decide +kernel
theorem dX5_terms_54 : decode cX5_terms 54 = .ok (.aload_n 0, 1) := by decide +kernel
theorem dX5_terms_55 : decode cX5_terms 55 = .ok (.getfield 13, 3) := by decide +kernel
theorem dX5_terms_58 : decode cX5_terms 58 = .ok (.iload_n 1, 1) := by decide +kernel
theorem dX5_terms_59 : decode cX5_terms 59 = .ok (.iaload, 1) := by decide +kernel
theorem dX5_terms_60 : decode cX5_terms 60 = .ok (.ireturn, 1) := by decide +kernel
theorem dX5_about_0 : decode cX5_about 0 = .ok (.iload_n 1, 1) := by decide +kernel
theorem dX5_about_1 : decode cX5_about 1 = .ok (.invokestatic 93, 3) := by decide +kernel
theorem dX5_about_4 : decode cX5_about 4 = .ok (.ifCond .ne 5, 3) := by decide +kernel
theorem dX5_about_7 : decode cX5_about 7 = .ok (.iconst (-1), 1) := by decide +kernel
theorem dX5_about_8 : decode cX5_about 8 = .ok (.ireturn, 1) := by decide +kernel
theorem dX5_about_9 : decode cX5_about 9 = .ok (.iload_n 2, 1) := by decide +kernel
theorem dX5_about_10 : decode cX5_about 10 = .ok (.ifCond .ne 12, 3) := by decide +kernel
theorem dX5_about_13 : decode cX5_about 13 = .ok (.aload_n 0, 1) := by decide +kernel
theorem dX5_about_14 : decode cX5_about 14 = .ok (.getfield 13, 3) := by decide +kernel
theorem dX5_about_17 : decode cX5_about 17 = .ok (.iload_n 1, 1) := by decide +kernel
theorem dX5_about_18 : decode cX5_about 18 = .ok (.iaload, 1) := by decide +kernel
theorem dX5_about_19 : decode cX5_about 19 = .ok (.goto 47, 3) := by decide +kernel
theorem dX5_about_22 : decode cX5_about 22 = .ok (.iload_n 2, 1) := by decide +kernel
theorem dX5_about_23 : decode cX5_about 23 = .ok (.iconst 1, 1) := by decide +kernel
theorem dX5_about_24 : decode cX5_about 24 = .ok (.if_icmp .ne 12, 3) := by decide +kernel
theorem dX5_about_27 : decode cX5_about 27 = .ok (.aload_n 0, 1) := by decide +kernel
theorem dX5_about_28 : decode cX5_about 28 = .ok (.getfield 16, 3) := by decide +kernel
theorem dX5_about_31 : decode cX5_about 31 = .ok (.iload_n 1, 1) := by decide +kernel
theorem dX5_about_32 : decode cX5_about 32 = .ok (.iaload, 1) := by decide +kernel
theorem dX5_about_33 : decode cX5_about 33 = .ok (.goto 33, 3) := by decide +kernel
theorem dX5_about_36 : decode cX5_about 36 = .ok (.iload_n 2, 1) := by decide +kernel
theorem dX5_about_37 : decode cX5_about 37 = .ok (.iconst 2, 1) := by decide +kernel
theorem dX5_about_38 : decode cX5_about 38 = .ok (.if_icmp .ne 12, 3) := by decide +kernel
theorem dX5_about_41 : decode cX5_about 41 = .ok (.aload_n 0, 1) := by decide +kernel
theorem dX5_about_42 : decode cX5_about 42 = .ok (.getfield 19, 3) := by decide +kernel
theorem dX5_about_45 : decode cX5_about 45 = .ok (.iload_n 1, 1) := by decide +kernel
theorem dX5_about_46 : decode cX5_about 46 = .ok (.iaload, 1) := by decide +kernel
theorem dX5_about_47 : decode cX5_about 47 = .ok (.goto 19, 3) := by decide +kernel
theorem dX5_about_50 : decode cX5_about 50 = .ok (.iload_n 2, 1) := by decide +kernel
theorem dX5_about_51 : decode cX5_about 51 = .ok (.iconst 3, 1) := by decide +kernel
theorem dX5_about_52 : decode cX5_about 52 = .ok (.if_icmp .ne 12, 3) := by decide +kernel
theorem dX5_about_55 : decode cX5_about 55 = .ok (.aload_n 0, 1) := by decide +kernel
theorem dX5_about_56 : decode cX5_about 56 = .ok (.getfield 22, 3) := by decide +kernel
theorem dX5_about_59 : decode cX5_about 59 = .ok (.iload_n 1, 1) := by decide +kernel
theorem dX5_about_60 : decode cX5_about 60 = .ok (.iaload, 1) := by decide +kernel
theorem dX5_about_61 : decode cX5_about 61 = .ok (.goto 5, 3) := by decide +kernel
theorem dX5_about_64 : decode cX5_about 64 = .ok (.bipush (-2), 2) := by decide +kernel
theorem dX5_about_66 : decode cX5_about 66 = .ok (.ireturn, 1) := by decide +kernel
theorem dX5_later_0 : decode cX5_later 0 = .ok (.iload_n 1, 1) := by decide +kernel
theorem dX5_later_1 : decode cX5_later 1 = .ok (.invokestatic 93, 3) := by decide +kernel
theorem dX5_later_4 : decode cX5_later 4 = .ok (.ifCond .ne 5, 3) := by decide +kernel
theorem dX5_later_7 : decode cX5_later 7 = .ok (.iconst (-1), 1) := by decide +kernel
theorem dX5_later_8 : decode cX5_later 8 = .ok (.ireturn, 1) := by decide +kernel
theorem dX5_later_9 : decode cX5_later 9 = .ok (.iload_n 2, 1) := by decide +kernel
theorem dX5_later_10 : decode cX5_later 10 = .ok (.iconst (-1), 1) := by decide +kernel
theorem dX5_later_11 : decode cX5_later 11 = .ok (.iconst 4, 1) := by decide +kernel
theorem dX5_later_12 : decode cX5_later 12 = .ok (.invokestatic 69, 3) := by decide +kernel
theorem dX5_later_15 : decode cX5_later 15 = .ok (.ifCond .eq 8, 3) := by decide +kernel
theorem dX5_later_18 : decode cX5_later 18 = .ok (.iload_n 2, 1) := by decide +kernel
theorem dX5_later_19 : decode cX5_later 19 = .ok (.iload_n 1, 1) := by decide +kernel
theorem dX5_later_20 : decode cX5_later 20 = .ok (.if_icmp .ne 6, 3) := by decide +kernel
theorem dX5_later_23 : decode cX5_later 23 = .ok (.bipush (-2), 2) := by decide +kernel
theorem dX5_later_25 : decode cX5_later 25 = .ok (.ireturn, 1) := by decide +kernel
theorem dX5_later_26 : decode cX5_later 26 = .ok (.aload_n 0, 1) := by decide +kernel
theorem dX5_later_27 : decode cX5_later 27 = .ok (.getfield 22, 3) := by decide +kernel
theorem dX5_later_30 : decode cX5_later 30 = .ok (.iload_n 1, 1) := by decide +kernel
theorem dX5_later_31 : decode cX5_later 31 = .ok (.iaload, 1) := by decide +kernel
theorem dX5_later_32 : decode cX5_later 32 = .ok (.istore_n 3, 1) := by decide +kernel
theorem dX5_later_33 : decode cX5_later 33 = .ok (.aload_n 0, 1) := by decide +kernel
theorem dX5_later_34 : decode cX5_later 34 = .ok (.getfield 22, 3) := by decide +kernel
theorem dX5_later_37 : decode cX5_later 37 = .ok (.iload_n 1, 1) := by decide +kernel
theorem dX5_later_38 : decode cX5_later 38 = .ok (.iload_n 2, 1) := by decide +kernel
theorem dX5_later_39 : decode cX5_later 39 = .ok (.ifCond .ge 8, 3) := by decide +kernel
theorem dX5_later_42 : decode cX5_later 42 = .ok (.bipush (-6), 2) := by decide +kernel
theorem dX5_later_44 : decode cX5_later 44 = .ok (.goto 4, 3) := by decide +kernel
theorem dX5_later_47 : decode cX5_later 47 = .ok (.iload_n 2, 1) := by decide +kernel
theorem dX5_later_48 : decode cX5_later 48 = .ok (.iastore, 1) := by decide +kernel
theorem dX5_later_49 : decode cX5_later 49 = .ok (.iload_n 3, 1) := by decide +kernel
theorem dX5_later_50 : decode cX5_later 50 = .ok (.ireturn, 1) := by decide +kernel
theorem dX5_mostOf_0 : decode cX5_mostOf 0 = .ok (.iload_n 0, 1) := by decide +kernel
theorem dX5_mostOf_1 : decode cX5_mostOf 1 = .ok (.ifCond .ne 8, 3) := by decide +kernel
theorem dX5_mostOf_4 : decode cX5_mostOf 4 = .ok (.bipush 31, 2) := by decide +kernel
theorem dX5_mostOf_6 : decode cX5_mostOf 6 = .ok (.goto 25, 3) := by decide +kernel
theorem dX5_mostOf_9 : decode cX5_mostOf 9 = .ok (.iload_n 0, 1) := by decide +kernel
theorem dX5_mostOf_10 : decode cX5_mostOf 10 = .ok (.iconst 1, 1) := by decide +kernel
theorem dX5_mostOf_11 : decode cX5_mostOf 11 = .ok (.if_icmp .ne 7, 3) := by decide +kernel
theorem dX5_mostOf_14 : decode cX5_mostOf 14 = .ok (.iconst 1, 1) := by decide +kernel
theorem dX5_mostOf_15 : decode cX5_mostOf 15 = .ok (.goto 16, 3) := by decide +kernel
theorem dX5_mostOf_18 : decode cX5_mostOf 18 = .ok (.iload_n 0, 1) := by decide +kernel
theorem dX5_mostOf_19 : decode cX5_mostOf 19 = .ok (.iconst 2, 1) := by decide +kernel
theorem dX5_mostOf_20 : decode cX5_mostOf 20 = .ok (.if_icmp .ne 8, 3) := by decide +kernel
theorem dX5_mostOf_23 : decode cX5_mostOf 23 = .ok (.bipush 63, 2) := by decide +kernel
theorem dX5_mostOf_25 : decode cX5_mostOf 25 = .ok (.goto 6, 3) := by decide +kernel
theorem dX5_mostOf_28 : decode cX5_mostOf 28 = .ok (.sipush 999, 3) := by decide +kernel
theorem dX5_mostOf_31 : decode cX5_mostOf 31 = .ok (.ireturn, 1) := by decide +kernel
theorem dX5_piece_0 : decode cX5_piece 0 = .ok (.iload_n 1, 1) := by decide +kernel
theorem dX5_piece_1 : decode cX5_piece 1 = .ok (.invokestatic 97, 3) := by decide +kernel
theorem dX5_piece_4 : decode cX5_piece 4 = .ok (.ifCond .ne 5, 3) := by decide +kernel
theorem dX5_piece_7 : decode cX5_piece 7 = .ok (.iconst (-1), 1) := by decide +kernel
theorem dX5_piece_8 : decode cX5_piece 8 = .ok (.ireturn, 1) := by decide +kernel
theorem dX5_piece_9 : decode cX5_piece 9 = .ok (.iload_n 2, 1) := by decide +kernel
theorem dX5_piece_10 : decode cX5_piece 10 = .ok (.iconst 0, 1) := by decide +kernel
theorem dX5_piece_11 : decode cX5_piece 11 = .ok (.iconst 3, 1) := by decide +kernel
theorem dX5_piece_12 : decode cX5_piece 12 = .ok (.invokestatic 69, 3) := by decide +kernel
theorem dX5_piece_15 : decode cX5_piece 15 = .ok (.ifCond .eq 23, 3) := by decide +kernel
theorem dX5_piece_18 : decode cX5_piece 18 = .ok (.iload_n 3, 1) := by decide +kernel
theorem dX5_piece_19 : decode cX5_piece 19 = .ok (.iload_n 2, 1) := by decide +kernel
theorem dX5_piece_20 : decode cX5_piece 20 = .ok (.ifCond .ne 7, 3) := by decide +kernel
theorem dX5_piece_23 : decode cX5_piece 23 = .ok (.iconst 1, 1) := by decide +kernel
theorem dX5_piece_24 : decode cX5_piece 24 = .ok (.goto 4, 3) := by decide +kernel
theorem dX5_piece_27 : decode cX5_piece 27 = .ok (.iconst 0, 1) := by decide +kernel
theorem dX5_piece_28 : decode cX5_piece 28 = .ok (.iload_n 2, 1) := by decide +kernel
theorem dX5_piece_29 : decode cX5_piece 29 = .ok (.invokestatic 100, 3) := by decide +kernel
theorem dX5_piece_32 : decode cX5_piece 32 = .ok (.invokestatic 69, 3) := by decide +kernel
theorem dX5_piece_35 : decode cX5_piece 35 = .ok (.ifCond .ne 6, 3) := by decide +kernel
theorem dX5_piece_38 : decode cX5_piece 38 = .ok (.bipush (-2), 2) := by decide +kernel
theorem dX5_piece_40 : decode cX5_piece 40 = .ok (.ireturn, 1) := by decide +kernel
theorem dX5_piece_41 : decode cX5_piece 41 = .ok (.aload_n 0, 1) := by decide +kernel
theorem dX5_piece_42 : decode cX5_piece 42 = .ok (.getfield 25, 3) := by decide +kernel
theorem dX5_piece_45 : decode cX5_piece 45 = .ok (.iconst 4, 1) := by decide +kernel
theorem dX5_piece_46 : decode cX5_piece 46 = .ok (.iload_n 1, 1) := by decide +kernel
theorem dX5_piece_47 : decode cX5_piece 47 = .ok (.imul, 1) := by decide +kernel
theorem dX5_piece_48 : decode cX5_piece 48 = .ok (.iload_n 2, 1) := by decide +kernel
theorem dX5_piece_49 : decode cX5_piece 49 = .ok (.iadd, 1) := by decide +kernel
theorem dX5_piece_50 : decode cX5_piece 50 = .ok (.iaload, 1) := by decide +kernel
theorem dX5_piece_51 : decode cX5_piece 51 = .ok (.istore 4, 2) := by decide +kernel
theorem dX5_piece_53 : decode cX5_piece 53 = .ok (.aload_n 0, 1) := by decide +kernel
theorem dX5_piece_54 : decode cX5_piece 54 = .ok (.getfield 25, 3) := by decide +kernel
theorem dX5_piece_57 : decode cX5_piece 57 = .ok (.iconst 4, 1) := by decide +kernel
theorem dX5_piece_58 : decode cX5_piece 58 = .ok (.iload_n 1, 1) := by decide +kernel
theorem dX5_piece_59 : decode cX5_piece 59 = .ok (.imul, 1) := by decide +kernel
theorem dX5_piece_60 : decode cX5_piece 60 = .ok (.iload_n 2, 1) := by decide +kernel
theorem dX5_piece_61 : decode cX5_piece 61 = .ok (.iadd, 1) := by decide +kernel
theorem dX5_piece_62 : decode cX5_piece 62 = .ok (.iload_n 3, 1) := by decide +kernel
theorem dX5_piece_63 : decode cX5_piece 63 = .ok (.iastore, 1) := by decide +kernel
theorem dX5_piece_64 : decode cX5_piece 64 = .ok (.iload 4, 2) := by decide +kernel
theorem dX5_piece_66 : decode cX5_piece 66 = .ok (.ireturn, 1) := by decide +kernel
theorem dX5_uses_0 : decode cX5_uses 0 = .ok (.iload_n 1, 1) := by decide +kernel
theorem dX5_uses_1 : decode cX5_uses 1 = .ok (.invokestatic 97, 3) := by decide +kernel
theorem dX5_uses_4 : decode cX5_uses 4 = .ok (.ifCond .eq 15, 3) := by decide +kernel
theorem dX5_uses_7 : decode cX5_uses 7 = .ok (.iload_n 2, 1) := by decide +kernel
theorem dX5_uses_8 : decode cX5_uses 8 = .ok (.invokestatic 97, 3) := by decide +kernel
theorem dX5_uses_11 : decode cX5_uses 11 = .ok (.ifCond .eq 8, 3) := by decide +kernel
theorem dX5_uses_14 : decode cX5_uses 14 = .ok (.iload_n 2, 1) := by decide +kernel
theorem dX5_uses_15 : decode cX5_uses 15 = .ok (.iload_n 1, 1) := by decide +kernel
theorem dX5_uses_16 : decode cX5_uses 16 = .ok (.if_icmp .lt 5, 3) := by decide +kernel
theorem dX5_uses_19 : decode cX5_uses 19 = .ok (.iconst (-1), 1) := by decide +kernel
theorem dX5_uses_20 : decode cX5_uses 20 = .ok (.ireturn, 1) := by decide +kernel
theorem dX5_uses_21 : decode cX5_uses 21 = .ok (.iload_n 3, 1) := by decide +kernel
theorem dX5_uses_22 : decode cX5_uses 22 = .ok (.iconst (-1), 1) := by decide +kernel
theorem dX5_uses_23 : decode cX5_uses 23 = .ok (.iconst 3, 1) := by decide +kernel
theorem dX5_uses_24 : decode cX5_uses 24 = .ok (.invokestatic 69, 3) := by decide +kernel
theorem dX5_uses_27 : decode cX5_uses 27 = .ok (.ifCond .ne 6, 3) := by decide +kernel
theorem dX5_uses_30 : decode cX5_uses 30 = .ok (.bipush (-2), 2) := by decide +kernel
theorem dX5_uses_32 : decode cX5_uses 32 = .ok (.ireturn, 1) := by decide +kernel
theorem dX5_uses_33 : decode cX5_uses 33 = .ok (.aload_n 0, 1) := by decide +kernel
theorem dX5_uses_34 : decode cX5_uses 34 = .ok (.getfield 28, 3) := by decide +kernel
theorem dX5_uses_37 : decode cX5_uses 37 = .ok (.bipush 6, 2) := by decide +kernel
theorem dX5_uses_39 : decode cX5_uses 39 = .ok (.iload_n 1, 1) := by decide +kernel
theorem dX5_uses_40 : decode cX5_uses 40 = .ok (.imul, 1) := by decide +kernel
theorem dX5_uses_41 : decode cX5_uses 41 = .ok (.iload_n 2, 1) := by decide +kernel
theorem dX5_uses_42 : decode cX5_uses 42 = .ok (.iadd, 1) := by decide +kernel
theorem dX5_uses_43 : decode cX5_uses 43 = .ok (.iaload, 1) := by decide +kernel
theorem dX5_uses_44 : decode cX5_uses 44 = .ok (.istore 4, 2) := by decide +kernel
theorem dX5_uses_46 : decode cX5_uses 46 = .ok (.aload_n 0, 1) := by decide +kernel
theorem dX5_uses_47 : decode cX5_uses 47 = .ok (.getfield 28, 3) := by decide +kernel
theorem dX5_uses_50 : decode cX5_uses 50 = .ok (.bipush 6, 2) := by decide +kernel
theorem dX5_uses_52 : decode cX5_uses 52 = .ok (.iload_n 1, 1) := by decide +kernel
theorem dX5_uses_53 : decode cX5_uses 53 = .ok (.imul, 1) := by decide +kernel
theorem dX5_uses_54 : decode cX5_uses 54 = .ok (.iload_n 2, 1) := by decide +kernel
theorem dX5_uses_55 : decode cX5_uses 55 = .ok (.iadd, 1) := by decide +kernel
theorem dX5_uses_56 : decode cX5_uses 56 = .ok (.iload_n 3, 1) := by decide +kernel
theorem dX5_uses_57 : decode cX5_uses 57 = .ok (.ifCond .ge 8, 3) := by decide +kernel
theorem dX5_uses_60 : decode cX5_uses 60 = .ok (.bipush (-6), 2) := by decide +kernel
theorem dX5_uses_62 : decode cX5_uses 62 = .ok (.goto 4, 3) := by decide +kernel
theorem dX5_uses_65 : decode cX5_uses 65 = .ok (.iload_n 3, 1) := by decide +kernel
theorem dX5_uses_66 : decode cX5_uses 66 = .ok (.iastore, 1) := by decide +kernel
theorem dX5_uses_67 : decode cX5_uses 67 = .ok (.iload 4, 2) := by decide +kernel
theorem dX5_uses_69 : decode cX5_uses 69 = .ok (.ireturn, 1) := by decide +kernel
theorem dX5_choicesOf_0 : decode cX5_choicesOf 0 = .ok (.aload_n 0, 1) := by decide +kernel
theorem dX5_choicesOf_1 : decode cX5_choicesOf 1 = .ok (.getfield 25, 3) := by decide +kernel
theorem dX5_choicesOf_4 : decode cX5_choicesOf 4 = .ok (.iconst 4, 1) := by decide +kernel
theorem dX5_choicesOf_5 : decode cX5_choicesOf 5 = .ok (.iload_n 1, 1) := by decide +kernel
theorem dX5_choicesOf_6 : decode cX5_choicesOf 6 = .ok (.imul, 1) := by decide +kernel
theorem dX5_choicesOf_7 : decode cX5_choicesOf 7 = .ok (.iaload, 1) := by decide +kernel
theorem dX5_choicesOf_8 : decode cX5_choicesOf 8 = .ok (.istore_n 2, 1) := by decide +kernel
theorem dX5_choicesOf_9 : decode cX5_choicesOf 9 = .ok (.iconst 0, 1) := by decide +kernel
theorem dX5_choicesOf_10 : decode cX5_choicesOf 10 = .ok (.istore_n 3, 1) := by decide +kernel
theorem dX5_choicesOf_11 : decode cX5_choicesOf 11 = .ok (.iload_n 3, 1) := by decide +kernel
theorem dX5_choicesOf_12 : decode cX5_choicesOf 12 = .ok (.iconst 5, 1) := by decide +kernel
theorem dX5_choicesOf_13 : decode cX5_choicesOf 13 = .ok (.if_icmp .ge 73, 3) := by decide +kernel
theorem dX5_choicesOf_16 : decode cX5_choicesOf 16 = .ok (.aload_n 0, 1) := by decide +kernel
theorem dX5_choicesOf_17 : decode cX5_choicesOf 17 = .ok (.getfield 25, 3) := by decide +kernel
theorem dX5_choicesOf_20 : decode cX5_choicesOf 20 = .ok (.iconst 4, 1) := by decide +kernel
theorem dX5_choicesOf_21 : decode cX5_choicesOf 21 = .ok (.iload_n 1, 1) := by decide +kernel
theorem dX5_choicesOf_22 : decode cX5_choicesOf 22 = .ok (.imul, 1) := by decide +kernel
theorem dX5_choicesOf_23 : decode cX5_choicesOf 23 = .ok (.iconst 1, 1) := by decide +kernel
theorem dX5_choicesOf_24 : decode cX5_choicesOf 24 = .ok (.iadd, 1) := by decide +kernel
theorem dX5_choicesOf_25 : decode cX5_choicesOf 25 = .ok (.iaload, 1) := by decide +kernel
theorem dX5_choicesOf_26 : decode cX5_choicesOf 26 = .ok (.iconst 1, 1) := by decide +kernel
theorem dX5_choicesOf_27 : decode cX5_choicesOf 27 = .ok (.if_icmp .ne 59, 3) := by decide +kernel
theorem dX5_choicesOf_30 : decode cX5_choicesOf 30 = .ok (.iconst 0, 1) := by decide +kernel
theorem dX5_choicesOf_31 : decode cX5_choicesOf 31 = .ok (.istore 4, 2) := by decide +kernel
theorem dX5_choicesOf_33 : decode cX5_choicesOf 33 = .ok (.iload 4, 2) := by decide +kernel
theorem dX5_choicesOf_35 : decode cX5_choicesOf 35 = .ok (.iconst 5, 1) := by decide +kernel
theorem dX5_choicesOf_36 : decode cX5_choicesOf 36 = .ok (.if_icmp .ge 44, 3) := by decide +kernel
theorem dX5_choicesOf_39 : decode cX5_choicesOf 39 = .ok (.iload_n 2, 1) := by decide +kernel
theorem dX5_choicesOf_40 : decode cX5_choicesOf 40 = .ok (.iload_n 2, 1) := by decide +kernel
theorem dX5_choicesOf_41 : decode cX5_choicesOf 41 = .ok (.iload 4, 2) := by decide +kernel
theorem dX5_choicesOf_43 : decode cX5_choicesOf 43 = .ok (.invokestatic 103, 3) := by decide +kernel
theorem dX5_choicesOf_46 : decode cX5_choicesOf 46 = .ok (.ifCond .eq 25, 3) := by decide +kernel
theorem dX5_choicesOf_49 : decode cX5_choicesOf 49 = .ok (.aload_n 0, 1) := by decide +kernel
theorem dX5_choicesOf_50 : decode cX5_choicesOf 50 = .ok (.getfield 22, 3) := by decide +kernel
theorem dX5_choicesOf_53 : decode cX5_choicesOf 53 = .ok (.iload 4, 2) := by decide +kernel
theorem dX5_choicesOf_55 : decode cX5_choicesOf 55 = .ok (.iaload, 1) := by decide +kernel
theorem dX5_choicesOf_56 : decode cX5_choicesOf 56 = .ok (.ifCond .lt 15, 3) := by decide +kernel
theorem dX5_choicesOf_59 : decode cX5_choicesOf 59 = .ok (.iconst 1, 1) := by decide +kernel
theorem dX5_choicesOf_60 : decode cX5_choicesOf 60 = .ok (.aload_n 0, 1) := by decide +kernel
theorem dX5_choicesOf_61 : decode cX5_choicesOf 61 = .ok (.getfield 22, 3) := by decide +kernel
theorem dX5_choicesOf_64 : decode cX5_choicesOf 64 = .ok (.iload 4, 2) := by decide +kernel
theorem dX5_choicesOf_66 : decode cX5_choicesOf 66 = .ok (.iaload, 1) := by decide +kernel
theorem dX5_choicesOf_67 : decode cX5_choicesOf 67 = .ok (.ishl, 1) := by decide +kernel
theorem dX5_choicesOf_68 : decode cX5_choicesOf 68 = .ok (.goto 4, 3) := by decide +kernel
theorem dX5_choicesOf_71 : decode cX5_choicesOf 71 = .ok (.iconst 0, 1) := by decide +kernel
theorem dX5_choicesOf_72 : decode cX5_choicesOf 72 = .ok (.ior, 1) := by decide +kernel
theorem dX5_choicesOf_73 : decode cX5_choicesOf 73 = .ok (.istore_n 2, 1) := by decide +kernel
theorem dX5_choicesOf_74 : decode cX5_choicesOf 74 = .ok (.iinc 4 1, 3) := by decide +kernel
theorem dX5_choicesOf_77 : decode cX5_choicesOf 77 = .ok (.goto (-44), 3) := by decide +kernel
theorem dX5_choicesOf_80 : decode cX5_choicesOf 80 = .ok (.iinc 3 1, 3) := by decide +kernel
theorem dX5_choicesOf_83 : decode cX5_choicesOf 83 = .ok (.goto (-72), 3) := by decide +kernel
theorem dX5_choicesOf_86 : decode cX5_choicesOf 86 = .ok (.iload_n 2, 1) := by decide +kernel
theorem dX5_choicesOf_87 : decode cX5_choicesOf 87 = .ok (.ireturn, 1) := by decide +kernel
theorem dX5_choices_0 : decode cX5_choices 0 = .ok (.iload_n 1, 1) := by decide +kernel
theorem dX5_choices_1 : decode cX5_choices 1 = .ok (.invokestatic 97, 3) := by decide +kernel
theorem dX5_choices_4 : decode cX5_choices 4 = .ok (.ifCond .eq 11, 3) := by decide +kernel
theorem dX5_choices_7 : decode cX5_choices 7 = .ok (.aload_n 0, 1) := by decide +kernel
theorem dX5_choices_8 : decode cX5_choices 8 = .ok (.iload_n 1, 1) := by decide +kernel
theorem dX5_choices_9 : decode cX5_choices 9 = .ok (.invokevirtual 107, 3) := by decide +kernel
theorem dX5_choices_12 : decode cX5_choices 12 = .ok (.goto 4, 3) := by decide +kernel
theorem dX5_choices_15 : decode cX5_choices 15 = .ok (.iconst (-1), 1) := by decide +kernel
theorem dX5_choices_16 : decode cX5_choices 16 = .ok (.ireturn, 1) := by decide +kernel
theorem dX5_whole_0 : decode cX5_whole 0 = .ok (.iload_n 1, 1) := by decide +kernel
theorem dX5_whole_1 : decode cX5_whole 1 = .ok (.invokestatic 97, 3) := by decide +kernel
theorem dX5_whole_4 : decode cX5_whole 4 = .ok (.ifCond .ne 5, 3) := by decide +kernel
theorem dX5_whole_7 : decode cX5_whole 7 = .ok (.iconst (-1), 1) := by decide +kernel
theorem dX5_whole_8 : decode cX5_whole 8 = .ok (.ireturn, 1) := by decide +kernel
theorem dX5_whole_9 : decode cX5_whole 9 = .ok (.aload_n 0, 1) := by decide +kernel
theorem dX5_whole_10 : decode cX5_whole 10 = .ok (.getfield 31, 3) := by decide +kernel
theorem dX5_whole_13 : decode cX5_whole 13 = .ok (.istore_n 2, 1) := by decide +kernel
theorem dX5_whole_14 : decode cX5_whole 14 = .ok (.aload_n 0, 1) := by decide +kernel
theorem dX5_whole_15 : decode cX5_whole 15 = .ok (.iload_n 1, 1) := by decide +kernel
theorem dX5_whole_16 : decode cX5_whole 16 = .ok (.putfield 31, 3) := by decide +kernel
theorem dX5_whole_19 : decode cX5_whole 19 = .ok (.iload_n 2, 1) := by decide +kernel
theorem dX5_whole_20 : decode cX5_whole 20 = .ok (.ireturn, 1) := by decide +kernel
theorem dX5_coin_0 : decode cX5_coin 0 = .ok (.iload_n 1, 1) := by decide +kernel
theorem dX5_coin_1 : decode cX5_coin 1 = .ok (.iconst 0, 1) := by decide +kernel
theorem dX5_coin_2 : decode cX5_coin 2 = .ok (.bipush 99, 2) := by decide +kernel
theorem dX5_coin_4 : decode cX5_coin 4 = .ok (.invokestatic 69, 3) := by decide +kernel
theorem dX5_coin_7 : decode cX5_coin 7 = .ok (.ifCond .ne 6, 3) := by decide +kernel
theorem dX5_coin_10 : decode cX5_coin 10 = .ok (.bipush (-2), 2) := by decide +kernel
theorem dX5_coin_12 : decode cX5_coin 12 = .ok (.ireturn, 1) := by decide +kernel
theorem dX5_coin_13 : decode cX5_coin 13 = .ok (.aload_n 0, 1) := by decide +kernel
theorem dX5_coin_14 : decode cX5_coin 14 = .ok (.getfield 35, 3) := by decide +kernel
theorem dX5_coin_17 : decode cX5_coin 17 = .ok (.istore_n 2, 1) := by decide +kernel
theorem dX5_coin_18 : decode cX5_coin 18 = .ok (.aload_n 0, 1) := by decide +kernel
theorem dX5_coin_19 : decode cX5_coin 19 = .ok (.iload_n 1, 1) := by decide +kernel
theorem dX5_coin_20 : decode cX5_coin 20 = .ok (.putfield 35, 3) := by decide +kernel
theorem dX5_coin_23 : decode cX5_coin 23 = .ok (.iload_n 2, 1) := by decide +kernel
theorem dX5_coin_24 : decode cX5_coin 24 = .ok (.ireturn, 1) := by decide +kernel
theorem dX5_lay_0 : decode cX5_lay 0 = .ok (.iconst 0, 1) := by decide +kernel
theorem dX5_lay_1 : decode cX5_lay 1 = .ok (.istore_n 1, 1) := by decide +kernel
theorem dX5_lay_2 : decode cX5_lay 2 = .ok (.iload_n 1, 1) := by decide +kernel
theorem dX5_lay_3 : decode cX5_lay 3 = .ok (.iconst 4, 1) := by decide +kernel
theorem dX5_lay_4 : decode cX5_lay 4 = .ok (.if_icmp .ge 92, 3) := by decide +kernel
theorem dX5_lay_7 : decode cX5_lay 7 = .ok (.iconst 1, 1) := by decide +kernel
theorem dX5_lay_8 : decode cX5_lay 8 = .ok (.aload_n 0, 1) := by decide +kernel
theorem dX5_lay_9 : decode cX5_lay 9 = .ok (.getfield 31, 3) := by decide +kernel
theorem dX5_lay_12 : decode cX5_lay 12 = .ok (.ishl, 1) := by decide +kernel
theorem dX5_lay_13 : decode cX5_lay 13 = .ok (.istore_n 2, 1) := by decide +kernel
theorem dX5_lay_14 : decode cX5_lay 14 = .ok (.aload_n 0, 1) := by decide +kernel
theorem dX5_lay_15 : decode cX5_lay 15 = .ok (.getfield 31, 3) := by decide +kernel
theorem dX5_lay_18 : decode cX5_lay 18 = .ok (.istore_n 3, 1) := by decide +kernel
theorem dX5_lay_19 : decode cX5_lay 19 = .ok (.iload_n 3, 1) := by decide +kernel
theorem dX5_lay_20 : decode cX5_lay 20 = .ok (.ifCond .le 63, 3) := by decide +kernel
theorem dX5_lay_23 : decode cX5_lay 23 = .ok (.iconst 0, 1) := by decide +kernel
theorem dX5_lay_24 : decode cX5_lay 24 = .ok (.istore 4, 2) := by decide +kernel
theorem dX5_lay_26 : decode cX5_lay 26 = .ok (.iload 4, 2) := by decide +kernel
theorem dX5_lay_28 : decode cX5_lay 28 = .ok (.iload_n 3, 1) := by decide +kernel
theorem dX5_lay_29 : decode cX5_lay 29 = .ok (.if_icmp .ge 48, 3) := by decide +kernel
theorem dX5_lay_32 : decode cX5_lay 32 = .ok (.iload_n 2, 1) := by decide +kernel
theorem dX5_lay_33 : decode cX5_lay 33 = .ok (.iload_n 3, 1) := by decide +kernel
theorem dX5_lay_34 : decode cX5_lay 34 = .ok (.invokestatic 103, 3) := by decide +kernel
theorem dX5_lay_37 : decode cX5_lay 37 = .ok (.ifCond .eq 40, 3) := by decide +kernel
theorem dX5_lay_40 : decode cX5_lay 40 = .ok (.iload_n 2, 1) := by decide +kernel
theorem dX5_lay_41 : decode cX5_lay 41 = .ok (.aload_n 0, 1) := by decide +kernel
theorem dX5_lay_42 : decode cX5_lay 42 = .ok (.getfield 28, 3) := by decide +kernel
theorem dX5_lay_45 : decode cX5_lay 45 = .ok (.bipush 6, 2) := by decide +kernel
theorem dX5_lay_47 : decode cX5_lay 47 = .ok (.iload_n 3, 1) := by decide +kernel
theorem dX5_lay_48 : decode cX5_lay 48 = .ok (.imul, 1) := by decide +kernel
theorem dX5_lay_49 : decode cX5_lay 49 = .ok (.iload 4, 2) := by decide +kernel
theorem dX5_lay_51 : decode cX5_lay 51 = .ok (.iadd, 1) := by decide +kernel
theorem dX5_lay_52 : decode cX5_lay 52 = .ok (.iaload, 1) := by decide +kernel
theorem dX5_lay_53 : decode cX5_lay 53 = .ok (.iconst 0, 1) := by decide +kernel
theorem dX5_lay_54 : decode cX5_lay 54 = .ok (.iload_n 1, 1) := by decide +kernel
theorem dX5_lay_55 : decode cX5_lay 55 = .ok (.invokestatic 69, 3) := by decide +kernel
theorem dX5_lay_58 : decode cX5_lay 58 = .ok (.ifCond .eq 10, 3) := by decide +kernel
theorem dX5_lay_61 : decode cX5_lay 61 = .ok (.iconst 1, 1) := by decide +kernel
theorem dX5_lay_62 : decode cX5_lay 62 = .ok (.iload 4, 2) := by decide +kernel
theorem dX5_lay_64 : decode cX5_lay 64 = .ok (.ishl, 1) := by decide +kernel
theorem dX5_lay_65 : decode cX5_lay 65 = .ok (.goto 4, 3) := by decide +kernel
theorem dX5_lay_68 : decode cX5_lay 68 = .ok (.iconst 0, 1) := by decide +kernel
theorem dX5_lay_69 : decode cX5_lay 69 = .ok (.ior, 1) := by decide +kernel
theorem dX5_lay_70 : decode cX5_lay 70 = .ok (.istore_n 2, 1) := by decide +kernel
theorem dX5_lay_71 : decode cX5_lay 71 = .ok (.iinc 4 1, 3) := by decide +kernel
theorem dX5_lay_74 : decode cX5_lay 74 = .ok (.goto (-48), 3) := by decide +kernel
theorem dX5_lay_77 : decode cX5_lay 77 = .ok (.iinc 3 (-1), 3) := by decide +kernel
theorem dX5_lay_80 : decode cX5_lay 80 = .ok (.goto (-61), 3) := by decide +kernel
theorem dX5_lay_83 : decode cX5_lay 83 = .ok (.aload_n 0, 1) := by decide +kernel
theorem dX5_lay_84 : decode cX5_lay 84 = .ok (.getfield 38, 3) := by decide +kernel
theorem dX5_lay_87 : decode cX5_lay 87 = .ok (.iload_n 1, 1) := by decide +kernel
theorem dX5_lay_88 : decode cX5_lay 88 = .ok (.iload_n 2, 1) := by decide +kernel
theorem dX5_lay_89 : decode cX5_lay 89 = .ok (.iastore, 1) := by decide +kernel
theorem dX5_lay_90 : decode cX5_lay 90 = .ok (.iinc 1 1, 3) := by decide +kernel
theorem dX5_lay_93 : decode cX5_lay 93 = .ok (.goto (-91), 3) := by decide +kernel
theorem dX5_lay_96 : decode cX5_lay 96 = .ok (.iconst 0, 1) := by decide +kernel
theorem dX5_lay_97 : decode cX5_lay 97 = .ok (.istore_n 1, 1) := by decide +kernel
theorem dX5_lay_98 : decode cX5_lay 98 = .ok (.iload_n 1, 1) := by decide +kernel
theorem dX5_lay_99 : decode cX5_lay 99 = .ok (.bipush 6, 2) := by decide +kernel
theorem dX5_lay_101 : decode cX5_lay 101 = .ok (.if_icmp .ge 20, 3) := by decide +kernel
theorem dX5_lay_104 : decode cX5_lay 104 = .ok (.aload_n 0, 1) := by decide +kernel
theorem dX5_lay_105 : decode cX5_lay 105 = .ok (.getfield 41, 3) := by decide +kernel
theorem dX5_lay_108 : decode cX5_lay 108 = .ok (.iload_n 1, 1) := by decide +kernel
theorem dX5_lay_109 : decode cX5_lay 109 = .ok (.aload_n 0, 1) := by decide +kernel
theorem dX5_lay_110 : decode cX5_lay 110 = .ok (.iload_n 1, 1) := by decide +kernel
theorem dX5_lay_111 : decode cX5_lay 111 = .ok (.invokevirtual 107, 3) := by decide +kernel
theorem dX5_lay_114 : decode cX5_lay 114 = .ok (.iastore, 1) := by decide +kernel
theorem dX5_lay_115 : decode cX5_lay 115 = .ok (.iinc 1 1, 3) := by decide +kernel
theorem dX5_lay_118 : decode cX5_lay 118 = .ok (.goto (-20), 3) := by decide +kernel
theorem dX5_lay_121 : decode cX5_lay 121 = .ok (.aload_n 0, 1) := by decide +kernel
theorem dX5_lay_122 : decode cX5_lay 122 = .ok (.iconst 0, 1) := by decide +kernel
theorem dX5_lay_123 : decode cX5_lay 123 = .ok (.putfield 110, 3) := by decide +kernel
theorem dX5_lay_126 : decode cX5_lay 126 = .ok (.return_, 1) := by decide +kernel
theorem dX5_pieces_0 : decode cX5_pieces 0 = .ok (.aload_n 0, 1) := by decide +kernel
theorem dX5_pieces_1 : decode cX5_pieces 1 = .ok (.invokevirtual 113, 3) := by decide +kernel
theorem dX5_pieces_4 : decode cX5_pieces 4 = .ok (.aload_n 0, 1) := by decide +kernel
theorem dX5_pieces_5 : decode cX5_pieces 5 = .ok (.getfield 38, 3) := by decide +kernel
theorem dX5_pieces_8 : decode cX5_pieces 8 = .ok (.iconst 3, 1) := by decide +kernel
theorem dX5_pieces_9 : decode cX5_pieces 9 = .ok (.iaload, 1) := by decide +kernel
theorem dX5_pieces_10 : decode cX5_pieces 10 = .ok (.ireturn, 1) := by decide +kernel
theorem dX5_isChosen_0 : decode cX5_isChosen 0 = .ok (.iload_n 1, 1) := by decide +kernel
theorem dX5_isChosen_1 : decode cX5_isChosen 1 = .ok (.aload_n 0, 1) := by decide +kernel
theorem dX5_isChosen_2 : decode cX5_isChosen 2 = .ok (.getfield 31, 3) := by decide +kernel
theorem dX5_isChosen_5 : decode cX5_isChosen 5 = .ok (.if_icmp .eq 20, 3) := by decide +kernel
theorem dX5_isChosen_8 : decode cX5_isChosen 8 = .ok (.aload_n 0, 1) := by decide +kernel
theorem dX5_isChosen_9 : decode cX5_isChosen 9 = .ok (.getfield 38, 3) := by decide +kernel
theorem dX5_isChosen_12 : decode cX5_isChosen 12 = .ok (.iconst 3, 1) := by decide +kernel
theorem dX5_isChosen_13 : decode cX5_isChosen 13 = .ok (.iaload, 1) := by decide +kernel
theorem dX5_isChosen_14 : decode cX5_isChosen 14 = .ok (.iload_n 1, 1) := by decide +kernel
theorem dX5_isChosen_15 : decode cX5_isChosen 15 = .ok (.invokestatic 103, 3) := by decide +kernel
theorem dX5_isChosen_18 : decode cX5_isChosen 18 = .ok (.ifCond .eq 7, 3) := by decide +kernel
theorem dX5_isChosen_21 : decode cX5_isChosen 21 = .ok (.iconst 1, 1) := by decide +kernel
theorem dX5_isChosen_22 : decode cX5_isChosen 22 = .ok (.goto 4, 3) := by decide +kernel
theorem dX5_isChosen_25 : decode cX5_isChosen 25 = .ok (.iconst 0, 1) := by decide +kernel
theorem dX5_isChosen_26 : decode cX5_isChosen 26 = .ok (.ireturn, 1) := by decide +kernel
theorem dX5_reaches_0 : decode cX5_reaches 0 = .ok (.aload_n 0, 1) := by decide +kernel
theorem dX5_reaches_1 : decode cX5_reaches 1 = .ok (.iload_n 1, 1) := by decide +kernel
theorem dX5_reaches_2 : decode cX5_reaches 2 = .ok (.invokevirtual 116, 3) := by decide +kernel
theorem dX5_reaches_5 : decode cX5_reaches 5 = .ok (.ifCond .eq 41, 3) := by decide +kernel
theorem dX5_reaches_8 : decode cX5_reaches 8 = .ok (.aload_n 0, 1) := by decide +kernel
theorem dX5_reaches_9 : decode cX5_reaches 9 = .ok (.getfield 110, 3) := by decide +kernel
theorem dX5_reaches_12 : decode cX5_reaches 12 = .ok (.iload_n 1, 1) := by decide +kernel
theorem dX5_reaches_13 : decode cX5_reaches 13 = .ok (.invokestatic 103, 3) := by decide +kernel
theorem dX5_reaches_16 : decode cX5_reaches 16 = .ok (.ifCond .ne 30, 3) := by decide +kernel
theorem dX5_reaches_19 : decode cX5_reaches 19 = .ok (.aload_n 0, 1) := by decide +kernel
theorem dX5_reaches_20 : decode cX5_reaches 20 = .ok (.getfield 38, 3) := by decide +kernel
theorem dX5_reaches_23 : decode cX5_reaches 23 = .ok (.aload_n 0, 1) := by decide +kernel
theorem dX5_reaches_24 : decode cX5_reaches 24 = .ok (.getfield 16, 3) := by decide +kernel
theorem dX5_reaches_27 : decode cX5_reaches 27 = .ok (.aload_n 0, 1) := by decide +kernel
theorem dX5_reaches_28 : decode cX5_reaches 28 = .ok (.getfield 44, 3) := by decide +kernel
theorem dX5_reaches_31 : decode cX5_reaches 31 = .ok (.iload_n 1, 1) := by decide +kernel
theorem dX5_reaches_32 : decode cX5_reaches 32 = .ok (.iaload, 1) := by decide +kernel
theorem dX5_reaches_33 : decode cX5_reaches 33 = .ok (.iaload, 1) := by decide +kernel
theorem dX5_reaches_34 : decode cX5_reaches 34 = .ok (.iaload, 1) := by decide +kernel
theorem dX5_reaches_35 : decode cX5_reaches 35 = .ok (.iload_n 1, 1) := by decide +kernel
theorem dX5_reaches_36 : decode cX5_reaches 36 = .ok (.invokestatic 103, 3) := by decide +kernel
theorem dX5_reaches_39 : decode cX5_reaches 39 = .ok (.ifCond .eq 7, 3) := by decide +kernel
theorem dX5_reaches_42 : decode cX5_reaches 42 = .ok (.iconst 1, 1) := by decide +kernel
theorem dX5_reaches_43 : decode cX5_reaches 43 = .ok (.goto 4, 3) := by decide +kernel
theorem dX5_reaches_46 : decode cX5_reaches 46 = .ok (.iconst 0, 1) := by decide +kernel
theorem dX5_reaches_47 : decode cX5_reaches 47 = .ok (.ireturn, 1) := by decide +kernel
theorem dX5_byWay_0 : decode cX5_byWay 0 = .ok (.iload_n 1, 1) := by decide +kernel
theorem dX5_byWay_1 : decode cX5_byWay 1 = .ok (.ifCond .ne 7, 3) := by decide +kernel
theorem dX5_byWay_4 : decode cX5_byWay 4 = .ok (.iload_n 0, 1) := by decide +kernel
theorem dX5_byWay_5 : decode cX5_byWay 5 = .ok (.goto 18, 3) := by decide +kernel
theorem dX5_byWay_8 : decode cX5_byWay 8 = .ok (.iload_n 1, 1) := by decide +kernel
theorem dX5_byWay_9 : decode cX5_byWay 9 = .ok (.iconst 1, 1) := by decide +kernel
theorem dX5_byWay_10 : decode cX5_byWay 10 = .ok (.if_icmp .ne 10, 3) := by decide +kernel
theorem dX5_byWay_13 : decode cX5_byWay 13 = .ok (.iload_n 0, 1) := by decide +kernel
theorem dX5_byWay_14 : decode cX5_byWay 14 = .ok (.bipush 22, 2) := by decide +kernel
theorem dX5_byWay_16 : decode cX5_byWay 16 = .ok (.iand, 1) := by decide +kernel
theorem dX5_byWay_17 : decode cX5_byWay 17 = .ok (.goto 6, 3) := by decide +kernel
theorem dX5_byWay_20 : decode cX5_byWay 20 = .ok (.iload_n 0, 1) := by decide +kernel
theorem dX5_byWay_21 : decode cX5_byWay 21 = .ok (.iconst 4, 1) := by decide +kernel
theorem dX5_byWay_22 : decode cX5_byWay 22 = .ok (.iand, 1) := by decide +kernel
theorem dX5_byWay_23 : decode cX5_byWay 23 = .ok (.ireturn, 1) := by decide +kernel
theorem dX5_musts_0 : decode cX5_musts 0 = .ok (.iconst 0, 1) := by decide +kernel
theorem dX5_musts_1 : decode cX5_musts 1 = .ok (.istore_n 1, 1) := by decide +kernel
theorem dX5_musts_2 : decode cX5_musts 2 = .ok (.iconst 0, 1) := by decide +kernel
theorem dX5_musts_3 : decode cX5_musts 3 = .ok (.istore_n 2, 1) := by decide +kernel
theorem dX5_musts_4 : decode cX5_musts 4 = .ok (.iload_n 2, 1) := by decide +kernel
theorem dX5_musts_5 : decode cX5_musts 5 = .ok (.bipush 6, 2) := by decide +kernel
theorem dX5_musts_7 : decode cX5_musts 7 = .ok (.if_icmp .ge 35, 3) := by decide +kernel
theorem dX5_musts_10 : decode cX5_musts 10 = .ok (.iload_n 1, 1) := by decide +kernel
theorem dX5_musts_11 : decode cX5_musts 11 = .ok (.aload_n 0, 1) := by decide +kernel
theorem dX5_musts_12 : decode cX5_musts 12 = .ok (.iload_n 2, 1) := by decide +kernel
theorem dX5_musts_13 : decode cX5_musts 13 = .ok (.invokevirtual 119, 3) := by decide +kernel
theorem dX5_musts_16 : decode cX5_musts 16 = .ok (.ifCond .eq 17, 3) := by decide +kernel
theorem dX5_musts_19 : decode cX5_musts 19 = .ok (.aload_n 0, 1) := by decide +kernel
theorem dX5_musts_20 : decode cX5_musts 20 = .ok (.getfield 13, 3) := by decide +kernel
theorem dX5_musts_23 : decode cX5_musts 23 = .ok (.aload_n 0, 1) := by decide +kernel
theorem dX5_musts_24 : decode cX5_musts 24 = .ok (.getfield 44, 3) := by decide +kernel
theorem dX5_musts_27 : decode cX5_musts 27 = .ok (.iload_n 2, 1) := by decide +kernel
theorem dX5_musts_28 : decode cX5_musts 28 = .ok (.iaload, 1) := by decide +kernel
theorem dX5_musts_29 : decode cX5_musts 29 = .ok (.iaload, 1) := by decide +kernel
theorem dX5_musts_30 : decode cX5_musts 30 = .ok (.goto 4, 3) := by decide +kernel
theorem dX5_musts_33 : decode cX5_musts 33 = .ok (.iconst 0, 1) := by decide +kernel
theorem dX5_musts_34 : decode cX5_musts 34 = .ok (.ior, 1) := by decide +kernel
theorem dX5_musts_35 : decode cX5_musts 35 = .ok (.istore_n 1, 1) := by decide +kernel
theorem dX5_musts_36 : decode cX5_musts 36 = .ok (.iinc 2 1, 3) := by decide +kernel
theorem dX5_musts_39 : decode cX5_musts 39 = .ok (.goto (-35), 3) := by decide +kernel
theorem dX5_musts_42 : decode cX5_musts 42 = .ok (.iload_n 1, 1) := by decide +kernel
theorem dX5_musts_43 : decode cX5_musts 43 = .ok (.ireturn, 1) := by decide +kernel
theorem dX5_mayGo_0 : decode cX5_mayGo 0 = .ok (.aload_n 0, 1) := by decide +kernel
theorem dX5_mayGo_1 : decode cX5_mayGo 1 = .ok (.getfield 41, 3) := by decide +kernel
theorem dX5_mayGo_4 : decode cX5_mayGo 4 = .ok (.aload_n 0, 1) := by decide +kernel
theorem dX5_mayGo_5 : decode cX5_mayGo 5 = .ok (.getfield 31, 3) := by decide +kernel
theorem dX5_mayGo_8 : decode cX5_mayGo 8 = .ok (.iaload, 1) := by decide +kernel
theorem dX5_mayGo_9 : decode cX5_mayGo 9 = .ok (.istore_n 1, 1) := by decide +kernel
theorem dX5_mayGo_10 : decode cX5_mayGo 10 = .ok (.iconst 0, 1) := by decide +kernel
theorem dX5_mayGo_11 : decode cX5_mayGo 11 = .ok (.istore_n 2, 1) := by decide +kernel
theorem dX5_mayGo_12 : decode cX5_mayGo 12 = .ok (.iload_n 2, 1) := by decide +kernel
theorem dX5_mayGo_13 : decode cX5_mayGo 13 = .ok (.bipush 6, 2) := by decide +kernel
theorem dX5_mayGo_15 : decode cX5_mayGo 15 = .ok (.if_icmp .ge 36, 3) := by decide +kernel
theorem dX5_mayGo_18 : decode cX5_mayGo 18 = .ok (.iload_n 1, 1) := by decide +kernel
theorem dX5_mayGo_19 : decode cX5_mayGo 19 = .ok (.aload_n 0, 1) := by decide +kernel
theorem dX5_mayGo_20 : decode cX5_mayGo 20 = .ok (.iload_n 2, 1) := by decide +kernel
theorem dX5_mayGo_21 : decode cX5_mayGo 21 = .ok (.invokevirtual 119, 3) := by decide +kernel
theorem dX5_mayGo_24 : decode cX5_mayGo 24 = .ok (.ifCond .eq 17, 3) := by decide +kernel
theorem dX5_mayGo_27 : decode cX5_mayGo 27 = .ok (.aload_n 0, 1) := by decide +kernel
theorem dX5_mayGo_28 : decode cX5_mayGo 28 = .ok (.getfield 19, 3) := by decide +kernel
theorem dX5_mayGo_31 : decode cX5_mayGo 31 = .ok (.aload_n 0, 1) := by decide +kernel
theorem dX5_mayGo_32 : decode cX5_mayGo 32 = .ok (.getfield 44, 3) := by decide +kernel
theorem dX5_mayGo_35 : decode cX5_mayGo 35 = .ok (.iload_n 2, 1) := by decide +kernel
theorem dX5_mayGo_36 : decode cX5_mayGo 36 = .ok (.iaload, 1) := by decide +kernel
theorem dX5_mayGo_37 : decode cX5_mayGo 37 = .ok (.iaload, 1) := by decide +kernel
theorem dX5_mayGo_38 : decode cX5_mayGo 38 = .ok (.goto 5, 3) := by decide +kernel
theorem dX5_mayGo_41 : decode cX5_mayGo 41 = .ok (.bipush 31, 2) := by decide +kernel
theorem dX5_mayGo_43 : decode cX5_mayGo 43 = .ok (.iand, 1) := by decide +kernel
theorem dX5_mayGo_44 : decode cX5_mayGo 44 = .ok (.istore_n 1, 1) := by decide +kernel
theorem dX5_mayGo_45 : decode cX5_mayGo 45 = .ok (.iinc 2 1, 3) := by decide +kernel
theorem dX5_mayGo_48 : decode cX5_mayGo 48 = .ok (.goto (-36), 3) := by decide +kernel
theorem dX5_mayGo_51 : decode cX5_mayGo 51 = .ok (.iload_n 1, 1) := by decide +kernel
theorem dX5_mayGo_52 : decode cX5_mayGo 52 = .ok (.ireturn, 1) := by decide +kernel
theorem dX5_by_0 : decode cX5_by 0 = .ok (.aload_n 0, 1) := by decide +kernel
theorem dX5_by_1 : decode cX5_by 1 = .ok (.invokevirtual 113, 3) := by decide +kernel
theorem dX5_by_4 : decode cX5_by 4 = .ok (.iload_n 1, 1) := by decide +kernel
theorem dX5_by_5 : decode cX5_by 5 = .ok (.ifCond .lt 12, 3) := by decide +kernel
theorem dX5_by_8 : decode cX5_by 8 = .ok (.iload_n 2, 1) := by decide +kernel
theorem dX5_by_9 : decode cX5_by 9 = .ok (.iconst 0, 1) := by decide +kernel
theorem dX5_by_10 : decode cX5_by 10 = .ok (.iconst 4, 1) := by decide +kernel
theorem dX5_by_11 : decode cX5_by 11 = .ok (.invokestatic 69, 3) := by decide +kernel
theorem dX5_by_14 : decode cX5_by 14 = .ok (.ifCond .ne 6, 3) := by decide +kernel
theorem dX5_by_17 : decode cX5_by 17 = .ok (.bipush (-2), 2) := by decide +kernel
theorem dX5_by_19 : decode cX5_by 19 = .ok (.ireturn, 1) := by decide +kernel
theorem dX5_by_20 : decode cX5_by 20 = .ok (.iload_n 1, 1) := by decide +kernel
theorem dX5_by_21 : decode cX5_by 21 = .ok (.istore_n 3, 1) := by decide +kernel
theorem dX5_by_22 : decode cX5_by 22 = .ok (.iconst 1, 1) := by decide +kernel
theorem dX5_by_23 : decode cX5_by 23 = .ok (.istore 4, 2) := by decide +kernel
theorem dX5_by_25 : decode cX5_by 25 = .ok (.iconst 0, 1) := by decide +kernel
theorem dX5_by_26 : decode cX5_by 26 = .ok (.istore 5, 2) := by decide +kernel
theorem dX5_by_28 : decode cX5_by 28 = .ok (.iload 5, 2) := by decide +kernel
theorem dX5_by_30 : decode cX5_by 30 = .ok (.bipush 6, 2) := by decide +kernel
theorem dX5_by_32 : decode cX5_by 32 = .ok (.if_icmp .ge 79, 3) := by decide +kernel
theorem dX5_by_35 : decode cX5_by 35 = .ok (.iload_n 3, 1) := by decide +kernel
theorem dX5_by_36 : decode cX5_by 36 = .ok (.bipush 10, 2) := by decide +kernel
theorem dX5_by_38 : decode cX5_by 38 = .ok (.irem, 1) := by decide +kernel
theorem dX5_by_39 : decode cX5_by 39 = .ok (.istore 6, 2) := by decide +kernel
theorem dX5_by_41 : decode cX5_by 41 = .ok (.iload_n 3, 1) := by decide +kernel
theorem dX5_by_42 : decode cX5_by 42 = .ok (.bipush 10, 2) := by decide +kernel
theorem dX5_by_44 : decode cX5_by 44 = .ok (.idiv, 1) := by decide +kernel
theorem dX5_by_45 : decode cX5_by 45 = .ok (.istore_n 3, 1) := by decide +kernel
theorem dX5_by_46 : decode cX5_by 46 = .ok (.iload 4, 2) := by decide +kernel
theorem dX5_by_48 : decode cX5_by 48 = .ok (.ifCond .eq 45, 3) := by decide +kernel
theorem dX5_by_51 : decode cX5_by 51 = .ok (.aload_n 0, 1) := by decide +kernel
theorem dX5_by_52 : decode cX5_by 52 = .ok (.iload 5, 2) := by decide +kernel
theorem dX5_by_54 : decode cX5_by 54 = .ok (.invokevirtual 116, 3) := by decide +kernel
theorem dX5_by_57 : decode cX5_by 57 = .ok (.ifCond .eq 27, 3) := by decide +kernel
theorem dX5_by_60 : decode cX5_by 60 = .ok (.iload 6, 2) := by decide +kernel
theorem dX5_by_62 : decode cX5_by 62 = .ok (.iconst 5, 1) := by decide +kernel
theorem dX5_by_63 : decode cX5_by 63 = .ok (.if_icmp .ge 30, 3) := by decide +kernel
theorem dX5_by_66 : decode cX5_by 66 = .ok (.aload_n 0, 1) := by decide +kernel
theorem dX5_by_67 : decode cX5_by 67 = .ok (.getfield 41, 3) := by decide +kernel
theorem dX5_by_70 : decode cX5_by 70 = .ok (.iload 5, 2) := by decide +kernel
theorem dX5_by_72 : decode cX5_by 72 = .ok (.iaload, 1) := by decide +kernel
theorem dX5_by_73 : decode cX5_by 73 = .ok (.iload 6, 2) := by decide +kernel
theorem dX5_by_75 : decode cX5_by 75 = .ok (.invokestatic 103, 3) := by decide +kernel
theorem dX5_by_78 : decode cX5_by 78 = .ok (.ifCond .eq 15, 3) := by decide +kernel
theorem dX5_by_81 : decode cX5_by 81 = .ok (.goto 8, 3) := by decide +kernel
theorem dX5_by_84 : decode cX5_by 84 = .ok (.iload 6, 2) := by decide +kernel
theorem dX5_by_86 : decode cX5_by 86 = .ok (.ifCond .ne 7, 3) := by decide +kernel
theorem dX5_by_89 : decode cX5_by 89 = .ok (.iconst 1, 1) := by decide +kernel
theorem dX5_by_90 : decode cX5_by 90 = .ok (.goto 4, 3) := by decide +kernel
theorem dX5_by_93 : decode cX5_by 93 = .ok (.iconst 0, 1) := by decide +kernel
theorem dX5_by_94 : decode cX5_by 94 = .ok (.istore 4, 2) := by decide +kernel
theorem dX5_by_96 : decode cX5_by 96 = .ok (.aload_n 0, 1) := by decide +kernel
theorem dX5_by_97 : decode cX5_by 97 = .ok (.getfield 44, 3) := by decide +kernel
theorem dX5_by_100 : decode cX5_by 100 = .ok (.iload 5, 2) := by decide +kernel
theorem dX5_by_102 : decode cX5_by 102 = .ok (.iload 6, 2) := by decide +kernel
theorem dX5_by_104 : decode cX5_by 104 = .ok (.iastore, 1) := by decide +kernel
theorem dX5_by_105 : decode cX5_by 105 = .ok (.iinc 5 1, 3) := by decide +kernel
theorem dX5_by_108 : decode cX5_by 108 = .ok (.goto (-80), 3) := by decide +kernel
theorem dX5_by_111 : decode cX5_by 111 = .ok (.iload 4, 2) := by decide +kernel
theorem dX5_by_113 : decode cX5_by 113 = .ok (.ifCond .eq 7, 3) := by decide +kernel
theorem dX5_by_116 : decode cX5_by 116 = .ok (.iload_n 3, 1) := by decide +kernel
theorem dX5_by_117 : decode cX5_by 117 = .ok (.ifCond .le 6, 3) := by decide +kernel
theorem dX5_by_120 : decode cX5_by 120 = .ok (.bipush (-2), 2) := by decide +kernel
theorem dX5_by_122 : decode cX5_by 122 = .ok (.ireturn, 1) := by decide +kernel
theorem dX5_by_123 : decode cX5_by 123 = .ok (.iload_n 2, 1) := by decide +kernel
theorem dX5_by_124 : decode cX5_by 124 = .ok (.iconst 4, 1) := by decide +kernel
theorem dX5_by_125 : decode cX5_by 125 = .ok (.if_icmp .ne 8, 3) := by decide +kernel
theorem dX5_by_128 : decode cX5_by 128 = .ok (.aload_n 0, 1) := by decide +kernel
theorem dX5_by_129 : decode cX5_by 129 = .ok (.invokevirtual 122, 3) := by decide +kernel
theorem dX5_by_132 : decode cX5_by 132 = .ok (.ireturn, 1) := by decide +kernel
theorem dX5_by_133 : decode cX5_by 133 = .ok (.iconst 0, 1) := by decide +kernel
theorem dX5_by_134 : decode cX5_by 134 = .ok (.istore 5, 2) := by decide +kernel
theorem dX5_by_136 : decode cX5_by 136 = .ok (.iconst 0, 1) := by decide +kernel
theorem dX5_by_137 : decode cX5_by 137 = .ok (.istore 6, 2) := by decide +kernel
theorem dX5_by_139 : decode cX5_by 139 = .ok (.iload 6, 2) := by decide +kernel
theorem dX5_by_141 : decode cX5_by 141 = .ok (.bipush 6, 2) := by decide +kernel
theorem dX5_by_143 : decode cX5_by 143 = .ok (.if_icmp .ge 31, 3) := by decide +kernel
theorem dX5_by_146 : decode cX5_by 146 = .ok (.iload 5, 2) := by decide +kernel
theorem dX5_by_148 : decode cX5_by 148 = .ok (.aload_n 0, 1) := by decide +kernel
theorem dX5_by_149 : decode cX5_by 149 = .ok (.iload 6, 2) := by decide +kernel
theorem dX5_by_151 : decode cX5_by 151 = .ok (.invokevirtual 119, 3) := by decide +kernel
theorem dX5_by_154 : decode cX5_by 154 = .ok (.ifCond .eq 10, 3) := by decide +kernel
theorem dX5_by_157 : decode cX5_by 157 = .ok (.iconst 1, 1) := by decide +kernel
theorem dX5_by_158 : decode cX5_by 158 = .ok (.iload 6, 2) := by decide +kernel
theorem dX5_by_160 : decode cX5_by 160 = .ok (.ishl, 1) := by decide +kernel
theorem dX5_by_161 : decode cX5_by 161 = .ok (.goto 4, 3) := by decide +kernel
theorem dX5_by_164 : decode cX5_by 164 = .ok (.iconst 0, 1) := by decide +kernel
theorem dX5_by_165 : decode cX5_by 165 = .ok (.ior, 1) := by decide +kernel
theorem dX5_by_166 : decode cX5_by 166 = .ok (.istore 5, 2) := by decide +kernel
theorem dX5_by_168 : decode cX5_by 168 = .ok (.iinc 6 1, 3) := by decide +kernel
theorem dX5_by_171 : decode cX5_by 171 = .ok (.goto (-32), 3) := by decide +kernel
theorem dX5_by_174 : decode cX5_by 174 = .ok (.iload_n 2, 1) := by decide +kernel
theorem dX5_by_175 : decode cX5_by 175 = .ok (.ifCond .ne 8, 3) := by decide +kernel
theorem dX5_by_178 : decode cX5_by 178 = .ok (.iload 5, 2) := by decide +kernel
theorem dX5_by_180 : decode cX5_by 180 = .ok (.goto 13, 3) := by decide +kernel
theorem dX5_by_183 : decode cX5_by 183 = .ok (.aload_n 0, 1) := by decide +kernel
theorem dX5_by_184 : decode cX5_by 184 = .ok (.invokevirtual 125, 3) := by decide +kernel
theorem dX5_by_187 : decode cX5_by 187 = .ok (.iload_n 2, 1) := by decide +kernel
theorem dX5_by_188 : decode cX5_by 188 = .ok (.iconst 1, 1) := by decide +kernel
theorem dX5_by_189 : decode cX5_by 189 = .ok (.isub, 1) := by decide +kernel
theorem dX5_by_190 : decode cX5_by 190 = .ok (.invokestatic 128, 3) := by decide +kernel
theorem dX5_by_193 : decode cX5_by 193 = .ok (.ireturn, 1) := by decide +kernel
theorem dX5_leastIn_0 : decode cX5_leastIn 0 = .ok (.iconst 0, 1) := by decide +kernel
theorem dX5_leastIn_1 : decode cX5_leastIn 1 = .ok (.istore_n 1, 1) := by decide +kernel
theorem dX5_leastIn_2 : decode cX5_leastIn 2 = .ok (.iload_n 0, 1) := by decide +kernel
theorem dX5_leastIn_3 : decode cX5_leastIn 3 = .ok (.iload_n 1, 1) := by decide +kernel
theorem dX5_leastIn_4 : decode cX5_leastIn 4 = .ok (.invokestatic 103, 3) := by decide +kernel
theorem dX5_leastIn_7 : decode cX5_leastIn 7 = .ok (.ifCond .ne 9, 3) := by decide +kernel
theorem dX5_leastIn_10 : decode cX5_leastIn 10 = .ok (.iinc 1 1, 3) := by decide +kernel
theorem dX5_leastIn_13 : decode cX5_leastIn 13 = .ok (.goto (-11), 3) := by decide +kernel
theorem dX5_leastIn_16 : decode cX5_leastIn 16 = .ok (.iload_n 1, 1) := by decide +kernel
theorem dX5_leastIn_17 : decode cX5_leastIn 17 = .ok (.ireturn, 1) := by decide +kernel
theorem dX5_begin_0 : decode cX5_begin 0 = .ok (.iconst 0, 1) := by decide +kernel
theorem dX5_begin_1 : decode cX5_begin 1 = .ok (.istore_n 1, 1) := by decide +kernel
theorem dX5_begin_2 : decode cX5_begin 2 = .ok (.iload_n 1, 1) := by decide +kernel
theorem dX5_begin_3 : decode cX5_begin 3 = .ok (.bipush 6, 2) := by decide +kernel
theorem dX5_begin_5 : decode cX5_begin 5 = .ok (.if_icmp .ge 36, 3) := by decide +kernel
theorem dX5_begin_8 : decode cX5_begin 8 = .ok (.aload_n 0, 1) := by decide +kernel
theorem dX5_begin_9 : decode cX5_begin 9 = .ok (.getfield 44, 3) := by decide +kernel
theorem dX5_begin_12 : decode cX5_begin 12 = .ok (.iload_n 1, 1) := by decide +kernel
theorem dX5_begin_13 : decode cX5_begin 13 = .ok (.aload_n 0, 1) := by decide +kernel
theorem dX5_begin_14 : decode cX5_begin 14 = .ok (.iload_n 1, 1) := by decide +kernel
theorem dX5_begin_15 : decode cX5_begin 15 = .ok (.invokevirtual 116, 3) := by decide +kernel
theorem dX5_begin_18 : decode cX5_begin 18 = .ok (.ifCond .eq 15, 3) := by decide +kernel
theorem dX5_begin_21 : decode cX5_begin 21 = .ok (.aload_n 0, 1) := by decide +kernel
theorem dX5_begin_22 : decode cX5_begin 22 = .ok (.getfield 41, 3) := by decide +kernel
theorem dX5_begin_25 : decode cX5_begin 25 = .ok (.iload_n 1, 1) := by decide +kernel
theorem dX5_begin_26 : decode cX5_begin 26 = .ok (.iaload, 1) := by decide +kernel
theorem dX5_begin_27 : decode cX5_begin 27 = .ok (.invokestatic 132, 3) := by decide +kernel
theorem dX5_begin_30 : decode cX5_begin 30 = .ok (.goto 4, 3) := by decide +kernel
theorem dX5_begin_33 : decode cX5_begin 33 = .ok (.iconst 0, 1) := by decide +kernel
theorem dX5_begin_34 : decode cX5_begin 34 = .ok (.iastore, 1) := by decide +kernel
theorem dX5_begin_35 : decode cX5_begin 35 = .ok (.iinc 1 1, 3) := by decide +kernel
theorem dX5_begin_38 : decode cX5_begin 38 = .ok (.goto (-36), 3) := by decide +kernel
theorem dX5_begin_41 : decode cX5_begin 41 = .ok (.return_, 1) := by decide +kernel
theorem dX5_next_0 : decode cX5_next 0 = .ok (.iconst 5, 1) := by decide +kernel
theorem dX5_next_1 : decode cX5_next 1 = .ok (.istore_n 1, 1) := by decide +kernel
theorem dX5_next_2 : decode cX5_next 2 = .ok (.iload_n 1, 1) := by decide +kernel
theorem dX5_next_3 : decode cX5_next 3 = .ok (.ifCond .lt 89, 3) := by decide +kernel
theorem dX5_next_6 : decode cX5_next 6 = .ok (.aload_n 0, 1) := by decide +kernel
theorem dX5_next_7 : decode cX5_next 7 = .ok (.iload_n 1, 1) := by decide +kernel
theorem dX5_next_8 : decode cX5_next 8 = .ok (.invokevirtual 116, 3) := by decide +kernel
theorem dX5_next_11 : decode cX5_next 11 = .ok (.ifCond .eq 30, 3) := by decide +kernel
theorem dX5_next_14 : decode cX5_next 14 = .ok (.aload_n 0, 1) := by decide +kernel
theorem dX5_next_15 : decode cX5_next 15 = .ok (.getfield 41, 3) := by decide +kernel
theorem dX5_next_18 : decode cX5_next 18 = .ok (.iload_n 1, 1) := by decide +kernel
theorem dX5_next_19 : decode cX5_next 19 = .ok (.iaload, 1) := by decide +kernel
theorem dX5_next_20 : decode cX5_next 20 = .ok (.aload_n 0, 1) := by decide +kernel
theorem dX5_next_21 : decode cX5_next 21 = .ok (.getfield 44, 3) := by decide +kernel
theorem dX5_next_24 : decode cX5_next 24 = .ok (.iload_n 1, 1) := by decide +kernel
theorem dX5_next_25 : decode cX5_next 25 = .ok (.iaload, 1) := by decide +kernel
theorem dX5_next_26 : decode cX5_next 26 = .ok (.iconst 1, 1) := by decide +kernel
theorem dX5_next_27 : decode cX5_next 27 = .ok (.iadd, 1) := by decide +kernel
theorem dX5_next_28 : decode cX5_next 28 = .ok (.ishr, 1) := by decide +kernel
theorem dX5_next_29 : decode cX5_next 29 = .ok (.aload_n 0, 1) := by decide +kernel
theorem dX5_next_30 : decode cX5_next 30 = .ok (.getfield 44, 3) := by decide +kernel
theorem dX5_next_33 : decode cX5_next 33 = .ok (.iload_n 1, 1) := by decide +kernel
theorem dX5_next_34 : decode cX5_next 34 = .ok (.iaload, 1) := by decide +kernel
theorem dX5_next_35 : decode cX5_next 35 = .ok (.iconst 1, 1) := by decide +kernel
theorem dX5_next_36 : decode cX5_next 36 = .ok (.iadd, 1) := by decide +kernel
theorem dX5_next_37 : decode cX5_next 37 = .ok (.ishl, 1) := by decide +kernel
theorem dX5_next_38 : decode cX5_next 38 = .ok (.goto 4, 3) := by decide +kernel
theorem dX5_next_41 : decode cX5_next 41 = .ok (.iconst 0, 1) := by decide +kernel
theorem dX5_next_42 : decode cX5_next 42 = .ok (.istore_n 2, 1) := by decide +kernel
theorem dX5_next_43 : decode cX5_next 43 = .ok (.iload_n 2, 1) := by decide +kernel
theorem dX5_next_44 : decode cX5_next 44 = .ok (.ifCond .eq 15, 3) := by decide +kernel
theorem dX5_next_47 : decode cX5_next 47 = .ok (.aload_n 0, 1) := by decide +kernel
theorem dX5_next_48 : decode cX5_next 48 = .ok (.getfield 44, 3) := by decide +kernel
theorem dX5_next_51 : decode cX5_next 51 = .ok (.iload_n 1, 1) := by decide +kernel
theorem dX5_next_52 : decode cX5_next 52 = .ok (.iload_n 2, 1) := by decide +kernel
theorem dX5_next_53 : decode cX5_next 53 = .ok (.invokestatic 132, 3) := by decide +kernel
theorem dX5_next_56 : decode cX5_next 56 = .ok (.iastore, 1) := by decide +kernel
theorem dX5_next_57 : decode cX5_next 57 = .ok (.iconst 1, 1) := by decide +kernel
theorem dX5_next_58 : decode cX5_next 58 = .ok (.ireturn, 1) := by decide +kernel
end
section
theorem dX5_next_59 : decode cX5_next 59 = .ok (.aload_n 0, 1) := by decide +kernel
theorem dX5_next_60 : decode cX5_next 60 = .ok (.getfield 44, 3) := by decide +kernel
theorem dX5_next_63 : decode cX5_next 63 = .ok (.iload_n 1, 1) := by decide +kernel
theorem dX5_next_64 : decode cX5_next 64 = .ok (.aload_n 0, 1) := by decide +kernel
theorem dX5_next_65 : decode cX5_next 65 = .ok (.iload_n 1, 1) := by decide +kernel
theorem dX5_next_66 : decode cX5_next 66 = .ok (.invokevirtual 116, 3) := by decide +kernel
theorem dX5_next_69 : decode cX5_next 69 = .ok (.ifCond .eq 15, 3) := by decide +kernel
theorem dX5_next_72 : decode cX5_next 72 = .ok (.aload_n 0, 1) := by decide +kernel
theorem dX5_next_73 : decode cX5_next 73 = .ok (.getfield 41, 3) := by decide +kernel
theorem dX5_next_76 : decode cX5_next 76 = .ok (.iload_n 1, 1) := by decide +kernel
theorem dX5_next_77 : decode cX5_next 77 = .ok (.iaload, 1) := by decide +kernel
theorem dX5_next_78 : decode cX5_next 78 = .ok (.invokestatic 132, 3) := by decide +kernel
theorem dX5_next_81 : decode cX5_next 81 = .ok (.goto 4, 3) := by decide +kernel
theorem dX5_next_84 : decode cX5_next 84 = .ok (.iconst 0, 1) := by decide +kernel
theorem dX5_next_85 : decode cX5_next 85 = .ok (.iastore, 1) := by decide +kernel
theorem dX5_next_86 : decode cX5_next 86 = .ok (.iinc 1 (-1), 3) := by decide +kernel
theorem dX5_next_89 : decode cX5_next 89 = .ok (.goto (-87), 3) := by decide +kernel
theorem dX5_next_92 : decode cX5_next 92 = .ok (.iconst 0, 1) := by decide +kernel
theorem dX5_next_93 : decode cX5_next 93 = .ok (.ireturn, 1) := by decide +kernel
theorem dX5_layBest_0 : decode cX5_layBest 0 = .ok (.iconst 0, 1) := by decide +kernel
theorem dX5_layBest_1 : decode cX5_layBest 1 = .ok (.istore_n 2, 1) := by decide +kernel
theorem dX5_layBest_2 : decode cX5_layBest 2 = .ok (.aload_n 0, 1) := by decide +kernel
theorem dX5_layBest_3 : decode cX5_layBest 3 = .ok (.invokevirtual 135, 3) := by decide +kernel
theorem dX5_layBest_6 : decode cX5_layBest 6 = .ok (.iconst 1, 1) := by decide +kernel
theorem dX5_layBest_7 : decode cX5_layBest 7 = .ok (.istore_n 3, 1) := by decide +kernel
theorem dX5_layBest_8 : decode cX5_layBest 8 = .ok (.iload_n 3, 1) := by decide +kernel
theorem dX5_layBest_9 : decode cX5_layBest 9 = .ok (.ifCond .eq 119, 3) := by decide +kernel
theorem dX5_layBest_12 : decode cX5_layBest 12 = .ok (.aload_n 0, 1) := by decide +kernel
theorem dX5_layBest_13 : decode cX5_layBest 13 = .ok (.invokevirtual 122, 3) := by decide +kernel
theorem dX5_layBest_16 : decode cX5_layBest 16 = .ok (.istore 4, 2) := by decide +kernel
theorem dX5_layBest_18 : decode cX5_layBest 18 = .ok (.aload_n 0, 1) := by decide +kernel
theorem dX5_layBest_19 : decode cX5_layBest 19 = .ok (.invokevirtual 125, 3) := by decide +kernel
theorem dX5_layBest_22 : decode cX5_layBest 22 = .ok (.iload_n 1, 1) := by decide +kernel
theorem dX5_layBest_23 : decode cX5_layBest 23 = .ok (.invokestatic 128, 3) := by decide +kernel
theorem dX5_layBest_26 : decode cX5_layBest 26 = .ok (.istore 5, 2) := by decide +kernel
theorem dX5_layBest_28 : decode cX5_layBest 28 = .ok (.iload 4, 2) := by decide +kernel
theorem dX5_layBest_30 : decode cX5_layBest 30 = .ok (.ifCond .eq 90, 3) := by decide +kernel
theorem dX5_layBest_33 : decode cX5_layBest 33 = .ok (.iload_n 2, 1) := by decide +kernel
theorem dX5_layBest_34 : decode cX5_layBest 34 = .ok (.ifCond .eq 42, 3) := by decide +kernel
theorem dX5_layBest_37 : decode cX5_layBest 37 = .ok (.iload 5, 2) := by decide +kernel
theorem dX5_layBest_39 : decode cX5_layBest 39 = .ok (.invokestatic 138, 3) := by decide +kernel
theorem dX5_layBest_42 : decode cX5_layBest 42 = .ok (.aload_n 0, 1) := by decide +kernel
theorem dX5_layBest_43 : decode cX5_layBest 43 = .ok (.getfield 141, 3) := by decide +kernel
theorem dX5_layBest_46 : decode cX5_layBest 46 = .ok (.invokestatic 138, 3) := by decide +kernel
theorem dX5_layBest_49 : decode cX5_layBest 49 = .ok (.if_icmp .lt 27, 3) := by decide +kernel
theorem dX5_layBest_52 : decode cX5_layBest 52 = .ok (.iload 5, 2) := by decide +kernel
theorem dX5_layBest_54 : decode cX5_layBest 54 = .ok (.invokestatic 138, 3) := by decide +kernel
theorem dX5_layBest_57 : decode cX5_layBest 57 = .ok (.aload_n 0, 1) := by decide +kernel
theorem dX5_layBest_58 : decode cX5_layBest 58 = .ok (.getfield 141, 3) := by decide +kernel
theorem dX5_layBest_61 : decode cX5_layBest 61 = .ok (.invokestatic 138, 3) := by decide +kernel
theorem dX5_layBest_64 : decode cX5_layBest 64 = .ok (.if_icmp .ne 56, 3) := by decide +kernel
theorem dX5_layBest_67 : decode cX5_layBest 67 = .ok (.iload 5, 2) := by decide +kernel
theorem dX5_layBest_69 : decode cX5_layBest 69 = .ok (.aload_n 0, 1) := by decide +kernel
theorem dX5_layBest_70 : decode cX5_layBest 70 = .ok (.getfield 141, 3) := by decide +kernel
theorem dX5_layBest_73 : decode cX5_layBest 73 = .ok (.if_icmp .ge 47, 3) := by decide +kernel
theorem dX5_layBest_76 : decode cX5_layBest 76 = .ok (.iconst 1, 1) := by decide +kernel
theorem dX5_layBest_77 : decode cX5_layBest 77 = .ok (.istore_n 2, 1) := by decide +kernel
theorem dX5_layBest_78 : decode cX5_layBest 78 = .ok (.aload_n 0, 1) := by decide +kernel
theorem dX5_layBest_79 : decode cX5_layBest 79 = .ok (.iload 5, 2) := by decide +kernel
theorem dX5_layBest_81 : decode cX5_layBest 81 = .ok (.putfield 141, 3) := by decide +kernel
theorem dX5_layBest_84 : decode cX5_layBest 84 = .ok (.aload_n 0, 1) := by decide +kernel
theorem dX5_layBest_85 : decode cX5_layBest 85 = .ok (.iload 4, 2) := by decide +kernel
theorem dX5_layBest_87 : decode cX5_layBest 87 = .ok (.putfield 144, 3) := by decide +kernel
theorem dX5_layBest_90 : decode cX5_layBest 90 = .ok (.iconst 0, 1) := by decide +kernel
theorem dX5_layBest_91 : decode cX5_layBest 91 = .ok (.istore 6, 2) := by decide +kernel
theorem dX5_layBest_93 : decode cX5_layBest 93 = .ok (.iload 6, 2) := by decide +kernel
theorem dX5_layBest_95 : decode cX5_layBest 95 = .ok (.bipush 6, 2) := by decide +kernel
theorem dX5_layBest_97 : decode cX5_layBest 97 = .ok (.if_icmp .ge 23, 3) := by decide +kernel
theorem dX5_layBest_100 : decode cX5_layBest 100 = .ok (.aload_n 0, 1) := by decide +kernel
theorem dX5_layBest_101 : decode cX5_layBest 101 = .ok (.getfield 47, 3) := by decide +kernel
theorem dX5_layBest_104 : decode cX5_layBest 104 = .ok (.iload 6, 2) := by decide +kernel
theorem dX5_layBest_106 : decode cX5_layBest 106 = .ok (.aload_n 0, 1) := by decide +kernel
theorem dX5_layBest_107 : decode cX5_layBest 107 = .ok (.getfield 44, 3) := by decide +kernel
theorem dX5_layBest_110 : decode cX5_layBest 110 = .ok (.iload 6, 2) := by decide +kernel
theorem dX5_layBest_112 : decode cX5_layBest 112 = .ok (.iaload, 1) := by decide +kernel
theorem dX5_layBest_113 : decode cX5_layBest 113 = .ok (.iastore, 1) := by decide +kernel
theorem dX5_layBest_114 : decode cX5_layBest 114 = .ok (.iinc 6 1, 3) := by decide +kernel
theorem dX5_layBest_117 : decode cX5_layBest 117 = .ok (.goto (-24), 3) := by decide +kernel
theorem dX5_layBest_120 : decode cX5_layBest 120 = .ok (.aload_n 0, 1) := by decide +kernel
theorem dX5_layBest_121 : decode cX5_layBest 121 = .ok (.invokevirtual 147, 3) := by decide +kernel
theorem dX5_layBest_124 : decode cX5_layBest 124 = .ok (.istore_n 3, 1) := by decide +kernel
theorem dX5_layBest_125 : decode cX5_layBest 125 = .ok (.goto (-117), 3) := by decide +kernel
theorem dX5_layBest_128 : decode cX5_layBest 128 = .ok (.iload_n 2, 1) := by decide +kernel
theorem dX5_layBest_129 : decode cX5_layBest 129 = .ok (.ireturn, 1) := by decide +kernel
theorem dX5_best_0 : decode cX5_best 0 = .ok (.iload_n 2, 1) := by decide +kernel
theorem dX5_best_1 : decode cX5_best 1 = .ok (.bipush (-2), 2) := by decide +kernel
theorem dX5_best_3 : decode cX5_best 3 = .ok (.iconst 5, 1) := by decide +kernel
theorem dX5_best_4 : decode cX5_best 4 = .ok (.invokestatic 69, 3) := by decide +kernel
theorem dX5_best_7 : decode cX5_best 7 = .ok (.ifCond .ne 5, 3) := by decide +kernel
theorem dX5_best_10 : decode cX5_best 10 = .ok (.iconst (-1), 1) := by decide +kernel
theorem dX5_best_11 : decode cX5_best 11 = .ok (.ireturn, 1) := by decide +kernel
theorem dX5_best_12 : decode cX5_best 12 = .ok (.iload_n 1, 1) := by decide +kernel
theorem dX5_best_13 : decode cX5_best 13 = .ok (.iconst 0, 1) := by decide +kernel
theorem dX5_best_14 : decode cX5_best 14 = .ok (.iconst 2, 1) := by decide +kernel
theorem dX5_best_15 : decode cX5_best 15 = .ok (.invokestatic 69, 3) := by decide +kernel
theorem dX5_best_18 : decode cX5_best 18 = .ok (.ifCond .ne 6, 3) := by decide +kernel
theorem dX5_best_21 : decode cX5_best 21 = .ok (.bipush (-2), 2) := by decide +kernel
theorem dX5_best_23 : decode cX5_best 23 = .ok (.ireturn, 1) := by decide +kernel
theorem dX5_best_24 : decode cX5_best 24 = .ok (.aload_n 0, 1) := by decide +kernel
theorem dX5_best_25 : decode cX5_best 25 = .ok (.invokevirtual 113, 3) := by decide +kernel
theorem dX5_best_28 : decode cX5_best 28 = .ok (.aload_n 0, 1) := by decide +kernel
theorem dX5_best_29 : decode cX5_best 29 = .ok (.iload_n 1, 1) := by decide +kernel
theorem dX5_best_30 : decode cX5_best 30 = .ok (.invokevirtual 151, 3) := by decide +kernel
theorem dX5_best_33 : decode cX5_best 33 = .ok (.ifCond .ne 6, 3) := by decide +kernel
theorem dX5_best_36 : decode cX5_best 36 = .ok (.bipush (-6), 2) := by decide +kernel
theorem dX5_best_38 : decode cX5_best 38 = .ok (.ireturn, 1) := by decide +kernel
theorem dX5_best_39 : decode cX5_best 39 = .ok (.iload_n 2, 1) := by decide +kernel
theorem dX5_best_40 : decode cX5_best 40 = .ok (.iconst (-1), 1) := by decide +kernel
theorem dX5_best_41 : decode cX5_best 41 = .ok (.if_icmp .ne 10, 3) := by decide +kernel
theorem dX5_best_44 : decode cX5_best 44 = .ok (.aload_n 0, 1) := by decide +kernel
theorem dX5_best_45 : decode cX5_best 45 = .ok (.getfield 141, 3) := by decide +kernel
theorem dX5_best_48 : decode cX5_best 48 = .ok (.goto 35, 3) := by decide +kernel
theorem dX5_best_51 : decode cX5_best 51 = .ok (.iload_n 2, 1) := by decide +kernel
theorem dX5_best_52 : decode cX5_best 52 = .ok (.bipush (-2), 2) := by decide +kernel
theorem dX5_best_54 : decode cX5_best 54 = .ok (.if_icmp .ne 10, 3) := by decide +kernel
theorem dX5_best_57 : decode cX5_best 57 = .ok (.aload_n 0, 1) := by decide +kernel
theorem dX5_best_58 : decode cX5_best 58 = .ok (.getfield 144, 3) := by decide +kernel
theorem dX5_best_61 : decode cX5_best 61 = .ok (.goto 22, 3) := by decide +kernel
theorem dX5_best_64 : decode cX5_best 64 = .ok (.aload_n 0, 1) := by decide +kernel
theorem dX5_best_65 : decode cX5_best 65 = .ok (.iload_n 2, 1) := by decide +kernel
theorem dX5_best_66 : decode cX5_best 66 = .ok (.invokevirtual 116, 3) := by decide +kernel
theorem dX5_best_69 : decode cX5_best 69 = .ok (.ifCond .eq 12, 3) := by decide +kernel
theorem dX5_best_72 : decode cX5_best 72 = .ok (.aload_n 0, 1) := by decide +kernel
theorem dX5_best_73 : decode cX5_best 73 = .ok (.getfield 47, 3) := by decide +kernel
theorem dX5_best_76 : decode cX5_best 76 = .ok (.iload_n 2, 1) := by decide +kernel
theorem dX5_best_77 : decode cX5_best 77 = .ok (.iaload, 1) := by decide +kernel
theorem dX5_best_78 : decode cX5_best 78 = .ok (.goto 5, 3) := by decide +kernel
theorem dX5_best_81 : decode cX5_best 81 = .ok (.bipush (-6), 2) := by decide +kernel
theorem dX5_best_83 : decode cX5_best 83 = .ok (.ireturn, 1) := by decide +kernel
theorem dX5_good_0 : decode cX5_good 0 = .ok (.aload_n 0, 1) := by decide +kernel
theorem dX5_good_1 : decode cX5_good 1 = .ok (.invokevirtual 113, 3) := by decide +kernel
theorem dX5_good_4 : decode cX5_good 4 = .ok (.iconst 0, 1) := by decide +kernel
theorem dX5_good_5 : decode cX5_good 5 = .ok (.istore_n 1, 1) := by decide +kernel
theorem dX5_good_6 : decode cX5_good 6 = .ok (.aload_n 0, 1) := by decide +kernel
theorem dX5_good_7 : decode cX5_good 7 = .ok (.invokevirtual 135, 3) := by decide +kernel
theorem dX5_good_10 : decode cX5_good 10 = .ok (.iconst 1, 1) := by decide +kernel
theorem dX5_good_11 : decode cX5_good 11 = .ok (.istore_n 2, 1) := by decide +kernel
theorem dX5_good_12 : decode cX5_good 12 = .ok (.iload_n 2, 1) := by decide +kernel
theorem dX5_good_13 : decode cX5_good 13 = .ok (.ifCond .eq 26, 3) := by decide +kernel
theorem dX5_good_16 : decode cX5_good 16 = .ok (.iload_n 1, 1) := by decide +kernel
theorem dX5_good_17 : decode cX5_good 17 = .ok (.aload_n 0, 1) := by decide +kernel
theorem dX5_good_18 : decode cX5_good 18 = .ok (.invokevirtual 122, 3) := by decide +kernel
theorem dX5_good_21 : decode cX5_good 21 = .ok (.ifCond .eq 7, 3) := by decide +kernel
theorem dX5_good_24 : decode cX5_good 24 = .ok (.iconst 1, 1) := by decide +kernel
theorem dX5_good_25 : decode cX5_good 25 = .ok (.goto 4, 3) := by decide +kernel
theorem dX5_good_28 : decode cX5_good 28 = .ok (.iconst 0, 1) := by decide +kernel
theorem dX5_good_29 : decode cX5_good 29 = .ok (.iadd, 1) := by decide +kernel
theorem dX5_good_30 : decode cX5_good 30 = .ok (.istore_n 1, 1) := by decide +kernel
theorem dX5_good_31 : decode cX5_good 31 = .ok (.aload_n 0, 1) := by decide +kernel
theorem dX5_good_32 : decode cX5_good 32 = .ok (.invokevirtual 147, 3) := by decide +kernel
theorem dX5_good_35 : decode cX5_good 35 = .ok (.istore_n 2, 1) := by decide +kernel
theorem dX5_good_36 : decode cX5_good 36 = .ok (.goto (-24), 3) := by decide +kernel
theorem dX5_good_39 : decode cX5_good 39 = .ok (.iload_n 1, 1) := by decide +kernel
theorem dX5_good_40 : decode cX5_good 40 = .ok (.ireturn, 1) := by decide +kernel
theorem dX5_someGood_0 : decode cX5_someGood 0 = .ok (.aload_n 0, 1) := by decide +kernel
theorem dX5_someGood_1 : decode cX5_someGood 1 = .ok (.invokevirtual 135, 3) := by decide +kernel
theorem dX5_someGood_4 : decode cX5_someGood 4 = .ok (.iconst 1, 1) := by decide +kernel
theorem dX5_someGood_5 : decode cX5_someGood 5 = .ok (.istore_n 1, 1) := by decide +kernel
theorem dX5_someGood_6 : decode cX5_someGood 6 = .ok (.iconst 0, 1) := by decide +kernel
theorem dX5_someGood_7 : decode cX5_someGood 7 = .ok (.istore_n 2, 1) := by decide +kernel
theorem dX5_someGood_8 : decode cX5_someGood 8 = .ok (.iload_n 1, 1) := by decide +kernel
theorem dX5_someGood_9 : decode cX5_someGood 9 = .ok (.ifCond .eq 28, 3) := by decide +kernel
theorem dX5_someGood_12 : decode cX5_someGood 12 = .ok (.iload_n 2, 1) := by decide +kernel
theorem dX5_someGood_13 : decode cX5_someGood 13 = .ok (.ifCond .ne 24, 3) := by decide +kernel
theorem dX5_someGood_16 : decode cX5_someGood 16 = .ok (.aload_n 0, 1) := by decide +kernel
theorem dX5_someGood_17 : decode cX5_someGood 17 = .ok (.invokevirtual 122, 3) := by decide +kernel
theorem dX5_someGood_20 : decode cX5_someGood 20 = .ok (.ifCond .eq 7, 3) := by decide +kernel
theorem dX5_someGood_23 : decode cX5_someGood 23 = .ok (.iconst 1, 1) := by decide +kernel
theorem dX5_someGood_24 : decode cX5_someGood 24 = .ok (.goto 4, 3) := by decide +kernel
theorem dX5_someGood_27 : decode cX5_someGood 27 = .ok (.iconst 0, 1) := by decide +kernel
theorem dX5_someGood_28 : decode cX5_someGood 28 = .ok (.istore_n 2, 1) := by decide +kernel
theorem dX5_someGood_29 : decode cX5_someGood 29 = .ok (.aload_n 0, 1) := by decide +kernel
theorem dX5_someGood_30 : decode cX5_someGood 30 = .ok (.invokevirtual 147, 3) := by decide +kernel
theorem dX5_someGood_33 : decode cX5_someGood 33 = .ok (.istore_n 1, 1) := by decide +kernel
theorem dX5_someGood_34 : decode cX5_someGood 34 = .ok (.goto (-26), 3) := by decide +kernel
theorem dX5_someGood_37 : decode cX5_someGood 37 = .ok (.iload_n 2, 1) := by decide +kernel
theorem dX5_someGood_38 : decode cX5_someGood 38 = .ok (.ireturn, 1) := by decide +kernel
theorem dX5_inside_0 : decode cX5_inside 0 = .ok (.aload_n 0, 1) := by decide +kernel
theorem dX5_inside_1 : decode cX5_inside 1 = .ok (.getfield 38, 3) := by decide +kernel
theorem dX5_inside_4 : decode cX5_inside 4 = .ok (.iconst 3, 1) := by decide +kernel
theorem dX5_inside_5 : decode cX5_inside 5 = .ok (.iaload, 1) := by decide +kernel
theorem dX5_inside_6 : decode cX5_inside 6 = .ok (.iconst 1, 1) := by decide +kernel
theorem dX5_inside_7 : decode cX5_inside 7 = .ok (.aload_n 0, 1) := by decide +kernel
theorem dX5_inside_8 : decode cX5_inside 8 = .ok (.getfield 31, 3) := by decide +kernel
theorem dX5_inside_11 : decode cX5_inside 11 = .ok (.ishl, 1) := by decide +kernel
theorem dX5_inside_12 : decode cX5_inside 12 = .ok (.iconst (-1), 1) := by decide +kernel
theorem dX5_inside_13 : decode cX5_inside 13 = .ok (.ixor, 1) := by decide +kernel
theorem dX5_inside_14 : decode cX5_inside 14 = .ok (.iand, 1) := by decide +kernel
theorem dX5_inside_15 : decode cX5_inside 15 = .ok (.ireturn, 1) := by decide +kernel
theorem dX5_bar_0 : decode cX5_bar 0 = .ok (.aload_n 0, 1) := by decide +kernel
theorem dX5_bar_1 : decode cX5_bar 1 = .ok (.invokevirtual 113, 3) := by decide +kernel
theorem dX5_bar_4 : decode cX5_bar 4 = .ok (.aload_n 0, 1) := by decide +kernel
theorem dX5_bar_5 : decode cX5_bar 5 = .ok (.invokevirtual 154, 3) := by decide +kernel
theorem dX5_bar_8 : decode cX5_bar 8 = .ok (.ifCond .eq 6, 3) := by decide +kernel
theorem dX5_bar_11 : decode cX5_bar 11 = .ok (.bipush (-3), 2) := by decide +kernel
theorem dX5_bar_13 : decode cX5_bar 13 = .ok (.ireturn, 1) := by decide +kernel
theorem dX5_bar_14 : decode cX5_bar 14 = .ok (.bipush (-6), 2) := by decide +kernel
theorem dX5_bar_16 : decode cX5_bar 16 = .ok (.istore_n 1, 1) := by decide +kernel
theorem dX5_bar_17 : decode cX5_bar 17 = .ok (.iconst 1, 1) := by decide +kernel
theorem dX5_bar_18 : decode cX5_bar 18 = .ok (.istore_n 2, 1) := by decide +kernel
theorem dX5_bar_19 : decode cX5_bar 19 = .ok (.iload_n 2, 1) := by decide +kernel
theorem dX5_bar_20 : decode cX5_bar 20 = .ok (.bipush 64, 2) := by decide +kernel
theorem dX5_bar_22 : decode cX5_bar 22 = .ok (.if_icmp .ge 58, 3) := by decide +kernel
theorem dX5_bar_25 : decode cX5_bar 25 = .ok (.iload_n 2, 1) := by decide +kernel
theorem dX5_bar_26 : decode cX5_bar 26 = .ok (.aload_n 0, 1) := by decide +kernel
theorem dX5_bar_27 : decode cX5_bar 27 = .ok (.invokevirtual 157, 3) := by decide +kernel
theorem dX5_bar_30 : decode cX5_bar 30 = .ok (.iconst (-1), 1) := by decide +kernel
theorem dX5_bar_31 : decode cX5_bar 31 = .ok (.ixor, 1) := by decide +kernel
theorem dX5_bar_32 : decode cX5_bar 32 = .ok (.iand, 1) := by decide +kernel
theorem dX5_bar_33 : decode cX5_bar 33 = .ok (.ifCond .ne 41, 3) := by decide +kernel
theorem dX5_bar_36 : decode cX5_bar 36 = .ok (.iload_n 1, 1) := by decide +kernel
theorem dX5_bar_37 : decode cX5_bar 37 = .ok (.ifCond .lt 14, 3) := by decide +kernel
theorem dX5_bar_40 : decode cX5_bar 40 = .ok (.iload_n 2, 1) := by decide +kernel
theorem dX5_bar_41 : decode cX5_bar 41 = .ok (.invokestatic 138, 3) := by decide +kernel
theorem dX5_bar_44 : decode cX5_bar 44 = .ok (.iload_n 1, 1) := by decide +kernel
theorem dX5_bar_45 : decode cX5_bar 45 = .ok (.invokestatic 138, 3) := by decide +kernel
theorem dX5_bar_48 : decode cX5_bar 48 = .ok (.if_icmp .ge 26, 3) := by decide +kernel
theorem dX5_bar_51 : decode cX5_bar 51 = .ok (.aload_n 0, 1) := by decide +kernel
theorem dX5_bar_52 : decode cX5_bar 52 = .ok (.bipush 63, 2) := by decide +kernel
theorem dX5_bar_54 : decode cX5_bar 54 = .ok (.iload_n 2, 1) := by decide +kernel
theorem dX5_bar_55 : decode cX5_bar 55 = .ok (.iconst (-1), 1) := by decide +kernel
theorem dX5_bar_56 : decode cX5_bar 56 = .ok (.ixor, 1) := by decide +kernel
theorem dX5_bar_57 : decode cX5_bar 57 = .ok (.iand, 1) := by decide +kernel
theorem dX5_bar_58 : decode cX5_bar 58 = .ok (.putfield 110, 3) := by decide +kernel
theorem dX5_bar_61 : decode cX5_bar 61 = .ok (.aload_n 0, 1) := by decide +kernel
theorem dX5_bar_62 : decode cX5_bar 62 = .ok (.invokevirtual 154, 3) := by decide +kernel
theorem dX5_bar_65 : decode cX5_bar 65 = .ok (.ifCond .eq 7, 3) := by decide +kernel
theorem dX5_bar_68 : decode cX5_bar 68 = .ok (.iload_n 1, 1) := by decide +kernel
theorem dX5_bar_69 : decode cX5_bar 69 = .ok (.goto 4, 3) := by decide +kernel
theorem dX5_bar_72 : decode cX5_bar 72 = .ok (.iload_n 2, 1) := by decide +kernel
theorem dX5_bar_73 : decode cX5_bar 73 = .ok (.istore_n 1, 1) := by decide +kernel
theorem dX5_bar_74 : decode cX5_bar 74 = .ok (.iinc 2 1, 3) := by decide +kernel
theorem dX5_bar_77 : decode cX5_bar 77 = .ok (.goto (-58), 3) := by decide +kernel
theorem dX5_bar_80 : decode cX5_bar 80 = .ok (.iload_n 1, 1) := by decide +kernel
theorem dX5_bar_81 : decode cX5_bar 81 = .ok (.ireturn, 1) := by decide +kernel
theorem dX5_coinOf_0 : decode cX5_coinOf 0 = .ok (.iconst 0, 1) := by decide +kernel
theorem dX5_coinOf_1 : decode cX5_coinOf 1 = .ok (.istore_n 2, 1) := by decide +kernel
theorem dX5_coinOf_2 : decode cX5_coinOf 2 = .ok (.iconst 0, 1) := by decide +kernel
theorem dX5_coinOf_3 : decode cX5_coinOf 3 = .ok (.istore_n 3, 1) := by decide +kernel
theorem dX5_coinOf_4 : decode cX5_coinOf 4 = .ok (.iload_n 3, 1) := by decide +kernel
theorem dX5_coinOf_5 : decode cX5_coinOf 5 = .ok (.bipush 6, 2) := by decide +kernel
theorem dX5_coinOf_7 : decode cX5_coinOf 7 = .ok (.if_icmp .ge 34, 3) := by decide +kernel
theorem dX5_coinOf_10 : decode cX5_coinOf 10 = .ok (.iload_n 2, 1) := by decide +kernel
theorem dX5_coinOf_11 : decode cX5_coinOf 11 = .ok (.iload_n 1, 1) := by decide +kernel
theorem dX5_coinOf_12 : decode cX5_coinOf 12 = .ok (.iload_n 3, 1) := by decide +kernel
theorem dX5_coinOf_13 : decode cX5_coinOf 13 = .ok (.invokestatic 103, 3) := by decide +kernel
theorem dX5_coinOf_16 : decode cX5_coinOf 16 = .ok (.ifCond .eq 16, 3) := by decide +kernel
theorem dX5_coinOf_19 : decode cX5_coinOf 19 = .ok (.aload_n 0, 1) := by decide +kernel
theorem dX5_coinOf_20 : decode cX5_coinOf 20 = .ok (.getfield 25, 3) := by decide +kernel
theorem dX5_coinOf_23 : decode cX5_coinOf 23 = .ok (.iconst 4, 1) := by decide +kernel
theorem dX5_coinOf_24 : decode cX5_coinOf 24 = .ok (.iload_n 3, 1) := by decide +kernel
theorem dX5_coinOf_25 : decode cX5_coinOf 25 = .ok (.imul, 1) := by decide +kernel
theorem dX5_coinOf_26 : decode cX5_coinOf 26 = .ok (.iconst 3, 1) := by decide +kernel
theorem dX5_coinOf_27 : decode cX5_coinOf 27 = .ok (.iadd, 1) := by decide +kernel
theorem dX5_coinOf_28 : decode cX5_coinOf 28 = .ok (.iaload, 1) := by decide +kernel
theorem dX5_coinOf_29 : decode cX5_coinOf 29 = .ok (.goto 4, 3) := by decide +kernel
theorem dX5_coinOf_32 : decode cX5_coinOf 32 = .ok (.iconst 0, 1) := by decide +kernel
theorem dX5_coinOf_33 : decode cX5_coinOf 33 = .ok (.iadd, 1) := by decide +kernel
theorem dX5_coinOf_34 : decode cX5_coinOf 34 = .ok (.istore_n 2, 1) := by decide +kernel
theorem dX5_coinOf_35 : decode cX5_coinOf 35 = .ok (.iinc 3 1, 3) := by decide +kernel
theorem dX5_coinOf_38 : decode cX5_coinOf 38 = .ok (.goto (-34), 3) := by decide +kernel
theorem dX5_coinOf_41 : decode cX5_coinOf 41 = .ok (.iload_n 2, 1) := by decide +kernel
theorem dX5_coinOf_42 : decode cX5_coinOf 42 = .ok (.ireturn, 1) := by decide +kernel
theorem dX5_anew_0 : decode cX5_anew 0 = .ok (.iload_n 1, 1) := by decide +kernel
theorem dX5_anew_1 : decode cX5_anew 1 = .ok (.iconst 0, 1) := by decide +kernel
theorem dX5_anew_2 : decode cX5_anew 2 = .ok (.iconst 1, 1) := by decide +kernel
theorem dX5_anew_3 : decode cX5_anew 3 = .ok (.invokestatic 69, 3) := by decide +kernel
theorem dX5_anew_6 : decode cX5_anew 6 = .ok (.ifCond .ne 6, 3) := by decide +kernel
theorem dX5_anew_9 : decode cX5_anew 9 = .ok (.bipush (-2), 2) := by decide +kernel
theorem dX5_anew_11 : decode cX5_anew 11 = .ok (.ireturn, 1) := by decide +kernel
theorem dX5_anew_12 : decode cX5_anew 12 = .ok (.aload_n 0, 1) := by decide +kernel
theorem dX5_anew_13 : decode cX5_anew 13 = .ok (.invokevirtual 113, 3) := by decide +kernel
theorem dX5_anew_16 : decode cX5_anew 16 = .ok (.bipush (-6), 2) := by decide +kernel
theorem dX5_anew_18 : decode cX5_anew 18 = .ok (.istore_n 2, 1) := by decide +kernel
theorem dX5_anew_19 : decode cX5_anew 19 = .ok (.iconst 0, 1) := by decide +kernel
theorem dX5_anew_20 : decode cX5_anew 20 = .ok (.istore_n 3, 1) := by decide +kernel
theorem dX5_anew_21 : decode cX5_anew 21 = .ok (.iload_n 3, 1) := by decide +kernel
theorem dX5_anew_22 : decode cX5_anew 22 = .ok (.bipush 64, 2) := by decide +kernel
theorem dX5_anew_24 : decode cX5_anew 24 = .ok (.if_icmp .ge 91, 3) := by decide +kernel
theorem dX5_anew_27 : decode cX5_anew 27 = .ok (.iload_n 3, 1) := by decide +kernel
theorem dX5_anew_28 : decode cX5_anew 28 = .ok (.aload_n 0, 1) := by decide +kernel
theorem dX5_anew_29 : decode cX5_anew 29 = .ok (.invokevirtual 157, 3) := by decide +kernel
theorem dX5_anew_32 : decode cX5_anew 32 = .ok (.iconst (-1), 1) := by decide +kernel
theorem dX5_anew_33 : decode cX5_anew 33 = .ok (.ixor, 1) := by decide +kernel
theorem dX5_anew_34 : decode cX5_anew 34 = .ok (.iand, 1) := by decide +kernel
theorem dX5_anew_35 : decode cX5_anew 35 = .ok (.ifCond .ne 74, 3) := by decide +kernel
theorem dX5_anew_38 : decode cX5_anew 38 = .ok (.iload_n 2, 1) := by decide +kernel
theorem dX5_anew_39 : decode cX5_anew 39 = .ok (.ifCond .lt 40, 3) := by decide +kernel
theorem dX5_anew_42 : decode cX5_anew 42 = .ok (.aload_n 0, 1) := by decide +kernel
theorem dX5_anew_43 : decode cX5_anew 43 = .ok (.iload_n 3, 1) := by decide +kernel
theorem dX5_anew_44 : decode cX5_anew 44 = .ok (.invokevirtual 160, 3) := by decide +kernel
theorem dX5_anew_47 : decode cX5_anew 47 = .ok (.aload_n 0, 1) := by decide +kernel
theorem dX5_anew_48 : decode cX5_anew 48 = .ok (.iload_n 2, 1) := by decide +kernel
theorem dX5_anew_49 : decode cX5_anew 49 = .ok (.invokevirtual 160, 3) := by decide +kernel
theorem dX5_anew_52 : decode cX5_anew 52 = .ok (.if_icmp .lt 27, 3) := by decide +kernel
theorem dX5_anew_55 : decode cX5_anew 55 = .ok (.aload_n 0, 1) := by decide +kernel
theorem dX5_anew_56 : decode cX5_anew 56 = .ok (.iload_n 3, 1) := by decide +kernel
theorem dX5_anew_57 : decode cX5_anew 57 = .ok (.invokevirtual 160, 3) := by decide +kernel
theorem dX5_anew_60 : decode cX5_anew 60 = .ok (.aload_n 0, 1) := by decide +kernel
theorem dX5_anew_61 : decode cX5_anew 61 = .ok (.iload_n 2, 1) := by decide +kernel
theorem dX5_anew_62 : decode cX5_anew 62 = .ok (.invokevirtual 160, 3) := by decide +kernel
theorem dX5_anew_65 : decode cX5_anew 65 = .ok (.if_icmp .ne 18, 3) := by decide +kernel
theorem dX5_anew_68 : decode cX5_anew 68 = .ok (.iload_n 3, 1) := by decide +kernel
theorem dX5_anew_69 : decode cX5_anew 69 = .ok (.invokestatic 138, 3) := by decide +kernel
theorem dX5_anew_72 : decode cX5_anew 72 = .ok (.iload_n 2, 1) := by decide +kernel
theorem dX5_anew_73 : decode cX5_anew 73 = .ok (.invokestatic 138, 3) := by decide +kernel
theorem dX5_anew_76 : decode cX5_anew 76 = .ok (.if_icmp .ge 7, 3) := by decide +kernel
theorem dX5_anew_79 : decode cX5_anew 79 = .ok (.iconst 1, 1) := by decide +kernel
theorem dX5_anew_80 : decode cX5_anew 80 = .ok (.goto 4, 3) := by decide +kernel
theorem dX5_anew_83 : decode cX5_anew 83 = .ok (.iconst 0, 1) := by decide +kernel
theorem dX5_anew_84 : decode cX5_anew 84 = .ok (.istore 4, 2) := by decide +kernel
theorem dX5_anew_86 : decode cX5_anew 86 = .ok (.aload_n 0, 1) := by decide +kernel
theorem dX5_anew_87 : decode cX5_anew 87 = .ok (.iload_n 3, 1) := by decide +kernel
theorem dX5_anew_88 : decode cX5_anew 88 = .ok (.putfield 110, 3) := by decide +kernel
theorem dX5_anew_91 : decode cX5_anew 91 = .ok (.iload 4, 2) := by decide +kernel
theorem dX5_anew_93 : decode cX5_anew 93 = .ok (.ifCond .eq 14, 3) := by decide +kernel
theorem dX5_anew_96 : decode cX5_anew 96 = .ok (.aload_n 0, 1) := by decide +kernel
theorem dX5_anew_97 : decode cX5_anew 97 = .ok (.invokevirtual 154, 3) := by decide +kernel
theorem dX5_anew_100 : decode cX5_anew 100 = .ok (.ifCond .eq 7, 3) := by decide +kernel
theorem dX5_anew_103 : decode cX5_anew 103 = .ok (.iload_n 3, 1) := by decide +kernel
theorem dX5_anew_104 : decode cX5_anew 104 = .ok (.goto 4, 3) := by decide +kernel
theorem dX5_anew_107 : decode cX5_anew 107 = .ok (.iload_n 2, 1) := by decide +kernel
theorem dX5_anew_108 : decode cX5_anew 108 = .ok (.istore_n 2, 1) := by decide +kernel
theorem dX5_anew_109 : decode cX5_anew 109 = .ok (.iinc 3 1, 3) := by decide +kernel
theorem dX5_anew_112 : decode cX5_anew 112 = .ok (.goto (-91), 3) := by decide +kernel
theorem dX5_anew_115 : decode cX5_anew 115 = .ok (.iload_n 1, 1) := by decide +kernel
theorem dX5_anew_116 : decode cX5_anew 116 = .ok (.ifCond .ne 7, 3) := by decide +kernel
theorem dX5_anew_119 : decode cX5_anew 119 = .ok (.iload_n 2, 1) := by decide +kernel
theorem dX5_anew_120 : decode cX5_anew 120 = .ok (.goto 8, 3) := by decide +kernel
theorem dX5_anew_123 : decode cX5_anew 123 = .ok (.aload_n 0, 1) := by decide +kernel
theorem dX5_anew_124 : decode cX5_anew 124 = .ok (.iload_n 2, 1) := by decide +kernel
theorem dX5_anew_125 : decode cX5_anew 125 = .ok (.invokevirtual 160, 3) := by decide +kernel
theorem dX5_anew_128 : decode cX5_anew 128 = .ok (.ireturn, 1) := by decide +kernel
theorem dX5_usesOf_0 : decode cX5_usesOf 0 = .ok (.iconst 0, 1) := by decide +kernel
theorem dX5_usesOf_1 : decode cX5_usesOf 1 = .ok (.istore_n 2, 1) := by decide +kernel
theorem dX5_usesOf_2 : decode cX5_usesOf 2 = .ok (.iconst 0, 1) := by decide +kernel
theorem dX5_usesOf_3 : decode cX5_usesOf 3 = .ok (.istore_n 3, 1) := by decide +kernel
theorem dX5_usesOf_4 : decode cX5_usesOf 4 = .ok (.iload_n 3, 1) := by decide +kernel
theorem dX5_usesOf_5 : decode cX5_usesOf 5 = .ok (.bipush 6, 2) := by decide +kernel
theorem dX5_usesOf_7 : decode cX5_usesOf 7 = .ok (.if_icmp .ge 61, 3) := by decide +kernel
theorem dX5_usesOf_10 : decode cX5_usesOf 10 = .ok (.iconst 0, 1) := by decide +kernel
theorem dX5_usesOf_11 : decode cX5_usesOf 11 = .ok (.istore 4, 2) := by decide +kernel
theorem dX5_usesOf_13 : decode cX5_usesOf 13 = .ok (.iload 4, 2) := by decide +kernel
theorem dX5_usesOf_15 : decode cX5_usesOf 15 = .ok (.iload_n 3, 1) := by decide +kernel
theorem dX5_usesOf_16 : decode cX5_usesOf 16 = .ok (.if_icmp .ge 46, 3) := by decide +kernel
theorem dX5_usesOf_19 : decode cX5_usesOf 19 = .ok (.aload_n 0, 1) := by decide +kernel
theorem dX5_usesOf_20 : decode cX5_usesOf 20 = .ok (.getfield 38, 3) := by decide +kernel
theorem dX5_usesOf_23 : decode cX5_usesOf 23 = .ok (.iconst 3, 1) := by decide +kernel
theorem dX5_usesOf_24 : decode cX5_usesOf 24 = .ok (.iaload, 1) := by decide +kernel
theorem dX5_usesOf_25 : decode cX5_usesOf 25 = .ok (.iload_n 3, 1) := by decide +kernel
theorem dX5_usesOf_26 : decode cX5_usesOf 26 = .ok (.invokestatic 103, 3) := by decide +kernel
theorem dX5_usesOf_29 : decode cX5_usesOf 29 = .ok (.ifCond .eq 33, 3) := by decide +kernel
theorem dX5_usesOf_32 : decode cX5_usesOf 32 = .ok (.iload_n 2, 1) := by decide +kernel
theorem dX5_usesOf_33 : decode cX5_usesOf 33 = .ok (.aload_n 0, 1) := by decide +kernel
theorem dX5_usesOf_34 : decode cX5_usesOf 34 = .ok (.getfield 28, 3) := by decide +kernel
theorem dX5_usesOf_37 : decode cX5_usesOf 37 = .ok (.bipush 6, 2) := by decide +kernel
theorem dX5_usesOf_39 : decode cX5_usesOf 39 = .ok (.iload_n 3, 1) := by decide +kernel
theorem dX5_usesOf_40 : decode cX5_usesOf 40 = .ok (.imul, 1) := by decide +kernel
theorem dX5_usesOf_41 : decode cX5_usesOf 41 = .ok (.iload 4, 2) := by decide +kernel
theorem dX5_usesOf_43 : decode cX5_usesOf 43 = .ok (.iadd, 1) := by decide +kernel
theorem dX5_usesOf_44 : decode cX5_usesOf 44 = .ok (.iaload, 1) := by decide +kernel
theorem dX5_usesOf_45 : decode cX5_usesOf 45 = .ok (.iload_n 1, 1) := by decide +kernel
theorem dX5_usesOf_46 : decode cX5_usesOf 46 = .ok (.if_icmp .ne 7, 3) := by decide +kernel
theorem dX5_usesOf_49 : decode cX5_usesOf 49 = .ok (.iconst 1, 1) := by decide +kernel
theorem dX5_usesOf_50 : decode cX5_usesOf 50 = .ok (.goto 4, 3) := by decide +kernel
theorem dX5_usesOf_53 : decode cX5_usesOf 53 = .ok (.iconst 0, 1) := by decide +kernel
theorem dX5_usesOf_54 : decode cX5_usesOf 54 = .ok (.iadd, 1) := by decide +kernel
theorem dX5_usesOf_55 : decode cX5_usesOf 55 = .ok (.istore_n 2, 1) := by decide +kernel
theorem dX5_usesOf_56 : decode cX5_usesOf 56 = .ok (.iinc 4 1, 3) := by decide +kernel
theorem dX5_usesOf_59 : decode cX5_usesOf 59 = .ok (.goto (-46), 3) := by decide +kernel
theorem dX5_usesOf_62 : decode cX5_usesOf 62 = .ok (.iinc 3 1, 3) := by decide +kernel
theorem dX5_usesOf_65 : decode cX5_usesOf 65 = .ok (.goto (-61), 3) := by decide +kernel
theorem dX5_usesOf_68 : decode cX5_usesOf 68 = .ok (.iload_n 2, 1) := by decide +kernel
theorem dX5_usesOf_69 : decode cX5_usesOf 69 = .ok (.ireturn, 1) := by decide +kernel
theorem dX5_loosen_0 : decode cX5_loosen 0 = .ok (.aload_n 0, 1) := by decide +kernel
theorem dX5_loosen_1 : decode cX5_loosen 1 = .ok (.getfield 38, 3) := by decide +kernel
theorem dX5_loosen_4 : decode cX5_loosen 4 = .ok (.iconst 3, 1) := by decide +kernel
theorem dX5_loosen_5 : decode cX5_loosen 5 = .ok (.iaload, 1) := by decide +kernel
theorem dX5_loosen_6 : decode cX5_loosen 6 = .ok (.istore_n 3, 1) := by decide +kernel
theorem dX5_loosen_7 : decode cX5_loosen 7 = .ok (.iconst 0, 1) := by decide +kernel
theorem dX5_loosen_8 : decode cX5_loosen 8 = .ok (.istore 4, 2) := by decide +kernel
theorem dX5_loosen_10 : decode cX5_loosen 10 = .ok (.iload 4, 2) := by decide +kernel
theorem dX5_loosen_12 : decode cX5_loosen 12 = .ok (.bipush 6, 2) := by decide +kernel
theorem dX5_loosen_14 : decode cX5_loosen 14 = .ok (.if_icmp .ge 81, 3) := by decide +kernel
theorem dX5_loosen_17 : decode cX5_loosen 17 = .ok (.iconst 0, 1) := by decide +kernel
theorem dX5_loosen_18 : decode cX5_loosen 18 = .ok (.istore 5, 2) := by decide +kernel
theorem dX5_loosen_20 : decode cX5_loosen 20 = .ok (.iload 5, 2) := by decide +kernel
theorem dX5_loosen_22 : decode cX5_loosen 22 = .ok (.iload 4, 2) := by decide +kernel
theorem dX5_loosen_24 : decode cX5_loosen 24 = .ok (.if_icmp .ge 65, 3) := by decide +kernel
theorem dX5_loosen_27 : decode cX5_loosen 27 = .ok (.iload_n 3, 1) := by decide +kernel
theorem dX5_loosen_28 : decode cX5_loosen 28 = .ok (.iload 4, 2) := by decide +kernel
theorem dX5_loosen_30 : decode cX5_loosen 30 = .ok (.invokestatic 103, 3) := by decide +kernel
theorem dX5_loosen_33 : decode cX5_loosen 33 = .ok (.ifCond .eq 56, 3) := by decide +kernel
theorem dX5_loosen_36 : decode cX5_loosen 36 = .ok (.aload_n 0, 1) := by decide +kernel
theorem dX5_loosen_37 : decode cX5_loosen 37 = .ok (.getfield 28, 3) := by decide +kernel
theorem dX5_loosen_40 : decode cX5_loosen 40 = .ok (.bipush 6, 2) := by decide +kernel
theorem dX5_loosen_42 : decode cX5_loosen 42 = .ok (.iload 4, 2) := by decide +kernel
theorem dX5_loosen_44 : decode cX5_loosen 44 = .ok (.imul, 1) := by decide +kernel
theorem dX5_loosen_45 : decode cX5_loosen 45 = .ok (.iload 5, 2) := by decide +kernel
theorem dX5_loosen_47 : decode cX5_loosen 47 = .ok (.iadd, 1) := by decide +kernel
theorem dX5_loosen_48 : decode cX5_loosen 48 = .ok (.aload_n 0, 1) := by decide +kernel
theorem dX5_loosen_49 : decode cX5_loosen 49 = .ok (.getfield 28, 3) := by decide +kernel
theorem dX5_loosen_52 : decode cX5_loosen 52 = .ok (.bipush 6, 2) := by decide +kernel
theorem dX5_loosen_54 : decode cX5_loosen 54 = .ok (.iload 4, 2) := by decide +kernel
theorem dX5_loosen_56 : decode cX5_loosen 56 = .ok (.imul, 1) := by decide +kernel
theorem dX5_loosen_57 : decode cX5_loosen 57 = .ok (.iload 5, 2) := by decide +kernel
theorem dX5_loosen_59 : decode cX5_loosen 59 = .ok (.iadd, 1) := by decide +kernel
theorem dX5_loosen_60 : decode cX5_loosen 60 = .ok (.iaload, 1) := by decide +kernel
theorem dX5_loosen_61 : decode cX5_loosen 61 = .ok (.iload_n 1, 1) := by decide +kernel
theorem dX5_loosen_62 : decode cX5_loosen 62 = .ok (.if_icmp .ne 7, 3) := by decide +kernel
theorem dX5_loosen_65 : decode cX5_loosen 65 = .ok (.iload_n 2, 1) := by decide +kernel
theorem dX5_loosen_66 : decode cX5_loosen 66 = .ok (.goto 16, 3) := by decide +kernel
theorem dX5_loosen_69 : decode cX5_loosen 69 = .ok (.aload_n 0, 1) := by decide +kernel
theorem dX5_loosen_70 : decode cX5_loosen 70 = .ok (.getfield 28, 3) := by decide +kernel
theorem dX5_loosen_73 : decode cX5_loosen 73 = .ok (.bipush 6, 2) := by decide +kernel
theorem dX5_loosen_75 : decode cX5_loosen 75 = .ok (.iload 4, 2) := by decide +kernel
theorem dX5_loosen_77 : decode cX5_loosen 77 = .ok (.imul, 1) := by decide +kernel
theorem dX5_loosen_78 : decode cX5_loosen 78 = .ok (.iload 5, 2) := by decide +kernel
theorem dX5_loosen_80 : decode cX5_loosen 80 = .ok (.iadd, 1) := by decide +kernel
theorem dX5_loosen_81 : decode cX5_loosen 81 = .ok (.iaload, 1) := by decide +kernel
theorem dX5_loosen_82 : decode cX5_loosen 82 = .ok (.iastore, 1) := by decide +kernel
theorem dX5_loosen_83 : decode cX5_loosen 83 = .ok (.iinc 5 1, 3) := by decide +kernel
theorem dX5_loosen_86 : decode cX5_loosen 86 = .ok (.goto (-66), 3) := by decide +kernel
theorem dX5_loosen_89 : decode cX5_loosen 89 = .ok (.iinc 4 1, 3) := by decide +kernel
theorem dX5_loosen_92 : decode cX5_loosen 92 = .ok (.goto (-82), 3) := by decide +kernel
theorem dX5_loosen_95 : decode cX5_loosen 95 = .ok (.return_, 1) := by decide +kernel
theorem dX5_looser_0 : decode cX5_looser 0 = .ok (.iload_n 1, 1) := by decide +kernel
theorem dX5_looser_1 : decode cX5_looser 1 = .ok (.iconst 0, 1) := by decide +kernel
theorem dX5_looser_2 : decode cX5_looser 2 = .ok (.iconst 1, 1) := by decide +kernel
theorem dX5_looser_3 : decode cX5_looser 3 = .ok (.invokestatic 69, 3) := by decide +kernel
theorem dX5_looser_6 : decode cX5_looser 6 = .ok (.ifCond .ne 6, 3) := by decide +kernel
theorem dX5_looser_9 : decode cX5_looser 9 = .ok (.bipush (-2), 2) := by decide +kernel
theorem dX5_looser_11 : decode cX5_looser 11 = .ok (.ireturn, 1) := by decide +kernel
theorem dX5_looser_12 : decode cX5_looser 12 = .ok (.aload_n 0, 1) := by decide +kernel
theorem dX5_looser_13 : decode cX5_looser 13 = .ok (.invokevirtual 113, 3) := by decide +kernel
theorem dX5_looser_16 : decode cX5_looser 16 = .ok (.aload_n 0, 1) := by decide +kernel
theorem dX5_looser_17 : decode cX5_looser 17 = .ok (.invokevirtual 154, 3) := by decide +kernel
theorem dX5_looser_20 : decode cX5_looser 20 = .ok (.ifCond .eq 5, 3) := by decide +kernel
theorem dX5_looser_23 : decode cX5_looser 23 = .ok (.iconst 0, 1) := by decide +kernel
theorem dX5_looser_24 : decode cX5_looser 24 = .ok (.ireturn, 1) := by decide +kernel
theorem dX5_looser_25 : decode cX5_looser 25 = .ok (.iconst 0, 1) := by decide +kernel
theorem dX5_looser_26 : decode cX5_looser 26 = .ok (.istore_n 2, 1) := by decide +kernel
theorem dX5_looser_27 : decode cX5_looser 27 = .ok (.iload_n 2, 1) := by decide +kernel
theorem dX5_looser_28 : decode cX5_looser 28 = .ok (.bipush 36, 2) := by decide +kernel
theorem dX5_looser_30 : decode cX5_looser 30 = .ok (.if_icmp .ge 21, 3) := by decide +kernel
theorem dX5_looser_33 : decode cX5_looser 33 = .ok (.aload_n 0, 1) := by decide +kernel
theorem dX5_looser_34 : decode cX5_looser 34 = .ok (.getfield 50, 3) := by decide +kernel
theorem dX5_looser_37 : decode cX5_looser 37 = .ok (.iload_n 2, 1) := by decide +kernel
theorem dX5_looser_38 : decode cX5_looser 38 = .ok (.aload_n 0, 1) := by decide +kernel
theorem dX5_looser_39 : decode cX5_looser 39 = .ok (.getfield 28, 3) := by decide +kernel
theorem dX5_looser_42 : decode cX5_looser 42 = .ok (.iload_n 2, 1) := by decide +kernel
theorem dX5_looser_43 : decode cX5_looser 43 = .ok (.iaload, 1) := by decide +kernel
theorem dX5_looser_44 : decode cX5_looser 44 = .ok (.iastore, 1) := by decide +kernel
theorem dX5_looser_45 : decode cX5_looser 45 = .ok (.iinc 2 1, 3) := by decide +kernel
theorem dX5_looser_48 : decode cX5_looser 48 = .ok (.goto (-21), 3) := by decide +kernel
theorem dX5_looser_51 : decode cX5_looser 51 = .ok (.bipush (-6), 2) := by decide +kernel
theorem dX5_looser_53 : decode cX5_looser 53 = .ok (.istore_n 2, 1) := by decide +kernel
theorem dX5_looser_54 : decode cX5_looser 54 = .ok (.iconst 0, 1) := by decide +kernel
theorem dX5_looser_55 : decode cX5_looser 55 = .ok (.istore_n 3, 1) := by decide +kernel
theorem dX5_looser_56 : decode cX5_looser 56 = .ok (.iconst 0, 1) := by decide +kernel
theorem dX5_looser_57 : decode cX5_looser 57 = .ok (.istore 4, 2) := by decide +kernel
theorem dX5_looser_59 : decode cX5_looser 59 = .ok (.iload 4, 2) := by decide +kernel
theorem dX5_looser_61 : decode cX5_looser 61 = .ok (.iconst 3, 1) := by decide +kernel
theorem dX5_looser_62 : decode cX5_looser 62 = .ok (.if_icmp .ge 121, 3) := by decide +kernel
theorem dX5_looser_65 : decode cX5_looser 65 = .ok (.iload 4, 2) := by decide +kernel
theorem dX5_looser_67 : decode cX5_looser 67 = .ok (.iconst 1, 1) := by decide +kernel
theorem dX5_looser_68 : decode cX5_looser 68 = .ok (.iadd, 1) := by decide +kernel
theorem dX5_looser_69 : decode cX5_looser 69 = .ok (.istore 5, 2) := by decide +kernel
theorem dX5_looser_71 : decode cX5_looser 71 = .ok (.iload 5, 2) := by decide +kernel
theorem dX5_looser_73 : decode cX5_looser 73 = .ok (.iconst 4, 1) := by decide +kernel
theorem dX5_looser_74 : decode cX5_looser 74 = .ok (.if_icmp .ge 103, 3) := by decide +kernel
theorem dX5_looser_77 : decode cX5_looser 77 = .ok (.aload_n 0, 1) := by decide +kernel
theorem dX5_looser_78 : decode cX5_looser 78 = .ok (.invokevirtual 113, 3) := by decide +kernel
theorem dX5_looser_81 : decode cX5_looser 81 = .ok (.iload 5, 2) := by decide +kernel
theorem dX5_looser_83 : decode cX5_looser 83 = .ok (.iload 4, 2) := by decide +kernel
theorem dX5_looser_85 : decode cX5_looser 85 = .ok (.isub, 1) := by decide +kernel
theorem dX5_looser_86 : decode cX5_looser 86 = .ok (.aload_n 0, 1) := by decide +kernel
theorem dX5_looser_87 : decode cX5_looser 87 = .ok (.getfield 35, 3) := by decide +kernel
theorem dX5_looser_90 : decode cX5_looser 90 = .ok (.imul, 1) := by decide +kernel
theorem dX5_looser_91 : decode cX5_looser 91 = .ok (.aload_n 0, 1) := by decide +kernel
theorem dX5_looser_92 : decode cX5_looser 92 = .ok (.iload 4, 2) := by decide +kernel
theorem dX5_looser_94 : decode cX5_looser 94 = .ok (.invokevirtual 163, 3) := by decide +kernel
theorem dX5_looser_97 : decode cX5_looser 97 = .ok (.imul, 1) := by decide +kernel
theorem dX5_looser_98 : decode cX5_looser 98 = .ok (.istore 6, 2) := by decide +kernel
theorem dX5_looser_100 : decode cX5_looser 100 = .ok (.iload_n 2, 1) := by decide +kernel
theorem dX5_looser_101 : decode cX5_looser 101 = .ok (.ifCond .lt 9, 3) := by decide +kernel
theorem dX5_looser_104 : decode cX5_looser 104 = .ok (.iload 6, 2) := by decide +kernel
theorem dX5_looser_106 : decode cX5_looser 106 = .ok (.iload_n 3, 1) := by decide +kernel
theorem dX5_looser_107 : decode cX5_looser 107 = .ok (.if_icmp .ge 64, 3) := by decide +kernel
theorem dX5_looser_110 : decode cX5_looser 110 = .ok (.aload_n 0, 1) := by decide +kernel
theorem dX5_looser_111 : decode cX5_looser 111 = .ok (.iload 4, 2) := by decide +kernel
theorem dX5_looser_113 : decode cX5_looser 113 = .ok (.iload 5, 2) := by decide +kernel
theorem dX5_looser_115 : decode cX5_looser 115 = .ok (.invokevirtual 166, 3) := by decide +kernel
theorem dX5_looser_118 : decode cX5_looser 118 = .ok (.aload_n 0, 1) := by decide +kernel
theorem dX5_looser_119 : decode cX5_looser 119 = .ok (.invokevirtual 113, 3) := by decide +kernel
theorem dX5_looser_122 : decode cX5_looser 122 = .ok (.aload_n 0, 1) := by decide +kernel
theorem dX5_looser_123 : decode cX5_looser 123 = .ok (.invokevirtual 154, 3) := by decide +kernel
theorem dX5_looser_126 : decode cX5_looser 126 = .ok (.ifCond .eq 15, 3) := by decide +kernel
theorem dX5_looser_129 : decode cX5_looser 129 = .ok (.bipush 10, 2) := by decide +kernel
theorem dX5_looser_131 : decode cX5_looser 131 = .ok (.iload 4, 2) := by decide +kernel
theorem dX5_looser_133 : decode cX5_looser 133 = .ok (.imul, 1) := by decide +kernel
theorem dX5_looser_134 : decode cX5_looser 134 = .ok (.iload 5, 2) := by decide +kernel
theorem dX5_looser_136 : decode cX5_looser 136 = .ok (.iadd, 1) := by decide +kernel
theorem dX5_looser_137 : decode cX5_looser 137 = .ok (.istore_n 2, 1) := by decide +kernel
theorem dX5_looser_138 : decode cX5_looser 138 = .ok (.iload 6, 2) := by decide +kernel
theorem dX5_looser_140 : decode cX5_looser 140 = .ok (.istore_n 3, 1) := by decide +kernel
theorem dX5_looser_141 : decode cX5_looser 141 = .ok (.iconst 0, 1) := by decide +kernel
theorem dX5_looser_142 : decode cX5_looser 142 = .ok (.istore 7, 2) := by decide +kernel
theorem dX5_looser_144 : decode cX5_looser 144 = .ok (.iload 7, 2) := by decide +kernel
theorem dX5_looser_146 : decode cX5_looser 146 = .ok (.bipush 36, 2) := by decide +kernel
theorem dX5_looser_148 : decode cX5_looser 148 = .ok (.if_icmp .ge 23, 3) := by decide +kernel
theorem dX5_looser_151 : decode cX5_looser 151 = .ok (.aload_n 0, 1) := by decide +kernel
theorem dX5_looser_152 : decode cX5_looser 152 = .ok (.getfield 28, 3) := by decide +kernel
theorem dX5_looser_155 : decode cX5_looser 155 = .ok (.iload 7, 2) := by decide +kernel
theorem dX5_looser_157 : decode cX5_looser 157 = .ok (.aload_n 0, 1) := by decide +kernel
theorem dX5_looser_158 : decode cX5_looser 158 = .ok (.getfield 50, 3) := by decide +kernel
theorem dX5_looser_161 : decode cX5_looser 161 = .ok (.iload 7, 2) := by decide +kernel
theorem dX5_looser_163 : decode cX5_looser 163 = .ok (.iaload, 1) := by decide +kernel
theorem dX5_looser_164 : decode cX5_looser 164 = .ok (.iastore, 1) := by decide +kernel
theorem dX5_looser_165 : decode cX5_looser 165 = .ok (.iinc 7 1, 3) := by decide +kernel
theorem dX5_looser_168 : decode cX5_looser 168 = .ok (.goto (-24), 3) := by decide +kernel
theorem dX5_looser_171 : decode cX5_looser 171 = .ok (.iinc 5 1, 3) := by decide +kernel
theorem dX5_looser_174 : decode cX5_looser 174 = .ok (.goto (-103), 3) := by decide +kernel
theorem dX5_looser_177 : decode cX5_looser 177 = .ok (.iinc 4 1, 3) := by decide +kernel
theorem dX5_looser_180 : decode cX5_looser 180 = .ok (.goto (-121), 3) := by decide +kernel
theorem dX5_looser_183 : decode cX5_looser 183 = .ok (.iload_n 1, 1) := by decide +kernel
theorem dX5_looser_184 : decode cX5_looser 184 = .ok (.ifCond .eq 7, 3) := by decide +kernel
theorem dX5_looser_187 : decode cX5_looser 187 = .ok (.iload_n 2, 1) := by decide +kernel
theorem dX5_looser_188 : decode cX5_looser 188 = .ok (.ifCond .ge 7, 3) := by decide +kernel
theorem dX5_looser_191 : decode cX5_looser 191 = .ok (.iload_n 2, 1) := by decide +kernel
theorem dX5_looser_192 : decode cX5_looser 192 = .ok (.goto 4, 3) := by decide +kernel
theorem dX5_looser_195 : decode cX5_looser 195 = .ok (.iload_n 3, 1) := by decide +kernel
theorem dX5_looser_196 : decode cX5_looser 196 = .ok (.ireturn, 1) := by decide +kernel
theorem dX5_agree_0 : decode cX5_agree 0 = .ok (.iload_n 1, 1) := by decide +kernel
theorem dX5_agree_1 : decode cX5_agree 1 = .ok (.invokestatic 93, 3) := by decide +kernel
theorem dX5_agree_4 : decode cX5_agree 4 = .ok (.ifCond .ne 5, 3) := by decide +kernel
theorem dX5_agree_7 : decode cX5_agree 7 = .ok (.iconst (-1), 1) := by decide +kernel
theorem dX5_agree_8 : decode cX5_agree 8 = .ok (.ireturn, 1) := by decide +kernel
theorem dX5_agree_9 : decode cX5_agree 9 = .ok (.iload_n 2, 1) := by decide +kernel
theorem dX5_agree_10 : decode cX5_agree 10 = .ok (.iconst 0, 1) := by decide +kernel
theorem dX5_agree_11 : decode cX5_agree 11 = .ok (.bipush 63, 2) := by decide +kernel
theorem dX5_agree_13 : decode cX5_agree 13 = .ok (.invokestatic 69, 3) := by decide +kernel
theorem dX5_agree_16 : decode cX5_agree 16 = .ok (.ifCond .ne 6, 3) := by decide +kernel
theorem dX5_agree_19 : decode cX5_agree 19 = .ok (.bipush (-2), 2) := by decide +kernel
theorem dX5_agree_21 : decode cX5_agree 21 = .ok (.ireturn, 1) := by decide +kernel
theorem dX5_agree_22 : decode cX5_agree 22 = .ok (.aload_n 0, 1) := by decide +kernel
theorem dX5_agree_23 : decode cX5_agree 23 = .ok (.invokevirtual 113, 3) := by decide +kernel
theorem dX5_agree_26 : decode cX5_agree 26 = .ok (.iconst 0, 1) := by decide +kernel
theorem dX5_agree_27 : decode cX5_agree 27 = .ok (.istore_n 3, 1) := by decide +kernel
theorem dX5_agree_28 : decode cX5_agree 28 = .ok (.iconst 0, 1) := by decide +kernel
theorem dX5_agree_29 : decode cX5_agree 29 = .ok (.istore 4, 2) := by decide +kernel
theorem dX5_agree_31 : decode cX5_agree 31 = .ok (.iload 4, 2) := by decide +kernel
theorem dX5_agree_33 : decode cX5_agree 33 = .ok (.bipush 6, 2) := by decide +kernel
theorem dX5_agree_35 : decode cX5_agree 35 = .ok (.if_icmp .ge 76, 3) := by decide +kernel
theorem dX5_agree_38 : decode cX5_agree 38 = .ok (.aload_n 0, 1) := by decide +kernel
theorem dX5_agree_39 : decode cX5_agree 39 = .ok (.getfield 38, 3) := by decide +kernel
theorem dX5_agree_42 : decode cX5_agree 42 = .ok (.iconst 3, 1) := by decide +kernel
theorem dX5_agree_43 : decode cX5_agree 43 = .ok (.iaload, 1) := by decide +kernel
theorem dX5_agree_44 : decode cX5_agree 44 = .ok (.iload 4, 2) := by decide +kernel
theorem dX5_agree_46 : decode cX5_agree 46 = .ok (.invokestatic 103, 3) := by decide +kernel
theorem dX5_agree_49 : decode cX5_agree 49 = .ok (.ifCond .eq 30, 3) := by decide +kernel
theorem dX5_agree_52 : decode cX5_agree 52 = .ok (.iload_n 2, 1) := by decide +kernel
theorem dX5_agree_53 : decode cX5_agree 53 = .ok (.iload 4, 2) := by decide +kernel
theorem dX5_agree_55 : decode cX5_agree 55 = .ok (.invokestatic 103, 3) := by decide +kernel
theorem dX5_agree_58 : decode cX5_agree 58 = .ok (.ifCond .ne 21, 3) := by decide +kernel
theorem dX5_agree_61 : decode cX5_agree 61 = .ok (.aload_n 0, 1) := by decide +kernel
theorem dX5_agree_62 : decode cX5_agree 62 = .ok (.getfield 41, 3) := by decide +kernel
theorem dX5_agree_65 : decode cX5_agree 65 = .ok (.iload 4, 2) := by decide +kernel
theorem dX5_agree_67 : decode cX5_agree 67 = .ok (.iaload, 1) := by decide +kernel
theorem dX5_agree_68 : decode cX5_agree 68 = .ok (.iload_n 1, 1) := by decide +kernel
theorem dX5_agree_69 : decode cX5_agree 69 = .ok (.invokestatic 103, 3) := by decide +kernel
theorem dX5_agree_72 : decode cX5_agree 72 = .ok (.ifCond .ne 7, 3) := by decide +kernel
theorem dX5_agree_75 : decode cX5_agree 75 = .ok (.iconst 1, 1) := by decide +kernel
theorem dX5_agree_76 : decode cX5_agree 76 = .ok (.goto 4, 3) := by decide +kernel
theorem dX5_agree_79 : decode cX5_agree 79 = .ok (.iconst 0, 1) := by decide +kernel
theorem dX5_agree_80 : decode cX5_agree 80 = .ok (.istore 5, 2) := by decide +kernel
theorem dX5_agree_82 : decode cX5_agree 82 = .ok (.iload_n 3, 1) := by decide +kernel
theorem dX5_agree_83 : decode cX5_agree 83 = .ok (.iload 5, 2) := by decide +kernel
theorem dX5_agree_85 : decode cX5_agree 85 = .ok (.ifCond .eq 17, 3) := by decide +kernel
theorem dX5_agree_88 : decode cX5_agree 88 = .ok (.aload_n 0, 1) := by decide +kernel
theorem dX5_agree_89 : decode cX5_agree 89 = .ok (.getfield 25, 3) := by decide +kernel
theorem dX5_agree_92 : decode cX5_agree 92 = .ok (.iconst 4, 1) := by decide +kernel
theorem dX5_agree_93 : decode cX5_agree 93 = .ok (.iload 4, 2) := by decide +kernel
theorem dX5_agree_95 : decode cX5_agree 95 = .ok (.imul, 1) := by decide +kernel
theorem dX5_agree_96 : decode cX5_agree 96 = .ok (.iconst 2, 1) := by decide +kernel
theorem dX5_agree_97 : decode cX5_agree 97 = .ok (.iadd, 1) := by decide +kernel
theorem dX5_agree_98 : decode cX5_agree 98 = .ok (.iaload, 1) := by decide +kernel
theorem dX5_agree_99 : decode cX5_agree 99 = .ok (.goto 4, 3) := by decide +kernel
theorem dX5_agree_102 : decode cX5_agree 102 = .ok (.iconst 0, 1) := by decide +kernel
theorem dX5_agree_103 : decode cX5_agree 103 = .ok (.ior, 1) := by decide +kernel
theorem dX5_agree_104 : decode cX5_agree 104 = .ok (.istore_n 3, 1) := by decide +kernel
theorem dX5_agree_105 : decode cX5_agree 105 = .ok (.iinc 4 1, 3) := by decide +kernel
theorem dX5_agree_108 : decode cX5_agree 108 = .ok (.goto (-77), 3) := by decide +kernel
theorem dX5_agree_111 : decode cX5_agree 111 = .ok (.iload_n 3, 1) := by decide +kernel
theorem dX5_agree_112 : decode cX5_agree 112 = .ok (.ireturn, 1) := by decide +kernel
theorem dX5_more_0 : decode cX5_more 0 = .ok (.iload_n 1, 1) := by decide +kernel
theorem dX5_more_1 : decode cX5_more 1 = .ok (.invokestatic 97, 3) := by decide +kernel
theorem dX5_more_4 : decode cX5_more 4 = .ok (.ifCond .eq 11, 3) := by decide +kernel
theorem dX5_more_7 : decode cX5_more 7 = .ok (.iload_n 1, 1) := by decide +kernel
theorem dX5_more_8 : decode cX5_more 8 = .ok (.aload_n 0, 1) := by decide +kernel
theorem dX5_more_9 : decode cX5_more 9 = .ok (.getfield 31, 3) := by decide +kernel
theorem dX5_more_12 : decode cX5_more 12 = .ok (.if_icmp .lt 5, 3) := by decide +kernel
theorem dX5_more_15 : decode cX5_more 15 = .ok (.iconst (-1), 1) := by decide +kernel
theorem dX5_more_16 : decode cX5_more 16 = .ok (.ireturn, 1) := by decide +kernel
theorem dX5_more_17 : decode cX5_more 17 = .ok (.iload_n 2, 1) := by decide +kernel
theorem dX5_more_18 : decode cX5_more 18 = .ok (.iconst 0, 1) := by decide +kernel
theorem dX5_more_19 : decode cX5_more 19 = .ok (.iconst 3, 1) := by decide +kernel
theorem dX5_more_20 : decode cX5_more 20 = .ok (.invokestatic 69, 3) := by decide +kernel
theorem dX5_more_23 : decode cX5_more 23 = .ok (.ifCond .eq 12, 3) := by decide +kernel
theorem dX5_more_26 : decode cX5_more 26 = .ok (.iload_n 3, 1) := by decide +kernel
theorem dX5_more_27 : decode cX5_more 27 = .ok (.iconst 0, 1) := by decide +kernel
theorem dX5_more_28 : decode cX5_more 28 = .ok (.iconst 2, 1) := by decide +kernel
theorem dX5_more_29 : decode cX5_more 29 = .ok (.invokestatic 69, 3) := by decide +kernel
theorem dX5_more_32 : decode cX5_more 32 = .ok (.ifCond .ne 6, 3) := by decide +kernel
theorem dX5_more_35 : decode cX5_more 35 = .ok (.bipush (-2), 2) := by decide +kernel
theorem dX5_more_37 : decode cX5_more 37 = .ok (.ireturn, 1) := by decide +kernel
theorem dX5_more_38 : decode cX5_more 38 = .ok (.aload_n 0, 1) := by decide +kernel
theorem dX5_more_39 : decode cX5_more 39 = .ok (.getfield 28, 3) := by decide +kernel
theorem dX5_more_42 : decode cX5_more 42 = .ok (.bipush 6, 2) := by decide +kernel
theorem dX5_more_44 : decode cX5_more 44 = .ok (.aload_n 0, 1) := by decide +kernel
theorem dX5_more_45 : decode cX5_more 45 = .ok (.getfield 31, 3) := by decide +kernel
theorem dX5_more_48 : decode cX5_more 48 = .ok (.imul, 1) := by decide +kernel
theorem dX5_more_49 : decode cX5_more 49 = .ok (.iload_n 1, 1) := by decide +kernel
theorem dX5_more_50 : decode cX5_more 50 = .ok (.iadd, 1) := by decide +kernel
theorem dX5_more_51 : decode cX5_more 51 = .ok (.iaload, 1) := by decide +kernel
theorem dX5_more_52 : decode cX5_more 52 = .ok (.ifCond .lt 6, 3) := by decide +kernel
theorem dX5_more_55 : decode cX5_more 55 = .ok (.bipush (-3), 2) := by decide +kernel
theorem dX5_more_57 : decode cX5_more 57 = .ok (.ireturn, 1) := by decide +kernel
theorem dX5_more_58 : decode cX5_more 58 = .ok (.aload_n 0, 1) := by decide +kernel
theorem dX5_more_59 : decode cX5_more 59 = .ok (.invokevirtual 113, 3) := by decide +kernel
theorem dX5_more_62 : decode cX5_more 62 = .ok (.aload_n 0, 1) := by decide +kernel
theorem dX5_more_63 : decode cX5_more 63 = .ok (.iload_n 3, 1) := by decide +kernel
theorem dX5_more_64 : decode cX5_more 64 = .ok (.invokevirtual 151, 3) := by decide +kernel
theorem dX5_more_67 : decode cX5_more 67 = .ok (.istore 4, 2) := by decide +kernel
theorem dX5_more_69 : decode cX5_more 69 = .ok (.aload_n 0, 1) := by decide +kernel
theorem dX5_more_70 : decode cX5_more 70 = .ok (.getfield 141, 3) := by decide +kernel
theorem dX5_more_73 : decode cX5_more 73 = .ok (.istore 5, 2) := by decide +kernel
theorem dX5_more_75 : decode cX5_more 75 = .ok (.aload_n 0, 1) := by decide +kernel
theorem dX5_more_76 : decode cX5_more 76 = .ok (.getfield 28, 3) := by decide +kernel
theorem dX5_more_79 : decode cX5_more 79 = .ok (.bipush 6, 2) := by decide +kernel
theorem dX5_more_81 : decode cX5_more 81 = .ok (.aload_n 0, 1) := by decide +kernel
theorem dX5_more_82 : decode cX5_more 82 = .ok (.getfield 31, 3) := by decide +kernel
theorem dX5_more_85 : decode cX5_more 85 = .ok (.imul, 1) := by decide +kernel
theorem dX5_more_86 : decode cX5_more 86 = .ok (.iload_n 1, 1) := by decide +kernel
theorem dX5_more_87 : decode cX5_more 87 = .ok (.iadd, 1) := by decide +kernel
theorem dX5_more_88 : decode cX5_more 88 = .ok (.iload_n 2, 1) := by decide +kernel
theorem dX5_more_89 : decode cX5_more 89 = .ok (.iastore, 1) := by decide +kernel
theorem dX5_more_90 : decode cX5_more 90 = .ok (.aload_n 0, 1) := by decide +kernel
theorem dX5_more_91 : decode cX5_more 91 = .ok (.invokevirtual 113, 3) := by decide +kernel
theorem dX5_more_94 : decode cX5_more 94 = .ok (.aload_n 0, 1) := by decide +kernel
theorem dX5_more_95 : decode cX5_more 95 = .ok (.iload_n 3, 1) := by decide +kernel
theorem dX5_more_96 : decode cX5_more 96 = .ok (.invokevirtual 151, 3) := by decide +kernel
theorem dX5_more_99 : decode cX5_more 99 = .ok (.istore 6, 2) := by decide +kernel
theorem dX5_more_101 : decode cX5_more 101 = .ok (.aload_n 0, 1) := by decide +kernel
theorem dX5_more_102 : decode cX5_more 102 = .ok (.getfield 28, 3) := by decide +kernel
theorem dX5_more_105 : decode cX5_more 105 = .ok (.bipush 6, 2) := by decide +kernel
theorem dX5_more_107 : decode cX5_more 107 = .ok (.aload_n 0, 1) := by decide +kernel
theorem dX5_more_108 : decode cX5_more 108 = .ok (.getfield 31, 3) := by decide +kernel
theorem dX5_more_111 : decode cX5_more 111 = .ok (.imul, 1) := by decide +kernel
theorem dX5_more_112 : decode cX5_more 112 = .ok (.iload_n 1, 1) := by decide +kernel
theorem dX5_more_113 : decode cX5_more 113 = .ok (.iadd, 1) := by decide +kernel
theorem dX5_more_114 : decode cX5_more 114 = .ok (.bipush (-6), 2) := by decide +kernel
theorem dX5_more_116 : decode cX5_more 116 = .ok (.iastore, 1) := by decide +kernel
theorem dX5_more_117 : decode cX5_more 117 = .ok (.iload 4, 2) := by decide +kernel
theorem dX5_more_119 : decode cX5_more 119 = .ok (.ifCond .eq 20, 3) := by decide +kernel
theorem dX5_more_122 : decode cX5_more 122 = .ok (.iload 6, 2) := by decide +kernel
theorem dX5_more_124 : decode cX5_more 124 = .ok (.ifCond .eq 15, 3) := by decide +kernel
theorem dX5_more_127 : decode cX5_more 127 = .ok (.aload_n 0, 1) := by decide +kernel
theorem dX5_more_128 : decode cX5_more 128 = .ok (.getfield 141, 3) := by decide +kernel
theorem dX5_more_131 : decode cX5_more 131 = .ok (.iload 5, 2) := by decide +kernel
theorem dX5_more_133 : decode cX5_more 133 = .ok (.iconst (-1), 1) := by decide +kernel
theorem dX5_more_134 : decode cX5_more 134 = .ok (.ixor, 1) := by decide +kernel
theorem dX5_more_135 : decode cX5_more 135 = .ok (.iand, 1) := by decide +kernel
theorem dX5_more_136 : decode cX5_more 136 = .ok (.goto 5, 3) := by decide +kernel
theorem dX5_more_139 : decode cX5_more 139 = .ok (.bipush (-6), 2) := by decide +kernel
theorem dX5_more_141 : decode cX5_more 141 = .ok (.ireturn, 1) := by decide +kernel
theorem dX5_names_0 : decode cX5_names 0 = .ok (.aload_n 0, 1) := by decide +kernel
theorem dX5_names_1 : decode cX5_names 1 = .ok (.invokevirtual 113, 3) := by decide +kernel
theorem dX5_names_4 : decode cX5_names 4 = .ok (.aload_n 0, 1) := by decide +kernel
theorem dX5_names_5 : decode cX5_names 5 = .ok (.iconst 0, 1) := by decide +kernel
theorem dX5_names_6 : decode cX5_names 6 = .ok (.invokevirtual 151, 3) := by decide +kernel
theorem dX5_names_9 : decode cX5_names 9 = .ok (.ifCond .ne 6, 3) := by decide +kernel
theorem dX5_names_12 : decode cX5_names 12 = .ok (.bipush (-6), 2) := by decide +kernel
theorem dX5_names_14 : decode cX5_names 14 = .ok (.ireturn, 1) := by decide +kernel
theorem dX5_names_15 : decode cX5_names 15 = .ok (.iconst 0, 1) := by decide +kernel
theorem dX5_names_16 : decode cX5_names 16 = .ok (.istore_n 2, 1) := by decide +kernel
theorem dX5_names_17 : decode cX5_names 17 = .ok (.iload_n 2, 1) := by decide +kernel
theorem dX5_names_18 : decode cX5_names 18 = .ok (.bipush 6, 2) := by decide +kernel
theorem dX5_names_20 : decode cX5_names 20 = .ok (.if_icmp .ge 16, 3) := by decide +kernel
theorem dX5_names_23 : decode cX5_names 23 = .ok (.aload_n 0, 1) := by decide +kernel
theorem dX5_names_24 : decode cX5_names 24 = .ok (.getfield 53, 3) := by decide +kernel
theorem dX5_names_27 : decode cX5_names 27 = .ok (.iload_n 2, 1) := by decide +kernel
theorem dX5_names_28 : decode cX5_names 28 = .ok (.iconst 0, 1) := by decide +kernel
theorem dX5_names_29 : decode cX5_names 29 = .ok (.iastore, 1) := by decide +kernel
theorem dX5_names_30 : decode cX5_names 30 = .ok (.iinc 2 1, 3) := by decide +kernel
theorem dX5_names_33 : decode cX5_names 33 = .ok (.goto (-16), 3) := by decide +kernel
theorem dX5_names_36 : decode cX5_names 36 = .ok (.iconst 0, 1) := by decide +kernel
theorem dX5_names_37 : decode cX5_names 37 = .ok (.istore_n 2, 1) := by decide +kernel
theorem dX5_names_38 : decode cX5_names 38 = .ok (.iload_n 2, 1) := by decide +kernel
theorem dX5_names_39 : decode cX5_names 39 = .ok (.bipush 6, 2) := by decide +kernel
end
section
theorem dX5_names_41 : decode cX5_names 41 = .ok (.if_icmp .ge 91, 3) := by decide +kernel
theorem dX5_names_44 : decode cX5_names 44 = .ok (.aload_n 0, 1) := by decide +kernel
theorem dX5_names_45 : decode cX5_names 45 = .ok (.getfield 44, 3) := by decide +kernel
theorem dX5_names_48 : decode cX5_names 48 = .ok (.iload_n 2, 1) := by decide +kernel
theorem dX5_names_49 : decode cX5_names 49 = .ok (.aload_n 0, 1) := by decide +kernel
theorem dX5_names_50 : decode cX5_names 50 = .ok (.getfield 47, 3) := by decide +kernel
theorem dX5_names_53 : decode cX5_names 53 = .ok (.iload_n 2, 1) := by decide +kernel
theorem dX5_names_54 : decode cX5_names 54 = .ok (.iaload, 1) := by decide +kernel
theorem dX5_names_55 : decode cX5_names 55 = .ok (.iastore, 1) := by decide +kernel
theorem dX5_names_56 : decode cX5_names 56 = .ok (.iconst 0, 1) := by decide +kernel
theorem dX5_names_57 : decode cX5_names 57 = .ok (.istore_n 3, 1) := by decide +kernel
theorem dX5_names_58 : decode cX5_names 58 = .ok (.iload_n 3, 1) := by decide +kernel
theorem dX5_names_59 : decode cX5_names 59 = .ok (.bipush 6, 2) := by decide +kernel
theorem dX5_names_61 : decode cX5_names 61 = .ok (.if_icmp .ge 65, 3) := by decide +kernel
theorem dX5_names_64 : decode cX5_names 64 = .ok (.aload_n 0, 1) := by decide +kernel
theorem dX5_names_65 : decode cX5_names 65 = .ok (.iload_n 2, 1) := by decide +kernel
theorem dX5_names_66 : decode cX5_names 66 = .ok (.invokevirtual 119, 3) := by decide +kernel
theorem dX5_names_69 : decode cX5_names 69 = .ok (.ifCond .eq 57, 3) := by decide +kernel
theorem dX5_names_72 : decode cX5_names 72 = .ok (.aload_n 0, 1) := by decide +kernel
theorem dX5_names_73 : decode cX5_names 73 = .ok (.getfield 13, 3) := by decide +kernel
theorem dX5_names_76 : decode cX5_names 76 = .ok (.aload_n 0, 1) := by decide +kernel
theorem dX5_names_77 : decode cX5_names 77 = .ok (.getfield 44, 3) := by decide +kernel
theorem dX5_names_80 : decode cX5_names 80 = .ok (.iload_n 2, 1) := by decide +kernel
theorem dX5_names_81 : decode cX5_names 81 = .ok (.iaload, 1) := by decide +kernel
theorem dX5_names_82 : decode cX5_names 82 = .ok (.iaload, 1) := by decide +kernel
theorem dX5_names_83 : decode cX5_names 83 = .ok (.iconst 1, 1) := by decide +kernel
theorem dX5_names_84 : decode cX5_names 84 = .ok (.iand, 1) := by decide +kernel
theorem dX5_names_85 : decode cX5_names 85 = .ok (.iconst 1, 1) := by decide +kernel
theorem dX5_names_86 : decode cX5_names 86 = .ok (.if_icmp .ne 40, 3) := by decide +kernel
theorem dX5_names_89 : decode cX5_names 89 = .ok (.aload_n 0, 1) := by decide +kernel
theorem dX5_names_90 : decode cX5_names 90 = .ok (.getfield 53, 3) := by decide +kernel
theorem dX5_names_93 : decode cX5_names 93 = .ok (.iload_n 3, 1) := by decide +kernel
theorem dX5_names_94 : decode cX5_names 94 = .ok (.dup2, 1) := by decide +kernel
theorem dX5_names_95 : decode cX5_names 95 = .ok (.iaload, 1) := by decide +kernel
theorem dX5_names_96 : decode cX5_names 96 = .ok (.aload_n 0, 1) := by decide +kernel
theorem dX5_names_97 : decode cX5_names 97 = .ok (.getfield 25, 3) := by decide +kernel
theorem dX5_names_100 : decode cX5_names 100 = .ok (.iconst 4, 1) := by decide +kernel
theorem dX5_names_101 : decode cX5_names 101 = .ok (.iload_n 2, 1) := by decide +kernel
theorem dX5_names_102 : decode cX5_names 102 = .ok (.imul, 1) := by decide +kernel
theorem dX5_names_103 : decode cX5_names 103 = .ok (.iconst 2, 1) := by decide +kernel
theorem dX5_names_104 : decode cX5_names 104 = .ok (.iadd, 1) := by decide +kernel
theorem dX5_names_105 : decode cX5_names 105 = .ok (.iaload, 1) := by decide +kernel
theorem dX5_names_106 : decode cX5_names 106 = .ok (.iload_n 3, 1) := by decide +kernel
theorem dX5_names_107 : decode cX5_names 107 = .ok (.invokestatic 103, 3) := by decide +kernel
theorem dX5_names_110 : decode cX5_names 110 = .ok (.ifCond .eq 7, 3) := by decide +kernel
theorem dX5_names_113 : decode cX5_names 113 = .ok (.iconst 1, 1) := by decide +kernel
theorem dX5_names_114 : decode cX5_names 114 = .ok (.goto 4, 3) := by decide +kernel
theorem dX5_names_117 : decode cX5_names 117 = .ok (.iconst 0, 1) := by decide +kernel
theorem dX5_names_118 : decode cX5_names 118 = .ok (.iadd, 1) := by decide +kernel
theorem dX5_names_119 : decode cX5_names 119 = .ok (.iastore, 1) := by decide +kernel
theorem dX5_names_120 : decode cX5_names 120 = .ok (.iinc 3 1, 3) := by decide +kernel
theorem dX5_names_123 : decode cX5_names 123 = .ok (.goto (-65), 3) := by decide +kernel
theorem dX5_names_126 : decode cX5_names 126 = .ok (.iinc 2 1, 3) := by decide +kernel
theorem dX5_names_129 : decode cX5_names 129 = .ok (.goto (-91), 3) := by decide +kernel
theorem dX5_names_132 : decode cX5_names 132 = .ok (.iconst 0, 1) := by decide +kernel
theorem dX5_names_133 : decode cX5_names 133 = .ok (.istore_n 2, 1) := by decide +kernel
theorem dX5_names_134 : decode cX5_names 134 = .ok (.bipush 6, 2) := by decide +kernel
theorem dX5_names_136 : decode cX5_names 136 = .ok (.istore_n 3, 1) := by decide +kernel
theorem dX5_names_137 : decode cX5_names 137 = .ok (.iload_n 3, 1) := by decide +kernel
theorem dX5_names_138 : decode cX5_names 138 = .ok (.ifCond .le 47, 3) := by decide +kernel
theorem dX5_names_141 : decode cX5_names 141 = .ok (.iconst 0, 1) := by decide +kernel
theorem dX5_names_142 : decode cX5_names 142 = .ok (.istore 4, 2) := by decide +kernel
theorem dX5_names_144 : decode cX5_names 144 = .ok (.iload 4, 2) := by decide +kernel
theorem dX5_names_146 : decode cX5_names 146 = .ok (.bipush 6, 2) := by decide +kernel
theorem dX5_names_148 : decode cX5_names 148 = .ok (.if_icmp .ge 31, 3) := by decide +kernel
theorem dX5_names_151 : decode cX5_names 151 = .ok (.aload_n 0, 1) := by decide +kernel
theorem dX5_names_152 : decode cX5_names 152 = .ok (.getfield 53, 3) := by decide +kernel
theorem dX5_names_155 : decode cX5_names 155 = .ok (.iload 4, 2) := by decide +kernel
theorem dX5_names_157 : decode cX5_names 157 = .ok (.iaload, 1) := by decide +kernel
theorem dX5_names_158 : decode cX5_names 158 = .ok (.iload_n 3, 1) := by decide +kernel
theorem dX5_names_159 : decode cX5_names 159 = .ok (.if_icmp .ne 14, 3) := by decide +kernel
theorem dX5_names_162 : decode cX5_names 162 = .ok (.iload_n 2, 1) := by decide +kernel
theorem dX5_names_163 : decode cX5_names 163 = .ok (.iload_n 1, 1) := by decide +kernel
theorem dX5_names_164 : decode cX5_names 164 = .ok (.if_icmp .ne 6, 3) := by decide +kernel
theorem dX5_names_167 : decode cX5_names 167 = .ok (.iload 4, 2) := by decide +kernel
theorem dX5_names_169 : decode cX5_names 169 = .ok (.ireturn, 1) := by decide +kernel
theorem dX5_names_170 : decode cX5_names 170 = .ok (.iinc 2 1, 3) := by decide +kernel
theorem dX5_names_173 : decode cX5_names 173 = .ok (.iinc 4 1, 3) := by decide +kernel
theorem dX5_names_176 : decode cX5_names 176 = .ok (.goto (-32), 3) := by decide +kernel
theorem dX5_names_179 : decode cX5_names 179 = .ok (.iinc 3 (-1), 3) := by decide +kernel
theorem dX5_names_182 : decode cX5_names 182 = .ok (.goto (-45), 3) := by decide +kernel
theorem dX5_names_185 : decode cX5_names 185 = .ok (.iload_n 1, 1) := by decide +kernel
theorem dX5_names_186 : decode cX5_names 186 = .ok (.iconst (-1), 1) := by decide +kernel
theorem dX5_names_187 : decode cX5_names 187 = .ok (.if_icmp .ne 7, 3) := by decide +kernel
theorem dX5_names_190 : decode cX5_names 190 = .ok (.iload_n 2, 1) := by decide +kernel
theorem dX5_names_191 : decode cX5_names 191 = .ok (.goto 5, 3) := by decide +kernel
theorem dX5_names_194 : decode cX5_names 194 = .ok (.bipush (-6), 2) := by decide +kernel
theorem dX5_names_196 : decode cX5_names 196 = .ok (.ireturn, 1) := by decide +kernel
theorem dX5_audit_0 : decode cX5_audit 0 = .ok (.iload_n 1, 1) := by decide +kernel
theorem dX5_audit_1 : decode cX5_audit 1 = .ok (.invokestatic 97, 3) := by decide +kernel
theorem dX5_audit_4 : decode cX5_audit 4 = .ok (.ifCond .ne 5, 3) := by decide +kernel
theorem dX5_audit_7 : decode cX5_audit 7 = .ok (.iconst (-1), 1) := by decide +kernel
theorem dX5_audit_8 : decode cX5_audit 8 = .ok (.ireturn, 1) := by decide +kernel
theorem dX5_audit_9 : decode cX5_audit 9 = .ok (.iload_n 2, 1) := by decide +kernel
theorem dX5_audit_10 : decode cX5_audit 10 = .ok (.iconst 0, 1) := by decide +kernel
theorem dX5_audit_11 : decode cX5_audit 11 = .ok (.iconst 1, 1) := by decide +kernel
theorem dX5_audit_12 : decode cX5_audit 12 = .ok (.invokestatic 69, 3) := by decide +kernel
theorem dX5_audit_15 : decode cX5_audit 15 = .ok (.ifCond .ne 6, 3) := by decide +kernel
theorem dX5_audit_18 : decode cX5_audit 18 = .ok (.bipush (-2), 2) := by decide +kernel
theorem dX5_audit_20 : decode cX5_audit 20 = .ok (.ireturn, 1) := by decide +kernel
theorem dX5_audit_21 : decode cX5_audit 21 = .ok (.iconst 0, 1) := by decide +kernel
theorem dX5_audit_22 : decode cX5_audit 22 = .ok (.istore_n 3, 1) := by decide +kernel
theorem dX5_audit_23 : decode cX5_audit 23 = .ok (.iload_n 3, 1) := by decide +kernel
theorem dX5_audit_24 : decode cX5_audit 24 = .ok (.bipush 6, 2) := by decide +kernel
theorem dX5_audit_26 : decode cX5_audit 26 = .ok (.if_icmp .ge 48, 3) := by decide +kernel
theorem dX5_audit_29 : decode cX5_audit 29 = .ok (.aload_n 0, 1) := by decide +kernel
theorem dX5_audit_30 : decode cX5_audit 30 = .ok (.getfield 56, 3) := by decide +kernel
theorem dX5_audit_33 : decode cX5_audit 33 = .ok (.iload_n 3, 1) := by decide +kernel
theorem dX5_audit_34 : decode cX5_audit 34 = .ok (.iload_n 3, 1) := by decide +kernel
theorem dX5_audit_35 : decode cX5_audit 35 = .ok (.aload_n 0, 1) := by decide +kernel
theorem dX5_audit_36 : decode cX5_audit 36 = .ok (.getfield 31, 3) := by decide +kernel
theorem dX5_audit_39 : decode cX5_audit 39 = .ok (.if_icmp .ne 7, 3) := by decide +kernel
theorem dX5_audit_42 : decode cX5_audit 42 = .ok (.iconst 0, 1) := by decide +kernel
theorem dX5_audit_43 : decode cX5_audit 43 = .ok (.goto 5, 3) := by decide +kernel
theorem dX5_audit_46 : decode cX5_audit 46 = .ok (.bipush (-6), 2) := by decide +kernel
theorem dX5_audit_48 : decode cX5_audit 48 = .ok (.iastore, 1) := by decide +kernel
theorem dX5_audit_49 : decode cX5_audit 49 = .ok (.aload_n 0, 1) := by decide +kernel
theorem dX5_audit_50 : decode cX5_audit 50 = .ok (.getfield 59, 3) := by decide +kernel
theorem dX5_audit_53 : decode cX5_audit 53 = .ok (.iload_n 3, 1) := by decide +kernel
theorem dX5_audit_54 : decode cX5_audit 54 = .ok (.iload_n 3, 1) := by decide +kernel
theorem dX5_audit_55 : decode cX5_audit 55 = .ok (.aload_n 0, 1) := by decide +kernel
theorem dX5_audit_56 : decode cX5_audit 56 = .ok (.getfield 31, 3) := by decide +kernel
theorem dX5_audit_59 : decode cX5_audit 59 = .ok (.if_icmp .ne 7, 3) := by decide +kernel
theorem dX5_audit_62 : decode cX5_audit 62 = .ok (.iconst 1, 1) := by decide +kernel
theorem dX5_audit_63 : decode cX5_audit 63 = .ok (.goto 4, 3) := by decide +kernel
theorem dX5_audit_66 : decode cX5_audit 66 = .ok (.iconst 0, 1) := by decide +kernel
theorem dX5_audit_67 : decode cX5_audit 67 = .ok (.iastore, 1) := by decide +kernel
theorem dX5_audit_68 : decode cX5_audit 68 = .ok (.iinc 3 1, 3) := by decide +kernel
theorem dX5_audit_71 : decode cX5_audit 71 = .ok (.goto (-48), 3) := by decide +kernel
theorem dX5_audit_74 : decode cX5_audit 74 = .ok (.aload_n 0, 1) := by decide +kernel
theorem dX5_audit_75 : decode cX5_audit 75 = .ok (.getfield 31, 3) := by decide +kernel
theorem dX5_audit_78 : decode cX5_audit 78 = .ok (.istore_n 3, 1) := by decide +kernel
theorem dX5_audit_79 : decode cX5_audit 79 = .ok (.iload_n 3, 1) := by decide +kernel
theorem dX5_audit_80 : decode cX5_audit 80 = .ok (.ifCond .le 107, 3) := by decide +kernel
theorem dX5_audit_83 : decode cX5_audit 83 = .ok (.iconst 0, 1) := by decide +kernel
theorem dX5_audit_84 : decode cX5_audit 84 = .ok (.istore 4, 2) := by decide +kernel
theorem dX5_audit_86 : decode cX5_audit 86 = .ok (.iload 4, 2) := by decide +kernel
theorem dX5_audit_88 : decode cX5_audit 88 = .ok (.iload_n 3, 1) := by decide +kernel
theorem dX5_audit_89 : decode cX5_audit 89 = .ok (.if_icmp .ge 92, 3) := by decide +kernel
theorem dX5_audit_92 : decode cX5_audit 92 = .ok (.aload_n 0, 1) := by decide +kernel
theorem dX5_audit_93 : decode cX5_audit 93 = .ok (.getfield 56, 3) := by decide +kernel
theorem dX5_audit_96 : decode cX5_audit 96 = .ok (.iload_n 3, 1) := by decide +kernel
theorem dX5_audit_97 : decode cX5_audit 97 = .ok (.iaload, 1) := by decide +kernel
theorem dX5_audit_98 : decode cX5_audit 98 = .ok (.ifCond .lt 77, 3) := by decide +kernel
theorem dX5_audit_101 : decode cX5_audit 101 = .ok (.aload_n 0, 1) := by decide +kernel
theorem dX5_audit_102 : decode cX5_audit 102 = .ok (.getfield 28, 3) := by decide +kernel
theorem dX5_audit_105 : decode cX5_audit 105 = .ok (.bipush 6, 2) := by decide +kernel
theorem dX5_audit_107 : decode cX5_audit 107 = .ok (.iload_n 3, 1) := by decide +kernel
theorem dX5_audit_108 : decode cX5_audit 108 = .ok (.imul, 1) := by decide +kernel
theorem dX5_audit_109 : decode cX5_audit 109 = .ok (.iload 4, 2) := by decide +kernel
theorem dX5_audit_111 : decode cX5_audit 111 = .ok (.iadd, 1) := by decide +kernel
theorem dX5_audit_112 : decode cX5_audit 112 = .ok (.iaload, 1) := by decide +kernel
theorem dX5_audit_113 : decode cX5_audit 113 = .ok (.ifCond .lt 62, 3) := by decide +kernel
theorem dX5_audit_116 : decode cX5_audit 116 = .ok (.aload_n 0, 1) := by decide +kernel
theorem dX5_audit_117 : decode cX5_audit 117 = .ok (.getfield 56, 3) := by decide +kernel
theorem dX5_audit_120 : decode cX5_audit 120 = .ok (.iload 4, 2) := by decide +kernel
theorem dX5_audit_122 : decode cX5_audit 122 = .ok (.aload_n 0, 1) := by decide +kernel
theorem dX5_audit_123 : decode cX5_audit 123 = .ok (.getfield 56, 3) := by decide +kernel
theorem dX5_audit_126 : decode cX5_audit 126 = .ok (.iload_n 3, 1) := by decide +kernel
theorem dX5_audit_127 : decode cX5_audit 127 = .ok (.iaload, 1) := by decide +kernel
theorem dX5_audit_128 : decode cX5_audit 128 = .ok (.iconst 1, 1) := by decide +kernel
theorem dX5_audit_129 : decode cX5_audit 129 = .ok (.iadd, 1) := by decide +kernel
theorem dX5_audit_130 : decode cX5_audit 130 = .ok (.aload_n 0, 1) := by decide +kernel
theorem dX5_audit_131 : decode cX5_audit 131 = .ok (.getfield 56, 3) := by decide +kernel
theorem dX5_audit_134 : decode cX5_audit 134 = .ok (.iload 4, 2) := by decide +kernel
theorem dX5_audit_136 : decode cX5_audit 136 = .ok (.iaload, 1) := by decide +kernel
theorem dX5_audit_137 : decode cX5_audit 137 = .ok (.if_icmp .le 14, 3) := by decide +kernel
theorem dX5_audit_140 : decode cX5_audit 140 = .ok (.aload_n 0, 1) := by decide +kernel
theorem dX5_audit_141 : decode cX5_audit 141 = .ok (.getfield 56, 3) := by decide +kernel
theorem dX5_audit_144 : decode cX5_audit 144 = .ok (.iload_n 3, 1) := by decide +kernel
theorem dX5_audit_145 : decode cX5_audit 145 = .ok (.iaload, 1) := by decide +kernel
theorem dX5_audit_146 : decode cX5_audit 146 = .ok (.iconst 1, 1) := by decide +kernel
theorem dX5_audit_147 : decode cX5_audit 147 = .ok (.iadd, 1) := by decide +kernel
theorem dX5_audit_148 : decode cX5_audit 148 = .ok (.goto 10, 3) := by decide +kernel
theorem dX5_audit_151 : decode cX5_audit 151 = .ok (.aload_n 0, 1) := by decide +kernel
theorem dX5_audit_152 : decode cX5_audit 152 = .ok (.getfield 56, 3) := by decide +kernel
theorem dX5_audit_155 : decode cX5_audit 155 = .ok (.iload 4, 2) := by decide +kernel
theorem dX5_audit_157 : decode cX5_audit 157 = .ok (.iaload, 1) := by decide +kernel
theorem dX5_audit_158 : decode cX5_audit 158 = .ok (.iastore, 1) := by decide +kernel
theorem dX5_audit_159 : decode cX5_audit 159 = .ok (.aload_n 0, 1) := by decide +kernel
theorem dX5_audit_160 : decode cX5_audit 160 = .ok (.getfield 59, 3) := by decide +kernel
theorem dX5_audit_163 : decode cX5_audit 163 = .ok (.iload 4, 2) := by decide +kernel
theorem dX5_audit_165 : decode cX5_audit 165 = .ok (.dup2, 1) := by decide +kernel
theorem dX5_audit_166 : decode cX5_audit 166 = .ok (.iaload, 1) := by decide +kernel
theorem dX5_audit_167 : decode cX5_audit 167 = .ok (.aload_n 0, 1) := by decide +kernel
theorem dX5_audit_168 : decode cX5_audit 168 = .ok (.getfield 59, 3) := by decide +kernel
theorem dX5_audit_171 : decode cX5_audit 171 = .ok (.iload_n 3, 1) := by decide +kernel
theorem dX5_audit_172 : decode cX5_audit 172 = .ok (.iaload, 1) := by decide +kernel
theorem dX5_audit_173 : decode cX5_audit 173 = .ok (.iadd, 1) := by decide +kernel
theorem dX5_audit_174 : decode cX5_audit 174 = .ok (.iastore, 1) := by decide +kernel
theorem dX5_audit_175 : decode cX5_audit 175 = .ok (.iinc 4 1, 3) := by decide +kernel
theorem dX5_audit_178 : decode cX5_audit 178 = .ok (.goto (-92), 3) := by decide +kernel
theorem dX5_audit_181 : decode cX5_audit 181 = .ok (.iinc 3 (-1), 3) := by decide +kernel
theorem dX5_audit_184 : decode cX5_audit 184 = .ok (.goto (-105), 3) := by decide +kernel
theorem dX5_audit_187 : decode cX5_audit 187 = .ok (.aload_n 0, 1) := by decide +kernel
theorem dX5_audit_188 : decode cX5_audit 188 = .ok (.getfield 56, 3) := by decide +kernel
theorem dX5_audit_191 : decode cX5_audit 191 = .ok (.iload_n 1, 1) := by decide +kernel
theorem dX5_audit_192 : decode cX5_audit 192 = .ok (.iaload, 1) := by decide +kernel
theorem dX5_audit_193 : decode cX5_audit 193 = .ok (.ifCond .ge 8, 3) := by decide +kernel
theorem dX5_audit_196 : decode cX5_audit 196 = .ok (.bipush (-6), 2) := by decide +kernel
theorem dX5_audit_198 : decode cX5_audit 198 = .ok (.goto 22, 3) := by decide +kernel
theorem dX5_audit_201 : decode cX5_audit 201 = .ok (.iload_n 2, 1) := by decide +kernel
theorem dX5_audit_202 : decode cX5_audit 202 = .ok (.ifCond .ne 12, 3) := by decide +kernel
theorem dX5_audit_205 : decode cX5_audit 205 = .ok (.aload_n 0, 1) := by decide +kernel
theorem dX5_audit_206 : decode cX5_audit 206 = .ok (.getfield 56, 3) := by decide +kernel
theorem dX5_audit_209 : decode cX5_audit 209 = .ok (.iload_n 1, 1) := by decide +kernel
theorem dX5_audit_210 : decode cX5_audit 210 = .ok (.iaload, 1) := by decide +kernel
theorem dX5_audit_211 : decode cX5_audit 211 = .ok (.goto 9, 3) := by decide +kernel
theorem dX5_audit_214 : decode cX5_audit 214 = .ok (.aload_n 0, 1) := by decide +kernel
theorem dX5_audit_215 : decode cX5_audit 215 = .ok (.getfield 59, 3) := by decide +kernel
theorem dX5_audit_218 : decode cX5_audit 218 = .ok (.iload_n 1, 1) := by decide +kernel
theorem dX5_audit_219 : decode cX5_audit 219 = .ok (.iaload, 1) := by decide +kernel
theorem dX5_audit_220 : decode cX5_audit 220 = .ok (.ireturn, 1) := by decide +kernel
theorem dX5_image_0 : decode cX5_image 0 = .ok (.iload_n 1, 1) := by decide +kernel
theorem dX5_image_1 : decode cX5_image 1 = .ok (.iconst 0, 1) := by decide +kernel
theorem dX5_image_2 : decode cX5_image 2 = .ok (.iconst 1, 1) := by decide +kernel
theorem dX5_image_3 : decode cX5_image 3 = .ok (.invokestatic 69, 3) := by decide +kernel
theorem dX5_image_6 : decode cX5_image 6 = .ok (.ifCond .ne 6, 3) := by decide +kernel
theorem dX5_image_9 : decode cX5_image 9 = .ok (.bipush (-2), 2) := by decide +kernel
theorem dX5_image_11 : decode cX5_image 11 = .ok (.ireturn, 1) := by decide +kernel
theorem dX5_image_12 : decode cX5_image 12 = .ok (.bipush 82, 2) := by decide +kernel
theorem dX5_image_14 : decode cX5_image 14 = .ok (.iload_n 1, 1) := by decide +kernel
theorem dX5_image_15 : decode cX5_image 15 = .ok (.imul, 1) := by decide +kernel
theorem dX5_image_16 : decode cX5_image 16 = .ok (.istore_n 2, 1) := by decide +kernel
theorem dX5_image_17 : decode cX5_image 17 = .ok (.iconst 0, 1) := by decide +kernel
theorem dX5_image_18 : decode cX5_image 18 = .ok (.istore_n 3, 1) := by decide +kernel
theorem dX5_image_19 : decode cX5_image 19 = .ok (.iload_n 3, 1) := by decide +kernel
theorem dX5_image_20 : decode cX5_image 20 = .ok (.iconst 5, 1) := by decide +kernel
theorem dX5_image_21 : decode cX5_image 21 = .ok (.if_icmp .ge 73, 3) := by decide +kernel
theorem dX5_image_24 : decode cX5_image 24 = .ok (.aload_n 0, 1) := by decide +kernel
theorem dX5_image_25 : decode cX5_image 25 = .ok (.getfield 62, 3) := by decide +kernel
theorem dX5_image_28 : decode cX5_image 28 = .ok (.iload_n 2, 1) := by decide +kernel
theorem dX5_image_29 : decode cX5_image 29 = .ok (.iload_n 3, 1) := by decide +kernel
theorem dX5_image_30 : decode cX5_image 30 = .ok (.iadd, 1) := by decide +kernel
theorem dX5_image_31 : decode cX5_image 31 = .ok (.aload_n 0, 1) := by decide +kernel
theorem dX5_image_32 : decode cX5_image 32 = .ok (.getfield 13, 3) := by decide +kernel
theorem dX5_image_35 : decode cX5_image 35 = .ok (.iload_n 3, 1) := by decide +kernel
theorem dX5_image_36 : decode cX5_image 36 = .ok (.iaload, 1) := by decide +kernel
theorem dX5_image_37 : decode cX5_image 37 = .ok (.iastore, 1) := by decide +kernel
theorem dX5_image_38 : decode cX5_image 38 = .ok (.aload_n 0, 1) := by decide +kernel
theorem dX5_image_39 : decode cX5_image 39 = .ok (.getfield 62, 3) := by decide +kernel
theorem dX5_image_42 : decode cX5_image 42 = .ok (.iload_n 2, 1) := by decide +kernel
theorem dX5_image_43 : decode cX5_image 43 = .ok (.iconst 5, 1) := by decide +kernel
theorem dX5_image_44 : decode cX5_image 44 = .ok (.iadd, 1) := by decide +kernel
theorem dX5_image_45 : decode cX5_image 45 = .ok (.iload_n 3, 1) := by decide +kernel
theorem dX5_image_46 : decode cX5_image 46 = .ok (.iadd, 1) := by decide +kernel
theorem dX5_image_47 : decode cX5_image 47 = .ok (.aload_n 0, 1) := by decide +kernel
theorem dX5_image_48 : decode cX5_image 48 = .ok (.getfield 16, 3) := by decide +kernel
theorem dX5_image_51 : decode cX5_image 51 = .ok (.iload_n 3, 1) := by decide +kernel
theorem dX5_image_52 : decode cX5_image 52 = .ok (.iaload, 1) := by decide +kernel
theorem dX5_image_53 : decode cX5_image 53 = .ok (.iastore, 1) := by decide +kernel
theorem dX5_image_54 : decode cX5_image 54 = .ok (.aload_n 0, 1) := by decide +kernel
theorem dX5_image_55 : decode cX5_image 55 = .ok (.getfield 62, 3) := by decide +kernel
theorem dX5_image_58 : decode cX5_image 58 = .ok (.iload_n 2, 1) := by decide +kernel
theorem dX5_image_59 : decode cX5_image 59 = .ok (.bipush 10, 2) := by decide +kernel
theorem dX5_image_61 : decode cX5_image 61 = .ok (.iadd, 1) := by decide +kernel
theorem dX5_image_62 : decode cX5_image 62 = .ok (.iload_n 3, 1) := by decide +kernel
theorem dX5_image_63 : decode cX5_image 63 = .ok (.iadd, 1) := by decide +kernel
theorem dX5_image_64 : decode cX5_image 64 = .ok (.aload_n 0, 1) := by decide +kernel
theorem dX5_image_65 : decode cX5_image 65 = .ok (.getfield 19, 3) := by decide +kernel
theorem dX5_image_68 : decode cX5_image 68 = .ok (.iload_n 3, 1) := by decide +kernel
theorem dX5_image_69 : decode cX5_image 69 = .ok (.iaload, 1) := by decide +kernel
theorem dX5_image_70 : decode cX5_image 70 = .ok (.iastore, 1) := by decide +kernel
theorem dX5_image_71 : decode cX5_image 71 = .ok (.aload_n 0, 1) := by decide +kernel
theorem dX5_image_72 : decode cX5_image 72 = .ok (.getfield 62, 3) := by decide +kernel
theorem dX5_image_75 : decode cX5_image 75 = .ok (.iload_n 2, 1) := by decide +kernel
theorem dX5_image_76 : decode cX5_image 76 = .ok (.bipush 15, 2) := by decide +kernel
theorem dX5_image_78 : decode cX5_image 78 = .ok (.iadd, 1) := by decide +kernel
theorem dX5_image_79 : decode cX5_image 79 = .ok (.iload_n 3, 1) := by decide +kernel
theorem dX5_image_80 : decode cX5_image 80 = .ok (.iadd, 1) := by decide +kernel
theorem dX5_image_81 : decode cX5_image 81 = .ok (.aload_n 0, 1) := by decide +kernel
theorem dX5_image_82 : decode cX5_image 82 = .ok (.getfield 22, 3) := by decide +kernel
theorem dX5_image_85 : decode cX5_image 85 = .ok (.iload_n 3, 1) := by decide +kernel
theorem dX5_image_86 : decode cX5_image 86 = .ok (.iaload, 1) := by decide +kernel
theorem dX5_image_87 : decode cX5_image 87 = .ok (.iastore, 1) := by decide +kernel
theorem dX5_image_88 : decode cX5_image 88 = .ok (.iinc 3 1, 3) := by decide +kernel
theorem dX5_image_91 : decode cX5_image 91 = .ok (.goto (-72), 3) := by decide +kernel
theorem dX5_image_94 : decode cX5_image 94 = .ok (.iconst 0, 1) := by decide +kernel
theorem dX5_image_95 : decode cX5_image 95 = .ok (.istore_n 3, 1) := by decide +kernel
theorem dX5_image_96 : decode cX5_image 96 = .ok (.iload_n 3, 1) := by decide +kernel
theorem dX5_image_97 : decode cX5_image 97 = .ok (.bipush 24, 2) := by decide +kernel
theorem dX5_image_99 : decode cX5_image 99 = .ok (.if_icmp .ge 26, 3) := by decide +kernel
theorem dX5_image_102 : decode cX5_image 102 = .ok (.aload_n 0, 1) := by decide +kernel
theorem dX5_image_103 : decode cX5_image 103 = .ok (.getfield 62, 3) := by decide +kernel
theorem dX5_image_106 : decode cX5_image 106 = .ok (.iload_n 2, 1) := by decide +kernel
theorem dX5_image_107 : decode cX5_image 107 = .ok (.bipush 20, 2) := by decide +kernel
theorem dX5_image_109 : decode cX5_image 109 = .ok (.iadd, 1) := by decide +kernel
theorem dX5_image_110 : decode cX5_image 110 = .ok (.iload_n 3, 1) := by decide +kernel
theorem dX5_image_111 : decode cX5_image 111 = .ok (.iadd, 1) := by decide +kernel
theorem dX5_image_112 : decode cX5_image 112 = .ok (.aload_n 0, 1) := by decide +kernel
theorem dX5_image_113 : decode cX5_image 113 = .ok (.getfield 25, 3) := by decide +kernel
theorem dX5_image_116 : decode cX5_image 116 = .ok (.iload_n 3, 1) := by decide +kernel
theorem dX5_image_117 : decode cX5_image 117 = .ok (.iaload, 1) := by decide +kernel
theorem dX5_image_118 : decode cX5_image 118 = .ok (.iastore, 1) := by decide +kernel
theorem dX5_image_119 : decode cX5_image 119 = .ok (.iinc 3 1, 3) := by decide +kernel
theorem dX5_image_122 : decode cX5_image 122 = .ok (.goto (-26), 3) := by decide +kernel
theorem dX5_image_125 : decode cX5_image 125 = .ok (.iconst 0, 1) := by decide +kernel
theorem dX5_image_126 : decode cX5_image 126 = .ok (.istore_n 3, 1) := by decide +kernel
theorem dX5_image_127 : decode cX5_image 127 = .ok (.iload_n 3, 1) := by decide +kernel
theorem dX5_image_128 : decode cX5_image 128 = .ok (.bipush 36, 2) := by decide +kernel
theorem dX5_image_130 : decode cX5_image 130 = .ok (.if_icmp .ge 26, 3) := by decide +kernel
theorem dX5_image_133 : decode cX5_image 133 = .ok (.aload_n 0, 1) := by decide +kernel
theorem dX5_image_134 : decode cX5_image 134 = .ok (.getfield 62, 3) := by decide +kernel
theorem dX5_image_137 : decode cX5_image 137 = .ok (.iload_n 2, 1) := by decide +kernel
theorem dX5_image_138 : decode cX5_image 138 = .ok (.bipush 44, 2) := by decide +kernel
theorem dX5_image_140 : decode cX5_image 140 = .ok (.iadd, 1) := by decide +kernel
theorem dX5_image_141 : decode cX5_image 141 = .ok (.iload_n 3, 1) := by decide +kernel
theorem dX5_image_142 : decode cX5_image 142 = .ok (.iadd, 1) := by decide +kernel
theorem dX5_image_143 : decode cX5_image 143 = .ok (.aload_n 0, 1) := by decide +kernel
theorem dX5_image_144 : decode cX5_image 144 = .ok (.getfield 28, 3) := by decide +kernel
theorem dX5_image_147 : decode cX5_image 147 = .ok (.iload_n 3, 1) := by decide +kernel
theorem dX5_image_148 : decode cX5_image 148 = .ok (.iaload, 1) := by decide +kernel
theorem dX5_image_149 : decode cX5_image 149 = .ok (.iastore, 1) := by decide +kernel
theorem dX5_image_150 : decode cX5_image 150 = .ok (.iinc 3 1, 3) := by decide +kernel
theorem dX5_image_153 : decode cX5_image 153 = .ok (.goto (-26), 3) := by decide +kernel
theorem dX5_image_156 : decode cX5_image 156 = .ok (.aload_n 0, 1) := by decide +kernel
theorem dX5_image_157 : decode cX5_image 157 = .ok (.getfield 62, 3) := by decide +kernel
theorem dX5_image_160 : decode cX5_image 160 = .ok (.iload_n 2, 1) := by decide +kernel
theorem dX5_image_161 : decode cX5_image 161 = .ok (.bipush 80, 2) := by decide +kernel
theorem dX5_image_163 : decode cX5_image 163 = .ok (.iadd, 1) := by decide +kernel
theorem dX5_image_164 : decode cX5_image 164 = .ok (.aload_n 0, 1) := by decide +kernel
theorem dX5_image_165 : decode cX5_image 165 = .ok (.getfield 31, 3) := by decide +kernel
theorem dX5_image_168 : decode cX5_image 168 = .ok (.iastore, 1) := by decide +kernel
theorem dX5_image_169 : decode cX5_image 169 = .ok (.aload_n 0, 1) := by decide +kernel
theorem dX5_image_170 : decode cX5_image 170 = .ok (.getfield 62, 3) := by decide +kernel
theorem dX5_image_173 : decode cX5_image 173 = .ok (.iload_n 2, 1) := by decide +kernel
theorem dX5_image_174 : decode cX5_image 174 = .ok (.bipush 81, 2) := by decide +kernel
theorem dX5_image_176 : decode cX5_image 176 = .ok (.iadd, 1) := by decide +kernel
theorem dX5_image_177 : decode cX5_image 177 = .ok (.aload_n 0, 1) := by decide +kernel
theorem dX5_image_178 : decode cX5_image 178 = .ok (.getfield 35, 3) := by decide +kernel
theorem dX5_image_181 : decode cX5_image 181 = .ok (.iastore, 1) := by decide +kernel
theorem dX5_image_182 : decode cX5_image 182 = .ok (.aload_n 0, 1) := by decide +kernel
theorem dX5_image_183 : decode cX5_image 183 = .ok (.getfield 65, 3) := by decide +kernel
theorem dX5_image_186 : decode cX5_image 186 = .ok (.iload_n 1, 1) := by decide +kernel
theorem dX5_image_187 : decode cX5_image 187 = .ok (.iconst 1, 1) := by decide +kernel
theorem dX5_image_188 : decode cX5_image 188 = .ok (.bastore, 1) := by decide +kernel
theorem dX5_image_189 : decode cX5_image 189 = .ok (.iconst 1, 1) := by decide +kernel
theorem dX5_image_190 : decode cX5_image 190 = .ok (.ireturn, 1) := by decide +kernel
theorem dX5_restore_0 : decode cX5_restore 0 = .ok (.iload_n 1, 1) := by decide +kernel
theorem dX5_restore_1 : decode cX5_restore 1 = .ok (.iconst 0, 1) := by decide +kernel
theorem dX5_restore_2 : decode cX5_restore 2 = .ok (.iconst 1, 1) := by decide +kernel
theorem dX5_restore_3 : decode cX5_restore 3 = .ok (.invokestatic 69, 3) := by decide +kernel
theorem dX5_restore_6 : decode cX5_restore 6 = .ok (.ifCond .ne 6, 3) := by decide +kernel
theorem dX5_restore_9 : decode cX5_restore 9 = .ok (.bipush (-2), 2) := by decide +kernel
theorem dX5_restore_11 : decode cX5_restore 11 = .ok (.ireturn, 1) := by decide +kernel
theorem dX5_restore_12 : decode cX5_restore 12 = .ok (.aload_n 0, 1) := by decide +kernel
theorem dX5_restore_13 : decode cX5_restore 13 = .ok (.getfield 65, 3) := by decide +kernel
theorem dX5_restore_16 : decode cX5_restore 16 = .ok (.iload_n 1, 1) := by decide +kernel
theorem dX5_restore_17 : decode cX5_restore 17 = .ok (.baload, 1) := by decide +kernel
theorem dX5_restore_18 : decode cX5_restore 18 = .ok (.ifCond .ne 6, 3) := by decide +kernel
theorem dX5_restore_21 : decode cX5_restore 21 = .ok (.bipush (-3), 2) := by decide +kernel
theorem dX5_restore_23 : decode cX5_restore 23 = .ok (.ireturn, 1) := by decide +kernel
theorem dX5_restore_24 : decode cX5_restore 24 = .ok (.bipush 82, 2) := by decide +kernel
theorem dX5_restore_26 : decode cX5_restore 26 = .ok (.iload_n 1, 1) := by decide +kernel
theorem dX5_restore_27 : decode cX5_restore 27 = .ok (.imul, 1) := by decide +kernel
theorem dX5_restore_28 : decode cX5_restore 28 = .ok (.istore_n 2, 1) := by decide +kernel
theorem dX5_restore_29 : decode cX5_restore 29 = .ok (.iconst 0, 1) := by decide +kernel
theorem dX5_restore_30 : decode cX5_restore 30 = .ok (.istore_n 3, 1) := by decide +kernel
theorem dX5_restore_31 : decode cX5_restore 31 = .ok (.iload_n 3, 1) := by decide +kernel
theorem dX5_restore_32 : decode cX5_restore 32 = .ok (.iconst 5, 1) := by decide +kernel
theorem dX5_restore_33 : decode cX5_restore 33 = .ok (.if_icmp .ge 73, 3) := by decide +kernel
theorem dX5_restore_36 : decode cX5_restore 36 = .ok (.aload_n 0, 1) := by decide +kernel
theorem dX5_restore_37 : decode cX5_restore 37 = .ok (.getfield 13, 3) := by decide +kernel
theorem dX5_restore_40 : decode cX5_restore 40 = .ok (.iload_n 3, 1) := by decide +kernel
theorem dX5_restore_41 : decode cX5_restore 41 = .ok (.aload_n 0, 1) := by decide +kernel
theorem dX5_restore_42 : decode cX5_restore 42 = .ok (.getfield 62, 3) := by decide +kernel
theorem dX5_restore_45 : decode cX5_restore 45 = .ok (.iload_n 2, 1) := by decide +kernel
theorem dX5_restore_46 : decode cX5_restore 46 = .ok (.iload_n 3, 1) := by decide +kernel
theorem dX5_restore_47 : decode cX5_restore 47 = .ok (.iadd, 1) := by decide +kernel
theorem dX5_restore_48 : decode cX5_restore 48 = .ok (.iaload, 1) := by decide +kernel
theorem dX5_restore_49 : decode cX5_restore 49 = .ok (.iastore, 1) := by decide +kernel
theorem dX5_restore_50 : decode cX5_restore 50 = .ok (.aload_n 0, 1) := by decide +kernel
theorem dX5_restore_51 : decode cX5_restore 51 = .ok (.getfield 16, 3) := by decide +kernel
theorem dX5_restore_54 : decode cX5_restore 54 = .ok (.iload_n 3, 1) := by decide +kernel
theorem dX5_restore_55 : decode cX5_restore 55 = .ok (.aload_n 0, 1) := by decide +kernel
theorem dX5_restore_56 : decode cX5_restore 56 = .ok (.getfield 62, 3) := by decide +kernel
theorem dX5_restore_59 : decode cX5_restore 59 = .ok (.iload_n 2, 1) := by decide +kernel
theorem dX5_restore_60 : decode cX5_restore 60 = .ok (.iconst 5, 1) := by decide +kernel
theorem dX5_restore_61 : decode cX5_restore 61 = .ok (.iadd, 1) := by decide +kernel
theorem dX5_restore_62 : decode cX5_restore 62 = .ok (.iload_n 3, 1) := by decide +kernel
theorem dX5_restore_63 : decode cX5_restore 63 = .ok (.iadd, 1) := by decide +kernel
theorem dX5_restore_64 : decode cX5_restore 64 = .ok (.iaload, 1) := by decide +kernel
theorem dX5_restore_65 : decode cX5_restore 65 = .ok (.iastore, 1) := by decide +kernel
theorem dX5_restore_66 : decode cX5_restore 66 = .ok (.aload_n 0, 1) := by decide +kernel
theorem dX5_restore_67 : decode cX5_restore 67 = .ok (.getfield 19, 3) := by decide +kernel
theorem dX5_restore_70 : decode cX5_restore 70 = .ok (.iload_n 3, 1) := by decide +kernel
theorem dX5_restore_71 : decode cX5_restore 71 = .ok (.aload_n 0, 1) := by decide +kernel
theorem dX5_restore_72 : decode cX5_restore 72 = .ok (.getfield 62, 3) := by decide +kernel
theorem dX5_restore_75 : decode cX5_restore 75 = .ok (.iload_n 2, 1) := by decide +kernel
theorem dX5_restore_76 : decode cX5_restore 76 = .ok (.bipush 10, 2) := by decide +kernel
theorem dX5_restore_78 : decode cX5_restore 78 = .ok (.iadd, 1) := by decide +kernel
theorem dX5_restore_79 : decode cX5_restore 79 = .ok (.iload_n 3, 1) := by decide +kernel
theorem dX5_restore_80 : decode cX5_restore 80 = .ok (.iadd, 1) := by decide +kernel
theorem dX5_restore_81 : decode cX5_restore 81 = .ok (.iaload, 1) := by decide +kernel
theorem dX5_restore_82 : decode cX5_restore 82 = .ok (.iastore, 1) := by decide +kernel
theorem dX5_restore_83 : decode cX5_restore 83 = .ok (.aload_n 0, 1) := by decide +kernel
theorem dX5_restore_84 : decode cX5_restore 84 = .ok (.getfield 22, 3) := by decide +kernel
theorem dX5_restore_87 : decode cX5_restore 87 = .ok (.iload_n 3, 1) := by decide +kernel
theorem dX5_restore_88 : decode cX5_restore 88 = .ok (.aload_n 0, 1) := by decide +kernel
theorem dX5_restore_89 : decode cX5_restore 89 = .ok (.getfield 62, 3) := by decide +kernel
theorem dX5_restore_92 : decode cX5_restore 92 = .ok (.iload_n 2, 1) := by decide +kernel
theorem dX5_restore_93 : decode cX5_restore 93 = .ok (.bipush 15, 2) := by decide +kernel
theorem dX5_restore_95 : decode cX5_restore 95 = .ok (.iadd, 1) := by decide +kernel
theorem dX5_restore_96 : decode cX5_restore 96 = .ok (.iload_n 3, 1) := by decide +kernel
theorem dX5_restore_97 : decode cX5_restore 97 = .ok (.iadd, 1) := by decide +kernel
theorem dX5_restore_98 : decode cX5_restore 98 = .ok (.iaload, 1) := by decide +kernel
theorem dX5_restore_99 : decode cX5_restore 99 = .ok (.iastore, 1) := by decide +kernel
theorem dX5_restore_100 : decode cX5_restore 100 = .ok (.iinc 3 1, 3) := by decide +kernel
theorem dX5_restore_103 : decode cX5_restore 103 = .ok (.goto (-72), 3) := by decide +kernel
theorem dX5_restore_106 : decode cX5_restore 106 = .ok (.iconst 0, 1) := by decide +kernel
theorem dX5_restore_107 : decode cX5_restore 107 = .ok (.istore_n 3, 1) := by decide +kernel
theorem dX5_restore_108 : decode cX5_restore 108 = .ok (.iload_n 3, 1) := by decide +kernel
theorem dX5_restore_109 : decode cX5_restore 109 = .ok (.bipush 24, 2) := by decide +kernel
theorem dX5_restore_111 : decode cX5_restore 111 = .ok (.if_icmp .ge 26, 3) := by decide +kernel
theorem dX5_restore_114 : decode cX5_restore 114 = .ok (.aload_n 0, 1) := by decide +kernel
theorem dX5_restore_115 : decode cX5_restore 115 = .ok (.getfield 25, 3) := by decide +kernel
theorem dX5_restore_118 : decode cX5_restore 118 = .ok (.iload_n 3, 1) := by decide +kernel
theorem dX5_restore_119 : decode cX5_restore 119 = .ok (.aload_n 0, 1) := by decide +kernel
theorem dX5_restore_120 : decode cX5_restore 120 = .ok (.getfield 62, 3) := by decide +kernel
theorem dX5_restore_123 : decode cX5_restore 123 = .ok (.iload_n 2, 1) := by decide +kernel
theorem dX5_restore_124 : decode cX5_restore 124 = .ok (.bipush 20, 2) := by decide +kernel
theorem dX5_restore_126 : decode cX5_restore 126 = .ok (.iadd, 1) := by decide +kernel
theorem dX5_restore_127 : decode cX5_restore 127 = .ok (.iload_n 3, 1) := by decide +kernel
theorem dX5_restore_128 : decode cX5_restore 128 = .ok (.iadd, 1) := by decide +kernel
theorem dX5_restore_129 : decode cX5_restore 129 = .ok (.iaload, 1) := by decide +kernel
theorem dX5_restore_130 : decode cX5_restore 130 = .ok (.iastore, 1) := by decide +kernel
theorem dX5_restore_131 : decode cX5_restore 131 = .ok (.iinc 3 1, 3) := by decide +kernel
theorem dX5_restore_134 : decode cX5_restore 134 = .ok (.goto (-26), 3) := by decide +kernel
theorem dX5_restore_137 : decode cX5_restore 137 = .ok (.iconst 0, 1) := by decide +kernel
theorem dX5_restore_138 : decode cX5_restore 138 = .ok (.istore_n 3, 1) := by decide +kernel
theorem dX5_restore_139 : decode cX5_restore 139 = .ok (.iload_n 3, 1) := by decide +kernel
theorem dX5_restore_140 : decode cX5_restore 140 = .ok (.bipush 36, 2) := by decide +kernel
theorem dX5_restore_142 : decode cX5_restore 142 = .ok (.if_icmp .ge 26, 3) := by decide +kernel
theorem dX5_restore_145 : decode cX5_restore 145 = .ok (.aload_n 0, 1) := by decide +kernel
theorem dX5_restore_146 : decode cX5_restore 146 = .ok (.getfield 28, 3) := by decide +kernel
theorem dX5_restore_149 : decode cX5_restore 149 = .ok (.iload_n 3, 1) := by decide +kernel
theorem dX5_restore_150 : decode cX5_restore 150 = .ok (.aload_n 0, 1) := by decide +kernel
theorem dX5_restore_151 : decode cX5_restore 151 = .ok (.getfield 62, 3) := by decide +kernel
theorem dX5_restore_154 : decode cX5_restore 154 = .ok (.iload_n 2, 1) := by decide +kernel
theorem dX5_restore_155 : decode cX5_restore 155 = .ok (.bipush 44, 2) := by decide +kernel
theorem dX5_restore_157 : decode cX5_restore 157 = .ok (.iadd, 1) := by decide +kernel
theorem dX5_restore_158 : decode cX5_restore 158 = .ok (.iload_n 3, 1) := by decide +kernel
theorem dX5_restore_159 : decode cX5_restore 159 = .ok (.iadd, 1) := by decide +kernel
theorem dX5_restore_160 : decode cX5_restore 160 = .ok (.iaload, 1) := by decide +kernel
theorem dX5_restore_161 : decode cX5_restore 161 = .ok (.iastore, 1) := by decide +kernel
theorem dX5_restore_162 : decode cX5_restore 162 = .ok (.iinc 3 1, 3) := by decide +kernel
theorem dX5_restore_165 : decode cX5_restore 165 = .ok (.goto (-26), 3) := by decide +kernel
theorem dX5_restore_168 : decode cX5_restore 168 = .ok (.aload_n 0, 1) := by decide +kernel
theorem dX5_restore_169 : decode cX5_restore 169 = .ok (.aload_n 0, 1) := by decide +kernel
theorem dX5_restore_170 : decode cX5_restore 170 = .ok (.getfield 62, 3) := by decide +kernel
theorem dX5_restore_173 : decode cX5_restore 173 = .ok (.iload_n 2, 1) := by decide +kernel
theorem dX5_restore_174 : decode cX5_restore 174 = .ok (.bipush 80, 2) := by decide +kernel
theorem dX5_restore_176 : decode cX5_restore 176 = .ok (.iadd, 1) := by decide +kernel
theorem dX5_restore_177 : decode cX5_restore 177 = .ok (.iaload, 1) := by decide +kernel
theorem dX5_restore_178 : decode cX5_restore 178 = .ok (.putfield 31, 3) := by decide +kernel
theorem dX5_restore_181 : decode cX5_restore 181 = .ok (.aload_n 0, 1) := by decide +kernel
theorem dX5_restore_182 : decode cX5_restore 182 = .ok (.aload_n 0, 1) := by decide +kernel
theorem dX5_restore_183 : decode cX5_restore 183 = .ok (.getfield 62, 3) := by decide +kernel
theorem dX5_restore_186 : decode cX5_restore 186 = .ok (.iload_n 2, 1) := by decide +kernel
theorem dX5_restore_187 : decode cX5_restore 187 = .ok (.bipush 81, 2) := by decide +kernel
theorem dX5_restore_189 : decode cX5_restore 189 = .ok (.iadd, 1) := by decide +kernel
theorem dX5_restore_190 : decode cX5_restore 190 = .ok (.iaload, 1) := by decide +kernel
theorem dX5_restore_191 : decode cX5_restore 191 = .ok (.putfield 35, 3) := by decide +kernel
theorem dX5_restore_194 : decode cX5_restore 194 = .ok (.iconst 1, 1) := by decide +kernel
theorem dX5_restore_195 : decode cX5_restore 195 = .ok (.ireturn, 1) := by decide +kernel
theorem dX5_told_0 : decode cX5_told 0 = .ok (.iload_n 1, 1) := by decide +kernel
theorem dX5_told_1 : decode cX5_told 1 = .ok (.bipush 10, 2) := by decide +kernel
theorem dX5_told_3 : decode cX5_told 3 = .ok (.irem, 1) := by decide +kernel
theorem dX5_told_4 : decode cX5_told 4 = .ok (.istore_n 2, 1) := by decide +kernel
theorem dX5_told_5 : decode cX5_told 5 = .ok (.iload_n 1, 1) := by decide +kernel
theorem dX5_told_6 : decode cX5_told 6 = .ok (.bipush 10, 2) := by decide +kernel
theorem dX5_told_8 : decode cX5_told 8 = .ok (.bipush 15, 2) := by decide +kernel
theorem dX5_told_10 : decode cX5_told 10 = .ok (.invokestatic 69, 3) := by decide +kernel
theorem dX5_told_13 : decode cX5_told 13 = .ok (.ifCond .eq 12, 3) := by decide +kernel
theorem dX5_told_16 : decode cX5_told 16 = .ok (.aload_n 0, 1) := by decide +kernel
theorem dX5_told_17 : decode cX5_told 17 = .ok (.getfield 25, 3) := by decide +kernel
theorem dX5_told_20 : decode cX5_told 20 = .ok (.iconst 4, 1) := by decide +kernel
theorem dX5_told_21 : decode cX5_told 21 = .ok (.iload_n 2, 1) := by decide +kernel
theorem dX5_told_22 : decode cX5_told 22 = .ok (.imul, 1) := by decide +kernel
theorem dX5_told_23 : decode cX5_told 23 = .ok (.iaload, 1) := by decide +kernel
theorem dX5_told_24 : decode cX5_told 24 = .ok (.ireturn, 1) := by decide +kernel
theorem dX5_told_25 : decode cX5_told 25 = .ok (.iload_n 1, 1) := by decide +kernel
theorem dX5_told_26 : decode cX5_told 26 = .ok (.bipush 20, 2) := by decide +kernel
theorem dX5_told_28 : decode cX5_told 28 = .ok (.bipush 25, 2) := by decide +kernel
theorem dX5_told_30 : decode cX5_told 30 = .ok (.invokestatic 69, 3) := by decide +kernel
theorem dX5_told_33 : decode cX5_told 33 = .ok (.ifCond .eq 14, 3) := by decide +kernel
theorem dX5_told_36 : decode cX5_told 36 = .ok (.aload_n 0, 1) := by decide +kernel
theorem dX5_told_37 : decode cX5_told 37 = .ok (.getfield 25, 3) := by decide +kernel
theorem dX5_told_40 : decode cX5_told 40 = .ok (.iconst 4, 1) := by decide +kernel
theorem dX5_told_41 : decode cX5_told 41 = .ok (.iload_n 2, 1) := by decide +kernel
theorem dX5_told_42 : decode cX5_told 42 = .ok (.imul, 1) := by decide +kernel
theorem dX5_told_43 : decode cX5_told 43 = .ok (.iconst 2, 1) := by decide +kernel
theorem dX5_told_44 : decode cX5_told 44 = .ok (.iadd, 1) := by decide +kernel
theorem dX5_told_45 : decode cX5_told 45 = .ok (.iaload, 1) := by decide +kernel
theorem dX5_told_46 : decode cX5_told 46 = .ok (.ireturn, 1) := by decide +kernel
theorem dX5_told_47 : decode cX5_told 47 = .ok (.iload_n 1, 1) := by decide +kernel
theorem dX5_told_48 : decode cX5_told 48 = .ok (.bipush 30, 2) := by decide +kernel
theorem dX5_told_50 : decode cX5_told 50 = .ok (.bipush 35, 2) := by decide +kernel
theorem dX5_told_52 : decode cX5_told 52 = .ok (.invokestatic 69, 3) := by decide +kernel
theorem dX5_told_55 : decode cX5_told 55 = .ok (.ifCond .eq 14, 3) := by decide +kernel
theorem dX5_told_58 : decode cX5_told 58 = .ok (.aload_n 0, 1) := by decide +kernel
theorem dX5_told_59 : decode cX5_told 59 = .ok (.getfield 25, 3) := by decide +kernel
theorem dX5_told_62 : decode cX5_told 62 = .ok (.iconst 4, 1) := by decide +kernel
theorem dX5_told_63 : decode cX5_told 63 = .ok (.iload_n 2, 1) := by decide +kernel
theorem dX5_told_64 : decode cX5_told 64 = .ok (.imul, 1) := by decide +kernel
theorem dX5_told_65 : decode cX5_told 65 = .ok (.iconst 3, 1) := by decide +kernel
theorem dX5_told_66 : decode cX5_told 66 = .ok (.iadd, 1) := by decide +kernel
theorem dX5_told_67 : decode cX5_told 67 = .ok (.iaload, 1) := by decide +kernel
theorem dX5_told_68 : decode cX5_told 68 = .ok (.ireturn, 1) := by decide +kernel
theorem dX5_told_69 : decode cX5_told 69 = .ok (.iload_n 1, 1) := by decide +kernel
theorem dX5_told_70 : decode cX5_told 70 = .ok (.bipush 40, 2) := by decide +kernel
theorem dX5_told_72 : decode cX5_told 72 = .ok (.bipush 45, 2) := by decide +kernel
theorem dX5_told_74 : decode cX5_told 74 = .ok (.invokestatic 69, 3) := by decide +kernel
theorem dX5_told_77 : decode cX5_told 77 = .ok (.ifCond .eq 14, 3) := by decide +kernel
theorem dX5_told_80 : decode cX5_told 80 = .ok (.aload_n 0, 1) := by decide +kernel
theorem dX5_told_81 : decode cX5_told 81 = .ok (.getfield 25, 3) := by decide +kernel
theorem dX5_told_84 : decode cX5_told 84 = .ok (.iconst 4, 1) := by decide +kernel
theorem dX5_told_85 : decode cX5_told 85 = .ok (.iload_n 2, 1) := by decide +kernel
theorem dX5_told_86 : decode cX5_told 86 = .ok (.imul, 1) := by decide +kernel
theorem dX5_told_87 : decode cX5_told 87 = .ok (.iconst 1, 1) := by decide +kernel
theorem dX5_told_88 : decode cX5_told 88 = .ok (.iadd, 1) := by decide +kernel
theorem dX5_told_89 : decode cX5_told 89 = .ok (.iaload, 1) := by decide +kernel
theorem dX5_told_90 : decode cX5_told 90 = .ok (.ireturn, 1) := by decide +kernel
theorem dX5_told_91 : decode cX5_told 91 = .ok (.iload_n 1, 1) := by decide +kernel
theorem dX5_told_92 : decode cX5_told 92 = .ok (.bipush 100, 2) := by decide +kernel
theorem dX5_told_94 : decode cX5_told 94 = .ok (.sipush 145, 3) := by decide +kernel
theorem dX5_told_97 : decode cX5_told 97 = .ok (.invokestatic 69, 3) := by decide +kernel
theorem dX5_told_100 : decode cX5_told 100 = .ok (.ifCond .eq 39, 3) := by decide +kernel
theorem dX5_told_103 : decode cX5_told 103 = .ok (.iload_n 1, 1) := by decide +kernel
theorem dX5_told_104 : decode cX5_told 104 = .ok (.bipush 100, 2) := by decide +kernel
theorem dX5_told_106 : decode cX5_told 106 = .ok (.isub, 1) := by decide +kernel
theorem dX5_told_107 : decode cX5_told 107 = .ok (.bipush 8, 2) := by decide +kernel
theorem dX5_told_109 : decode cX5_told 109 = .ok (.irem, 1) := by decide +kernel
theorem dX5_told_110 : decode cX5_told 110 = .ok (.bipush 6, 2) := by decide +kernel
theorem dX5_told_112 : decode cX5_told 112 = .ok (.if_icmp .ge 27, 3) := by decide +kernel
theorem dX5_told_115 : decode cX5_told 115 = .ok (.aload_n 0, 1) := by decide +kernel
theorem dX5_told_116 : decode cX5_told 116 = .ok (.getfield 28, 3) := by decide +kernel
theorem dX5_told_119 : decode cX5_told 119 = .ok (.bipush 6, 2) := by decide +kernel
theorem dX5_told_121 : decode cX5_told 121 = .ok (.iload_n 1, 1) := by decide +kernel
theorem dX5_told_122 : decode cX5_told 122 = .ok (.bipush 100, 2) := by decide +kernel
theorem dX5_told_124 : decode cX5_told 124 = .ok (.isub, 1) := by decide +kernel
theorem dX5_told_125 : decode cX5_told 125 = .ok (.bipush 8, 2) := by decide +kernel
theorem dX5_told_127 : decode cX5_told 127 = .ok (.idiv, 1) := by decide +kernel
theorem dX5_told_128 : decode cX5_told 128 = .ok (.imul, 1) := by decide +kernel
theorem dX5_told_129 : decode cX5_told 129 = .ok (.iload_n 1, 1) := by decide +kernel
theorem dX5_told_130 : decode cX5_told 130 = .ok (.bipush 100, 2) := by decide +kernel
theorem dX5_told_132 : decode cX5_told 132 = .ok (.isub, 1) := by decide +kernel
theorem dX5_told_133 : decode cX5_told 133 = .ok (.bipush 8, 2) := by decide +kernel
theorem dX5_told_135 : decode cX5_told 135 = .ok (.irem, 1) := by decide +kernel
theorem dX5_told_136 : decode cX5_told 136 = .ok (.iadd, 1) := by decide +kernel
theorem dX5_told_137 : decode cX5_told 137 = .ok (.iaload, 1) := by decide +kernel
theorem dX5_told_138 : decode cX5_told 138 = .ok (.ireturn, 1) := by decide +kernel
theorem dX5_told_139 : decode cX5_told 139 = .ok (.iload_n 1, 1) := by decide +kernel
theorem dX5_told_140 : decode cX5_told 140 = .ok (.ifCond .ne 10, 3) := by decide +kernel
theorem dX5_told_143 : decode cX5_told 143 = .ok (.aload_n 0, 1) := by decide +kernel
theorem dX5_told_144 : decode cX5_told 144 = .ok (.getfield 73, 3) := by decide +kernel
theorem dX5_told_147 : decode cX5_told 147 = .ok (.goto 29, 3) := by decide +kernel
theorem dX5_told_150 : decode cX5_told 150 = .ok (.iload_n 1, 1) := by decide +kernel
theorem dX5_told_151 : decode cX5_told 151 = .ok (.iconst 1, 1) := by decide +kernel
theorem dX5_told_152 : decode cX5_told 152 = .ok (.if_icmp .ne 10, 3) := by decide +kernel
theorem dX5_told_155 : decode cX5_told 155 = .ok (.aload_n 0, 1) := by decide +kernel
theorem dX5_told_156 : decode cX5_told 156 = .ok (.getfield 31, 3) := by decide +kernel
theorem dX5_told_159 : decode cX5_told 159 = .ok (.goto 17, 3) := by decide +kernel
theorem dX5_told_162 : decode cX5_told 162 = .ok (.iload_n 1, 1) := by decide +kernel
theorem dX5_told_163 : decode cX5_told 163 = .ok (.iconst 2, 1) := by decide +kernel
theorem dX5_told_164 : decode cX5_told 164 = .ok (.if_icmp .ne 10, 3) := by decide +kernel
theorem dX5_told_167 : decode cX5_told 167 = .ok (.aload_n 0, 1) := by decide +kernel
theorem dX5_told_168 : decode cX5_told 168 = .ok (.getfield 35, 3) := by decide +kernel
theorem dX5_told_171 : decode cX5_told 171 = .ok (.goto 5, 3) := by decide +kernel
theorem dX5_told_174 : decode cX5_told 174 = .ok (.bipush (-2), 2) := by decide +kernel
theorem dX5_told_176 : decode cX5_told 176 = .ok (.ireturn, 1) := by decide +kernel
theorem dJ6_bitCount_0f7a4_0 : decode cJ6_bitCount_0f7a4 0 = .ok (.iload_n 0, 1) := by decide +kernel
theorem dJ6_bitCount_0f7a4_1 : decode cJ6_bitCount_0f7a4 1 = .ok (.iload_n 0, 1) := by decide +kernel
theorem dJ6_bitCount_0f7a4_2 : decode cJ6_bitCount_0f7a4 2 = .ok (.iconst 1, 1) := by decide +kernel
theorem dJ6_bitCount_0f7a4_3 : decode cJ6_bitCount_0f7a4 3 = .ok (.iushr, 1) := by decide +kernel
theorem dJ6_bitCount_0f7a4_4 : decode cJ6_bitCount_0f7a4 4 = .ok (.ldc_w 265, 3) := by decide +kernel
theorem dJ6_bitCount_0f7a4_7 : decode cJ6_bitCount_0f7a4 7 = .ok (.iand, 1) := by decide +kernel
theorem dJ6_bitCount_0f7a4_8 : decode cJ6_bitCount_0f7a4 8 = .ok (.isub, 1) := by decide +kernel
theorem dJ6_bitCount_0f7a4_9 : decode cJ6_bitCount_0f7a4 9 = .ok (.istore_n 0, 1) := by decide +kernel
theorem dJ6_bitCount_0f7a4_10 : decode cJ6_bitCount_0f7a4 10 = .ok (.iload_n 0, 1) := by decide +kernel
theorem dJ6_bitCount_0f7a4_11 : decode cJ6_bitCount_0f7a4 11 = .ok (.ldc_w 266, 3) := by decide +kernel
theorem dJ6_bitCount_0f7a4_14 : decode cJ6_bitCount_0f7a4 14 = .ok (.iand, 1) := by decide +kernel
theorem dJ6_bitCount_0f7a4_15 : decode cJ6_bitCount_0f7a4 15 = .ok (.iload_n 0, 1) := by decide +kernel
theorem dJ6_bitCount_0f7a4_16 : decode cJ6_bitCount_0f7a4 16 = .ok (.iconst 2, 1) := by decide +kernel
theorem dJ6_bitCount_0f7a4_17 : decode cJ6_bitCount_0f7a4 17 = .ok (.iushr, 1) := by decide +kernel
theorem dJ6_bitCount_0f7a4_18 : decode cJ6_bitCount_0f7a4 18 = .ok (.ldc_w 266, 3) := by decide +kernel
theorem dJ6_bitCount_0f7a4_21 : decode cJ6_bitCount_0f7a4 21 = .ok (.iand, 1) := by decide +kernel
theorem dJ6_bitCount_0f7a4_22 : decode cJ6_bitCount_0f7a4 22 = .ok (.iadd, 1) := by decide +kernel
theorem dJ6_bitCount_0f7a4_23 : decode cJ6_bitCount_0f7a4 23 = .ok (.istore_n 0, 1) := by decide +kernel
theorem dJ6_bitCount_0f7a4_24 : decode cJ6_bitCount_0f7a4 24 = .ok (.iload_n 0, 1) := by decide +kernel
theorem dJ6_bitCount_0f7a4_25 : decode cJ6_bitCount_0f7a4 25 = .ok (.iload_n 0, 1) := by decide +kernel
theorem dJ6_bitCount_0f7a4_26 : decode cJ6_bitCount_0f7a4 26 = .ok (.iconst 4, 1) := by decide +kernel
theorem dJ6_bitCount_0f7a4_27 : decode cJ6_bitCount_0f7a4 27 = .ok (.iushr, 1) := by decide +kernel
theorem dJ6_bitCount_0f7a4_28 : decode cJ6_bitCount_0f7a4 28 = .ok (.iadd, 1) := by decide +kernel
theorem dJ6_bitCount_0f7a4_29 : decode cJ6_bitCount_0f7a4 29 = .ok (.ldc_w 267, 3) := by decide +kernel
theorem dJ6_bitCount_0f7a4_32 : decode cJ6_bitCount_0f7a4 32 = .ok (.iand, 1) := by decide +kernel
theorem dJ6_bitCount_0f7a4_33 : decode cJ6_bitCount_0f7a4 33 = .ok (.istore_n 0, 1) := by decide +kernel
theorem dJ6_bitCount_0f7a4_34 : decode cJ6_bitCount_0f7a4 34 = .ok (.iload_n 0, 1) := by decide +kernel
theorem dJ6_bitCount_0f7a4_35 : decode cJ6_bitCount_0f7a4 35 = .ok (.iload_n 0, 1) := by decide +kernel
theorem dJ6_bitCount_0f7a4_36 : decode cJ6_bitCount_0f7a4 36 = .ok (.bipush 8, 2) := by decide +kernel
theorem dJ6_bitCount_0f7a4_38 : decode cJ6_bitCount_0f7a4 38 = .ok (.iushr, 1) := by decide +kernel
theorem dJ6_bitCount_0f7a4_39 : decode cJ6_bitCount_0f7a4 39 = .ok (.iadd, 1) := by decide +kernel
theorem dJ6_bitCount_0f7a4_40 : decode cJ6_bitCount_0f7a4 40 = .ok (.istore_n 0, 1) := by decide +kernel
theorem dJ6_bitCount_0f7a4_41 : decode cJ6_bitCount_0f7a4 41 = .ok (.iload_n 0, 1) := by decide +kernel
theorem dJ6_bitCount_0f7a4_42 : decode cJ6_bitCount_0f7a4 42 = .ok (.iload_n 0, 1) := by decide +kernel
theorem dJ6_bitCount_0f7a4_43 : decode cJ6_bitCount_0f7a4 43 = .ok (.bipush 16, 2) := by decide +kernel
theorem dJ6_bitCount_0f7a4_45 : decode cJ6_bitCount_0f7a4 45 = .ok (.iushr, 1) := by decide +kernel
theorem dJ6_bitCount_0f7a4_46 : decode cJ6_bitCount_0f7a4 46 = .ok (.iadd, 1) := by decide +kernel
theorem dJ6_bitCount_0f7a4_47 : decode cJ6_bitCount_0f7a4 47 = .ok (.istore_n 0, 1) := by decide +kernel
theorem dJ6_bitCount_0f7a4_48 : decode cJ6_bitCount_0f7a4 48 = .ok (.iload_n 0, 1) := by decide +kernel
theorem dJ6_bitCount_0f7a4_49 : decode cJ6_bitCount_0f7a4 49 = .ok (.bipush 63, 2) := by decide +kernel
theorem dJ6_bitCount_0f7a4_51 : decode cJ6_bitCount_0f7a4 51 = .ok (.iand, 1) := by decide +kernel
theorem dJ6_bitCount_0f7a4_52 : decode cJ6_bitCount_0f7a4 52 = .ok (.ireturn, 1) := by decide +kernel
theorem dJ9_max_7cf53_0 : decode cJ9_max_7cf53 0 = .ok (.iload_n 0, 1) := by decide +kernel
theorem dJ9_max_7cf53_1 : decode cJ9_max_7cf53 1 = .ok (.iload_n 1, 1) := by decide +kernel
theorem dJ9_max_7cf53_2 : decode cJ9_max_7cf53 2 = .ok (.if_icmp .lt 7, 3) := by decide +kernel
theorem dJ9_max_7cf53_5 : decode cJ9_max_7cf53 5 = .ok (.iload_n 0, 1) := by decide +kernel
theorem dJ9_max_7cf53_6 : decode cJ9_max_7cf53 6 = .ok (.goto 4, 3) := by decide +kernel
theorem dJ9_max_7cf53_9 : decode cJ9_max_7cf53 9 = .ok (.iload_n 1, 1) := by decide +kernel
theorem dJ9_max_7cf53_10 : decode cJ9_max_7cf53 10 = .ok (.ireturn, 1) := by decide +kernel
theorem dL_law_0 : decode cL_law 0 = .ok (.new 7, 3) := by decide +kernel
theorem dL_law_3 : decode cL_law 3 = .ok (.dup, 1) := by decide +kernel
theorem dL_law_4 : decode cL_law 4 = .ok (.invokespecial 9, 3) := by decide +kernel
theorem dL_law_7 : decode cL_law 7 = .ok (.astore_n 1, 1) := by decide +kernel
theorem dL_law_8 : decode cL_law 8 = .ok (.new 10, 3) := by decide +kernel
theorem dL_law_11 : decode cL_law 11 = .ok (.dup, 1) := by decide +kernel
theorem dL_law_12 : decode cL_law 12 = .ok (.invokespecial 12, 3) := by decide +kernel
theorem dL_law_15 : decode cL_law 15 = .ok (.astore_n 2, 1) := by decide +kernel
theorem dL_law_16 : decode cL_law 16 = .ok (.iconst 0, 1) := by decide +kernel
theorem dL_law_17 : decode cL_law 17 = .ok (.istore_n 3, 1) := by decide +kernel
theorem dL_law_18 : decode cL_law 18 = .ok (.iload_n 3, 1) := by decide +kernel
theorem dL_law_19 : decode cL_law 19 = .ok (.aload_n 0, 1) := by decide +kernel
theorem dL_law_20 : decode cL_law 20 = .ok (.arraylength, 1) := by decide +kernel
theorem dL_law_21 : decode cL_law 21 = .ok (.iconst 4, 1) := by decide +kernel
theorem dL_law_22 : decode cL_law 22 = .ok (.isub, 1) := by decide +kernel
theorem dL_law_23 : decode cL_law 23 = .ok (.if_icmp .gt 776, 3) := by decide +kernel
theorem dL_law_26 : decode cL_law 26 = .ok (.aload_n 0, 1) := by decide +kernel
theorem dL_law_27 : decode cL_law 27 = .ok (.iload_n 3, 1) := by decide +kernel
theorem dL_law_28 : decode cL_law 28 = .ok (.iaload, 1) := by decide +kernel
theorem dL_law_29 : decode cL_law 29 = .ok (.bipush 31, 2) := by decide +kernel
theorem dL_law_31 : decode cL_law 31 = .ok (.iand, 1) := by decide +kernel
theorem dL_law_32 : decode cL_law 32 = .ok (.tableswitch 761 0 24 #[116, 139, 152, 165, 188, 221, 254, 297, 340, 363, 386, 409, 422, 455, 488, 501, 514, 537, 560, 593, 636, 659, 692, 715, 738], 116) := by decide +kernel
theorem dL_law_148 : decode cL_law 148 = .ok (.aload_n 1, 1) := by decide +kernel
theorem dL_law_149 : decode cL_law 149 = .ok (.aload_n 0, 1) := by decide +kernel
theorem dL_law_150 : decode cL_law 150 = .ok (.iload_n 3, 1) := by decide +kernel
theorem dL_law_151 : decode cL_law 151 = .ok (.iconst 1, 1) := by decide +kernel
theorem dL_law_152 : decode cL_law 152 = .ok (.iadd, 1) := by decide +kernel
theorem dL_law_153 : decode cL_law 153 = .ok (.iaload, 1) := by decide +kernel
theorem dL_law_154 : decode cL_law 154 = .ok (.invokevirtual 13, 3) := by decide +kernel
theorem dL_law_157 : decode cL_law 157 = .ok (.aload_n 2, 1) := by decide +kernel
theorem dL_law_158 : decode cL_law 158 = .ok (.aload_n 0, 1) := by decide +kernel
theorem dL_law_159 : decode cL_law 159 = .ok (.iload_n 3, 1) := by decide +kernel
theorem dL_law_160 : decode cL_law 160 = .ok (.iconst 1, 1) := by decide +kernel
theorem dL_law_161 : decode cL_law 161 = .ok (.iadd, 1) := by decide +kernel
theorem dL_law_162 : decode cL_law 162 = .ok (.iaload, 1) := by decide +kernel
theorem dL_law_163 : decode cL_law 163 = .ok (.invokevirtual 17, 3) := by decide +kernel
theorem dL_law_166 : decode cL_law 166 = .ok (.if_icmp .eq 627, 3) := by decide +kernel
theorem dL_law_169 : decode cL_law 169 = .ok (.iconst 0, 1) := by decide +kernel
theorem dL_law_170 : decode cL_law 170 = .ok (.ireturn, 1) := by decide +kernel
theorem dL_law_171 : decode cL_law 171 = .ok (.aload_n 1, 1) := by decide +kernel
theorem dL_law_172 : decode cL_law 172 = .ok (.invokevirtual 18, 3) := by decide +kernel
theorem dL_law_175 : decode cL_law 175 = .ok (.aload_n 2, 1) := by decide +kernel
theorem dL_law_176 : decode cL_law 176 = .ok (.invokevirtual 22, 3) := by decide +kernel
theorem dL_law_179 : decode cL_law 179 = .ok (.if_icmp .eq 614, 3) := by decide +kernel
theorem dL_law_182 : decode cL_law 182 = .ok (.iconst 0, 1) := by decide +kernel
theorem dL_law_183 : decode cL_law 183 = .ok (.ireturn, 1) := by decide +kernel
theorem dL_law_184 : decode cL_law 184 = .ok (.aload_n 1, 1) := by decide +kernel
theorem dL_law_185 : decode cL_law 185 = .ok (.invokevirtual 23, 3) := by decide +kernel
theorem dL_law_188 : decode cL_law 188 = .ok (.aload_n 2, 1) := by decide +kernel
theorem dL_law_189 : decode cL_law 189 = .ok (.invokevirtual 26, 3) := by decide +kernel
theorem dL_law_192 : decode cL_law 192 = .ok (.if_icmp .eq 601, 3) := by decide +kernel
theorem dL_law_195 : decode cL_law 195 = .ok (.iconst 0, 1) := by decide +kernel
theorem dL_law_196 : decode cL_law 196 = .ok (.ireturn, 1) := by decide +kernel
theorem dL_law_197 : decode cL_law 197 = .ok (.aload_n 1, 1) := by decide +kernel
theorem dL_law_198 : decode cL_law 198 = .ok (.aload_n 0, 1) := by decide +kernel
theorem dL_law_199 : decode cL_law 199 = .ok (.iload_n 3, 1) := by decide +kernel
theorem dL_law_200 : decode cL_law 200 = .ok (.iconst 1, 1) := by decide +kernel
theorem dL_law_201 : decode cL_law 201 = .ok (.iadd, 1) := by decide +kernel
theorem dL_law_202 : decode cL_law 202 = .ok (.iaload, 1) := by decide +kernel
theorem dL_law_203 : decode cL_law 203 = .ok (.invokevirtual 27, 3) := by decide +kernel
theorem dL_law_206 : decode cL_law 206 = .ok (.aload_n 2, 1) := by decide +kernel
theorem dL_law_207 : decode cL_law 207 = .ok (.aload_n 0, 1) := by decide +kernel
theorem dL_law_208 : decode cL_law 208 = .ok (.iload_n 3, 1) := by decide +kernel
theorem dL_law_209 : decode cL_law 209 = .ok (.iconst 1, 1) := by decide +kernel
theorem dL_law_210 : decode cL_law 210 = .ok (.iadd, 1) := by decide +kernel
theorem dL_law_211 : decode cL_law 211 = .ok (.iaload, 1) := by decide +kernel
theorem dL_law_212 : decode cL_law 212 = .ok (.invokevirtual 30, 3) := by decide +kernel
theorem dL_law_215 : decode cL_law 215 = .ok (.if_icmp .eq 578, 3) := by decide +kernel
theorem dL_law_218 : decode cL_law 218 = .ok (.iconst 0, 1) := by decide +kernel
theorem dL_law_219 : decode cL_law 219 = .ok (.ireturn, 1) := by decide +kernel
theorem dL_law_220 : decode cL_law 220 = .ok (.aload_n 1, 1) := by decide +kernel
theorem dL_law_221 : decode cL_law 221 = .ok (.aload_n 0, 1) := by decide +kernel
theorem dL_law_222 : decode cL_law 222 = .ok (.iload_n 3, 1) := by decide +kernel
theorem dL_law_223 : decode cL_law 223 = .ok (.iconst 1, 1) := by decide +kernel
theorem dL_law_224 : decode cL_law 224 = .ok (.iadd, 1) := by decide +kernel
theorem dL_law_225 : decode cL_law 225 = .ok (.iaload, 1) := by decide +kernel
theorem dL_law_226 : decode cL_law 226 = .ok (.aload_n 0, 1) := by decide +kernel
theorem dL_law_227 : decode cL_law 227 = .ok (.iload_n 3, 1) := by decide +kernel
theorem dL_law_228 : decode cL_law 228 = .ok (.iconst 2, 1) := by decide +kernel
theorem dL_law_229 : decode cL_law 229 = .ok (.iadd, 1) := by decide +kernel
end
section
theorem dL_law_230 : decode cL_law 230 = .ok (.iaload, 1) := by decide +kernel
theorem dL_law_231 : decode cL_law 231 = .ok (.invokevirtual 31, 3) := by decide +kernel
theorem dL_law_234 : decode cL_law 234 = .ok (.aload_n 2, 1) := by decide +kernel
theorem dL_law_235 : decode cL_law 235 = .ok (.aload_n 0, 1) := by decide +kernel
theorem dL_law_236 : decode cL_law 236 = .ok (.iload_n 3, 1) := by decide +kernel
theorem dL_law_237 : decode cL_law 237 = .ok (.iconst 1, 1) := by decide +kernel
theorem dL_law_238 : decode cL_law 238 = .ok (.iadd, 1) := by decide +kernel
theorem dL_law_239 : decode cL_law 239 = .ok (.iaload, 1) := by decide +kernel
theorem dL_law_240 : decode cL_law 240 = .ok (.aload_n 0, 1) := by decide +kernel
theorem dL_law_241 : decode cL_law 241 = .ok (.iload_n 3, 1) := by decide +kernel
theorem dL_law_242 : decode cL_law 242 = .ok (.iconst 2, 1) := by decide +kernel
theorem dL_law_243 : decode cL_law 243 = .ok (.iadd, 1) := by decide +kernel
theorem dL_law_244 : decode cL_law 244 = .ok (.iaload, 1) := by decide +kernel
theorem dL_law_245 : decode cL_law 245 = .ok (.invokevirtual 35, 3) := by decide +kernel
theorem dL_law_248 : decode cL_law 248 = .ok (.if_icmp .eq 545, 3) := by decide +kernel
theorem dL_law_251 : decode cL_law 251 = .ok (.iconst 0, 1) := by decide +kernel
theorem dL_law_252 : decode cL_law 252 = .ok (.ireturn, 1) := by decide +kernel
theorem dL_law_253 : decode cL_law 253 = .ok (.aload_n 1, 1) := by decide +kernel
theorem dL_law_254 : decode cL_law 254 = .ok (.aload_n 0, 1) := by decide +kernel
theorem dL_law_255 : decode cL_law 255 = .ok (.iload_n 3, 1) := by decide +kernel
theorem dL_law_256 : decode cL_law 256 = .ok (.iconst 1, 1) := by decide +kernel
theorem dL_law_257 : decode cL_law 257 = .ok (.iadd, 1) := by decide +kernel
theorem dL_law_258 : decode cL_law 258 = .ok (.iaload, 1) := by decide +kernel
theorem dL_law_259 : decode cL_law 259 = .ok (.aload_n 0, 1) := by decide +kernel
theorem dL_law_260 : decode cL_law 260 = .ok (.iload_n 3, 1) := by decide +kernel
theorem dL_law_261 : decode cL_law 261 = .ok (.iconst 2, 1) := by decide +kernel
theorem dL_law_262 : decode cL_law 262 = .ok (.iadd, 1) := by decide +kernel
theorem dL_law_263 : decode cL_law 263 = .ok (.iaload, 1) := by decide +kernel
theorem dL_law_264 : decode cL_law 264 = .ok (.invokevirtual 36, 3) := by decide +kernel
theorem dL_law_267 : decode cL_law 267 = .ok (.aload_n 2, 1) := by decide +kernel
theorem dL_law_268 : decode cL_law 268 = .ok (.aload_n 0, 1) := by decide +kernel
theorem dL_law_269 : decode cL_law 269 = .ok (.iload_n 3, 1) := by decide +kernel
theorem dL_law_270 : decode cL_law 270 = .ok (.iconst 1, 1) := by decide +kernel
theorem dL_law_271 : decode cL_law 271 = .ok (.iadd, 1) := by decide +kernel
theorem dL_law_272 : decode cL_law 272 = .ok (.iaload, 1) := by decide +kernel
theorem dL_law_273 : decode cL_law 273 = .ok (.aload_n 0, 1) := by decide +kernel
theorem dL_law_274 : decode cL_law 274 = .ok (.iload_n 3, 1) := by decide +kernel
theorem dL_law_275 : decode cL_law 275 = .ok (.iconst 2, 1) := by decide +kernel
theorem dL_law_276 : decode cL_law 276 = .ok (.iadd, 1) := by decide +kernel
theorem dL_law_277 : decode cL_law 277 = .ok (.iaload, 1) := by decide +kernel
theorem dL_law_278 : decode cL_law 278 = .ok (.invokevirtual 39, 3) := by decide +kernel
theorem dL_law_281 : decode cL_law 281 = .ok (.if_icmp .eq 512, 3) := by decide +kernel
theorem dL_law_284 : decode cL_law 284 = .ok (.iconst 0, 1) := by decide +kernel
theorem dL_law_285 : decode cL_law 285 = .ok (.ireturn, 1) := by decide +kernel
theorem dL_law_286 : decode cL_law 286 = .ok (.aload_n 1, 1) := by decide +kernel
theorem dL_law_287 : decode cL_law 287 = .ok (.aload_n 0, 1) := by decide +kernel
theorem dL_law_288 : decode cL_law 288 = .ok (.iload_n 3, 1) := by decide +kernel
theorem dL_law_289 : decode cL_law 289 = .ok (.iconst 1, 1) := by decide +kernel
theorem dL_law_290 : decode cL_law 290 = .ok (.iadd, 1) := by decide +kernel
theorem dL_law_291 : decode cL_law 291 = .ok (.iaload, 1) := by decide +kernel
theorem dL_law_292 : decode cL_law 292 = .ok (.aload_n 0, 1) := by decide +kernel
theorem dL_law_293 : decode cL_law 293 = .ok (.iload_n 3, 1) := by decide +kernel
theorem dL_law_294 : decode cL_law 294 = .ok (.iconst 2, 1) := by decide +kernel
theorem dL_law_295 : decode cL_law 295 = .ok (.iadd, 1) := by decide +kernel
theorem dL_law_296 : decode cL_law 296 = .ok (.iaload, 1) := by decide +kernel
theorem dL_law_297 : decode cL_law 297 = .ok (.aload_n 0, 1) := by decide +kernel
theorem dL_law_298 : decode cL_law 298 = .ok (.iload_n 3, 1) := by decide +kernel
theorem dL_law_299 : decode cL_law 299 = .ok (.iconst 3, 1) := by decide +kernel
theorem dL_law_300 : decode cL_law 300 = .ok (.iadd, 1) := by decide +kernel
theorem dL_law_301 : decode cL_law 301 = .ok (.iaload, 1) := by decide +kernel
theorem dL_law_302 : decode cL_law 302 = .ok (.invokevirtual 40, 3) := by decide +kernel
theorem dL_law_305 : decode cL_law 305 = .ok (.aload_n 2, 1) := by decide +kernel
theorem dL_law_306 : decode cL_law 306 = .ok (.aload_n 0, 1) := by decide +kernel
theorem dL_law_307 : decode cL_law 307 = .ok (.iload_n 3, 1) := by decide +kernel
theorem dL_law_308 : decode cL_law 308 = .ok (.iconst 1, 1) := by decide +kernel
theorem dL_law_309 : decode cL_law 309 = .ok (.iadd, 1) := by decide +kernel
theorem dL_law_310 : decode cL_law 310 = .ok (.iaload, 1) := by decide +kernel
theorem dL_law_311 : decode cL_law 311 = .ok (.aload_n 0, 1) := by decide +kernel
theorem dL_law_312 : decode cL_law 312 = .ok (.iload_n 3, 1) := by decide +kernel
theorem dL_law_313 : decode cL_law 313 = .ok (.iconst 2, 1) := by decide +kernel
theorem dL_law_314 : decode cL_law 314 = .ok (.iadd, 1) := by decide +kernel
theorem dL_law_315 : decode cL_law 315 = .ok (.iaload, 1) := by decide +kernel
theorem dL_law_316 : decode cL_law 316 = .ok (.aload_n 0, 1) := by decide +kernel
theorem dL_law_317 : decode cL_law 317 = .ok (.iload_n 3, 1) := by decide +kernel
theorem dL_law_318 : decode cL_law 318 = .ok (.iconst 3, 1) := by decide +kernel
theorem dL_law_319 : decode cL_law 319 = .ok (.iadd, 1) := by decide +kernel
theorem dL_law_320 : decode cL_law 320 = .ok (.iaload, 1) := by decide +kernel
theorem dL_law_321 : decode cL_law 321 = .ok (.invokevirtual 44, 3) := by decide +kernel
theorem dL_law_324 : decode cL_law 324 = .ok (.if_icmp .eq 469, 3) := by decide +kernel
theorem dL_law_327 : decode cL_law 327 = .ok (.iconst 0, 1) := by decide +kernel
theorem dL_law_328 : decode cL_law 328 = .ok (.ireturn, 1) := by decide +kernel
theorem dL_law_329 : decode cL_law 329 = .ok (.aload_n 1, 1) := by decide +kernel
theorem dL_law_330 : decode cL_law 330 = .ok (.aload_n 0, 1) := by decide +kernel
theorem dL_law_331 : decode cL_law 331 = .ok (.iload_n 3, 1) := by decide +kernel
theorem dL_law_332 : decode cL_law 332 = .ok (.iconst 1, 1) := by decide +kernel
theorem dL_law_333 : decode cL_law 333 = .ok (.iadd, 1) := by decide +kernel
theorem dL_law_334 : decode cL_law 334 = .ok (.iaload, 1) := by decide +kernel
theorem dL_law_335 : decode cL_law 335 = .ok (.aload_n 0, 1) := by decide +kernel
theorem dL_law_336 : decode cL_law 336 = .ok (.iload_n 3, 1) := by decide +kernel
theorem dL_law_337 : decode cL_law 337 = .ok (.iconst 2, 1) := by decide +kernel
theorem dL_law_338 : decode cL_law 338 = .ok (.iadd, 1) := by decide +kernel
theorem dL_law_339 : decode cL_law 339 = .ok (.iaload, 1) := by decide +kernel
theorem dL_law_340 : decode cL_law 340 = .ok (.aload_n 0, 1) := by decide +kernel
theorem dL_law_341 : decode cL_law 341 = .ok (.iload_n 3, 1) := by decide +kernel
theorem dL_law_342 : decode cL_law 342 = .ok (.iconst 3, 1) := by decide +kernel
theorem dL_law_343 : decode cL_law 343 = .ok (.iadd, 1) := by decide +kernel
theorem dL_law_344 : decode cL_law 344 = .ok (.iaload, 1) := by decide +kernel
theorem dL_law_345 : decode cL_law 345 = .ok (.invokevirtual 45, 3) := by decide +kernel
theorem dL_law_348 : decode cL_law 348 = .ok (.aload_n 2, 1) := by decide +kernel
theorem dL_law_349 : decode cL_law 349 = .ok (.aload_n 0, 1) := by decide +kernel
theorem dL_law_350 : decode cL_law 350 = .ok (.iload_n 3, 1) := by decide +kernel
theorem dL_law_351 : decode cL_law 351 = .ok (.iconst 1, 1) := by decide +kernel
theorem dL_law_352 : decode cL_law 352 = .ok (.iadd, 1) := by decide +kernel
theorem dL_law_353 : decode cL_law 353 = .ok (.iaload, 1) := by decide +kernel
theorem dL_law_354 : decode cL_law 354 = .ok (.aload_n 0, 1) := by decide +kernel
theorem dL_law_355 : decode cL_law 355 = .ok (.iload_n 3, 1) := by decide +kernel
theorem dL_law_356 : decode cL_law 356 = .ok (.iconst 2, 1) := by decide +kernel
theorem dL_law_357 : decode cL_law 357 = .ok (.iadd, 1) := by decide +kernel
theorem dL_law_358 : decode cL_law 358 = .ok (.iaload, 1) := by decide +kernel
theorem dL_law_359 : decode cL_law 359 = .ok (.aload_n 0, 1) := by decide +kernel
theorem dL_law_360 : decode cL_law 360 = .ok (.iload_n 3, 1) := by decide +kernel
theorem dL_law_361 : decode cL_law 361 = .ok (.iconst 3, 1) := by decide +kernel
theorem dL_law_362 : decode cL_law 362 = .ok (.iadd, 1) := by decide +kernel
theorem dL_law_363 : decode cL_law 363 = .ok (.iaload, 1) := by decide +kernel
theorem dL_law_364 : decode cL_law 364 = .ok (.invokevirtual 48, 3) := by decide +kernel
theorem dL_law_367 : decode cL_law 367 = .ok (.if_icmp .eq 426, 3) := by decide +kernel
theorem dL_law_370 : decode cL_law 370 = .ok (.iconst 0, 1) := by decide +kernel
theorem dL_law_371 : decode cL_law 371 = .ok (.ireturn, 1) := by decide +kernel
theorem dL_law_372 : decode cL_law 372 = .ok (.aload_n 1, 1) := by decide +kernel
theorem dL_law_373 : decode cL_law 373 = .ok (.aload_n 0, 1) := by decide +kernel
theorem dL_law_374 : decode cL_law 374 = .ok (.iload_n 3, 1) := by decide +kernel
theorem dL_law_375 : decode cL_law 375 = .ok (.iconst 1, 1) := by decide +kernel
theorem dL_law_376 : decode cL_law 376 = .ok (.iadd, 1) := by decide +kernel
theorem dL_law_377 : decode cL_law 377 = .ok (.iaload, 1) := by decide +kernel
theorem dL_law_378 : decode cL_law 378 = .ok (.invokevirtual 49, 3) := by decide +kernel
theorem dL_law_381 : decode cL_law 381 = .ok (.aload_n 2, 1) := by decide +kernel
theorem dL_law_382 : decode cL_law 382 = .ok (.aload_n 0, 1) := by decide +kernel
theorem dL_law_383 : decode cL_law 383 = .ok (.iload_n 3, 1) := by decide +kernel
theorem dL_law_384 : decode cL_law 384 = .ok (.iconst 1, 1) := by decide +kernel
theorem dL_law_385 : decode cL_law 385 = .ok (.iadd, 1) := by decide +kernel
theorem dL_law_386 : decode cL_law 386 = .ok (.iaload, 1) := by decide +kernel
theorem dL_law_387 : decode cL_law 387 = .ok (.invokevirtual 52, 3) := by decide +kernel
theorem dL_law_390 : decode cL_law 390 = .ok (.if_icmp .eq 403, 3) := by decide +kernel
theorem dL_law_393 : decode cL_law 393 = .ok (.iconst 0, 1) := by decide +kernel
theorem dL_law_394 : decode cL_law 394 = .ok (.ireturn, 1) := by decide +kernel
theorem dL_law_395 : decode cL_law 395 = .ok (.aload_n 1, 1) := by decide +kernel
theorem dL_law_396 : decode cL_law 396 = .ok (.aload_n 0, 1) := by decide +kernel
theorem dL_law_397 : decode cL_law 397 = .ok (.iload_n 3, 1) := by decide +kernel
theorem dL_law_398 : decode cL_law 398 = .ok (.iconst 1, 1) := by decide +kernel
theorem dL_law_399 : decode cL_law 399 = .ok (.iadd, 1) := by decide +kernel
theorem dL_law_400 : decode cL_law 400 = .ok (.iaload, 1) := by decide +kernel
theorem dL_law_401 : decode cL_law 401 = .ok (.invokevirtual 53, 3) := by decide +kernel
theorem dL_law_404 : decode cL_law 404 = .ok (.aload_n 2, 1) := by decide +kernel
theorem dL_law_405 : decode cL_law 405 = .ok (.aload_n 0, 1) := by decide +kernel
theorem dL_law_406 : decode cL_law 406 = .ok (.iload_n 3, 1) := by decide +kernel
theorem dL_law_407 : decode cL_law 407 = .ok (.iconst 1, 1) := by decide +kernel
theorem dL_law_408 : decode cL_law 408 = .ok (.iadd, 1) := by decide +kernel
theorem dL_law_409 : decode cL_law 409 = .ok (.iaload, 1) := by decide +kernel
theorem dL_law_410 : decode cL_law 410 = .ok (.invokevirtual 56, 3) := by decide +kernel
theorem dL_law_413 : decode cL_law 413 = .ok (.if_icmp .eq 380, 3) := by decide +kernel
theorem dL_law_416 : decode cL_law 416 = .ok (.iconst 0, 1) := by decide +kernel
theorem dL_law_417 : decode cL_law 417 = .ok (.ireturn, 1) := by decide +kernel
theorem dL_law_418 : decode cL_law 418 = .ok (.aload_n 1, 1) := by decide +kernel
theorem dL_law_419 : decode cL_law 419 = .ok (.aload_n 0, 1) := by decide +kernel
theorem dL_law_420 : decode cL_law 420 = .ok (.iload_n 3, 1) := by decide +kernel
theorem dL_law_421 : decode cL_law 421 = .ok (.iconst 1, 1) := by decide +kernel
theorem dL_law_422 : decode cL_law 422 = .ok (.iadd, 1) := by decide +kernel
theorem dL_law_423 : decode cL_law 423 = .ok (.iaload, 1) := by decide +kernel
theorem dL_law_424 : decode cL_law 424 = .ok (.invokevirtual 57, 3) := by decide +kernel
theorem dL_law_427 : decode cL_law 427 = .ok (.aload_n 2, 1) := by decide +kernel
theorem dL_law_428 : decode cL_law 428 = .ok (.aload_n 0, 1) := by decide +kernel
theorem dL_law_429 : decode cL_law 429 = .ok (.iload_n 3, 1) := by decide +kernel
theorem dL_law_430 : decode cL_law 430 = .ok (.iconst 1, 1) := by decide +kernel
theorem dL_law_431 : decode cL_law 431 = .ok (.iadd, 1) := by decide +kernel
theorem dL_law_432 : decode cL_law 432 = .ok (.iaload, 1) := by decide +kernel
theorem dL_law_433 : decode cL_law 433 = .ok (.invokevirtual 60, 3) := by decide +kernel
theorem dL_law_436 : decode cL_law 436 = .ok (.if_icmp .eq 357, 3) := by decide +kernel
theorem dL_law_439 : decode cL_law 439 = .ok (.iconst 0, 1) := by decide +kernel
theorem dL_law_440 : decode cL_law 440 = .ok (.ireturn, 1) := by decide +kernel
theorem dL_law_441 : decode cL_law 441 = .ok (.aload_n 1, 1) := by decide +kernel
theorem dL_law_442 : decode cL_law 442 = .ok (.invokevirtual 61, 3) := by decide +kernel
theorem dL_law_445 : decode cL_law 445 = .ok (.aload_n 2, 1) := by decide +kernel
theorem dL_law_446 : decode cL_law 446 = .ok (.invokevirtual 64, 3) := by decide +kernel
theorem dL_law_449 : decode cL_law 449 = .ok (.if_icmp .eq 344, 3) := by decide +kernel
theorem dL_law_452 : decode cL_law 452 = .ok (.iconst 0, 1) := by decide +kernel
theorem dL_law_453 : decode cL_law 453 = .ok (.ireturn, 1) := by decide +kernel
theorem dL_law_454 : decode cL_law 454 = .ok (.aload_n 1, 1) := by decide +kernel
theorem dL_law_455 : decode cL_law 455 = .ok (.aload_n 0, 1) := by decide +kernel
theorem dL_law_456 : decode cL_law 456 = .ok (.iload_n 3, 1) := by decide +kernel
theorem dL_law_457 : decode cL_law 457 = .ok (.iconst 1, 1) := by decide +kernel
theorem dL_law_458 : decode cL_law 458 = .ok (.iadd, 1) := by decide +kernel
theorem dL_law_459 : decode cL_law 459 = .ok (.iaload, 1) := by decide +kernel
theorem dL_law_460 : decode cL_law 460 = .ok (.aload_n 0, 1) := by decide +kernel
theorem dL_law_461 : decode cL_law 461 = .ok (.iload_n 3, 1) := by decide +kernel
theorem dL_law_462 : decode cL_law 462 = .ok (.iconst 2, 1) := by decide +kernel
theorem dL_law_463 : decode cL_law 463 = .ok (.iadd, 1) := by decide +kernel
theorem dL_law_464 : decode cL_law 464 = .ok (.iaload, 1) := by decide +kernel
theorem dL_law_465 : decode cL_law 465 = .ok (.invokevirtual 65, 3) := by decide +kernel
theorem dL_law_468 : decode cL_law 468 = .ok (.aload_n 2, 1) := by decide +kernel
theorem dL_law_469 : decode cL_law 469 = .ok (.aload_n 0, 1) := by decide +kernel
theorem dL_law_470 : decode cL_law 470 = .ok (.iload_n 3, 1) := by decide +kernel
theorem dL_law_471 : decode cL_law 471 = .ok (.iconst 1, 1) := by decide +kernel
theorem dL_law_472 : decode cL_law 472 = .ok (.iadd, 1) := by decide +kernel
theorem dL_law_473 : decode cL_law 473 = .ok (.iaload, 1) := by decide +kernel
theorem dL_law_474 : decode cL_law 474 = .ok (.aload_n 0, 1) := by decide +kernel
theorem dL_law_475 : decode cL_law 475 = .ok (.iload_n 3, 1) := by decide +kernel
theorem dL_law_476 : decode cL_law 476 = .ok (.iconst 2, 1) := by decide +kernel
theorem dL_law_477 : decode cL_law 477 = .ok (.iadd, 1) := by decide +kernel
theorem dL_law_478 : decode cL_law 478 = .ok (.iaload, 1) := by decide +kernel
theorem dL_law_479 : decode cL_law 479 = .ok (.invokevirtual 68, 3) := by decide +kernel
theorem dL_law_482 : decode cL_law 482 = .ok (.if_icmp .eq 311, 3) := by decide +kernel
theorem dL_law_485 : decode cL_law 485 = .ok (.iconst 0, 1) := by decide +kernel
theorem dL_law_486 : decode cL_law 486 = .ok (.ireturn, 1) := by decide +kernel
theorem dL_law_487 : decode cL_law 487 = .ok (.aload_n 1, 1) := by decide +kernel
theorem dL_law_488 : decode cL_law 488 = .ok (.aload_n 0, 1) := by decide +kernel
theorem dL_law_489 : decode cL_law 489 = .ok (.iload_n 3, 1) := by decide +kernel
theorem dL_law_490 : decode cL_law 490 = .ok (.iconst 1, 1) := by decide +kernel
theorem dL_law_491 : decode cL_law 491 = .ok (.iadd, 1) := by decide +kernel
theorem dL_law_492 : decode cL_law 492 = .ok (.iaload, 1) := by decide +kernel
theorem dL_law_493 : decode cL_law 493 = .ok (.aload_n 0, 1) := by decide +kernel
theorem dL_law_494 : decode cL_law 494 = .ok (.iload_n 3, 1) := by decide +kernel
theorem dL_law_495 : decode cL_law 495 = .ok (.iconst 2, 1) := by decide +kernel
theorem dL_law_496 : decode cL_law 496 = .ok (.iadd, 1) := by decide +kernel
theorem dL_law_497 : decode cL_law 497 = .ok (.iaload, 1) := by decide +kernel
theorem dL_law_498 : decode cL_law 498 = .ok (.invokevirtual 69, 3) := by decide +kernel
theorem dL_law_501 : decode cL_law 501 = .ok (.aload_n 2, 1) := by decide +kernel
theorem dL_law_502 : decode cL_law 502 = .ok (.aload_n 0, 1) := by decide +kernel
theorem dL_law_503 : decode cL_law 503 = .ok (.iload_n 3, 1) := by decide +kernel
theorem dL_law_504 : decode cL_law 504 = .ok (.iconst 1, 1) := by decide +kernel
theorem dL_law_505 : decode cL_law 505 = .ok (.iadd, 1) := by decide +kernel
theorem dL_law_506 : decode cL_law 506 = .ok (.iaload, 1) := by decide +kernel
theorem dL_law_507 : decode cL_law 507 = .ok (.aload_n 0, 1) := by decide +kernel
theorem dL_law_508 : decode cL_law 508 = .ok (.iload_n 3, 1) := by decide +kernel
theorem dL_law_509 : decode cL_law 509 = .ok (.iconst 2, 1) := by decide +kernel
theorem dL_law_510 : decode cL_law 510 = .ok (.iadd, 1) := by decide +kernel
theorem dL_law_511 : decode cL_law 511 = .ok (.iaload, 1) := by decide +kernel
theorem dL_law_512 : decode cL_law 512 = .ok (.invokevirtual 72, 3) := by decide +kernel
theorem dL_law_515 : decode cL_law 515 = .ok (.if_icmp .eq 278, 3) := by decide +kernel
theorem dL_law_518 : decode cL_law 518 = .ok (.iconst 0, 1) := by decide +kernel
theorem dL_law_519 : decode cL_law 519 = .ok (.ireturn, 1) := by decide +kernel
theorem dL_law_520 : decode cL_law 520 = .ok (.aload_n 1, 1) := by decide +kernel
theorem dL_law_521 : decode cL_law 521 = .ok (.invokevirtual 73, 3) := by decide +kernel
theorem dL_law_524 : decode cL_law 524 = .ok (.aload_n 2, 1) := by decide +kernel
theorem dL_law_525 : decode cL_law 525 = .ok (.invokevirtual 76, 3) := by decide +kernel
theorem dL_law_528 : decode cL_law 528 = .ok (.if_icmp .eq 265, 3) := by decide +kernel
theorem dL_law_531 : decode cL_law 531 = .ok (.iconst 0, 1) := by decide +kernel
theorem dL_law_532 : decode cL_law 532 = .ok (.ireturn, 1) := by decide +kernel
theorem dL_law_533 : decode cL_law 533 = .ok (.aload_n 1, 1) := by decide +kernel
theorem dL_law_534 : decode cL_law 534 = .ok (.invokevirtual 77, 3) := by decide +kernel
theorem dL_law_537 : decode cL_law 537 = .ok (.aload_n 2, 1) := by decide +kernel
theorem dL_law_538 : decode cL_law 538 = .ok (.invokevirtual 80, 3) := by decide +kernel
theorem dL_law_541 : decode cL_law 541 = .ok (.if_icmp .eq 252, 3) := by decide +kernel
theorem dL_law_544 : decode cL_law 544 = .ok (.iconst 0, 1) := by decide +kernel
theorem dL_law_545 : decode cL_law 545 = .ok (.ireturn, 1) := by decide +kernel
theorem dL_law_546 : decode cL_law 546 = .ok (.aload_n 1, 1) := by decide +kernel
theorem dL_law_547 : decode cL_law 547 = .ok (.aload_n 0, 1) := by decide +kernel
theorem dL_law_548 : decode cL_law 548 = .ok (.iload_n 3, 1) := by decide +kernel
theorem dL_law_549 : decode cL_law 549 = .ok (.iconst 1, 1) := by decide +kernel
theorem dL_law_550 : decode cL_law 550 = .ok (.iadd, 1) := by decide +kernel
theorem dL_law_551 : decode cL_law 551 = .ok (.iaload, 1) := by decide +kernel
theorem dL_law_552 : decode cL_law 552 = .ok (.invokevirtual 81, 3) := by decide +kernel
theorem dL_law_555 : decode cL_law 555 = .ok (.aload_n 2, 1) := by decide +kernel
theorem dL_law_556 : decode cL_law 556 = .ok (.aload_n 0, 1) := by decide +kernel
theorem dL_law_557 : decode cL_law 557 = .ok (.iload_n 3, 1) := by decide +kernel
theorem dL_law_558 : decode cL_law 558 = .ok (.iconst 1, 1) := by decide +kernel
theorem dL_law_559 : decode cL_law 559 = .ok (.iadd, 1) := by decide +kernel
theorem dL_law_560 : decode cL_law 560 = .ok (.iaload, 1) := by decide +kernel
theorem dL_law_561 : decode cL_law 561 = .ok (.invokevirtual 84, 3) := by decide +kernel
theorem dL_law_564 : decode cL_law 564 = .ok (.if_icmp .eq 229, 3) := by decide +kernel
theorem dL_law_567 : decode cL_law 567 = .ok (.iconst 0, 1) := by decide +kernel
theorem dL_law_568 : decode cL_law 568 = .ok (.ireturn, 1) := by decide +kernel
theorem dL_law_569 : decode cL_law 569 = .ok (.aload_n 1, 1) := by decide +kernel
theorem dL_law_570 : decode cL_law 570 = .ok (.aload_n 0, 1) := by decide +kernel
theorem dL_law_571 : decode cL_law 571 = .ok (.iload_n 3, 1) := by decide +kernel
theorem dL_law_572 : decode cL_law 572 = .ok (.iconst 1, 1) := by decide +kernel
theorem dL_law_573 : decode cL_law 573 = .ok (.iadd, 1) := by decide +kernel
theorem dL_law_574 : decode cL_law 574 = .ok (.iaload, 1) := by decide +kernel
theorem dL_law_575 : decode cL_law 575 = .ok (.invokevirtual 85, 3) := by decide +kernel
theorem dL_law_578 : decode cL_law 578 = .ok (.aload_n 2, 1) := by decide +kernel
theorem dL_law_579 : decode cL_law 579 = .ok (.aload_n 0, 1) := by decide +kernel
theorem dL_law_580 : decode cL_law 580 = .ok (.iload_n 3, 1) := by decide +kernel
theorem dL_law_581 : decode cL_law 581 = .ok (.iconst 1, 1) := by decide +kernel
theorem dL_law_582 : decode cL_law 582 = .ok (.iadd, 1) := by decide +kernel
theorem dL_law_583 : decode cL_law 583 = .ok (.iaload, 1) := by decide +kernel
theorem dL_law_584 : decode cL_law 584 = .ok (.invokevirtual 88, 3) := by decide +kernel
theorem dL_law_587 : decode cL_law 587 = .ok (.if_icmp .eq 206, 3) := by decide +kernel
theorem dL_law_590 : decode cL_law 590 = .ok (.iconst 0, 1) := by decide +kernel
theorem dL_law_591 : decode cL_law 591 = .ok (.ireturn, 1) := by decide +kernel
theorem dL_law_592 : decode cL_law 592 = .ok (.aload_n 1, 1) := by decide +kernel
theorem dL_law_593 : decode cL_law 593 = .ok (.aload_n 0, 1) := by decide +kernel
theorem dL_law_594 : decode cL_law 594 = .ok (.iload_n 3, 1) := by decide +kernel
theorem dL_law_595 : decode cL_law 595 = .ok (.iconst 1, 1) := by decide +kernel
theorem dL_law_596 : decode cL_law 596 = .ok (.iadd, 1) := by decide +kernel
theorem dL_law_597 : decode cL_law 597 = .ok (.iaload, 1) := by decide +kernel
theorem dL_law_598 : decode cL_law 598 = .ok (.aload_n 0, 1) := by decide +kernel
theorem dL_law_599 : decode cL_law 599 = .ok (.iload_n 3, 1) := by decide +kernel
theorem dL_law_600 : decode cL_law 600 = .ok (.iconst 2, 1) := by decide +kernel
theorem dL_law_601 : decode cL_law 601 = .ok (.iadd, 1) := by decide +kernel
theorem dL_law_602 : decode cL_law 602 = .ok (.iaload, 1) := by decide +kernel
theorem dL_law_603 : decode cL_law 603 = .ok (.invokevirtual 89, 3) := by decide +kernel
theorem dL_law_606 : decode cL_law 606 = .ok (.aload_n 2, 1) := by decide +kernel
theorem dL_law_607 : decode cL_law 607 = .ok (.aload_n 0, 1) := by decide +kernel
theorem dL_law_608 : decode cL_law 608 = .ok (.iload_n 3, 1) := by decide +kernel
theorem dL_law_609 : decode cL_law 609 = .ok (.iconst 1, 1) := by decide +kernel
theorem dL_law_610 : decode cL_law 610 = .ok (.iadd, 1) := by decide +kernel
theorem dL_law_611 : decode cL_law 611 = .ok (.iaload, 1) := by decide +kernel
theorem dL_law_612 : decode cL_law 612 = .ok (.aload_n 0, 1) := by decide +kernel
theorem dL_law_613 : decode cL_law 613 = .ok (.iload_n 3, 1) := by decide +kernel
theorem dL_law_614 : decode cL_law 614 = .ok (.iconst 2, 1) := by decide +kernel
theorem dL_law_615 : decode cL_law 615 = .ok (.iadd, 1) := by decide +kernel
theorem dL_law_616 : decode cL_law 616 = .ok (.iaload, 1) := by decide +kernel
theorem dL_law_617 : decode cL_law 617 = .ok (.invokevirtual 92, 3) := by decide +kernel
theorem dL_law_620 : decode cL_law 620 = .ok (.if_icmp .eq 173, 3) := by decide +kernel
theorem dL_law_623 : decode cL_law 623 = .ok (.iconst 0, 1) := by decide +kernel
theorem dL_law_624 : decode cL_law 624 = .ok (.ireturn, 1) := by decide +kernel
theorem dL_law_625 : decode cL_law 625 = .ok (.aload_n 1, 1) := by decide +kernel
theorem dL_law_626 : decode cL_law 626 = .ok (.aload_n 0, 1) := by decide +kernel
theorem dL_law_627 : decode cL_law 627 = .ok (.iload_n 3, 1) := by decide +kernel
theorem dL_law_628 : decode cL_law 628 = .ok (.iconst 1, 1) := by decide +kernel
theorem dL_law_629 : decode cL_law 629 = .ok (.iadd, 1) := by decide +kernel
theorem dL_law_630 : decode cL_law 630 = .ok (.iaload, 1) := by decide +kernel
theorem dL_law_631 : decode cL_law 631 = .ok (.aload_n 0, 1) := by decide +kernel
theorem dL_law_632 : decode cL_law 632 = .ok (.iload_n 3, 1) := by decide +kernel
theorem dL_law_633 : decode cL_law 633 = .ok (.iconst 2, 1) := by decide +kernel
theorem dL_law_634 : decode cL_law 634 = .ok (.iadd, 1) := by decide +kernel
theorem dL_law_635 : decode cL_law 635 = .ok (.iaload, 1) := by decide +kernel
theorem dL_law_636 : decode cL_law 636 = .ok (.aload_n 0, 1) := by decide +kernel
theorem dL_law_637 : decode cL_law 637 = .ok (.iload_n 3, 1) := by decide +kernel
theorem dL_law_638 : decode cL_law 638 = .ok (.iconst 3, 1) := by decide +kernel
theorem dL_law_639 : decode cL_law 639 = .ok (.iadd, 1) := by decide +kernel
theorem dL_law_640 : decode cL_law 640 = .ok (.iaload, 1) := by decide +kernel
theorem dL_law_641 : decode cL_law 641 = .ok (.invokevirtual 93, 3) := by decide +kernel
theorem dL_law_644 : decode cL_law 644 = .ok (.aload_n 2, 1) := by decide +kernel
theorem dL_law_645 : decode cL_law 645 = .ok (.aload_n 0, 1) := by decide +kernel
theorem dL_law_646 : decode cL_law 646 = .ok (.iload_n 3, 1) := by decide +kernel
theorem dL_law_647 : decode cL_law 647 = .ok (.iconst 1, 1) := by decide +kernel
theorem dL_law_648 : decode cL_law 648 = .ok (.iadd, 1) := by decide +kernel
theorem dL_law_649 : decode cL_law 649 = .ok (.iaload, 1) := by decide +kernel
theorem dL_law_650 : decode cL_law 650 = .ok (.aload_n 0, 1) := by decide +kernel
theorem dL_law_651 : decode cL_law 651 = .ok (.iload_n 3, 1) := by decide +kernel
theorem dL_law_652 : decode cL_law 652 = .ok (.iconst 2, 1) := by decide +kernel
theorem dL_law_653 : decode cL_law 653 = .ok (.iadd, 1) := by decide +kernel
theorem dL_law_654 : decode cL_law 654 = .ok (.iaload, 1) := by decide +kernel
theorem dL_law_655 : decode cL_law 655 = .ok (.aload_n 0, 1) := by decide +kernel
theorem dL_law_656 : decode cL_law 656 = .ok (.iload_n 3, 1) := by decide +kernel
theorem dL_law_657 : decode cL_law 657 = .ok (.iconst 3, 1) := by decide +kernel
theorem dL_law_658 : decode cL_law 658 = .ok (.iadd, 1) := by decide +kernel
theorem dL_law_659 : decode cL_law 659 = .ok (.iaload, 1) := by decide +kernel
theorem dL_law_660 : decode cL_law 660 = .ok (.invokevirtual 96, 3) := by decide +kernel
theorem dL_law_663 : decode cL_law 663 = .ok (.if_icmp .eq 130, 3) := by decide +kernel
theorem dL_law_666 : decode cL_law 666 = .ok (.iconst 0, 1) := by decide +kernel
theorem dL_law_667 : decode cL_law 667 = .ok (.ireturn, 1) := by decide +kernel
theorem dL_law_668 : decode cL_law 668 = .ok (.aload_n 1, 1) := by decide +kernel
theorem dL_law_669 : decode cL_law 669 = .ok (.aload_n 0, 1) := by decide +kernel
theorem dL_law_670 : decode cL_law 670 = .ok (.iload_n 3, 1) := by decide +kernel
theorem dL_law_671 : decode cL_law 671 = .ok (.iconst 1, 1) := by decide +kernel
theorem dL_law_672 : decode cL_law 672 = .ok (.iadd, 1) := by decide +kernel
theorem dL_law_673 : decode cL_law 673 = .ok (.iaload, 1) := by decide +kernel
theorem dL_law_674 : decode cL_law 674 = .ok (.invokevirtual 97, 3) := by decide +kernel
theorem dL_law_677 : decode cL_law 677 = .ok (.aload_n 2, 1) := by decide +kernel
theorem dL_law_678 : decode cL_law 678 = .ok (.aload_n 0, 1) := by decide +kernel
theorem dL_law_679 : decode cL_law 679 = .ok (.iload_n 3, 1) := by decide +kernel
theorem dL_law_680 : decode cL_law 680 = .ok (.iconst 1, 1) := by decide +kernel
theorem dL_law_681 : decode cL_law 681 = .ok (.iadd, 1) := by decide +kernel
theorem dL_law_682 : decode cL_law 682 = .ok (.iaload, 1) := by decide +kernel
theorem dL_law_683 : decode cL_law 683 = .ok (.invokevirtual 100, 3) := by decide +kernel
theorem dL_law_686 : decode cL_law 686 = .ok (.if_icmp .eq 107, 3) := by decide +kernel
theorem dL_law_689 : decode cL_law 689 = .ok (.iconst 0, 1) := by decide +kernel
theorem dL_law_690 : decode cL_law 690 = .ok (.ireturn, 1) := by decide +kernel
theorem dL_law_691 : decode cL_law 691 = .ok (.aload_n 1, 1) := by decide +kernel
theorem dL_law_692 : decode cL_law 692 = .ok (.aload_n 0, 1) := by decide +kernel
theorem dL_law_693 : decode cL_law 693 = .ok (.iload_n 3, 1) := by decide +kernel
theorem dL_law_694 : decode cL_law 694 = .ok (.iconst 1, 1) := by decide +kernel
theorem dL_law_695 : decode cL_law 695 = .ok (.iadd, 1) := by decide +kernel
theorem dL_law_696 : decode cL_law 696 = .ok (.iaload, 1) := by decide +kernel
theorem dL_law_697 : decode cL_law 697 = .ok (.aload_n 0, 1) := by decide +kernel
theorem dL_law_698 : decode cL_law 698 = .ok (.iload_n 3, 1) := by decide +kernel
theorem dL_law_699 : decode cL_law 699 = .ok (.iconst 2, 1) := by decide +kernel
theorem dL_law_700 : decode cL_law 700 = .ok (.iadd, 1) := by decide +kernel
theorem dL_law_701 : decode cL_law 701 = .ok (.iaload, 1) := by decide +kernel
theorem dL_law_702 : decode cL_law 702 = .ok (.invokevirtual 101, 3) := by decide +kernel
theorem dL_law_705 : decode cL_law 705 = .ok (.aload_n 2, 1) := by decide +kernel
theorem dL_law_706 : decode cL_law 706 = .ok (.aload_n 0, 1) := by decide +kernel
theorem dL_law_707 : decode cL_law 707 = .ok (.iload_n 3, 1) := by decide +kernel
theorem dL_law_708 : decode cL_law 708 = .ok (.iconst 1, 1) := by decide +kernel
theorem dL_law_709 : decode cL_law 709 = .ok (.iadd, 1) := by decide +kernel
theorem dL_law_710 : decode cL_law 710 = .ok (.iaload, 1) := by decide +kernel
theorem dL_law_711 : decode cL_law 711 = .ok (.aload_n 0, 1) := by decide +kernel
theorem dL_law_712 : decode cL_law 712 = .ok (.iload_n 3, 1) := by decide +kernel
theorem dL_law_713 : decode cL_law 713 = .ok (.iconst 2, 1) := by decide +kernel
theorem dL_law_714 : decode cL_law 714 = .ok (.iadd, 1) := by decide +kernel
theorem dL_law_715 : decode cL_law 715 = .ok (.iaload, 1) := by decide +kernel
theorem dL_law_716 : decode cL_law 716 = .ok (.invokevirtual 104, 3) := by decide +kernel
theorem dL_law_719 : decode cL_law 719 = .ok (.if_icmp .eq 74, 3) := by decide +kernel
theorem dL_law_722 : decode cL_law 722 = .ok (.iconst 0, 1) := by decide +kernel
theorem dL_law_723 : decode cL_law 723 = .ok (.ireturn, 1) := by decide +kernel
theorem dL_law_724 : decode cL_law 724 = .ok (.aload_n 1, 1) := by decide +kernel
theorem dL_law_725 : decode cL_law 725 = .ok (.aload_n 0, 1) := by decide +kernel
theorem dL_law_726 : decode cL_law 726 = .ok (.iload_n 3, 1) := by decide +kernel
theorem dL_law_727 : decode cL_law 727 = .ok (.iconst 1, 1) := by decide +kernel
theorem dL_law_728 : decode cL_law 728 = .ok (.iadd, 1) := by decide +kernel
theorem dL_law_729 : decode cL_law 729 = .ok (.iaload, 1) := by decide +kernel
theorem dL_law_730 : decode cL_law 730 = .ok (.invokevirtual 105, 3) := by decide +kernel
theorem dL_law_733 : decode cL_law 733 = .ok (.aload_n 2, 1) := by decide +kernel
theorem dL_law_734 : decode cL_law 734 = .ok (.aload_n 0, 1) := by decide +kernel
theorem dL_law_735 : decode cL_law 735 = .ok (.iload_n 3, 1) := by decide +kernel
theorem dL_law_736 : decode cL_law 736 = .ok (.iconst 1, 1) := by decide +kernel
theorem dL_law_737 : decode cL_law 737 = .ok (.iadd, 1) := by decide +kernel
theorem dL_law_738 : decode cL_law 738 = .ok (.iaload, 1) := by decide +kernel
theorem dL_law_739 : decode cL_law 739 = .ok (.invokevirtual 108, 3) := by decide +kernel
theorem dL_law_742 : decode cL_law 742 = .ok (.if_icmp .eq 51, 3) := by decide +kernel
theorem dL_law_745 : decode cL_law 745 = .ok (.iconst 0, 1) := by decide +kernel
theorem dL_law_746 : decode cL_law 746 = .ok (.ireturn, 1) := by decide +kernel
theorem dL_law_747 : decode cL_law 747 = .ok (.aload_n 1, 1) := by decide +kernel
theorem dL_law_748 : decode cL_law 748 = .ok (.aload_n 0, 1) := by decide +kernel
theorem dL_law_749 : decode cL_law 749 = .ok (.iload_n 3, 1) := by decide +kernel
theorem dL_law_750 : decode cL_law 750 = .ok (.iconst 1, 1) := by decide +kernel
theorem dL_law_751 : decode cL_law 751 = .ok (.iadd, 1) := by decide +kernel
theorem dL_law_752 : decode cL_law 752 = .ok (.iaload, 1) := by decide +kernel
theorem dL_law_753 : decode cL_law 753 = .ok (.invokevirtual 109, 3) := by decide +kernel
theorem dL_law_756 : decode cL_law 756 = .ok (.aload_n 2, 1) := by decide +kernel
theorem dL_law_757 : decode cL_law 757 = .ok (.aload_n 0, 1) := by decide +kernel
theorem dL_law_758 : decode cL_law 758 = .ok (.iload_n 3, 1) := by decide +kernel
theorem dL_law_759 : decode cL_law 759 = .ok (.iconst 1, 1) := by decide +kernel
theorem dL_law_760 : decode cL_law 760 = .ok (.iadd, 1) := by decide +kernel
theorem dL_law_761 : decode cL_law 761 = .ok (.iaload, 1) := by decide +kernel
theorem dL_law_762 : decode cL_law 762 = .ok (.invokevirtual 112, 3) := by decide +kernel
theorem dL_law_765 : decode cL_law 765 = .ok (.if_icmp .eq 28, 3) := by decide +kernel
theorem dL_law_768 : decode cL_law 768 = .ok (.iconst 0, 1) := by decide +kernel
theorem dL_law_769 : decode cL_law 769 = .ok (.ireturn, 1) := by decide +kernel
theorem dL_law_770 : decode cL_law 770 = .ok (.aload_n 1, 1) := by decide +kernel
theorem dL_law_771 : decode cL_law 771 = .ok (.aload_n 0, 1) := by decide +kernel
theorem dL_law_772 : decode cL_law 772 = .ok (.iload_n 3, 1) := by decide +kernel
theorem dL_law_773 : decode cL_law 773 = .ok (.iconst 1, 1) := by decide +kernel
theorem dL_law_774 : decode cL_law 774 = .ok (.iadd, 1) := by decide +kernel
theorem dL_law_775 : decode cL_law 775 = .ok (.iaload, 1) := by decide +kernel
theorem dL_law_776 : decode cL_law 776 = .ok (.invokevirtual 113, 3) := by decide +kernel
theorem dL_law_779 : decode cL_law 779 = .ok (.aload_n 2, 1) := by decide +kernel
theorem dL_law_780 : decode cL_law 780 = .ok (.aload_n 0, 1) := by decide +kernel
theorem dL_law_781 : decode cL_law 781 = .ok (.iload_n 3, 1) := by decide +kernel
theorem dL_law_782 : decode cL_law 782 = .ok (.iconst 1, 1) := by decide +kernel
theorem dL_law_783 : decode cL_law 783 = .ok (.iadd, 1) := by decide +kernel
theorem dL_law_784 : decode cL_law 784 = .ok (.iaload, 1) := by decide +kernel
theorem dL_law_785 : decode cL_law 785 = .ok (.invokevirtual 116, 3) := by decide +kernel
theorem dL_law_788 : decode cL_law 788 = .ok (.if_icmp .eq 5, 3) := by decide +kernel
theorem dL_law_791 : decode cL_law 791 = .ok (.iconst 0, 1) := by decide +kernel
theorem dL_law_792 : decode cL_law 792 = .ok (.ireturn, 1) := by decide +kernel
theorem dL_law_793 : decode cL_law 793 = .ok (.iinc 3 4, 3) := by decide +kernel
theorem dL_law_796 : decode cL_law 796 = .ok (.goto (-778), 3) := by decide +kernel
theorem dL_law_799 : decode cL_law 799 = .ok (.iconst 1, 1) := by decide +kernel
theorem dL_law_800 : decode cL_law 800 = .ok (.ireturn, 1) := by decide +kernel
end
section
/-! Words, contexts, contracts and rows that every walk here uses. The pure picture of a world is a table of rows of ints (St). -/
def bBig : List Cond := lw_tbl.filter goodWord
theorem bw {w : Cond} (i : Nat) (h : lw_tbl[i]? = some w) (hg : goodWord w = true) : w ∈ bBig := List.mem_filter.mpr ⟨List.mem_of_getElem? h, hg⟩
theorem bGood {w : Cond} (h : w ∈ bBig) : w ∈ lw_tbl ∧ ((w.onTables && w.keeps) = true ∨ ∃ ty, w = .arrayClass ty) := ⟨(List.mem_filter.mp h).1, good_of_word (List.mem_filter.mp h).2⟩
theorem bGoodIn {big : List Cond} {w : Cond} (hB : ∀ v ∈ bBig, v ∈ big) (h : w ∈ bBig) : GoodIn big (w :: bBig) := fun v hv => (List.mem_cons.mp hv).elim (fun e => by subst e; exact ⟨hB _ h, (bGood h).2⟩) (fun hv => ⟨hB _ hv, (bGood hv).2⟩)
def bNest : List Cond := [.methodLinkNest RX4 9 yX2_init RX4, .methodLinkNest RX4 34 yX1_init RX4, .methodLinkNest RX2 32 yX4_within RX4, .methodLinkNest RX2 43 yX4_isTerms RX4, .methodLinkNest RX0 52 yX4_has RX4, .methodLinkNest RX3 76 yX4_has RX4, .methodLinkNest RX3 72 yX4_use RX4, .methodLinkNest RX3 93 yX4_within RX4, .methodLinkNest RX3 116 yX4_isPartOf RX4]
theorem bNest_tbl : ∀ w ∈ bNest, w ∈ lw_tbl := by decide +kernel
theorem bNest_warm {s U : State} (hW : s.WarmedH U.vm) (h : ∀ w ∈ bNest, va_Nw w s) : ∀ w ∈ bNest, va_Nw w U := by
  intro w hw
  have h1 := h w hw
  simp only [bNest, List.mem_cons, List.not_mem_nil, or_false] at hw
  rcases hw with rfl | rfl | rfl | rfl | rfl | rfl | rfl | rfl | rfl <;> exact va_Nw.warmM hW h1
theorem bNest_same {s U : State} (hv : s.vm = U.vm) (h : ∀ w ∈ bNest, va_Nw w s) : ∀ w ∈ bNest, va_Nw w U := by
  intro w hw
  have h1 := h w hw
  simp only [bNest, List.mem_cons, List.not_mem_nil, or_false] at hw
  rcases hw with rfl | rfl | rfl | rfl | rfl | rfl | rfl | rfl | rfl <;> exact va_Nw.same rfl hv h1
abbrev bE : Type := ClassId × ClassId × ClassId
abbrev tyE (E : bE) : List (ClassId × FieldType) := [(E.1, .int), (E.2.1, .boolean), (E.2.2, .object RX0)]
def bPre (D : va_G) (E : bE) (U : State) : Prop := va_K D vwCl (tyE E) U ∧ ∀ w ∈ bNest, va_Nw w U
theorem bPre.warm {D : va_G} {E : bE} {s U : State} (hW : s.WarmedH U.vm) (h : bPre D E s) : bPre D E U := ⟨va_K.moved hW.alike h.1, bNest_warm hW h.2⟩
theorem bPre.same {D : va_G} {E : bE} {s U : State} (hv : s.vm = U.vm) (h : bPre D E s) : bPre D E U := ⟨va_K.moved (by rw [← hv]; exact Vm.Alike.refl s.vm) h.1, bNest_same hv h.2⟩
/-- what holds all through a method's body -/
def bC (D : va_G) (E : bE) (own : String) (cc : ByteArray) (nL : Nat) (ret : Option FieldType) (p : Program) (s : State) (m : MethodId) (args : Array Value) (meth : Method) (c : Code) : Prop :=
  p.tables.exec = Jvm.exec ∧ c.code = cc ∧ c.maxLocals = nL ∧ s.vm.findClass own = some m.cls ∧ (∀ w ∈ bBig, w.before args s = true) ∧ bPre D E s ∧ meth.sig.returnType = ret ∧ meth.locks = false
abbrev bRm (fr lo : Nat) : Room := { frames := fr, cells := 0, slots := 0, locals := lo }
/-- contracts: a static method; one that reads a world; one that changes it (with an int answer; with none) -/
def cS (l : Launch) (D : va_G) (E : bE) (y : MethodName) (cc : ByteArray) (nL : Nat) (ret : Option FieldType) (fr lo : Nat) (av : List Value) (r : Int32) : Prop :=
  Met l y (.code y cc nL ret :: bBig) (bRm fr lo) (va_Pc av (fun U => bPre D E U)) (vp_Si (fun x => x = r)) 0 0 (fun _ => False)
def cR (l : Launch) (D : va_G) (E : bE) (y : MethodName) (cc : ByteArray) (nL : Nat) (ret : Option FieldType) (fr lo : Nat) (ws : va_W) (av : List Value) (r : Int32) : Prop :=
  Met l y (.code y cc nL ret :: bBig) (bRm fr lo) (va_Pc av (fun U => va_P D vwCl ws U.heap ∧ bPre D E U)) (vp_Si (fun x => x = r)) 0 0 (fun _ => False)
def cU (l : Launch) (D : va_G) (E : bE) (y : MethodName) (cc : ByteArray) (nL : Nat) (ret : Option FieldType) (fr lo : Nat) (A : Nat → Prop) (ws ws' : va_W) (av : List Value) (r : Int32) : Prop :=
  Met l y (.code y cc nL ret :: bBig) (bRm fr lo) (va_Pc av (fun U => va_P D vwCl ws U.heap ∧ bPre D E U)) (va_Qi (fun x (_ : Unit) => x = r) (fun _ t => va_P D vwCl ws' t.heap) A) 0 0 A
def cV (l : Launch) (D : va_G) (E : bE) (y : MethodName) (cc : ByteArray) (nL : Nat) (fr lo : Nat) (A : Nat → Prop) (ws ws' : va_W) (av : List Value) : Prop :=
  Met l y (.code y cc nL none :: bBig) (bRm fr lo) (va_Pc av (fun U => va_P D vwCl ws U.heap ∧ bPre D E U)) (va_Qv (fun (_ : Unit) => True) (fun _ t => va_P D vwCl ws' t.heap) A) 0 0 A
abbrev qS (below : List Frame) (r : Int32) (args : Array Value) (s : State) : State → Prop := MQ below (vp_Si (fun x => x = r)) args s 0 0 (fun _ => False)
abbrev qU (D : va_G) (below : List Frame) (A : Nat → Prop) (ws' : va_W) (r : Int32) (args : Array Value) (s : State) : State → Prop := MQ below (va_Qi (fun x (_ : Unit) => x = r) (fun _ t => va_P D vwCl ws' t.heap) A) args s 0 0 A
abbrev qV (D : va_G) (below : List Frame) (A : Nat → Prop) (ws' : va_W) (args : Array Value) (s : State) : State → Prop := MQ below (va_Qv (fun (_ : Unit) => True) (fun _ t => va_P D vwCl ws' t.heap) A) args s 0 0 A
section BOf
variable {l : Launch} {D : va_G} {E : bE} {y : MethodName} {cc : ByteArray} {nL : Nat} {ret : Option FieldType} {fr lo : Nat} {av : List Value} {r : Int32} {ws ws' : va_W} {A : Nat → Prop}
theorem cS_of (hy : plainName y.cls = true) (hn : (lg_sl av).length ≤ nL) (body : ∀ (p : Program) (e : Env) (s : State) (m : MethodId) (args : Array Value) (below : List Frame) (meth : Method) (c : Code), bC D E y.cls cc nL ret p s m args meth c → ∀ ls : Array Slot, lv_has ls nL (lv_args 0 av) → W p l e (bRm fr lo) s m args below meth c s.heap [] 0 0 (qS below r args s) (F0 m 0 ls [])) : cS l D E y cc nL ret fr lo av r := by
  refine Met.ofW (cc := cc) (maxL := nL) (ret := ret) hy rfl ?_
  intro p e s m args below meth c s₁ B hml hv
  obtain ⟨rfl, hK⟩ := hv
  have hts := atoms_spec (ws := .code y cc nL ret :: bBig) B.pre
  have hl := lv_entry av (n := nL) hn
  rw [lg_entry_eq]
  exact body p e s m _ below meth c ⟨B.exec, B.bytes, hml, findClass_of_methodNamed B.named, fun w hw => hts w (List.mem_cons_of_mem _ hw), hK, B.returns, B.notSynchronized⟩ _ hl
theorem cR_of (hy : plainName y.cls = true) (hn : (lg_sl av).length ≤ nL) (body : ∀ (p : Program) (e : Env) (s : State) (m : MethodId) (args : Array Value) (below : List Frame) (meth : Method) (c : Code), bC D E y.cls cc nL ret p s m args meth c → va_P D vwCl ws s.heap → ∀ ls : Array Slot, lv_has ls nL (lv_args 0 av) → W p l e (bRm fr lo) s m args below meth c s.heap [] 0 0 (qS below r args s) (F0 m 0 ls [])) : cR l D E y cc nL ret fr lo ws av r := by
  refine Met.ofW (cc := cc) (maxL := nL) (ret := ret) hy rfl ?_
  intro p e s m args below meth c s₁ B hml hv
  obtain ⟨rfl, hP, hK⟩ := hv
  have hts := atoms_spec (ws := .code y cc nL ret :: bBig) B.pre
  have hl := lv_entry av (n := nL) hn
  rw [lg_entry_eq]
  exact body p e s m _ below meth c ⟨B.exec, B.bytes, hml, findClass_of_methodNamed B.named, fun w hw => hts w (List.mem_cons_of_mem _ hw), hK, B.returns, B.notSynchronized⟩ hP _ hl
theorem cU_of (hy : plainName y.cls = true) (hn : (lg_sl av).length ≤ nL) (body : ∀ (p : Program) (e : Env) (s : State) (m : MethodId) (args : Array Value) (below : List Frame) (meth : Method) (c : Code), bC D E y.cls cc nL ret p s m args meth c → ∀ (H : Heap) (locs : List Loc), va_P D vwCl ws H → va_S A s.heap H locs → ∀ ls : Array Slot, lv_has ls nL (lv_args 0 av) → W p l e (bRm fr lo) s m args below meth c H locs 0 0 (qU D below A ws' r args s) (F0 m 0 ls [])) : cU l D E y cc nL ret fr lo A ws ws' av r := by
  refine Met.ofW (cc := cc) (maxL := nL) (ret := ret) hy rfl ?_
  intro p e s m args below meth c s₁ B hml hv
  obtain ⟨rfl, hP, hK⟩ := hv
  have hts := atoms_spec (ws := .code y cc nL ret :: bBig) B.pre
  have hl := lv_entry av (n := nL) hn
  rw [lg_entry_eq]
  exact body p e s m _ below meth c ⟨B.exec, B.bytes, hml, findClass_of_methodNamed B.named, fun w hw => hts w (List.mem_cons_of_mem _ hw), hK, B.returns, B.notSynchronized⟩ _ _ hP va_S.rf _ hl
theorem cV_of (hy : plainName y.cls = true) (hn : (lg_sl av).length ≤ nL) (body : ∀ (p : Program) (e : Env) (s : State) (m : MethodId) (args : Array Value) (below : List Frame) (meth : Method) (c : Code), bC D E y.cls cc nL none p s m args meth c → ∀ (H : Heap) (locs : List Loc), va_P D vwCl ws H → va_S A s.heap H locs → ∀ ls : Array Slot, lv_has ls nL (lv_args 0 av) → W p l e (bRm fr lo) s m args below meth c H locs 0 0 (qV D below A ws' args s) (F0 m 0 ls [])) : cV l D E y cc nL fr lo A ws ws' av := by
  refine Met.ofW (cc := cc) (maxL := nL) (ret := none) hy rfl ?_
  intro p e s m args below meth c s₁ B hml hv
  obtain ⟨rfl, hP, hK⟩ := hv
  have hts := atoms_spec (ws := .code y cc nL none :: bBig) B.pre
  have hl := lv_entry av (n := nL) hn
  rw [lg_entry_eq]
  exact body p e s m _ below meth c ⟨B.exec, B.bytes, hml, findClass_of_methodNamed B.named, fun w hw => hts w (List.mem_cons_of_mem _ hw), hK, B.returns, B.notSynchronized⟩ _ _ hP va_S.rf _ hl
end BOf
end
section
abbrev St : Type := Nat → Nat → Int32
/-- the table with another row; with another number -/
def str (S : St) (k : Nat) (f : Nat → Int32) : St := fun j => if j = k then f else S j
def sto (S : St) (k i : Nat) (v : Int32) : St := str S k (upd (S k) i v)
abbrev ix (i : Int32) (n : Nat) : Prop := ¬ (i < 0 ∨ n ≤ i.toNatClampNeg)
def gd {β : Type} (c : Prop) [Decidable c] (x : Option β) : Option β := if c then x else none
theorem gd_some {β : Type} {c : Prop} [Decidable c] {x : Option β} {r : β} (h : gd c x = some r) : c ∧ x = some r := by
  unfold gd at h
  by_cases hc : c
  · rw [if_pos hc] at h; exact ⟨hc, h⟩
  · rw [if_neg hc] at h; cases h
def bd {α β : Type} (x : Option α) (f : α → Option β) : Option β := match x with
  | none => none
  | some a => f a
theorem bd_some {α β : Type} {x : Option α} {f : α → Option β} {r : β} (h : bd x f = some r) : ∃ a, x = some a ∧ f a = some r := by
  cases x with
  | none => cases h
  | some a => exact ⟨a, rfl, h⟩
theorem bd_y {α β : Type} {e y : α} (ey : y = e) {f : α → Option β} {r : β} (h : bd (some e) f = some r) : f y = some r := by subst ey; exact h
theorem if_y {α : Type} {c : Prop} [Decidable c] {x y z : α} (hc : c) (h : (if c then x else y) = z) : x = z := by rw [if_pos hc] at h; exact h
theorem if_n {α : Type} {c : Prop} [Decidable c] {x y z : α} (hc : ¬ c) (h : (if c then x else y) = z) : y = z := by rw [if_neg hc] at h; exact h
/-- a loop: n rounds at most -/
def lpI {α β : Type} (F : (α → Option β) → α → Option β) : Nat → α → Option β
  | 0, _ => none
  | n + 1, x => F (lpI F n) x
theorem lpI_ind {α β : Type} {F : (α → Option β) → α → Option β} {P : α → β → Prop} (st : ∀ k : α → Option β, (∀ x r, k x = some r → P x r) → ∀ x r, F k x = some r → P x r) : ∀ n x r, lpI F n x = some r → P x r := by
  intro n
  induction n with
  | zero => intro x r h; cases h
  | succ n ih => intro x r h; exact st _ ih x r h
theorem ii1 (x : Int32) : x + Int32.ofInt 1 = x + 1 := rfl
theorem iim1 (x : Int32) : x + Int32.ofInt (-1) = x + (-1) := rfl
theorem ii4 (x : Int32) : x + Int32.ofInt 4 = x + 4 := rfl
section BR
variable {p : Program} {l : Launch} {e : Env} {R : Room} {s : State} {m : MethodId} {args : Array Value} {below : List Frame} {meth : Method} {c : Code} {H : Heap} {locs : List Loc} {cells slots : Nat} {Q : State → Prop}
variable {cc : ByteArray} {pc nL : Nat} {ls : Array Slot} {rest : List Value} {D : va_G} {E : bE} {A : Nat → Prop} {ad : Nat} {ws ws' : va_W} {own : String} {ret : Option FieldType} {r v : Int32} {S : St}
/-! ends -/
theorem r_retS (C : bC D E own cc nL (some .int) p s m args meth c) (h : (some v : Option Int32) = some r) (hdg : decode cc pc = .ok (.ireturn, 1)) : W p l e R s m args below meth c s.heap [] 0 0 (qS below r args s) (F0 m pc ls [.int v]) := by
  obtain ⟨hx, hb, -, -, -, -, hr, hlocks⟩ := C
  cases h
  exact W.iret hx hb hr (fun t ht _ => ⟨_, rfl, rfl, ht⟩) (fun q hq => by cases hq) hdg
theorem narrowZ {v : Int32} (h : v &&& 1 = v) : narrow .boolean (.int v) = .int v := by
  show Value.int (v &&& 1) = .int v
  rw [h]
theorem r_retZ (C : bC D E own cc nL (some .boolean) p s m args meth c) (h : gd (v &&& 1 = v) (some v : Option Int32) = some r) (hdg : decode cc pc = .ok (.ireturn, 1)) : W p l e R s m args below meth c s.heap [] 0 0 (qS below r args s) (F0 m pc ls [.int v]) := by
  obtain ⟨hx, hb, -, -, -, -, hr, hlocks⟩ := C
  obtain ⟨hz, h⟩ := gd_some h
  cases h
  exact W.zret hx hb hr (narrowZ hz) (fun t ht _ => ⟨_, rfl, rfl, ht⟩) (fun q hq => by cases hq) hdg
theorem r_retU (C : bC D E own cc nL (some .int) p s m args meth c) {𝓦 : St → va_W} {S' : St} (h : (some (v, S) : Option (Int32 × St)) = some (r, S')) (hP : va_P D vwCl (𝓦 S) H) (hS : va_S A s.heap H locs) (hdg : decode cc pc = .ok (.ireturn, 1)) : W p l e R s m args below meth c H locs 0 0 (qU D below A (𝓦 S') r args s) (F0 m pc ls [.int v]) := by
  obtain ⟨hx, hb, -, -, -, -, hr, hlocks⟩ := C
  cases h
  exact W.iret hx hb hr (fun t ht _ => ⟨⟨_, (), rfl, rfl, by subst ht; exact hP⟩, hS.F ht⟩) hS.2.2 hdg
theorem r_retUZ (C : bC D E own cc nL (some .boolean) p s m args meth c) {𝓦 : St → va_W} {S' : St} (h : gd (v &&& 1 = v) (some (v, S) : Option (Int32 × St)) = some (r, S')) (hP : va_P D vwCl (𝓦 S) H) (hS : va_S A s.heap H locs) (hdg : decode cc pc = .ok (.ireturn, 1)) : W p l e R s m args below meth c H locs 0 0 (qU D below A (𝓦 S') r args s) (F0 m pc ls [.int v]) := by
  obtain ⟨hx, hb, -, -, -, -, hr, hlocks⟩ := C
  obtain ⟨hz, h⟩ := gd_some h
  cases h
  exact W.zret hx hb hr (narrowZ hz) (fun t ht _ => ⟨⟨_, (), rfl, rfl, by subst ht; exact hP⟩, hS.F ht⟩) hS.2.2 hdg
theorem r_retV (C : bC D E own cc nL none p s m args meth c) {𝓦 : St → va_W} {S' : St} (h : (some S : Option St) = some S') (hP : va_P D vwCl (𝓦 S) H) (hS : va_S A s.heap H locs) (hdg : decode cc pc = .ok (.return_, 1)) : W p l e R s m args below meth c H locs 0 0 (qV D below A (𝓦 S') args s) (F0 m pc ls []) := by
  obtain ⟨hx, hb, -, -, -, -, hr, hlocks⟩ := C
  cases h
  exact W.vret hx hb hr (fun t ht _ => ⟨⟨(), rfl, trivial, by subst ht; exact hP⟩, hS.F ht⟩) hS.2.2 hdg
/-! cells -/
theorem r_ald (hx : p.tables.exec = Jvm.exec) (hb : c.code = cc) (hK : bPre D E s) (hP : va_P D vwCl ws H) (q0 : Nat) {n : Nat} {f : Nat → Int32} (ha : ws[q0]? = some (ad, .inl (E.1, n, .inl f))) {i : Int32} (hin : ix i n) (hdg : decode cc pc = .ok (.iaload, 1))
    (kk : W p l e R s m args below meth c H locs cells slots Q (F0 m (pc + 1) ls (.int (f i.toNatClampNeg) :: rest))) : W p l e R s m args below meth c H locs cells slots Q (F0 m pc ls (.int i :: .ref ad :: rest)) :=
  va_iald hx hb hK.1 hP q0 0 ha rfl hin hdg kk
theorem r_zld (hx : p.tables.exec = Jvm.exec) (hb : c.code = cc) (hK : bPre D E s) (hP : va_P D vwCl ws H) (q0 : Nat) {n : Nat} {f : Nat → Int32} (ha : ws[q0]? = some (ad, .inl (E.2.1, n, .inl f))) {i : Int32} (hin : ix i n) (hdg : decode cc pc = .ok (.baload, 1))
    (kk : W p l e R s m args below meth c H locs cells slots Q (F0 m (pc + 1) ls (.int (f i.toNatClampNeg) :: rest))) : W p l e R s m args below meth c H locs cells slots Q (F0 m pc ls (.int i :: .ref ad :: rest)) :=
  va_zald hx hb hK.1 hP q0 1 ha rfl hin hdg kk
theorem r_ast {𝓦 : St → va_W} (hx : p.tables.exec = Jvm.exec) (hb : c.code = cc) (hK : bPre D E s) (hP : va_P D vwCl (𝓦 S) H) (hD : va_D A (𝓦 S)) (hS : va_S A s.heap H locs) (q0 : Nat) {n : Nat} (ha : (𝓦 S)[q0]? = some (ad, .inl (E.1, n, .inl (S q0)))) (hset : ∀ f, (𝓦 S).set q0 (ad, .inl (E.1, n, .inl f)) = 𝓦 (str S q0 f)) {i x : Int32} (hin : ix i n) (hdg : decode cc pc = .ok (.iastore, 1))
    (kk : ∀ (H1 : Heap) (locs1 : List Loc) (S1 : St), S1 = sto S q0 i.toNatClampNeg x → va_P D vwCl (𝓦 S1) H1 → va_S A s.heap H1 locs1 → W p l e R s m args below meth c H1 locs1 cells slots Q (F0 m (pc + 1) ls rest)) : W p l e R s m args below meth c H locs cells slots Q (F0 m pc ls (.int x :: .int i :: .ref ad :: rest)) :=
  va_iast hx hb hK.1 hP hD hS q0 0 ha rfl hin hdg (fun H1 locs1 hP1 _ hS1 => kk H1 locs1 _ rfl (by rw [hset] at hP1; exact hP1) hS1)
theorem r_zst {𝓦 : St → va_W} (hx : p.tables.exec = Jvm.exec) (hb : c.code = cc) (hK : bPre D E s) (hP : va_P D vwCl (𝓦 S) H) (hD : va_D A (𝓦 S)) (hS : va_S A s.heap H locs) (q0 : Nat) {n : Nat} (ha : (𝓦 S)[q0]? = some (ad, .inl (E.2.1, n, .inl (S q0)))) (hset : ∀ f, (𝓦 S).set q0 (ad, .inl (E.2.1, n, .inl f)) = 𝓦 (str S q0 f)) {i x : Int32} (hin : ix i n) (hdg : decode cc pc = .ok (.bastore, 1))
    (kk : ∀ (H1 : Heap) (locs1 : List Loc) (S1 : St), S1 = sto S q0 i.toNatClampNeg (vp_nar .boolean x) → va_P D vwCl (𝓦 S1) H1 → va_S A s.heap H1 locs1 → W p l e R s m args below meth c H1 locs1 cells slots Q (F0 m (pc + 1) ls rest)) : W p l e R s m args below meth c H locs cells slots Q (F0 m pc ls (.int x :: .int i :: .ref ad :: rest)) :=
  va_zast hx hb hK.1 hP hD hS q0 1 ha rfl hin hdg (fun H1 locs1 hP1 _ hS1 => kk H1 locs1 _ rfl (by rw [hset] at hP1; exact hP1) hS1)
theorem r_put {𝓦 : St → va_W} {ref Cn : String} {T : u_T} {N ci index : Nat} (hx : p.tables.exec = Jvm.exec) (hb : c.code = cc) (hts : ∀ w ∈ bBig, w.before args s = true) (hown : s.vm.findClass own = some m.cls) (hK : bPre D E s) (hin : ∀ w ∈ u_ws Cn T N, w ∈ bBig) (ty0 : Nat → FieldType) (hty : ∀ k, k < N → parseFieldDescriptor (T k).2.2.1 = some (ty0 k)) (hnm : ∀ a, a < N → ∀ b, b < N → a ≠ b → (T a).2.1 ≠ (T b).2.1)
    (hP : va_P D vwCl (𝓦 S) H) (hD : va_D A (𝓦 S)) (hS : va_S A s.heap H locs) (q0 : Nat) {fs : List Value} (he : (𝓦 S)[q0]? = some (ad, .inr (ci, fs))) (hc : vwCl[ci]? = some (Cn, T, N)) (k : Nat) (hk : k < N) (hl : Cond.fieldLink own index (T k).1 (T k).2.1 (T k).2.2.1 ∈ bBig) (hfin : (T k).2.2.2 = false) (hd : parseFieldDescriptor (T k).2.2.1 = some .int) (hlen : k < fs.length)
    (hset : (𝓦 S).set q0 (ad, .inr (ci, fs.set k (.int v))) = 𝓦 (sto S q0 k v)) (hdg : decode cc pc = .ok (.putfield index, 3))
    (kk : ∀ (H1 : Heap) (locs1 : List Loc) (S1 : St), S1 = sto S q0 k v → va_P D vwCl (𝓦 S1) H1 → va_S A s.heap H1 locs1 → W p l e R s m args below meth c H1 locs1 cells slots Q (F0 m (pc + 3) ls rest)) : W p l e R s m args below meth c H locs cells slots Q (F0 m pc ls (.int v :: .ref ad :: rest)) :=
  va_put hx hb hts hin ty0 hty hnm hown hK.1 hP hD hS q0 he hc k hk (hts _ hl) (fun _ h => h) hfin hd rfl rfl hlen hdg (fun H1 locs1 hP1 _ hS1 => kk H1 locs1 _ rfl (by rw [hset] at hP1; exact hP1) hS1)
theorem r_cpy {𝓦 : St → va_W} {index : Nat} (C : bC D E own cc nL ret p s m args meth c) (hP : va_P D vwCl (𝓦 S) H) (hD : va_D A (𝓦 S)) (hS : va_S A s.heap H locs) (hls : ls.size = nL) (hlink : Cond.methodLink own index arraycopyName ∈ bBig) (hnat : Cond.native arraycopyName ∈ bBig) (hstat : Cond.static arraycopyName ∈ bBig) (hini : Cond.initialized "java/lang/System" ∈ bBig)
    (q0 q1 : Nat) {a0 a1 n0 n1 : Nat} (ha0 : (𝓦 S)[q0]? = some (a0, .inl (E.1, n0, .inl (S q0)))) (ha1 : (𝓦 S)[q1]? = some (a1, .inl (E.1, n1, .inl (S q1)))) (hset : ∀ f, (𝓦 S).set q1 (a1, .inl (E.1, n1, .inl f)) = 𝓦 (str S q1 f))
    {n : Int32} (h3 : ¬ n < 0) (h4 : n.toNatClampNeg ≤ n0) (h5 : n.toNatClampNeg ≤ n1) (hfr : 1 ≤ R.frames) (hlo : (rest.map fun v => v.category).sum + (nativeFrameWords "java/lang/System" "arraycopy" 5 + 11) ≤ R.locals) (hdg : decode cc pc = .ok (.invokestatic index, 3))
    (kk : ∀ (H1 : Heap) (locs1 : List Loc) (S1 : St), S1 = str S q1 (va_cpy (S q0) (S q1) 0 0 n.toNatClampNeg) → va_P D vwCl (𝓦 S1) H1 → va_S A s.heap H1 locs1 → W p l e R s m args below meth c H1 locs1 cells slots Q (F0 m (pc + 3) ls rest)) : W p l e R s m args below meth c H locs cells slots Q (F0 m pc ls (.int n :: .int 0 :: .ref a1 :: .int 0 :: .ref a0 :: rest)) := by
  obtain ⟨hx, hb, hml, hown, hts, hK, hr, hlocks⟩ := C
  exact va_copyi hx hb (hml.trans hls.symm) hown (hts _ hlink) (hts _ hnat) (hts _ hstat) (hts _ hini) hK.1 hP hD hS q0 q1 0 0 (ty := .int) ha0 ha1 rfl rfl rfl (by decide) (by decide) h3 (by rw [show (0 : Int32).toNatClampNeg = 0 from rfl, Nat.zero_add]; exact h4) (by rw [show (0 : Int32).toNatClampNeg = 0 from rfl, Nat.zero_add]; exact h5) (fun _ _ => rfl) hfr hlo hdg (fun H1 locs1 hP1 _ hS1 => kk H1 locs1 _ rfl (by rw [hset] at hP1; exact hP1) hS1)
end BR
end
section
/-! calls -/
abbrev okD (y : MethodName) (n : Nat) : Prop := y.cls ≠ "java/lang/invoke/MethodHandle" ∧ y.cls ≠ "java/lang/invoke/VarHandle" ∧ (parseMethodDescriptor y.desc).map (fun d => d.parameters.length) = some n
def okS (y : MethodName) (cc : ByteArray) (nL : Nat) (ret : Option FieldType) (n : Nat) : Prop := Cond.code y cc nL ret ∈ bBig ∧ Cond.static y ∈ bBig ∧ Cond.initialized y.cls ∈ bBig ∧ okD y n
def okV (y : MethodName) (cc : ByteArray) (nL : Nat) (ret : Option FieldType) (n : Nat) : Prop := Cond.code y cc nL ret ∈ bBig ∧ Cond.instanceMethod y ∈ bBig ∧ Cond.selects y.cls y y ∈ bBig ∧ Cond.initialized y.cls ∈ bBig ∧ okD y n
section BCa
variable {p : Program} {l : Launch} {e : Env} {R : Room} {s : State} {m : MethodId} {args : Array Value} {below : List Frame} {meth : Method} {c : Code} {H : Heap} {locs : List Loc} {cells slots : Nat} {Q : State → Prop}
variable {cc : ByteArray} {pc nL : Nat} {ls : Array Slot} {rest st0 : List Value} {D : va_G} {E : bE} {A : Nat → Prop} {ws ws' : va_W} {own : String} {ret : Option FieldType} {r : Int32}
variable {y : MethodName} {bytes : ByteArray} {maxL n fr lo index : Nat} {ret' : Option FieldType} {As : List Value} {b : Nat}
theorem r_csi {post : Int32 → Prop} {av : Array Value} {free : Addr → Prop} (hr : va_Run p l e R s m args below meth c H locs cells slots 0 0 (F0 m pc ls st0) rest (vp_Si post av) (fun _ => False))
    (kk : ∀ r : Int32, post r → W p l e R s m args below meth c H locs cells slots Q (F0 m (pc + 3) ls (.int r :: rest))) : W p l e R s m args below meth c H locs cells slots Q (F0 m pc ls st0) := by
  intro T hT X
  obtain ⟨v, st₀, t, T', L, h0, X', hL, e1, -, ⟨r, hv, hp, hh⟩, st⟩ := hr T hT X
  cases hv
  obtain ⟨t2, a1, b1⟩ := kk r hp T' (by rw [e1, hh, h0]) (Stand.forget X' (fun q h => (hL q h).elim))
  exact ⟨t2, st t2 a1, b1⟩
theorem bBlindS {D : va_G} {E : bE} {av : List Value} : FrameBlind (va_Pc av (fun U => bPre D E U)) := fun a U g mk q => ⟨q.1, bPre.same (s := U) (U := U.calling g mk a) rfl q.2⟩
theorem bBlindR {D : va_G} {E : bE} {av : List Value} {ws : va_W} : FrameBlind (va_Pc av (fun U => va_P D vwCl ws U.heap ∧ bPre D E U)) := fun a U g mk q => ⟨q.1, q.2.1, bPre.same (s := U) (U := U.calling g mk a) rfl q.2.2⟩
theorem r_callS (C : bC D E own cc nL ret p s m args meth c) (hM : cS l D E y bytes maxL ret' fr lo As r) (ho : okS y bytes maxL ret' n) (hlink : Cond.methodLink own index y ∈ bBig) (hR : fr + 1 ≤ R.frames ∧ 8 + (maxL + 11) + lo ≤ R.locals) (hn : As.length = n) (hls : ls.size = nL) (hst : st0 = As.reverse ++ rest) (hcat : (rest.map fun v => v.category).sum ≤ 8) (hdg : decode cc pc = .ok (.invokestatic index, 3)) (hcs : cells ≤ R.cells ∧ slots ≤ R.slots)
    (kk : W p l e R s m args below meth c H locs cells slots Q (F0 m (pc + 3) ls (.int r :: rest))) : W p l e R s m args below meth c H locs cells slots Q (F0 m pc ls st0) := by
  obtain ⟨hx, hb, hml, hown, hts, hK, hr, hlocks⟩ := C
  obtain ⟨ho1, ho2, ho3, ho4⟩ := ho
  refine r_csi (free := fun _ => False) (va_runS (As := As) (rest := rest) ⟨hx, hb, hml, hown, hts⟩ hM ⟨callB_of n hts (bGoodIn (fun _ h => h) ho1) rfl rfl rfl (hts _ ho3) (hts _ hlink) ho4 hR, hts _ ho2⟩ ⟨bBlindS, fun U hU hW => ⟨rfl, bPre.warm hW hK⟩⟩ rfl hn hls hst (lv_room hcat) hdg ⟨hcs.1, hcs.2⟩) (fun r' hr' => ?_)
  rw [hr']; exact kk
theorem r_callSN {host : String} (C : bC D E own cc nL ret p s m args meth c) (hM : cS l D E y bytes maxL ret' fr lo As r) (ho : okS y bytes maxL ret' n) (hlink : Cond.methodLinkNest own index y host ∈ bNest) (hR : fr + 1 ≤ R.frames ∧ 8 + (maxL + 11) + lo ≤ R.locals) (hn : As.length = n) (hls : ls.size = nL) (hst : st0 = As.reverse ++ rest) (hcat : (rest.map fun v => v.category).sum ≤ 8) (hdg : decode cc pc = .ok (.invokestatic index, 3)) (hcs : cells ≤ R.cells ∧ slots ≤ R.slots)
    (kk : W p l e R s m args below meth c H locs cells slots Q (F0 m (pc + 3) ls (.int r :: rest))) : W p l e R s m args below meth c H locs cells slots Q (F0 m pc ls st0) := by
  obtain ⟨hx, hb, hml, hown, hts, hK, hr, hlocks⟩ := C
  obtain ⟨ho1, ho2, ho3, ho4⟩ := ho
  refine r_csi (free := fun _ => False) (va_runSN (As := As) (rest := rest) ⟨hx, hb, hml, hown, hts⟩ hM ⟨va_cnB n hts (bGoodIn (fun _ h => h) ho1) rfl rfl rfl (hK.2 _ hlink) (hts _ ho3) ho4 hR, hts _ ho2, trivial⟩ ⟨bBlindS, fun U hU hW => ⟨rfl, bPre.warm hW hK⟩⟩ rfl hn hls hst (lv_room hcat) hdg ⟨hcs.1, hcs.2⟩) (fun r' hr' => ?_)
  rw [hr']; exact kk
theorem bRecv {q : vw_C} {q0 ci : Nat} {fs : List Value} (hK : bPre D E s) (hP : va_P D vwCl ws H) (he : ws[q0]? = some (b, .inr (ci, fs))) (hc : vwCl[ci]? = some q) (hq : q.1 = y.cls) : ∃ cellB : Cell, H[b]? = some cellB ∧ cellB.vm.isStatics = false ∧ s.vm.findClass y.cls = some cellB.cls := by
  rw [← hq]; exact va_recv hK.1 hP hc he
theorem bCallW (hts : ∀ w ∈ bBig, w.before args s = true) (ho : okV y bytes maxL ret' n) (hlink : Cond.methodLink own index y ∈ bBig) (hR : fr + 1 ≤ R.frames ∧ 8 + (maxL + 11) + lo ≤ R.locals) : CallW R s args own y.cls index y bytes maxL ret' (.code y bytes maxL ret' :: bBig) (bRm fr lo) 0 0 n := by
  obtain ⟨ho1, ho2, ho3, ho4, ho5⟩ := ho
  exact ⟨callB_of n hts (bGoodIn (fun _ h => h) ho1) rfl rfl rfl (hts _ ho4) (hts _ hlink) ho5 hR, hts _ ho2, hts _ ho3⟩
theorem r_callR {q : vw_C} {q0 ci : Nat} {fs : List Value} (C : bC D E own cc nL ret p s m args meth c) (hP : va_P D vwCl ws H) (hM : cR l D E y bytes maxL ret' fr lo ws (.ref b :: As) r) (ho : okV y bytes maxL ret' n) (hlink : Cond.methodLink own index y ∈ bBig) (he : ws[q0]? = some (b, .inr (ci, fs))) (hc : vwCl[ci]? = some q) (hq : q.1 = y.cls) (hR : fr + 1 ≤ R.frames ∧ 8 + (maxL + 11) + lo ≤ R.locals) (hn : As.length = n) (hls : ls.size = nL) (hst : st0 = As.reverse ++ .ref b :: rest) (hcat : (rest.map fun v => v.category).sum ≤ 8) (hdg : decode cc pc = .ok (.invokevirtual index, 3)) (hcs : cells ≤ R.cells ∧ slots ≤ R.slots)
    (kk : W p l e R s m args below meth c H locs cells slots Q (F0 m (pc + 3) ls (.int r :: rest))) : W p l e R s m args below meth c H locs cells slots Q (F0 m pc ls st0) := by
  obtain ⟨hx, hb, hml, hown, hts, hK, hr, hlocks⟩ := C
  refine r_csi (free := fun _ => False) (va_runV (As := As) (rest := rest) ⟨hx, hb, hml, hown, hts⟩ hM (bCallW hts ho hlink hR) ⟨bBlindR, bRecv hK hP he hc hq, fun U hU hW => ⟨rfl, by rw [hU]; exact hP, bPre.warm hW hK⟩⟩ rfl hn hls hst (lv_room hcat) hdg ⟨hcs.1, hcs.2⟩) (fun r' hr' => ?_)
  rw [hr']; exact kk
theorem r_callU {q : vw_C} {q0 ci : Nat} {fs : List Value} (C : bC D E own cc nL ret p s m args meth c) (hP : va_P D vwCl ws H) (hS : va_S A s.heap H locs) (hM : cU l D E y bytes maxL ret' fr lo A ws ws' (.ref b :: As) r) (ho : okV y bytes maxL ret' n) (hlink : Cond.methodLink own index y ∈ bBig) (he : ws[q0]? = some (b, .inr (ci, fs))) (hc : vwCl[ci]? = some q) (hq : q.1 = y.cls) (hR : fr + 1 ≤ R.frames ∧ 8 + (maxL + 11) + lo ≤ R.locals) (hn : As.length = n) (hls : ls.size = nL) (hst : st0 = As.reverse ++ .ref b :: rest) (hcat : (rest.map fun v => v.category).sum ≤ 8) (hdg : decode cc pc = .ok (.invokevirtual index, 3)) (hcs : cells ≤ R.cells ∧ slots ≤ R.slots)
    (kk : ∀ (H1 : Heap) (locs1 : List Loc), va_P D vwCl ws' H1 → va_S A s.heap H1 locs1 → W p l e R s m args below meth c H1 locs1 cells slots Q (F0 m (pc + 3) ls (.int r :: rest))) : W p l e R s m args below meth c H locs cells slots Q (F0 m pc ls st0) := by
  obtain ⟨hx, hb, hml, hown, hts, hK, hr, hlocks⟩ := C
  refine va_calli (va_runV (As := As) (rest := rest) ⟨hx, hb, hml, hown, hts⟩ hM (bCallW hts ho hlink hR) ⟨bBlindR, bRecv hK hP he hc hq, fun U hU hW => ⟨rfl, by rw [hU]; exact hP, bPre.warm hW hK⟩⟩ rfl hn hls hst (lv_room hcat) hdg ⟨hcs.1, hcs.2⟩) hS (fun _ _ h => h) (fun _ h => h) (fun r' u t H1 locs1 ht hvm hw hB hz1 hk1 hS1 => ?_)
  rw [hw]; exact kk H1 locs1 (by rw [← ht]; exact hB) hS1
theorem r_callV {q : vw_C} {q0 ci : Nat} {fs : List Value} (C : bC D E own cc nL ret p s m args meth c) (hP : va_P D vwCl ws H) (hS : va_S A s.heap H locs) (hM : cV l D E y bytes maxL fr lo A ws ws' (.ref b :: As)) (ho : okV y bytes maxL none n) (hlink : Cond.methodLink own index y ∈ bBig) (he : ws[q0]? = some (b, .inr (ci, fs))) (hc : vwCl[ci]? = some q) (hq : q.1 = y.cls) (hR : fr + 1 ≤ R.frames ∧ 8 + (maxL + 11) + lo ≤ R.locals) (hn : As.length = n) (hls : ls.size = nL) (hst : st0 = As.reverse ++ .ref b :: rest) (hcat : (rest.map fun v => v.category).sum ≤ 8) (hdg : decode cc pc = .ok (.invokevirtual index, 3)) (hcs : cells ≤ R.cells ∧ slots ≤ R.slots)
    (kk : ∀ (H1 : Heap) (locs1 : List Loc), va_P D vwCl ws' H1 → va_S A s.heap H1 locs1 → W p l e R s m args below meth c H1 locs1 cells slots Q (F0 m (pc + 3) ls rest)) : W p l e R s m args below meth c H locs cells slots Q (F0 m pc ls st0) := by
  obtain ⟨hx, hb, hml, hown, hts, hK, hr, hlocks⟩ := C
  refine va_callv (va_runV (As := As) (rest := rest) ⟨hx, hb, hml, hown, hts⟩ hM (bCallW hts ho hlink hR) ⟨bBlindR, bRecv hK hP he hc hq, fun U hU hW => ⟨rfl, by rw [hU]; exact hP, bPre.warm hW hK⟩⟩ rfl hn hls hst (lv_room hcat) hdg ⟨hcs.1, hcs.2⟩) hS (fun _ _ h => h) (fun _ h => h) (fun u t H1 locs1 ht hvm hw hB hz1 hk1 hS1 => ?_)
  exact kk H1 locs1 (by rw [← ht]; exact hB) hS1
end BCa
end
section
theorem i_vc : Claimed_1_1 ∧ Claimed_1_2 := sorry
end
