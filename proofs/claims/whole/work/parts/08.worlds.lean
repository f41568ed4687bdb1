/-! the two worlds, their cells by place, and what a store makes of them -/
def a26 (a : Nat → Nat) (f : Int32) : Nat := if f = 0 then a 26 else a 27
def a27 (a : Nat → Nat) (f : Int32) : Nat := if f = 0 then a 27 else a 26
def im (a : Nat → Nat) : Nat → Option Nat := fun j => if j = 0 then some (a 29) else some (a 30)
def aA (n : Nat) (a : Nat → Nat) : Nat → Prop := fun q => ∃ k, k < n ∧ q = a k
def aI (n : Nat) (a : Nat → Nat) : Prop := ∀ i j, i < n → j < n → a i = a j → i = j
def Wm (E : bE) (a : Nat → Nat) (S : St) : va_W := [((a 0), .inr (5, [.int (S 0 0), .ref (a 1), .ref (a 2), .ref (a 3), .ref (a 4), .ref (a 5), .ref (a 6), .ref (a 7), .int (S 0 8), .int (S 0 9), .int (S 0 10), .int (S 0 11), .int (S 0 12), .ref (a 8), .ref (a 9), .int (S 0 15), .ref (a 10), .ref (a 11), .int (S 0 18), .int (S 0 19), .ref (a 12), .ref (a 13), .ref (a 14), .ref (a 15), .ref (a 16), .ref (a 17)])), ((a 1), .inl (E.1, 20, .inl (S 1))), ((a 2), .inl (E.1, 5, .inl (S 2))), ((a 3), .inl (E.1, 5, .inl (S 3))), ((a 4), .inl (E.1, 5, .inl (S 4))), ((a 5), .inl (E.1, 5, .inl (S 5))), ((a 6), .inl (E.1, 24, .inl (S 6))), ((a 7), .inl (E.1, 36, .inl (S 7))), ((a 8), .inl (E.1, 4, .inl (S 8))), ((a 9), .inl (E.1, 6, .inl (S 9))), ((a 10), .inl (E.1, 6, .inl (S 10))), ((a 11), .inl (E.1, 6, .inl (S 11))), ((a 12), .inl (E.1, 36, .inl (S 12))), ((a 13), .inl (E.1, 6, .inl (S 13))), ((a 14), .inl (E.1, 6, .inl (S 14))), ((a 15), .inl (E.1, 6, .inl (S 15))), ((a 16), .inl (E.1, 164, .inl (S 16))), ((a 17), .inl (E.2.1, 2, .inl (S 17)))]
section WmR
variable {E : bE} {a : Nat → Nat} {S : St}
theorem wm0 : (Wm E a S)[0]? = some ((a 0), .inr (5, [.int (S 0 0), .ref (a 1), .ref (a 2), .ref (a 3), .ref (a 4), .ref (a 5), .ref (a 6), .ref (a 7), .int (S 0 8), .int (S 0 9), .int (S 0 10), .int (S 0 11), .int (S 0 12), .ref (a 8), .ref (a 9), .int (S 0 15), .ref (a 10), .ref (a 11), .int (S 0 18), .int (S 0 19), .ref (a 12), .ref (a 13), .ref (a 14), .ref (a 15), .ref (a 16), .ref (a 17)])) := rfl
theorem wm0p0 (v : Int32) : (Wm E a S).set 0 ((a 0), .inr (5, ([.int (S 0 0), .ref (a 1), .ref (a 2), .ref (a 3), .ref (a 4), .ref (a 5), .ref (a 6), .ref (a 7), .int (S 0 8), .int (S 0 9), .int (S 0 10), .int (S 0 11), .int (S 0 12), .ref (a 8), .ref (a 9), .int (S 0 15), .ref (a 10), .ref (a 11), .int (S 0 18), .int (S 0 19), .ref (a 12), .ref (a 13), .ref (a 14), .ref (a 15), .ref (a 16), .ref (a 17)] : List Value).set 0 (.int v))) = Wm E a (sto S 0 0 v) := rfl
theorem wm0p8 (v : Int32) : (Wm E a S).set 0 ((a 0), .inr (5, ([.int (S 0 0), .ref (a 1), .ref (a 2), .ref (a 3), .ref (a 4), .ref (a 5), .ref (a 6), .ref (a 7), .int (S 0 8), .int (S 0 9), .int (S 0 10), .int (S 0 11), .int (S 0 12), .ref (a 8), .ref (a 9), .int (S 0 15), .ref (a 10), .ref (a 11), .int (S 0 18), .int (S 0 19), .ref (a 12), .ref (a 13), .ref (a 14), .ref (a 15), .ref (a 16), .ref (a 17)] : List Value).set 8 (.int v))) = Wm E a (sto S 0 8 v) := rfl
theorem wm0p9 (v : Int32) : (Wm E a S).set 0 ((a 0), .inr (5, ([.int (S 0 0), .ref (a 1), .ref (a 2), .ref (a 3), .ref (a 4), .ref (a 5), .ref (a 6), .ref (a 7), .int (S 0 8), .int (S 0 9), .int (S 0 10), .int (S 0 11), .int (S 0 12), .ref (a 8), .ref (a 9), .int (S 0 15), .ref (a 10), .ref (a 11), .int (S 0 18), .int (S 0 19), .ref (a 12), .ref (a 13), .ref (a 14), .ref (a 15), .ref (a 16), .ref (a 17)] : List Value).set 9 (.int v))) = Wm E a (sto S 0 9 v) := rfl
theorem wm0p10 (v : Int32) : (Wm E a S).set 0 ((a 0), .inr (5, ([.int (S 0 0), .ref (a 1), .ref (a 2), .ref (a 3), .ref (a 4), .ref (a 5), .ref (a 6), .ref (a 7), .int (S 0 8), .int (S 0 9), .int (S 0 10), .int (S 0 11), .int (S 0 12), .ref (a 8), .ref (a 9), .int (S 0 15), .ref (a 10), .ref (a 11), .int (S 0 18), .int (S 0 19), .ref (a 12), .ref (a 13), .ref (a 14), .ref (a 15), .ref (a 16), .ref (a 17)] : List Value).set 10 (.int v))) = Wm E a (sto S 0 10 v) := rfl
theorem wm0p11 (v : Int32) : (Wm E a S).set 0 ((a 0), .inr (5, ([.int (S 0 0), .ref (a 1), .ref (a 2), .ref (a 3), .ref (a 4), .ref (a 5), .ref (a 6), .ref (a 7), .int (S 0 8), .int (S 0 9), .int (S 0 10), .int (S 0 11), .int (S 0 12), .ref (a 8), .ref (a 9), .int (S 0 15), .ref (a 10), .ref (a 11), .int (S 0 18), .int (S 0 19), .ref (a 12), .ref (a 13), .ref (a 14), .ref (a 15), .ref (a 16), .ref (a 17)] : List Value).set 11 (.int v))) = Wm E a (sto S 0 11 v) := rfl
theorem wm0p12 (v : Int32) : (Wm E a S).set 0 ((a 0), .inr (5, ([.int (S 0 0), .ref (a 1), .ref (a 2), .ref (a 3), .ref (a 4), .ref (a 5), .ref (a 6), .ref (a 7), .int (S 0 8), .int (S 0 9), .int (S 0 10), .int (S 0 11), .int (S 0 12), .ref (a 8), .ref (a 9), .int (S 0 15), .ref (a 10), .ref (a 11), .int (S 0 18), .int (S 0 19), .ref (a 12), .ref (a 13), .ref (a 14), .ref (a 15), .ref (a 16), .ref (a 17)] : List Value).set 12 (.int v))) = Wm E a (sto S 0 12 v) := rfl
theorem wm0p15 (v : Int32) : (Wm E a S).set 0 ((a 0), .inr (5, ([.int (S 0 0), .ref (a 1), .ref (a 2), .ref (a 3), .ref (a 4), .ref (a 5), .ref (a 6), .ref (a 7), .int (S 0 8), .int (S 0 9), .int (S 0 10), .int (S 0 11), .int (S 0 12), .ref (a 8), .ref (a 9), .int (S 0 15), .ref (a 10), .ref (a 11), .int (S 0 18), .int (S 0 19), .ref (a 12), .ref (a 13), .ref (a 14), .ref (a 15), .ref (a 16), .ref (a 17)] : List Value).set 15 (.int v))) = Wm E a (sto S 0 15 v) := rfl
theorem wm0p18 (v : Int32) : (Wm E a S).set 0 ((a 0), .inr (5, ([.int (S 0 0), .ref (a 1), .ref (a 2), .ref (a 3), .ref (a 4), .ref (a 5), .ref (a 6), .ref (a 7), .int (S 0 8), .int (S 0 9), .int (S 0 10), .int (S 0 11), .int (S 0 12), .ref (a 8), .ref (a 9), .int (S 0 15), .ref (a 10), .ref (a 11), .int (S 0 18), .int (S 0 19), .ref (a 12), .ref (a 13), .ref (a 14), .ref (a 15), .ref (a 16), .ref (a 17)] : List Value).set 18 (.int v))) = Wm E a (sto S 0 18 v) := rfl
theorem wm0p19 (v : Int32) : (Wm E a S).set 0 ((a 0), .inr (5, ([.int (S 0 0), .ref (a 1), .ref (a 2), .ref (a 3), .ref (a 4), .ref (a 5), .ref (a 6), .ref (a 7), .int (S 0 8), .int (S 0 9), .int (S 0 10), .int (S 0 11), .int (S 0 12), .ref (a 8), .ref (a 9), .int (S 0 15), .ref (a 10), .ref (a 11), .int (S 0 18), .int (S 0 19), .ref (a 12), .ref (a 13), .ref (a 14), .ref (a 15), .ref (a 16), .ref (a 17)] : List Value).set 19 (.int v))) = Wm E a (sto S 0 19 v) := rfl
theorem wm1 : (Wm E a S)[1]? = some ((a 1), .inl (E.1, 20, .inl (S 1))) := rfl
theorem wm1s (f : Nat → Int32) : (Wm E a S).set 1 ((a 1), .inl (E.1, 20, .inl f)) = Wm E a (str S 1 f) := rfl
theorem wm2 : (Wm E a S)[2]? = some ((a 2), .inl (E.1, 5, .inl (S 2))) := rfl
theorem wm2s (f : Nat → Int32) : (Wm E a S).set 2 ((a 2), .inl (E.1, 5, .inl f)) = Wm E a (str S 2 f) := rfl
theorem wm3 : (Wm E a S)[3]? = some ((a 3), .inl (E.1, 5, .inl (S 3))) := rfl
theorem wm3s (f : Nat → Int32) : (Wm E a S).set 3 ((a 3), .inl (E.1, 5, .inl f)) = Wm E a (str S 3 f) := rfl
theorem wm4 : (Wm E a S)[4]? = some ((a 4), .inl (E.1, 5, .inl (S 4))) := rfl
theorem wm4s (f : Nat → Int32) : (Wm E a S).set 4 ((a 4), .inl (E.1, 5, .inl f)) = Wm E a (str S 4 f) := rfl
theorem wm5 : (Wm E a S)[5]? = some ((a 5), .inl (E.1, 5, .inl (S 5))) := rfl
theorem wm5s (f : Nat → Int32) : (Wm E a S).set 5 ((a 5), .inl (E.1, 5, .inl f)) = Wm E a (str S 5 f) := rfl
theorem wm6 : (Wm E a S)[6]? = some ((a 6), .inl (E.1, 24, .inl (S 6))) := rfl
theorem wm6s (f : Nat → Int32) : (Wm E a S).set 6 ((a 6), .inl (E.1, 24, .inl f)) = Wm E a (str S 6 f) := rfl
theorem wm7 : (Wm E a S)[7]? = some ((a 7), .inl (E.1, 36, .inl (S 7))) := rfl
theorem wm7s (f : Nat → Int32) : (Wm E a S).set 7 ((a 7), .inl (E.1, 36, .inl f)) = Wm E a (str S 7 f) := rfl
theorem wm8 : (Wm E a S)[8]? = some ((a 8), .inl (E.1, 4, .inl (S 8))) := rfl
theorem wm8s (f : Nat → Int32) : (Wm E a S).set 8 ((a 8), .inl (E.1, 4, .inl f)) = Wm E a (str S 8 f) := rfl
theorem wm9 : (Wm E a S)[9]? = some ((a 9), .inl (E.1, 6, .inl (S 9))) := rfl
theorem wm9s (f : Nat → Int32) : (Wm E a S).set 9 ((a 9), .inl (E.1, 6, .inl f)) = Wm E a (str S 9 f) := rfl
theorem wm10 : (Wm E a S)[10]? = some ((a 10), .inl (E.1, 6, .inl (S 10))) := rfl
theorem wm10s (f : Nat → Int32) : (Wm E a S).set 10 ((a 10), .inl (E.1, 6, .inl f)) = Wm E a (str S 10 f) := rfl
theorem wm11 : (Wm E a S)[11]? = some ((a 11), .inl (E.1, 6, .inl (S 11))) := rfl
theorem wm11s (f : Nat → Int32) : (Wm E a S).set 11 ((a 11), .inl (E.1, 6, .inl f)) = Wm E a (str S 11 f) := rfl
theorem wm12 : (Wm E a S)[12]? = some ((a 12), .inl (E.1, 36, .inl (S 12))) := rfl
theorem wm12s (f : Nat → Int32) : (Wm E a S).set 12 ((a 12), .inl (E.1, 36, .inl f)) = Wm E a (str S 12 f) := rfl
theorem wm13 : (Wm E a S)[13]? = some ((a 13), .inl (E.1, 6, .inl (S 13))) := rfl
theorem wm13s (f : Nat → Int32) : (Wm E a S).set 13 ((a 13), .inl (E.1, 6, .inl f)) = Wm E a (str S 13 f) := rfl
theorem wm14 : (Wm E a S)[14]? = some ((a 14), .inl (E.1, 6, .inl (S 14))) := rfl
theorem wm14s (f : Nat → Int32) : (Wm E a S).set 14 ((a 14), .inl (E.1, 6, .inl f)) = Wm E a (str S 14 f) := rfl
theorem wm15 : (Wm E a S)[15]? = some ((a 15), .inl (E.1, 6, .inl (S 15))) := rfl
theorem wm15s (f : Nat → Int32) : (Wm E a S).set 15 ((a 15), .inl (E.1, 6, .inl f)) = Wm E a (str S 15 f) := rfl
theorem wm16 : (Wm E a S)[16]? = some ((a 16), .inl (E.1, 164, .inl (S 16))) := rfl
theorem wm16s (f : Nat → Int32) : (Wm E a S).set 16 ((a 16), .inl (E.1, 164, .inl f)) = Wm E a (str S 16 f) := rfl
theorem wm17 : (Wm E a S)[17]? = some ((a 17), .inl (E.2.1, 2, .inl (S 17))) := rfl
theorem wm17s (f : Nat → Int32) : (Wm E a S).set 17 ((a 17), .inl (E.2.1, 2, .inl f)) = Wm E a (str S 17 f) := rfl
end WmR
def Wu (E : bE) (a : Nat → Nat) (S : St) : va_W := [((a 0), .inr (4, [.ref (a 1), .ref (a 3), .ref (a 2), .ref (a 4), .ref (a 5), .ref (a 6), .ref (a 7)])), ((a 1), .inr (2, [.ref (a 8), .int (S 1 1), .int (S 1 2), .int (S 1 3), .int (S 1 4)])), ((a 2), .inr (0, [.ref (a 9), .ref (a 10), .ref (a 11), .ref (a 12), .ref (a 13), .ref (a 14), .ref (a 15), .ref (a 16), .ref (a 17), .int (S 2 9), .int (S 2 10)])), ((a 3), .inr (3, [.ref (a 2), .ref (a 18), .ref (a 19), .ref (a 20), .int (S 3 4), .int (S 3 5), .ref (a 21), .ref (a 22), .ref (a 23), .ref (a 24), .ref (a 25), .ref (a26 a (S 3 11)), .ref (a27 a (S 3 11))])), ((a 4), .inr (1, [.ref (a 28), .int (S 4 1), .int (S 4 2)])), ((a 5), .inl (E.2.2, 2, .inr (.inr (.inr (.inr (im a)))))), ((a 6), .inl (E.2.1, 2, .inl (S 6))), ((a 7), .inl (E.1, 6, .inl (S 7))), ((a 8), .inl (E.1, 20, .inl (S 8))), ((a 9), .inl (E.1, 5, .inl (S 9))), ((a 10), .inl (E.1, 5, .inl (S 10))), ((a 11), .inl (E.1, 5, .inl (S 11))), ((a 12), .inl (E.1, 5, .inl (S 12))), ((a 13), .inl (E.1, 6, .inl (S 13))), ((a 14), .inl (E.1, 6, .inl (S 14))), ((a 15), .inl (E.1, 6, .inl (S 15))), ((a 16), .inl (E.1, 6, .inl (S 16))), ((a 17), .inl (E.1, 36, .inl (S 17))), ((a 18), .inl (E.1, 6, .inl (S 18))), ((a 19), .inl (E.1, 6, .inl (S 19))), ((a 20), .inl (E.1, 6, .inl (S 20))), ((a 21), .inl (E.1, 36, .inl (S 21))), ((a 22), .inl (E.1, 30, .inl (S 22))), ((a 23), .inl (E.1, 30, .inl (S 23))), ((a 24), .inl (E.1, 4, .inl (S 24))), ((a 25), .inl (E.1, 6, .inl (S 25))), ((a26 a (S 3 11)), .inl (E.1, 32, .inl (S 26))), ((a27 a (S 3 11)), .inl (E.1, 32, .inl (S 27))), ((a 28), .inl (E.1, 6, .inl (S 28))), ((a 29), .inr (0, [.ref (a 31), .ref (a 32), .ref (a 33), .ref (a 34), .ref (a 35), .ref (a 36), .ref (a 37), .ref (a 38), .ref (a 39), .int (S 29 9), .int (S 29 10)])), ((a 30), .inr (0, [.ref (a 40), .ref (a 41), .ref (a 42), .ref (a 43), .ref (a 44), .ref (a 45), .ref (a 46), .ref (a 47), .ref (a 48), .int (S 30 9), .int (S 30 10)])), ((a 31), .inl (E.1, 5, .inl (S 31))), ((a 32), .inl (E.1, 5, .inl (S 32))), ((a 33), .inl (E.1, 5, .inl (S 33))), ((a 34), .inl (E.1, 5, .inl (S 34))), ((a 35), .inl (E.1, 6, .inl (S 35))), ((a 36), .inl (E.1, 6, .inl (S 36))), ((a 37), .inl (E.1, 6, .inl (S 37))), ((a 38), .inl (E.1, 6, .inl (S 38))), ((a 39), .inl (E.1, 36, .inl (S 39))), ((a 40), .inl (E.1, 5, .inl (S 40))), ((a 41), .inl (E.1, 5, .inl (S 41))), ((a 42), .inl (E.1, 5, .inl (S 42))), ((a 43), .inl (E.1, 5, .inl (S 43))), ((a 44), .inl (E.1, 6, .inl (S 44))), ((a 45), .inl (E.1, 6, .inl (S 45))), ((a 46), .inl (E.1, 6, .inl (S 46))), ((a 47), .inl (E.1, 6, .inl (S 47))), ((a 48), .inl (E.1, 36, .inl (S 48)))]
section WuR
variable {E : bE} {a : Nat → Nat} {S : St}
theorem wu0 : (Wu E a S)[0]? = some ((a 0), .inr (4, [.ref (a 1), .ref (a 3), .ref (a 2), .ref (a 4), .ref (a 5), .ref (a 6), .ref (a 7)])) := rfl
theorem wu1 : (Wu E a S)[1]? = some ((a 1), .inr (2, [.ref (a 8), .int (S 1 1), .int (S 1 2), .int (S 1 3), .int (S 1 4)])) := rfl
theorem wu1p1 (v : Int32) : (Wu E a S).set 1 ((a 1), .inr (2, ([.ref (a 8), .int (S 1 1), .int (S 1 2), .int (S 1 3), .int (S 1 4)] : List Value).set 1 (.int v))) = Wu E a (sto S 1 1 v) := rfl
theorem wu1p2 (v : Int32) : (Wu E a S).set 1 ((a 1), .inr (2, ([.ref (a 8), .int (S 1 1), .int (S 1 2), .int (S 1 3), .int (S 1 4)] : List Value).set 2 (.int v))) = Wu E a (sto S 1 2 v) := rfl
theorem wu1p3 (v : Int32) : (Wu E a S).set 1 ((a 1), .inr (2, ([.ref (a 8), .int (S 1 1), .int (S 1 2), .int (S 1 3), .int (S 1 4)] : List Value).set 3 (.int v))) = Wu E a (sto S 1 3 v) := rfl
theorem wu1p4 (v : Int32) : (Wu E a S).set 1 ((a 1), .inr (2, ([.ref (a 8), .int (S 1 1), .int (S 1 2), .int (S 1 3), .int (S 1 4)] : List Value).set 4 (.int v))) = Wu E a (sto S 1 4 v) := rfl
theorem wu2 : (Wu E a S)[2]? = some ((a 2), .inr (0, [.ref (a 9), .ref (a 10), .ref (a 11), .ref (a 12), .ref (a 13), .ref (a 14), .ref (a 15), .ref (a 16), .ref (a 17), .int (S 2 9), .int (S 2 10)])) := rfl
theorem wu2p9 (v : Int32) : (Wu E a S).set 2 ((a 2), .inr (0, ([.ref (a 9), .ref (a 10), .ref (a 11), .ref (a 12), .ref (a 13), .ref (a 14), .ref (a 15), .ref (a 16), .ref (a 17), .int (S 2 9), .int (S 2 10)] : List Value).set 9 (.int v))) = Wu E a (sto S 2 9 v) := rfl
theorem wu2p10 (v : Int32) : (Wu E a S).set 2 ((a 2), .inr (0, ([.ref (a 9), .ref (a 10), .ref (a 11), .ref (a 12), .ref (a 13), .ref (a 14), .ref (a 15), .ref (a 16), .ref (a 17), .int (S 2 9), .int (S 2 10)] : List Value).set 10 (.int v))) = Wu E a (sto S 2 10 v) := rfl
theorem wu3 : (Wu E a S)[3]? = some ((a 3), .inr (3, [.ref (a 2), .ref (a 18), .ref (a 19), .ref (a 20), .int (S 3 4), .int (S 3 5), .ref (a 21), .ref (a 22), .ref (a 23), .ref (a 24), .ref (a 25), .ref (a26 a (S 3 11)), .ref (a27 a (S 3 11))])) := rfl
theorem wu3p4 (v : Int32) : (Wu E a S).set 3 ((a 3), .inr (3, ([.ref (a 2), .ref (a 18), .ref (a 19), .ref (a 20), .int (S 3 4), .int (S 3 5), .ref (a 21), .ref (a 22), .ref (a 23), .ref (a 24), .ref (a 25), .ref (a26 a (S 3 11)), .ref (a27 a (S 3 11))] : List Value).set 4 (.int v))) = Wu E a (sto S 3 4 v) := rfl
theorem wu3p5 (v : Int32) : (Wu E a S).set 3 ((a 3), .inr (3, ([.ref (a 2), .ref (a 18), .ref (a 19), .ref (a 20), .int (S 3 4), .int (S 3 5), .ref (a 21), .ref (a 22), .ref (a 23), .ref (a 24), .ref (a 25), .ref (a26 a (S 3 11)), .ref (a27 a (S 3 11))] : List Value).set 5 (.int v))) = Wu E a (sto S 3 5 v) := rfl
theorem wu4 : (Wu E a S)[4]? = some ((a 4), .inr (1, [.ref (a 28), .int (S 4 1), .int (S 4 2)])) := rfl
theorem wu4p1 (v : Int32) : (Wu E a S).set 4 ((a 4), .inr (1, ([.ref (a 28), .int (S 4 1), .int (S 4 2)] : List Value).set 1 (.int v))) = Wu E a (sto S 4 1 v) := rfl
theorem wu4p2 (v : Int32) : (Wu E a S).set 4 ((a 4), .inr (1, ([.ref (a 28), .int (S 4 1), .int (S 4 2)] : List Value).set 2 (.int v))) = Wu E a (sto S 4 2 v) := rfl
theorem wu5 : (Wu E a S)[5]? = some ((a 5), .inl (E.2.2, 2, .inr (.inr (.inr (.inr (im a)))))) := rfl
theorem wu6 : (Wu E a S)[6]? = some ((a 6), .inl (E.2.1, 2, .inl (S 6))) := rfl
theorem wu6s (f : Nat → Int32) : (Wu E a S).set 6 ((a 6), .inl (E.2.1, 2, .inl f)) = Wu E a (str S 6 f) := rfl
theorem wu7 : (Wu E a S)[7]? = some ((a 7), .inl (E.1, 6, .inl (S 7))) := rfl
theorem wu7s (f : Nat → Int32) : (Wu E a S).set 7 ((a 7), .inl (E.1, 6, .inl f)) = Wu E a (str S 7 f) := rfl
theorem wu8 : (Wu E a S)[8]? = some ((a 8), .inl (E.1, 20, .inl (S 8))) := rfl
theorem wu8s (f : Nat → Int32) : (Wu E a S).set 8 ((a 8), .inl (E.1, 20, .inl f)) = Wu E a (str S 8 f) := rfl
theorem wu9 : (Wu E a S)[9]? = some ((a 9), .inl (E.1, 5, .inl (S 9))) := rfl
theorem wu9s (f : Nat → Int32) : (Wu E a S).set 9 ((a 9), .inl (E.1, 5, .inl f)) = Wu E a (str S 9 f) := rfl
theorem wu10 : (Wu E a S)[10]? = some ((a 10), .inl (E.1, 5, .inl (S 10))) := rfl
theorem wu10s (f : Nat → Int32) : (Wu E a S).set 10 ((a 10), .inl (E.1, 5, .inl f)) = Wu E a (str S 10 f) := rfl
theorem wu11 : (Wu E a S)[11]? = some ((a 11), .inl (E.1, 5, .inl (S 11))) := rfl
theorem wu11s (f : Nat → Int32) : (Wu E a S).set 11 ((a 11), .inl (E.1, 5, .inl f)) = Wu E a (str S 11 f) := rfl
theorem wu12 : (Wu E a S)[12]? = some ((a 12), .inl (E.1, 5, .inl (S 12))) := rfl
theorem wu12s (f : Nat → Int32) : (Wu E a S).set 12 ((a 12), .inl (E.1, 5, .inl f)) = Wu E a (str S 12 f) := rfl
theorem wu13 : (Wu E a S)[13]? = some ((a 13), .inl (E.1, 6, .inl (S 13))) := rfl
theorem wu13s (f : Nat → Int32) : (Wu E a S).set 13 ((a 13), .inl (E.1, 6, .inl f)) = Wu E a (str S 13 f) := rfl
theorem wu14 : (Wu E a S)[14]? = some ((a 14), .inl (E.1, 6, .inl (S 14))) := rfl
theorem wu14s (f : Nat → Int32) : (Wu E a S).set 14 ((a 14), .inl (E.1, 6, .inl f)) = Wu E a (str S 14 f) := rfl
theorem wu15 : (Wu E a S)[15]? = some ((a 15), .inl (E.1, 6, .inl (S 15))) := rfl
theorem wu15s (f : Nat → Int32) : (Wu E a S).set 15 ((a 15), .inl (E.1, 6, .inl f)) = Wu E a (str S 15 f) := rfl
theorem wu16 : (Wu E a S)[16]? = some ((a 16), .inl (E.1, 6, .inl (S 16))) := rfl
theorem wu16s (f : Nat → Int32) : (Wu E a S).set 16 ((a 16), .inl (E.1, 6, .inl f)) = Wu E a (str S 16 f) := rfl
theorem wu17 : (Wu E a S)[17]? = some ((a 17), .inl (E.1, 36, .inl (S 17))) := rfl
theorem wu17s (f : Nat → Int32) : (Wu E a S).set 17 ((a 17), .inl (E.1, 36, .inl f)) = Wu E a (str S 17 f) := rfl
theorem wu18 : (Wu E a S)[18]? = some ((a 18), .inl (E.1, 6, .inl (S 18))) := rfl
theorem wu18s (f : Nat → Int32) : (Wu E a S).set 18 ((a 18), .inl (E.1, 6, .inl f)) = Wu E a (str S 18 f) := rfl
theorem wu19 : (Wu E a S)[19]? = some ((a 19), .inl (E.1, 6, .inl (S 19))) := rfl
theorem wu19s (f : Nat → Int32) : (Wu E a S).set 19 ((a 19), .inl (E.1, 6, .inl f)) = Wu E a (str S 19 f) := rfl
theorem wu20 : (Wu E a S)[20]? = some ((a 20), .inl (E.1, 6, .inl (S 20))) := rfl
theorem wu20s (f : Nat → Int32) : (Wu E a S).set 20 ((a 20), .inl (E.1, 6, .inl f)) = Wu E a (str S 20 f) := rfl
theorem wu21 : (Wu E a S)[21]? = some ((a 21), .inl (E.1, 36, .inl (S 21))) := rfl
theorem wu21s (f : Nat → Int32) : (Wu E a S).set 21 ((a 21), .inl (E.1, 36, .inl f)) = Wu E a (str S 21 f) := rfl
theorem wu22 : (Wu E a S)[22]? = some ((a 22), .inl (E.1, 30, .inl (S 22))) := rfl
theorem wu22s (f : Nat → Int32) : (Wu E a S).set 22 ((a 22), .inl (E.1, 30, .inl f)) = Wu E a (str S 22 f) := rfl
theorem wu23 : (Wu E a S)[23]? = some ((a 23), .inl (E.1, 30, .inl (S 23))) := rfl
theorem wu23s (f : Nat → Int32) : (Wu E a S).set 23 ((a 23), .inl (E.1, 30, .inl f)) = Wu E a (str S 23 f) := rfl
theorem wu24 : (Wu E a S)[24]? = some ((a 24), .inl (E.1, 4, .inl (S 24))) := rfl
theorem wu24s (f : Nat → Int32) : (Wu E a S).set 24 ((a 24), .inl (E.1, 4, .inl f)) = Wu E a (str S 24 f) := rfl
theorem wu25 : (Wu E a S)[25]? = some ((a 25), .inl (E.1, 6, .inl (S 25))) := rfl
theorem wu25s (f : Nat → Int32) : (Wu E a S).set 25 ((a 25), .inl (E.1, 6, .inl f)) = Wu E a (str S 25 f) := rfl
theorem wu26 : (Wu E a S)[26]? = some ((a26 a (S 3 11)), .inl (E.1, 32, .inl (S 26))) := rfl
theorem wu26s (f : Nat → Int32) : (Wu E a S).set 26 ((a26 a (S 3 11)), .inl (E.1, 32, .inl f)) = Wu E a (str S 26 f) := rfl
theorem wu27 : (Wu E a S)[27]? = some ((a27 a (S 3 11)), .inl (E.1, 32, .inl (S 27))) := rfl
theorem wu27s (f : Nat → Int32) : (Wu E a S).set 27 ((a27 a (S 3 11)), .inl (E.1, 32, .inl f)) = Wu E a (str S 27 f) := rfl
theorem wu28 : (Wu E a S)[28]? = some ((a 28), .inl (E.1, 6, .inl (S 28))) := rfl
theorem wu28s (f : Nat → Int32) : (Wu E a S).set 28 ((a 28), .inl (E.1, 6, .inl f)) = Wu E a (str S 28 f) := rfl
theorem wu29 : (Wu E a S)[29]? = some ((a 29), .inr (0, [.ref (a 31), .ref (a 32), .ref (a 33), .ref (a 34), .ref (a 35), .ref (a 36), .ref (a 37), .ref (a 38), .ref (a 39), .int (S 29 9), .int (S 29 10)])) := rfl
theorem wu29p9 (v : Int32) : (Wu E a S).set 29 ((a 29), .inr (0, ([.ref (a 31), .ref (a 32), .ref (a 33), .ref (a 34), .ref (a 35), .ref (a 36), .ref (a 37), .ref (a 38), .ref (a 39), .int (S 29 9), .int (S 29 10)] : List Value).set 9 (.int v))) = Wu E a (sto S 29 9 v) := rfl
theorem wu29p10 (v : Int32) : (Wu E a S).set 29 ((a 29), .inr (0, ([.ref (a 31), .ref (a 32), .ref (a 33), .ref (a 34), .ref (a 35), .ref (a 36), .ref (a 37), .ref (a 38), .ref (a 39), .int (S 29 9), .int (S 29 10)] : List Value).set 10 (.int v))) = Wu E a (sto S 29 10 v) := rfl
theorem wu30 : (Wu E a S)[30]? = some ((a 30), .inr (0, [.ref (a 40), .ref (a 41), .ref (a 42), .ref (a 43), .ref (a 44), .ref (a 45), .ref (a 46), .ref (a 47), .ref (a 48), .int (S 30 9), .int (S 30 10)])) := rfl
theorem wu30p9 (v : Int32) : (Wu E a S).set 30 ((a 30), .inr (0, ([.ref (a 40), .ref (a 41), .ref (a 42), .ref (a 43), .ref (a 44), .ref (a 45), .ref (a 46), .ref (a 47), .ref (a 48), .int (S 30 9), .int (S 30 10)] : List Value).set 9 (.int v))) = Wu E a (sto S 30 9 v) := rfl
theorem wu30p10 (v : Int32) : (Wu E a S).set 30 ((a 30), .inr (0, ([.ref (a 40), .ref (a 41), .ref (a 42), .ref (a 43), .ref (a 44), .ref (a 45), .ref (a 46), .ref (a 47), .ref (a 48), .int (S 30 9), .int (S 30 10)] : List Value).set 10 (.int v))) = Wu E a (sto S 30 10 v) := rfl
theorem wu31 : (Wu E a S)[31]? = some ((a 31), .inl (E.1, 5, .inl (S 31))) := rfl
theorem wu31s (f : Nat → Int32) : (Wu E a S).set 31 ((a 31), .inl (E.1, 5, .inl f)) = Wu E a (str S 31 f) := rfl
theorem wu32 : (Wu E a S)[32]? = some ((a 32), .inl (E.1, 5, .inl (S 32))) := rfl
theorem wu32s (f : Nat → Int32) : (Wu E a S).set 32 ((a 32), .inl (E.1, 5, .inl f)) = Wu E a (str S 32 f) := rfl
theorem wu33 : (Wu E a S)[33]? = some ((a 33), .inl (E.1, 5, .inl (S 33))) := rfl
theorem wu33s (f : Nat → Int32) : (Wu E a S).set 33 ((a 33), .inl (E.1, 5, .inl f)) = Wu E a (str S 33 f) := rfl
theorem wu34 : (Wu E a S)[34]? = some ((a 34), .inl (E.1, 5, .inl (S 34))) := rfl
theorem wu34s (f : Nat → Int32) : (Wu E a S).set 34 ((a 34), .inl (E.1, 5, .inl f)) = Wu E a (str S 34 f) := rfl
theorem wu35 : (Wu E a S)[35]? = some ((a 35), .inl (E.1, 6, .inl (S 35))) := rfl
theorem wu35s (f : Nat → Int32) : (Wu E a S).set 35 ((a 35), .inl (E.1, 6, .inl f)) = Wu E a (str S 35 f) := rfl
theorem wu36 : (Wu E a S)[36]? = some ((a 36), .inl (E.1, 6, .inl (S 36))) := rfl
theorem wu36s (f : Nat → Int32) : (Wu E a S).set 36 ((a 36), .inl (E.1, 6, .inl f)) = Wu E a (str S 36 f) := rfl
theorem wu37 : (Wu E a S)[37]? = some ((a 37), .inl (E.1, 6, .inl (S 37))) := rfl
theorem wu37s (f : Nat → Int32) : (Wu E a S).set 37 ((a 37), .inl (E.1, 6, .inl f)) = Wu E a (str S 37 f) := rfl
theorem wu38 : (Wu E a S)[38]? = some ((a 38), .inl (E.1, 6, .inl (S 38))) := rfl
theorem wu38s (f : Nat → Int32) : (Wu E a S).set 38 ((a 38), .inl (E.1, 6, .inl f)) = Wu E a (str S 38 f) := rfl
theorem wu39 : (Wu E a S)[39]? = some ((a 39), .inl (E.1, 36, .inl (S 39))) := rfl
theorem wu39s (f : Nat → Int32) : (Wu E a S).set 39 ((a 39), .inl (E.1, 36, .inl f)) = Wu E a (str S 39 f) := rfl
theorem wu40 : (Wu E a S)[40]? = some ((a 40), .inl (E.1, 5, .inl (S 40))) := rfl
theorem wu40s (f : Nat → Int32) : (Wu E a S).set 40 ((a 40), .inl (E.1, 5, .inl f)) = Wu E a (str S 40 f) := rfl
theorem wu41 : (Wu E a S)[41]? = some ((a 41), .inl (E.1, 5, .inl (S 41))) := rfl
theorem wu41s (f : Nat → Int32) : (Wu E a S).set 41 ((a 41), .inl (E.1, 5, .inl f)) = Wu E a (str S 41 f) := rfl
theorem wu42 : (Wu E a S)[42]? = some ((a 42), .inl (E.1, 5, .inl (S 42))) := rfl
theorem wu42s (f : Nat → Int32) : (Wu E a S).set 42 ((a 42), .inl (E.1, 5, .inl f)) = Wu E a (str S 42 f) := rfl
theorem wu43 : (Wu E a S)[43]? = some ((a 43), .inl (E.1, 5, .inl (S 43))) := rfl
theorem wu43s (f : Nat → Int32) : (Wu E a S).set 43 ((a 43), .inl (E.1, 5, .inl f)) = Wu E a (str S 43 f) := rfl
theorem wu44 : (Wu E a S)[44]? = some ((a 44), .inl (E.1, 6, .inl (S 44))) := rfl
theorem wu44s (f : Nat → Int32) : (Wu E a S).set 44 ((a 44), .inl (E.1, 6, .inl f)) = Wu E a (str S 44 f) := rfl
theorem wu45 : (Wu E a S)[45]? = some ((a 45), .inl (E.1, 6, .inl (S 45))) := rfl
theorem wu45s (f : Nat → Int32) : (Wu E a S).set 45 ((a 45), .inl (E.1, 6, .inl f)) = Wu E a (str S 45 f) := rfl
theorem wu46 : (Wu E a S)[46]? = some ((a 46), .inl (E.1, 6, .inl (S 46))) := rfl
theorem wu46s (f : Nat → Int32) : (Wu E a S).set 46 ((a 46), .inl (E.1, 6, .inl f)) = Wu E a (str S 46 f) := rfl
theorem wu47 : (Wu E a S)[47]? = some ((a 47), .inl (E.1, 6, .inl (S 47))) := rfl
theorem wu47s (f : Nat → Int32) : (Wu E a S).set 47 ((a 47), .inl (E.1, 6, .inl f)) = Wu E a (str S 47 f) := rfl
theorem wu48 : (Wu E a S)[48]? = some ((a 48), .inl (E.1, 36, .inl (S 48))) := rfl
theorem wu48s (f : Nat → Int32) : (Wu E a S).set 48 ((a 48), .inl (E.1, 36, .inl f)) = Wu E a (str S 48 f) := rfl
end WuR
def Wb (E : bE) (a : Nat → Nat) (S : St) : va_W := [((a 0), .inr (0, [.ref (a 1), .ref (a 2), .ref (a 3), .ref (a 4), .ref (a 5), .ref (a 6), .ref (a 7), .ref (a 8), .ref (a 9), .int (S 0 9), .int (S 0 10)])), ((a 1), .inl (E.1, 5, .inl (S 1))), ((a 2), .inl (E.1, 5, .inl (S 2))), ((a 3), .inl (E.1, 5, .inl (S 3))), ((a 4), .inl (E.1, 5, .inl (S 4))), ((a 5), .inl (E.1, 6, .inl (S 5))), ((a 6), .inl (E.1, 6, .inl (S 6))), ((a 7), .inl (E.1, 6, .inl (S 7))), ((a 8), .inl (E.1, 6, .inl (S 8))), ((a 9), .inl (E.1, 36, .inl (S 9)))]
section WbR
variable {E : bE} {a : Nat → Nat} {S : St}
theorem wb0 : (Wb E a S)[0]? = some ((a 0), .inr (0, [.ref (a 1), .ref (a 2), .ref (a 3), .ref (a 4), .ref (a 5), .ref (a 6), .ref (a 7), .ref (a 8), .ref (a 9), .int (S 0 9), .int (S 0 10)])) := rfl
theorem wb0p9 (v : Int32) : (Wb E a S).set 0 ((a 0), .inr (0, ([.ref (a 1), .ref (a 2), .ref (a 3), .ref (a 4), .ref (a 5), .ref (a 6), .ref (a 7), .ref (a 8), .ref (a 9), .int (S 0 9), .int (S 0 10)] : List Value).set 9 (.int v))) = Wb E a (sto S 0 9 v) := rfl
theorem wb0p10 (v : Int32) : (Wb E a S).set 0 ((a 0), .inr (0, ([.ref (a 1), .ref (a 2), .ref (a 3), .ref (a 4), .ref (a 5), .ref (a 6), .ref (a 7), .ref (a 8), .ref (a 9), .int (S 0 9), .int (S 0 10)] : List Value).set 10 (.int v))) = Wb E a (sto S 0 10 v) := rfl
theorem wb1 : (Wb E a S)[1]? = some ((a 1), .inl (E.1, 5, .inl (S 1))) := rfl
theorem wb1s (f : Nat → Int32) : (Wb E a S).set 1 ((a 1), .inl (E.1, 5, .inl f)) = Wb E a (str S 1 f) := rfl
theorem wb2 : (Wb E a S)[2]? = some ((a 2), .inl (E.1, 5, .inl (S 2))) := rfl
theorem wb2s (f : Nat → Int32) : (Wb E a S).set 2 ((a 2), .inl (E.1, 5, .inl f)) = Wb E a (str S 2 f) := rfl
theorem wb3 : (Wb E a S)[3]? = some ((a 3), .inl (E.1, 5, .inl (S 3))) := rfl
theorem wb3s (f : Nat → Int32) : (Wb E a S).set 3 ((a 3), .inl (E.1, 5, .inl f)) = Wb E a (str S 3 f) := rfl
theorem wb4 : (Wb E a S)[4]? = some ((a 4), .inl (E.1, 5, .inl (S 4))) := rfl
theorem wb4s (f : Nat → Int32) : (Wb E a S).set 4 ((a 4), .inl (E.1, 5, .inl f)) = Wb E a (str S 4 f) := rfl
theorem wb5 : (Wb E a S)[5]? = some ((a 5), .inl (E.1, 6, .inl (S 5))) := rfl
theorem wb5s (f : Nat → Int32) : (Wb E a S).set 5 ((a 5), .inl (E.1, 6, .inl f)) = Wb E a (str S 5 f) := rfl
theorem wb6 : (Wb E a S)[6]? = some ((a 6), .inl (E.1, 6, .inl (S 6))) := rfl
theorem wb6s (f : Nat → Int32) : (Wb E a S).set 6 ((a 6), .inl (E.1, 6, .inl f)) = Wb E a (str S 6 f) := rfl
theorem wb7 : (Wb E a S)[7]? = some ((a 7), .inl (E.1, 6, .inl (S 7))) := rfl
theorem wb7s (f : Nat → Int32) : (Wb E a S).set 7 ((a 7), .inl (E.1, 6, .inl f)) = Wb E a (str S 7 f) := rfl
theorem wb8 : (Wb E a S)[8]? = some ((a 8), .inl (E.1, 6, .inl (S 8))) := rfl
theorem wb8s (f : Nat → Int32) : (Wb E a S).set 8 ((a 8), .inl (E.1, 6, .inl f)) = Wb E a (str S 8 f) := rfl
theorem wb9 : (Wb E a S)[9]? = some ((a 9), .inl (E.1, 36, .inl (S 9))) := rfl
theorem wb9s (f : Nat → Int32) : (Wb E a S).set 9 ((a 9), .inl (E.1, 36, .inl f)) = Wb E a (str S 9 f) := rfl
end WbR
