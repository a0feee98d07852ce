/-! The worlds: a cluster (24 cells), the reference (19 cells), two clusters, the object. By program (wip/whole/gen.py). -/
def wC (cI cZ : ClassId) (a : Nat → Nat) (M : xM) : va_W := [((a 0), .inr (1, [.ref (a 1), .ref (a 2), .ref (a 3), .ref (a 4), .int (M 0 4)])), ((a 1), .inr (3, [.int (M 1 0), .int (M 1 1), .int (M 1 2), .int (M 1 3), .int (M 1 4)])), ((a 2), .inr (2, [.int (M 2 0), .ref (a 5), .ref (a 6), .ref (a 7), .ref (a 8), .ref (a 9), .ref (a 10)])), ((a 3), .inr (4, [.int (M 3 0), .ref (a 11), .ref (a 12), .ref (a 13), .ref (a 14)])), ((a 4), .inr (0, [.int (M 4 0), .ref (a 15), .ref (a 16), .ref (a 17), .ref (a 18), .ref (a 19), .ref (a 20), .ref (a 21), .ref (a 22), .ref (a 23), .int (M 4 10)])), ((a 5), .inl (cI, 8, .inl (M 5))), ((a 6), .inl (cI, 8, .inl (M 6))), ((a 7), .inl (cZ, 8, .inl (M 7))), ((a 8), .inl (cI, 8, .inl (M 8))), ((a 9), .inl (cI, 8, .inl (M 9))), ((a 10), .inl (cI, 8, .inl (M 10))), ((a 11), .inl (cI, 24, .inl (M 11))), ((a 12), .inl (cI, 24, .inl (M 12))), ((a 13), .inl (cI, 24, .inl (M 13))), ((a 14), .inl (cI, 24, .inl (M 14))), ((a 15), .inl (cI, 200, .inl (M 15))), ((a 16), .inl (cI, 200, .inl (M 16))), ((a 17), .inl (cI, 200, .inl (M 17))), ((a 18), .inl (cZ, 200, .inl (M 18))), ((a 19), .inl (cI, 200, .inl (M 19))), ((a 20), .inl (cI, 200, .inl (M 20))), ((a 21), .inl (cI, 200, .inl (M 21))), ((a 22), .inl (cI, 200, .inl (M 22))), ((a 23), .inl (cI, 32, .inl (M 23)))]
def wR (cI cZ : ClassId) (r : Nat → Nat) (N : xM) : va_W := [((r 0), .inr (6, [.int (N 0 0), .ref (r 1), .ref (r 2), .ref (r 3), .int (N 0 4), .ref (r 4), .int (N 0 6), .int (N 0 7), .int (N 0 8), .int (N 0 9), .int (N 0 10), .int (N 0 11), .ref (r 5), .ref (r 6), .ref (r 7), .ref (r 8), .ref (r 9), .ref (r 10), .ref (r 11), .ref (r 12), .ref (r 13), .ref (r 14), .ref (r 15), .ref (r 16), .ref (r 17), .ref (r 18)])), ((r 1), .inl (cI, 8, .inl (N 1))), ((r 2), .inl (cI, 8, .inl (N 2))), ((r 3), .inl (cZ, 8, .inl (N 3))), ((r 4), .inl (cI, 24, .inl (N 4))), ((r 5), .inl (cI, 2, .inl (N 5))), ((r 6), .inl (cI, 2, .inl (N 6))), ((r 7), .inl (cI, 400, .inl (N 7))), ((r 8), .inl (cI, 400, .inl (N 8))), ((r 9), .inl (cI, 400, .inl (N 9))), ((r 10), .inl (cI, 400, .inl (N 10))), ((r 11), .inl (cI, 400, .inl (N 11))), ((r 12), .inl (cZ, 400, .inl (N 12))), ((r 13), .inl (cI, 48, .inl (N 13))), ((r 14), .inl (cI, 48, .inl (N 14))), ((r 15), .inl (cI, 48, .inl (N 15))), ((r 16), .inl (cI, 16, .inl (N 16))), ((r 17), .inl (cI, 16, .inl (N 17))), ((r 18), .inl (cI, 16, .inl (N 18)))]
def wD (cI cZ : ClassId) (a b : Nat → Nat) (u : xM × xM) : va_W := wC cI cZ a u.1 ++ wC cI cZ b u.2
def wO (cI cZ : ClassId) (x : Nat) (a b : Nat → Nat) (u : xM × xM) : va_W := (x, .inr (5, [.ref (a 0), .ref (b 0)])) :: (wC cI cZ a u.1 ++ wC cI cZ b u.2)
theorem wC_0 {cI cZ : ClassId} {a : Nat → Nat} {M : xM} : (wC cI cZ a M)[0]? = some ((a 0), .inr (1, [.ref (a 1), .ref (a 2), .ref (a 3), .ref (a 4), .int (M 0 4)])) := rfl
theorem wC_1 {cI cZ : ClassId} {a : Nat → Nat} {M : xM} : (wC cI cZ a M)[1]? = some ((a 1), .inr (3, [.int (M 1 0), .int (M 1 1), .int (M 1 2), .int (M 1 3), .int (M 1 4)])) := rfl
theorem wC_2 {cI cZ : ClassId} {a : Nat → Nat} {M : xM} : (wC cI cZ a M)[2]? = some ((a 2), .inr (2, [.int (M 2 0), .ref (a 5), .ref (a 6), .ref (a 7), .ref (a 8), .ref (a 9), .ref (a 10)])) := rfl
theorem wC_3 {cI cZ : ClassId} {a : Nat → Nat} {M : xM} : (wC cI cZ a M)[3]? = some ((a 3), .inr (4, [.int (M 3 0), .ref (a 11), .ref (a 12), .ref (a 13), .ref (a 14)])) := rfl
theorem wC_4 {cI cZ : ClassId} {a : Nat → Nat} {M : xM} : (wC cI cZ a M)[4]? = some ((a 4), .inr (0, [.int (M 4 0), .ref (a 15), .ref (a 16), .ref (a 17), .ref (a 18), .ref (a 19), .ref (a 20), .ref (a 21), .ref (a 22), .ref (a 23), .int (M 4 10)])) := rfl
theorem wC_5 {cI cZ : ClassId} {a : Nat → Nat} {M : xM} : (wC cI cZ a M)[5]? = some ((a 5), .inl (cI, 8, .inl (M 5))) := rfl
theorem wC_6 {cI cZ : ClassId} {a : Nat → Nat} {M : xM} : (wC cI cZ a M)[6]? = some ((a 6), .inl (cI, 8, .inl (M 6))) := rfl
theorem wC_7 {cI cZ : ClassId} {a : Nat → Nat} {M : xM} : (wC cI cZ a M)[7]? = some ((a 7), .inl (cZ, 8, .inl (M 7))) := rfl
theorem wC_8 {cI cZ : ClassId} {a : Nat → Nat} {M : xM} : (wC cI cZ a M)[8]? = some ((a 8), .inl (cI, 8, .inl (M 8))) := rfl
theorem wC_9 {cI cZ : ClassId} {a : Nat → Nat} {M : xM} : (wC cI cZ a M)[9]? = some ((a 9), .inl (cI, 8, .inl (M 9))) := rfl
theorem wC_10 {cI cZ : ClassId} {a : Nat → Nat} {M : xM} : (wC cI cZ a M)[10]? = some ((a 10), .inl (cI, 8, .inl (M 10))) := rfl
theorem wC_11 {cI cZ : ClassId} {a : Nat → Nat} {M : xM} : (wC cI cZ a M)[11]? = some ((a 11), .inl (cI, 24, .inl (M 11))) := rfl
theorem wC_12 {cI cZ : ClassId} {a : Nat → Nat} {M : xM} : (wC cI cZ a M)[12]? = some ((a 12), .inl (cI, 24, .inl (M 12))) := rfl
theorem wC_13 {cI cZ : ClassId} {a : Nat → Nat} {M : xM} : (wC cI cZ a M)[13]? = some ((a 13), .inl (cI, 24, .inl (M 13))) := rfl
theorem wC_14 {cI cZ : ClassId} {a : Nat → Nat} {M : xM} : (wC cI cZ a M)[14]? = some ((a 14), .inl (cI, 24, .inl (M 14))) := rfl
theorem wC_15 {cI cZ : ClassId} {a : Nat → Nat} {M : xM} : (wC cI cZ a M)[15]? = some ((a 15), .inl (cI, 200, .inl (M 15))) := rfl
theorem wC_16 {cI cZ : ClassId} {a : Nat → Nat} {M : xM} : (wC cI cZ a M)[16]? = some ((a 16), .inl (cI, 200, .inl (M 16))) := rfl
theorem wC_17 {cI cZ : ClassId} {a : Nat → Nat} {M : xM} : (wC cI cZ a M)[17]? = some ((a 17), .inl (cI, 200, .inl (M 17))) := rfl
theorem wC_18 {cI cZ : ClassId} {a : Nat → Nat} {M : xM} : (wC cI cZ a M)[18]? = some ((a 18), .inl (cZ, 200, .inl (M 18))) := rfl
theorem wC_19 {cI cZ : ClassId} {a : Nat → Nat} {M : xM} : (wC cI cZ a M)[19]? = some ((a 19), .inl (cI, 200, .inl (M 19))) := rfl
theorem wC_20 {cI cZ : ClassId} {a : Nat → Nat} {M : xM} : (wC cI cZ a M)[20]? = some ((a 20), .inl (cI, 200, .inl (M 20))) := rfl
theorem wC_21 {cI cZ : ClassId} {a : Nat → Nat} {M : xM} : (wC cI cZ a M)[21]? = some ((a 21), .inl (cI, 200, .inl (M 21))) := rfl
theorem wC_22 {cI cZ : ClassId} {a : Nat → Nat} {M : xM} : (wC cI cZ a M)[22]? = some ((a 22), .inl (cI, 200, .inl (M 22))) := rfl
theorem wC_23 {cI cZ : ClassId} {a : Nat → Nat} {M : xM} : (wC cI cZ a M)[23]? = some ((a 23), .inl (cI, 32, .inl (M 23))) := rfl
theorem sC_0_4 {cI cZ : ClassId} {a : Nat → Nat} {M : xM} {v : Int32} : (wC cI cZ a M).set 0 ((a 0), .inr (1, ([.ref (a 1), .ref (a 2), .ref (a 3), .ref (a 4), .int (M 0 4)] : List Value).set 4 (.int v))) = wC cI cZ a (xu M 0 4 v) := rfl
theorem sC_1_0 {cI cZ : ClassId} {a : Nat → Nat} {M : xM} {v : Int32} : (wC cI cZ a M).set 1 ((a 1), .inr (3, ([.int (M 1 0), .int (M 1 1), .int (M 1 2), .int (M 1 3), .int (M 1 4)] : List Value).set 0 (.int v))) = wC cI cZ a (xu M 1 0 v) := rfl
theorem sC_1_1 {cI cZ : ClassId} {a : Nat → Nat} {M : xM} {v : Int32} : (wC cI cZ a M).set 1 ((a 1), .inr (3, ([.int (M 1 0), .int (M 1 1), .int (M 1 2), .int (M 1 3), .int (M 1 4)] : List Value).set 1 (.int v))) = wC cI cZ a (xu M 1 1 v) := rfl
theorem sC_1_2 {cI cZ : ClassId} {a : Nat → Nat} {M : xM} {v : Int32} : (wC cI cZ a M).set 1 ((a 1), .inr (3, ([.int (M 1 0), .int (M 1 1), .int (M 1 2), .int (M 1 3), .int (M 1 4)] : List Value).set 2 (.int v))) = wC cI cZ a (xu M 1 2 v) := rfl
theorem sC_1_3 {cI cZ : ClassId} {a : Nat → Nat} {M : xM} {v : Int32} : (wC cI cZ a M).set 1 ((a 1), .inr (3, ([.int (M 1 0), .int (M 1 1), .int (M 1 2), .int (M 1 3), .int (M 1 4)] : List Value).set 3 (.int v))) = wC cI cZ a (xu M 1 3 v) := rfl
theorem sC_1_4 {cI cZ : ClassId} {a : Nat → Nat} {M : xM} {v : Int32} : (wC cI cZ a M).set 1 ((a 1), .inr (3, ([.int (M 1 0), .int (M 1 1), .int (M 1 2), .int (M 1 3), .int (M 1 4)] : List Value).set 4 (.int v))) = wC cI cZ a (xu M 1 4 v) := rfl
theorem sC_2_0 {cI cZ : ClassId} {a : Nat → Nat} {M : xM} {v : Int32} : (wC cI cZ a M).set 2 ((a 2), .inr (2, ([.int (M 2 0), .ref (a 5), .ref (a 6), .ref (a 7), .ref (a 8), .ref (a 9), .ref (a 10)] : List Value).set 0 (.int v))) = wC cI cZ a (xu M 2 0 v) := rfl
theorem sC_3_0 {cI cZ : ClassId} {a : Nat → Nat} {M : xM} {v : Int32} : (wC cI cZ a M).set 3 ((a 3), .inr (4, ([.int (M 3 0), .ref (a 11), .ref (a 12), .ref (a 13), .ref (a 14)] : List Value).set 0 (.int v))) = wC cI cZ a (xu M 3 0 v) := rfl
theorem sC_4_0 {cI cZ : ClassId} {a : Nat → Nat} {M : xM} {v : Int32} : (wC cI cZ a M).set 4 ((a 4), .inr (0, ([.int (M 4 0), .ref (a 15), .ref (a 16), .ref (a 17), .ref (a 18), .ref (a 19), .ref (a 20), .ref (a 21), .ref (a 22), .ref (a 23), .int (M 4 10)] : List Value).set 0 (.int v))) = wC cI cZ a (xu M 4 0 v) := rfl
theorem sC_4_10 {cI cZ : ClassId} {a : Nat → Nat} {M : xM} {v : Int32} : (wC cI cZ a M).set 4 ((a 4), .inr (0, ([.int (M 4 0), .ref (a 15), .ref (a 16), .ref (a 17), .ref (a 18), .ref (a 19), .ref (a 20), .ref (a 21), .ref (a 22), .ref (a 23), .int (M 4 10)] : List Value).set 10 (.int v))) = wC cI cZ a (xu M 4 10 v) := rfl
theorem sC_5 {cI cZ : ClassId} {a : Nat → Nat} {M : xM} {j : Nat} {v : Int32} : (wC cI cZ a M).set 5 ((a 5), .inl (cI, 8, .inl (upd (M 5) j v))) = wC cI cZ a (xu M 5 j v) := rfl
theorem sC_6 {cI cZ : ClassId} {a : Nat → Nat} {M : xM} {j : Nat} {v : Int32} : (wC cI cZ a M).set 6 ((a 6), .inl (cI, 8, .inl (upd (M 6) j v))) = wC cI cZ a (xu M 6 j v) := rfl
theorem sC_7 {cI cZ : ClassId} {a : Nat → Nat} {M : xM} {j : Nat} {v : Int32} : (wC cI cZ a M).set 7 ((a 7), .inl (cZ, 8, .inl (upd (M 7) j v))) = wC cI cZ a (xu M 7 j v) := rfl
theorem sC_8 {cI cZ : ClassId} {a : Nat → Nat} {M : xM} {j : Nat} {v : Int32} : (wC cI cZ a M).set 8 ((a 8), .inl (cI, 8, .inl (upd (M 8) j v))) = wC cI cZ a (xu M 8 j v) := rfl
theorem sC_9 {cI cZ : ClassId} {a : Nat → Nat} {M : xM} {j : Nat} {v : Int32} : (wC cI cZ a M).set 9 ((a 9), .inl (cI, 8, .inl (upd (M 9) j v))) = wC cI cZ a (xu M 9 j v) := rfl
theorem sC_10 {cI cZ : ClassId} {a : Nat → Nat} {M : xM} {j : Nat} {v : Int32} : (wC cI cZ a M).set 10 ((a 10), .inl (cI, 8, .inl (upd (M 10) j v))) = wC cI cZ a (xu M 10 j v) := rfl
theorem sC_11 {cI cZ : ClassId} {a : Nat → Nat} {M : xM} {j : Nat} {v : Int32} : (wC cI cZ a M).set 11 ((a 11), .inl (cI, 24, .inl (upd (M 11) j v))) = wC cI cZ a (xu M 11 j v) := rfl
theorem sC_12 {cI cZ : ClassId} {a : Nat → Nat} {M : xM} {j : Nat} {v : Int32} : (wC cI cZ a M).set 12 ((a 12), .inl (cI, 24, .inl (upd (M 12) j v))) = wC cI cZ a (xu M 12 j v) := rfl
theorem sC_13 {cI cZ : ClassId} {a : Nat → Nat} {M : xM} {j : Nat} {v : Int32} : (wC cI cZ a M).set 13 ((a 13), .inl (cI, 24, .inl (upd (M 13) j v))) = wC cI cZ a (xu M 13 j v) := rfl
theorem sC_14 {cI cZ : ClassId} {a : Nat → Nat} {M : xM} {j : Nat} {v : Int32} : (wC cI cZ a M).set 14 ((a 14), .inl (cI, 24, .inl (upd (M 14) j v))) = wC cI cZ a (xu M 14 j v) := rfl
theorem sC_15 {cI cZ : ClassId} {a : Nat → Nat} {M : xM} {j : Nat} {v : Int32} : (wC cI cZ a M).set 15 ((a 15), .inl (cI, 200, .inl (upd (M 15) j v))) = wC cI cZ a (xu M 15 j v) := rfl
theorem sC_16 {cI cZ : ClassId} {a : Nat → Nat} {M : xM} {j : Nat} {v : Int32} : (wC cI cZ a M).set 16 ((a 16), .inl (cI, 200, .inl (upd (M 16) j v))) = wC cI cZ a (xu M 16 j v) := rfl
theorem sC_17 {cI cZ : ClassId} {a : Nat → Nat} {M : xM} {j : Nat} {v : Int32} : (wC cI cZ a M).set 17 ((a 17), .inl (cI, 200, .inl (upd (M 17) j v))) = wC cI cZ a (xu M 17 j v) := rfl
theorem sC_18 {cI cZ : ClassId} {a : Nat → Nat} {M : xM} {j : Nat} {v : Int32} : (wC cI cZ a M).set 18 ((a 18), .inl (cZ, 200, .inl (upd (M 18) j v))) = wC cI cZ a (xu M 18 j v) := rfl
theorem sC_19 {cI cZ : ClassId} {a : Nat → Nat} {M : xM} {j : Nat} {v : Int32} : (wC cI cZ a M).set 19 ((a 19), .inl (cI, 200, .inl (upd (M 19) j v))) = wC cI cZ a (xu M 19 j v) := rfl
theorem sC_20 {cI cZ : ClassId} {a : Nat → Nat} {M : xM} {j : Nat} {v : Int32} : (wC cI cZ a M).set 20 ((a 20), .inl (cI, 200, .inl (upd (M 20) j v))) = wC cI cZ a (xu M 20 j v) := rfl
theorem sC_21 {cI cZ : ClassId} {a : Nat → Nat} {M : xM} {j : Nat} {v : Int32} : (wC cI cZ a M).set 21 ((a 21), .inl (cI, 200, .inl (upd (M 21) j v))) = wC cI cZ a (xu M 21 j v) := rfl
theorem sC_22 {cI cZ : ClassId} {a : Nat → Nat} {M : xM} {j : Nat} {v : Int32} : (wC cI cZ a M).set 22 ((a 22), .inl (cI, 200, .inl (upd (M 22) j v))) = wC cI cZ a (xu M 22 j v) := rfl
theorem sC_23 {cI cZ : ClassId} {a : Nat → Nat} {M : xM} {j : Nat} {v : Int32} : (wC cI cZ a M).set 23 ((a 23), .inl (cI, 32, .inl (upd (M 23) j v))) = wC cI cZ a (xu M 23 j v) := rfl
theorem wR_0 {cI cZ : ClassId} {r : Nat → Nat} {N : xM} : (wR cI cZ r N)[0]? = some ((r 0), .inr (6, [.int (N 0 0), .ref (r 1), .ref (r 2), .ref (r 3), .int (N 0 4), .ref (r 4), .int (N 0 6), .int (N 0 7), .int (N 0 8), .int (N 0 9), .int (N 0 10), .int (N 0 11), .ref (r 5), .ref (r 6), .ref (r 7), .ref (r 8), .ref (r 9), .ref (r 10), .ref (r 11), .ref (r 12), .ref (r 13), .ref (r 14), .ref (r 15), .ref (r 16), .ref (r 17), .ref (r 18)])) := rfl
theorem wR_1 {cI cZ : ClassId} {r : Nat → Nat} {N : xM} : (wR cI cZ r N)[1]? = some ((r 1), .inl (cI, 8, .inl (N 1))) := rfl
theorem wR_2 {cI cZ : ClassId} {r : Nat → Nat} {N : xM} : (wR cI cZ r N)[2]? = some ((r 2), .inl (cI, 8, .inl (N 2))) := rfl
theorem wR_3 {cI cZ : ClassId} {r : Nat → Nat} {N : xM} : (wR cI cZ r N)[3]? = some ((r 3), .inl (cZ, 8, .inl (N 3))) := rfl
theorem wR_4 {cI cZ : ClassId} {r : Nat → Nat} {N : xM} : (wR cI cZ r N)[4]? = some ((r 4), .inl (cI, 24, .inl (N 4))) := rfl
theorem wR_5 {cI cZ : ClassId} {r : Nat → Nat} {N : xM} : (wR cI cZ r N)[5]? = some ((r 5), .inl (cI, 2, .inl (N 5))) := rfl
theorem wR_6 {cI cZ : ClassId} {r : Nat → Nat} {N : xM} : (wR cI cZ r N)[6]? = some ((r 6), .inl (cI, 2, .inl (N 6))) := rfl
theorem wR_7 {cI cZ : ClassId} {r : Nat → Nat} {N : xM} : (wR cI cZ r N)[7]? = some ((r 7), .inl (cI, 400, .inl (N 7))) := rfl
theorem wR_8 {cI cZ : ClassId} {r : Nat → Nat} {N : xM} : (wR cI cZ r N)[8]? = some ((r 8), .inl (cI, 400, .inl (N 8))) := rfl
theorem wR_9 {cI cZ : ClassId} {r : Nat → Nat} {N : xM} : (wR cI cZ r N)[9]? = some ((r 9), .inl (cI, 400, .inl (N 9))) := rfl
theorem wR_10 {cI cZ : ClassId} {r : Nat → Nat} {N : xM} : (wR cI cZ r N)[10]? = some ((r 10), .inl (cI, 400, .inl (N 10))) := rfl
theorem wR_11 {cI cZ : ClassId} {r : Nat → Nat} {N : xM} : (wR cI cZ r N)[11]? = some ((r 11), .inl (cI, 400, .inl (N 11))) := rfl
theorem wR_12 {cI cZ : ClassId} {r : Nat → Nat} {N : xM} : (wR cI cZ r N)[12]? = some ((r 12), .inl (cZ, 400, .inl (N 12))) := rfl
theorem wR_13 {cI cZ : ClassId} {r : Nat → Nat} {N : xM} : (wR cI cZ r N)[13]? = some ((r 13), .inl (cI, 48, .inl (N 13))) := rfl
theorem wR_14 {cI cZ : ClassId} {r : Nat → Nat} {N : xM} : (wR cI cZ r N)[14]? = some ((r 14), .inl (cI, 48, .inl (N 14))) := rfl
theorem wR_15 {cI cZ : ClassId} {r : Nat → Nat} {N : xM} : (wR cI cZ r N)[15]? = some ((r 15), .inl (cI, 48, .inl (N 15))) := rfl
theorem wR_16 {cI cZ : ClassId} {r : Nat → Nat} {N : xM} : (wR cI cZ r N)[16]? = some ((r 16), .inl (cI, 16, .inl (N 16))) := rfl
theorem wR_17 {cI cZ : ClassId} {r : Nat → Nat} {N : xM} : (wR cI cZ r N)[17]? = some ((r 17), .inl (cI, 16, .inl (N 17))) := rfl
theorem wR_18 {cI cZ : ClassId} {r : Nat → Nat} {N : xM} : (wR cI cZ r N)[18]? = some ((r 18), .inl (cI, 16, .inl (N 18))) := rfl
theorem sR_0_0 {cI cZ : ClassId} {r : Nat → Nat} {N : xM} {v : Int32} : (wR cI cZ r N).set 0 ((r 0), .inr (6, ([.int (N 0 0), .ref (r 1), .ref (r 2), .ref (r 3), .int (N 0 4), .ref (r 4), .int (N 0 6), .int (N 0 7), .int (N 0 8), .int (N 0 9), .int (N 0 10), .int (N 0 11), .ref (r 5), .ref (r 6), .ref (r 7), .ref (r 8), .ref (r 9), .ref (r 10), .ref (r 11), .ref (r 12), .ref (r 13), .ref (r 14), .ref (r 15), .ref (r 16), .ref (r 17), .ref (r 18)] : List Value).set 0 (.int v))) = wR cI cZ r (xu N 0 0 v) := rfl
theorem sR_0_4 {cI cZ : ClassId} {r : Nat → Nat} {N : xM} {v : Int32} : (wR cI cZ r N).set 0 ((r 0), .inr (6, ([.int (N 0 0), .ref (r 1), .ref (r 2), .ref (r 3), .int (N 0 4), .ref (r 4), .int (N 0 6), .int (N 0 7), .int (N 0 8), .int (N 0 9), .int (N 0 10), .int (N 0 11), .ref (r 5), .ref (r 6), .ref (r 7), .ref (r 8), .ref (r 9), .ref (r 10), .ref (r 11), .ref (r 12), .ref (r 13), .ref (r 14), .ref (r 15), .ref (r 16), .ref (r 17), .ref (r 18)] : List Value).set 4 (.int v))) = wR cI cZ r (xu N 0 4 v) := rfl
theorem sR_0_6 {cI cZ : ClassId} {r : Nat → Nat} {N : xM} {v : Int32} : (wR cI cZ r N).set 0 ((r 0), .inr (6, ([.int (N 0 0), .ref (r 1), .ref (r 2), .ref (r 3), .int (N 0 4), .ref (r 4), .int (N 0 6), .int (N 0 7), .int (N 0 8), .int (N 0 9), .int (N 0 10), .int (N 0 11), .ref (r 5), .ref (r 6), .ref (r 7), .ref (r 8), .ref (r 9), .ref (r 10), .ref (r 11), .ref (r 12), .ref (r 13), .ref (r 14), .ref (r 15), .ref (r 16), .ref (r 17), .ref (r 18)] : List Value).set 6 (.int v))) = wR cI cZ r (xu N 0 6 v) := rfl
theorem sR_0_7 {cI cZ : ClassId} {r : Nat → Nat} {N : xM} {v : Int32} : (wR cI cZ r N).set 0 ((r 0), .inr (6, ([.int (N 0 0), .ref (r 1), .ref (r 2), .ref (r 3), .int (N 0 4), .ref (r 4), .int (N 0 6), .int (N 0 7), .int (N 0 8), .int (N 0 9), .int (N 0 10), .int (N 0 11), .ref (r 5), .ref (r 6), .ref (r 7), .ref (r 8), .ref (r 9), .ref (r 10), .ref (r 11), .ref (r 12), .ref (r 13), .ref (r 14), .ref (r 15), .ref (r 16), .ref (r 17), .ref (r 18)] : List Value).set 7 (.int v))) = wR cI cZ r (xu N 0 7 v) := rfl
theorem sR_0_8 {cI cZ : ClassId} {r : Nat → Nat} {N : xM} {v : Int32} : (wR cI cZ r N).set 0 ((r 0), .inr (6, ([.int (N 0 0), .ref (r 1), .ref (r 2), .ref (r 3), .int (N 0 4), .ref (r 4), .int (N 0 6), .int (N 0 7), .int (N 0 8), .int (N 0 9), .int (N 0 10), .int (N 0 11), .ref (r 5), .ref (r 6), .ref (r 7), .ref (r 8), .ref (r 9), .ref (r 10), .ref (r 11), .ref (r 12), .ref (r 13), .ref (r 14), .ref (r 15), .ref (r 16), .ref (r 17), .ref (r 18)] : List Value).set 8 (.int v))) = wR cI cZ r (xu N 0 8 v) := rfl
theorem sR_0_9 {cI cZ : ClassId} {r : Nat → Nat} {N : xM} {v : Int32} : (wR cI cZ r N).set 0 ((r 0), .inr (6, ([.int (N 0 0), .ref (r 1), .ref (r 2), .ref (r 3), .int (N 0 4), .ref (r 4), .int (N 0 6), .int (N 0 7), .int (N 0 8), .int (N 0 9), .int (N 0 10), .int (N 0 11), .ref (r 5), .ref (r 6), .ref (r 7), .ref (r 8), .ref (r 9), .ref (r 10), .ref (r 11), .ref (r 12), .ref (r 13), .ref (r 14), .ref (r 15), .ref (r 16), .ref (r 17), .ref (r 18)] : List Value).set 9 (.int v))) = wR cI cZ r (xu N 0 9 v) := rfl
theorem sR_0_10 {cI cZ : ClassId} {r : Nat → Nat} {N : xM} {v : Int32} : (wR cI cZ r N).set 0 ((r 0), .inr (6, ([.int (N 0 0), .ref (r 1), .ref (r 2), .ref (r 3), .int (N 0 4), .ref (r 4), .int (N 0 6), .int (N 0 7), .int (N 0 8), .int (N 0 9), .int (N 0 10), .int (N 0 11), .ref (r 5), .ref (r 6), .ref (r 7), .ref (r 8), .ref (r 9), .ref (r 10), .ref (r 11), .ref (r 12), .ref (r 13), .ref (r 14), .ref (r 15), .ref (r 16), .ref (r 17), .ref (r 18)] : List Value).set 10 (.int v))) = wR cI cZ r (xu N 0 10 v) := rfl
theorem sR_0_11 {cI cZ : ClassId} {r : Nat → Nat} {N : xM} {v : Int32} : (wR cI cZ r N).set 0 ((r 0), .inr (6, ([.int (N 0 0), .ref (r 1), .ref (r 2), .ref (r 3), .int (N 0 4), .ref (r 4), .int (N 0 6), .int (N 0 7), .int (N 0 8), .int (N 0 9), .int (N 0 10), .int (N 0 11), .ref (r 5), .ref (r 6), .ref (r 7), .ref (r 8), .ref (r 9), .ref (r 10), .ref (r 11), .ref (r 12), .ref (r 13), .ref (r 14), .ref (r 15), .ref (r 16), .ref (r 17), .ref (r 18)] : List Value).set 11 (.int v))) = wR cI cZ r (xu N 0 11 v) := rfl
theorem sR_1 {cI cZ : ClassId} {r : Nat → Nat} {N : xM} {j : Nat} {v : Int32} : (wR cI cZ r N).set 1 ((r 1), .inl (cI, 8, .inl (upd (N 1) j v))) = wR cI cZ r (xu N 1 j v) := rfl
theorem sR_2 {cI cZ : ClassId} {r : Nat → Nat} {N : xM} {j : Nat} {v : Int32} : (wR cI cZ r N).set 2 ((r 2), .inl (cI, 8, .inl (upd (N 2) j v))) = wR cI cZ r (xu N 2 j v) := rfl
theorem sR_3 {cI cZ : ClassId} {r : Nat → Nat} {N : xM} {j : Nat} {v : Int32} : (wR cI cZ r N).set 3 ((r 3), .inl (cZ, 8, .inl (upd (N 3) j v))) = wR cI cZ r (xu N 3 j v) := rfl
theorem sR_4 {cI cZ : ClassId} {r : Nat → Nat} {N : xM} {j : Nat} {v : Int32} : (wR cI cZ r N).set 4 ((r 4), .inl (cI, 24, .inl (upd (N 4) j v))) = wR cI cZ r (xu N 4 j v) := rfl
theorem sR_5 {cI cZ : ClassId} {r : Nat → Nat} {N : xM} {j : Nat} {v : Int32} : (wR cI cZ r N).set 5 ((r 5), .inl (cI, 2, .inl (upd (N 5) j v))) = wR cI cZ r (xu N 5 j v) := rfl
theorem sR_6 {cI cZ : ClassId} {r : Nat → Nat} {N : xM} {j : Nat} {v : Int32} : (wR cI cZ r N).set 6 ((r 6), .inl (cI, 2, .inl (upd (N 6) j v))) = wR cI cZ r (xu N 6 j v) := rfl
theorem sR_7 {cI cZ : ClassId} {r : Nat → Nat} {N : xM} {j : Nat} {v : Int32} : (wR cI cZ r N).set 7 ((r 7), .inl (cI, 400, .inl (upd (N 7) j v))) = wR cI cZ r (xu N 7 j v) := rfl
theorem sR_8 {cI cZ : ClassId} {r : Nat → Nat} {N : xM} {j : Nat} {v : Int32} : (wR cI cZ r N).set 8 ((r 8), .inl (cI, 400, .inl (upd (N 8) j v))) = wR cI cZ r (xu N 8 j v) := rfl
theorem sR_9 {cI cZ : ClassId} {r : Nat → Nat} {N : xM} {j : Nat} {v : Int32} : (wR cI cZ r N).set 9 ((r 9), .inl (cI, 400, .inl (upd (N 9) j v))) = wR cI cZ r (xu N 9 j v) := rfl
theorem sR_10 {cI cZ : ClassId} {r : Nat → Nat} {N : xM} {j : Nat} {v : Int32} : (wR cI cZ r N).set 10 ((r 10), .inl (cI, 400, .inl (upd (N 10) j v))) = wR cI cZ r (xu N 10 j v) := rfl
theorem sR_11 {cI cZ : ClassId} {r : Nat → Nat} {N : xM} {j : Nat} {v : Int32} : (wR cI cZ r N).set 11 ((r 11), .inl (cI, 400, .inl (upd (N 11) j v))) = wR cI cZ r (xu N 11 j v) := rfl
theorem sR_12 {cI cZ : ClassId} {r : Nat → Nat} {N : xM} {j : Nat} {v : Int32} : (wR cI cZ r N).set 12 ((r 12), .inl (cZ, 400, .inl (upd (N 12) j v))) = wR cI cZ r (xu N 12 j v) := rfl
theorem sR_13 {cI cZ : ClassId} {r : Nat → Nat} {N : xM} {j : Nat} {v : Int32} : (wR cI cZ r N).set 13 ((r 13), .inl (cI, 48, .inl (upd (N 13) j v))) = wR cI cZ r (xu N 13 j v) := rfl
theorem sR_14 {cI cZ : ClassId} {r : Nat → Nat} {N : xM} {j : Nat} {v : Int32} : (wR cI cZ r N).set 14 ((r 14), .inl (cI, 48, .inl (upd (N 14) j v))) = wR cI cZ r (xu N 14 j v) := rfl
theorem sR_15 {cI cZ : ClassId} {r : Nat → Nat} {N : xM} {j : Nat} {v : Int32} : (wR cI cZ r N).set 15 ((r 15), .inl (cI, 48, .inl (upd (N 15) j v))) = wR cI cZ r (xu N 15 j v) := rfl
theorem sR_16 {cI cZ : ClassId} {r : Nat → Nat} {N : xM} {j : Nat} {v : Int32} : (wR cI cZ r N).set 16 ((r 16), .inl (cI, 16, .inl (upd (N 16) j v))) = wR cI cZ r (xu N 16 j v) := rfl
theorem sR_17 {cI cZ : ClassId} {r : Nat → Nat} {N : xM} {j : Nat} {v : Int32} : (wR cI cZ r N).set 17 ((r 17), .inl (cI, 16, .inl (upd (N 17) j v))) = wR cI cZ r (xu N 17 j v) := rfl
theorem sR_18 {cI cZ : ClassId} {r : Nat → Nat} {N : xM} {j : Nat} {v : Int32} : (wR cI cZ r N).set 18 ((r 18), .inl (cI, 16, .inl (upd (N 18) j v))) = wR cI cZ r (xu N 18 j v) := rfl
theorem wD_0 {cI cZ : ClassId} {a b : Nat → Nat} {M T : xM} : (wD cI cZ a b (M, T))[0]? = some ((a 0), .inr (1, [.ref (a 1), .ref (a 2), .ref (a 3), .ref (a 4), .int (M 0 4)])) := rfl
theorem wD_1 {cI cZ : ClassId} {a b : Nat → Nat} {M T : xM} : (wD cI cZ a b (M, T))[1]? = some ((a 1), .inr (3, [.int (M 1 0), .int (M 1 1), .int (M 1 2), .int (M 1 3), .int (M 1 4)])) := rfl
theorem wD_2 {cI cZ : ClassId} {a b : Nat → Nat} {M T : xM} : (wD cI cZ a b (M, T))[2]? = some ((a 2), .inr (2, [.int (M 2 0), .ref (a 5), .ref (a 6), .ref (a 7), .ref (a 8), .ref (a 9), .ref (a 10)])) := rfl
theorem wD_3 {cI cZ : ClassId} {a b : Nat → Nat} {M T : xM} : (wD cI cZ a b (M, T))[3]? = some ((a 3), .inr (4, [.int (M 3 0), .ref (a 11), .ref (a 12), .ref (a 13), .ref (a 14)])) := rfl
theorem wD_4 {cI cZ : ClassId} {a b : Nat → Nat} {M T : xM} : (wD cI cZ a b (M, T))[4]? = some ((a 4), .inr (0, [.int (M 4 0), .ref (a 15), .ref (a 16), .ref (a 17), .ref (a 18), .ref (a 19), .ref (a 20), .ref (a 21), .ref (a 22), .ref (a 23), .int (M 4 10)])) := rfl
theorem wD_5 {cI cZ : ClassId} {a b : Nat → Nat} {M T : xM} : (wD cI cZ a b (M, T))[5]? = some ((a 5), .inl (cI, 8, .inl (M 5))) := rfl
theorem wD_6 {cI cZ : ClassId} {a b : Nat → Nat} {M T : xM} : (wD cI cZ a b (M, T))[6]? = some ((a 6), .inl (cI, 8, .inl (M 6))) := rfl
theorem wD_7 {cI cZ : ClassId} {a b : Nat → Nat} {M T : xM} : (wD cI cZ a b (M, T))[7]? = some ((a 7), .inl (cZ, 8, .inl (M 7))) := rfl
theorem wD_8 {cI cZ : ClassId} {a b : Nat → Nat} {M T : xM} : (wD cI cZ a b (M, T))[8]? = some ((a 8), .inl (cI, 8, .inl (M 8))) := rfl
theorem wD_9 {cI cZ : ClassId} {a b : Nat → Nat} {M T : xM} : (wD cI cZ a b (M, T))[9]? = some ((a 9), .inl (cI, 8, .inl (M 9))) := rfl
theorem wD_10 {cI cZ : ClassId} {a b : Nat → Nat} {M T : xM} : (wD cI cZ a b (M, T))[10]? = some ((a 10), .inl (cI, 8, .inl (M 10))) := rfl
theorem wD_11 {cI cZ : ClassId} {a b : Nat → Nat} {M T : xM} : (wD cI cZ a b (M, T))[11]? = some ((a 11), .inl (cI, 24, .inl (M 11))) := rfl
theorem wD_12 {cI cZ : ClassId} {a b : Nat → Nat} {M T : xM} : (wD cI cZ a b (M, T))[12]? = some ((a 12), .inl (cI, 24, .inl (M 12))) := rfl
theorem wD_13 {cI cZ : ClassId} {a b : Nat → Nat} {M T : xM} : (wD cI cZ a b (M, T))[13]? = some ((a 13), .inl (cI, 24, .inl (M 13))) := rfl
theorem wD_14 {cI cZ : ClassId} {a b : Nat → Nat} {M T : xM} : (wD cI cZ a b (M, T))[14]? = some ((a 14), .inl (cI, 24, .inl (M 14))) := rfl
theorem wD_15 {cI cZ : ClassId} {a b : Nat → Nat} {M T : xM} : (wD cI cZ a b (M, T))[15]? = some ((a 15), .inl (cI, 200, .inl (M 15))) := rfl
theorem wD_16 {cI cZ : ClassId} {a b : Nat → Nat} {M T : xM} : (wD cI cZ a b (M, T))[16]? = some ((a 16), .inl (cI, 200, .inl (M 16))) := rfl
theorem wD_17 {cI cZ : ClassId} {a b : Nat → Nat} {M T : xM} : (wD cI cZ a b (M, T))[17]? = some ((a 17), .inl (cI, 200, .inl (M 17))) := rfl
theorem wD_18 {cI cZ : ClassId} {a b : Nat → Nat} {M T : xM} : (wD cI cZ a b (M, T))[18]? = some ((a 18), .inl (cZ, 200, .inl (M 18))) := rfl
theorem wD_19 {cI cZ : ClassId} {a b : Nat → Nat} {M T : xM} : (wD cI cZ a b (M, T))[19]? = some ((a 19), .inl (cI, 200, .inl (M 19))) := rfl
theorem wD_20 {cI cZ : ClassId} {a b : Nat → Nat} {M T : xM} : (wD cI cZ a b (M, T))[20]? = some ((a 20), .inl (cI, 200, .inl (M 20))) := rfl
theorem wD_21 {cI cZ : ClassId} {a b : Nat → Nat} {M T : xM} : (wD cI cZ a b (M, T))[21]? = some ((a 21), .inl (cI, 200, .inl (M 21))) := rfl
theorem wD_22 {cI cZ : ClassId} {a b : Nat → Nat} {M T : xM} : (wD cI cZ a b (M, T))[22]? = some ((a 22), .inl (cI, 200, .inl (M 22))) := rfl
theorem wD_23 {cI cZ : ClassId} {a b : Nat → Nat} {M T : xM} : (wD cI cZ a b (M, T))[23]? = some ((a 23), .inl (cI, 32, .inl (M 23))) := rfl
theorem wD_24 {cI cZ : ClassId} {a b : Nat → Nat} {M T : xM} : (wD cI cZ a b (M, T))[24]? = some ((b 0), .inr (1, [.ref (b 1), .ref (b 2), .ref (b 3), .ref (b 4), .int (T 0 4)])) := rfl
theorem wD_25 {cI cZ : ClassId} {a b : Nat → Nat} {M T : xM} : (wD cI cZ a b (M, T))[25]? = some ((b 1), .inr (3, [.int (T 1 0), .int (T 1 1), .int (T 1 2), .int (T 1 3), .int (T 1 4)])) := rfl
theorem wD_26 {cI cZ : ClassId} {a b : Nat → Nat} {M T : xM} : (wD cI cZ a b (M, T))[26]? = some ((b 2), .inr (2, [.int (T 2 0), .ref (b 5), .ref (b 6), .ref (b 7), .ref (b 8), .ref (b 9), .ref (b 10)])) := rfl
theorem wD_27 {cI cZ : ClassId} {a b : Nat → Nat} {M T : xM} : (wD cI cZ a b (M, T))[27]? = some ((b 3), .inr (4, [.int (T 3 0), .ref (b 11), .ref (b 12), .ref (b 13), .ref (b 14)])) := rfl
theorem wD_28 {cI cZ : ClassId} {a b : Nat → Nat} {M T : xM} : (wD cI cZ a b (M, T))[28]? = some ((b 4), .inr (0, [.int (T 4 0), .ref (b 15), .ref (b 16), .ref (b 17), .ref (b 18), .ref (b 19), .ref (b 20), .ref (b 21), .ref (b 22), .ref (b 23), .int (T 4 10)])) := rfl
theorem wD_29 {cI cZ : ClassId} {a b : Nat → Nat} {M T : xM} : (wD cI cZ a b (M, T))[29]? = some ((b 5), .inl (cI, 8, .inl (T 5))) := rfl
theorem wD_30 {cI cZ : ClassId} {a b : Nat → Nat} {M T : xM} : (wD cI cZ a b (M, T))[30]? = some ((b 6), .inl (cI, 8, .inl (T 6))) := rfl
theorem wD_31 {cI cZ : ClassId} {a b : Nat → Nat} {M T : xM} : (wD cI cZ a b (M, T))[31]? = some ((b 7), .inl (cZ, 8, .inl (T 7))) := rfl
theorem wD_32 {cI cZ : ClassId} {a b : Nat → Nat} {M T : xM} : (wD cI cZ a b (M, T))[32]? = some ((b 8), .inl (cI, 8, .inl (T 8))) := rfl
theorem wD_33 {cI cZ : ClassId} {a b : Nat → Nat} {M T : xM} : (wD cI cZ a b (M, T))[33]? = some ((b 9), .inl (cI, 8, .inl (T 9))) := rfl
theorem wD_34 {cI cZ : ClassId} {a b : Nat → Nat} {M T : xM} : (wD cI cZ a b (M, T))[34]? = some ((b 10), .inl (cI, 8, .inl (T 10))) := rfl
theorem wD_35 {cI cZ : ClassId} {a b : Nat → Nat} {M T : xM} : (wD cI cZ a b (M, T))[35]? = some ((b 11), .inl (cI, 24, .inl (T 11))) := rfl
theorem wD_36 {cI cZ : ClassId} {a b : Nat → Nat} {M T : xM} : (wD cI cZ a b (M, T))[36]? = some ((b 12), .inl (cI, 24, .inl (T 12))) := rfl
theorem wD_37 {cI cZ : ClassId} {a b : Nat → Nat} {M T : xM} : (wD cI cZ a b (M, T))[37]? = some ((b 13), .inl (cI, 24, .inl (T 13))) := rfl
theorem wD_38 {cI cZ : ClassId} {a b : Nat → Nat} {M T : xM} : (wD cI cZ a b (M, T))[38]? = some ((b 14), .inl (cI, 24, .inl (T 14))) := rfl
theorem wD_39 {cI cZ : ClassId} {a b : Nat → Nat} {M T : xM} : (wD cI cZ a b (M, T))[39]? = some ((b 15), .inl (cI, 200, .inl (T 15))) := rfl
theorem wD_40 {cI cZ : ClassId} {a b : Nat → Nat} {M T : xM} : (wD cI cZ a b (M, T))[40]? = some ((b 16), .inl (cI, 200, .inl (T 16))) := rfl
theorem wD_41 {cI cZ : ClassId} {a b : Nat → Nat} {M T : xM} : (wD cI cZ a b (M, T))[41]? = some ((b 17), .inl (cI, 200, .inl (T 17))) := rfl
theorem wD_42 {cI cZ : ClassId} {a b : Nat → Nat} {M T : xM} : (wD cI cZ a b (M, T))[42]? = some ((b 18), .inl (cZ, 200, .inl (T 18))) := rfl
theorem wD_43 {cI cZ : ClassId} {a b : Nat → Nat} {M T : xM} : (wD cI cZ a b (M, T))[43]? = some ((b 19), .inl (cI, 200, .inl (T 19))) := rfl
theorem wD_44 {cI cZ : ClassId} {a b : Nat → Nat} {M T : xM} : (wD cI cZ a b (M, T))[44]? = some ((b 20), .inl (cI, 200, .inl (T 20))) := rfl
theorem wD_45 {cI cZ : ClassId} {a b : Nat → Nat} {M T : xM} : (wD cI cZ a b (M, T))[45]? = some ((b 21), .inl (cI, 200, .inl (T 21))) := rfl
theorem wD_46 {cI cZ : ClassId} {a b : Nat → Nat} {M T : xM} : (wD cI cZ a b (M, T))[46]? = some ((b 22), .inl (cI, 200, .inl (T 22))) := rfl
theorem wD_47 {cI cZ : ClassId} {a b : Nat → Nat} {M T : xM} : (wD cI cZ a b (M, T))[47]? = some ((b 23), .inl (cI, 32, .inl (T 23))) := rfl
theorem sD_0_4 {cI cZ : ClassId} {a b : Nat → Nat} {M T : xM} {v : Int32} : (wD cI cZ a b (M, T)).set 0 ((a 0), .inr (1, ([.ref (a 1), .ref (a 2), .ref (a 3), .ref (a 4), .int (M 0 4)] : List Value).set 4 (.int v))) = wD cI cZ a b (xu M 0 4 v, T) := rfl
theorem sD_1_0 {cI cZ : ClassId} {a b : Nat → Nat} {M T : xM} {v : Int32} : (wD cI cZ a b (M, T)).set 1 ((a 1), .inr (3, ([.int (M 1 0), .int (M 1 1), .int (M 1 2), .int (M 1 3), .int (M 1 4)] : List Value).set 0 (.int v))) = wD cI cZ a b (xu M 1 0 v, T) := rfl
theorem sD_1_1 {cI cZ : ClassId} {a b : Nat → Nat} {M T : xM} {v : Int32} : (wD cI cZ a b (M, T)).set 1 ((a 1), .inr (3, ([.int (M 1 0), .int (M 1 1), .int (M 1 2), .int (M 1 3), .int (M 1 4)] : List Value).set 1 (.int v))) = wD cI cZ a b (xu M 1 1 v, T) := rfl
theorem sD_1_2 {cI cZ : ClassId} {a b : Nat → Nat} {M T : xM} {v : Int32} : (wD cI cZ a b (M, T)).set 1 ((a 1), .inr (3, ([.int (M 1 0), .int (M 1 1), .int (M 1 2), .int (M 1 3), .int (M 1 4)] : List Value).set 2 (.int v))) = wD cI cZ a b (xu M 1 2 v, T) := rfl
theorem sD_1_3 {cI cZ : ClassId} {a b : Nat → Nat} {M T : xM} {v : Int32} : (wD cI cZ a b (M, T)).set 1 ((a 1), .inr (3, ([.int (M 1 0), .int (M 1 1), .int (M 1 2), .int (M 1 3), .int (M 1 4)] : List Value).set 3 (.int v))) = wD cI cZ a b (xu M 1 3 v, T) := rfl
theorem sD_1_4 {cI cZ : ClassId} {a b : Nat → Nat} {M T : xM} {v : Int32} : (wD cI cZ a b (M, T)).set 1 ((a 1), .inr (3, ([.int (M 1 0), .int (M 1 1), .int (M 1 2), .int (M 1 3), .int (M 1 4)] : List Value).set 4 (.int v))) = wD cI cZ a b (xu M 1 4 v, T) := rfl
theorem sD_2_0 {cI cZ : ClassId} {a b : Nat → Nat} {M T : xM} {v : Int32} : (wD cI cZ a b (M, T)).set 2 ((a 2), .inr (2, ([.int (M 2 0), .ref (a 5), .ref (a 6), .ref (a 7), .ref (a 8), .ref (a 9), .ref (a 10)] : List Value).set 0 (.int v))) = wD cI cZ a b (xu M 2 0 v, T) := rfl
theorem sD_3_0 {cI cZ : ClassId} {a b : Nat → Nat} {M T : xM} {v : Int32} : (wD cI cZ a b (M, T)).set 3 ((a 3), .inr (4, ([.int (M 3 0), .ref (a 11), .ref (a 12), .ref (a 13), .ref (a 14)] : List Value).set 0 (.int v))) = wD cI cZ a b (xu M 3 0 v, T) := rfl
theorem sD_4_0 {cI cZ : ClassId} {a b : Nat → Nat} {M T : xM} {v : Int32} : (wD cI cZ a b (M, T)).set 4 ((a 4), .inr (0, ([.int (M 4 0), .ref (a 15), .ref (a 16), .ref (a 17), .ref (a 18), .ref (a 19), .ref (a 20), .ref (a 21), .ref (a 22), .ref (a 23), .int (M 4 10)] : List Value).set 0 (.int v))) = wD cI cZ a b (xu M 4 0 v, T) := rfl
theorem sD_4_10 {cI cZ : ClassId} {a b : Nat → Nat} {M T : xM} {v : Int32} : (wD cI cZ a b (M, T)).set 4 ((a 4), .inr (0, ([.int (M 4 0), .ref (a 15), .ref (a 16), .ref (a 17), .ref (a 18), .ref (a 19), .ref (a 20), .ref (a 21), .ref (a 22), .ref (a 23), .int (M 4 10)] : List Value).set 10 (.int v))) = wD cI cZ a b (xu M 4 10 v, T) := rfl
theorem sD_5 {cI cZ : ClassId} {a b : Nat → Nat} {M T : xM} {j : Nat} {v : Int32} : (wD cI cZ a b (M, T)).set 5 ((a 5), .inl (cI, 8, .inl (upd (M 5) j v))) = wD cI cZ a b (xu M 5 j v, T) := rfl
theorem sD_6 {cI cZ : ClassId} {a b : Nat → Nat} {M T : xM} {j : Nat} {v : Int32} : (wD cI cZ a b (M, T)).set 6 ((a 6), .inl (cI, 8, .inl (upd (M 6) j v))) = wD cI cZ a b (xu M 6 j v, T) := rfl
theorem sD_7 {cI cZ : ClassId} {a b : Nat → Nat} {M T : xM} {j : Nat} {v : Int32} : (wD cI cZ a b (M, T)).set 7 ((a 7), .inl (cZ, 8, .inl (upd (M 7) j v))) = wD cI cZ a b (xu M 7 j v, T) := rfl
theorem sD_8 {cI cZ : ClassId} {a b : Nat → Nat} {M T : xM} {j : Nat} {v : Int32} : (wD cI cZ a b (M, T)).set 8 ((a 8), .inl (cI, 8, .inl (upd (M 8) j v))) = wD cI cZ a b (xu M 8 j v, T) := rfl
theorem sD_9 {cI cZ : ClassId} {a b : Nat → Nat} {M T : xM} {j : Nat} {v : Int32} : (wD cI cZ a b (M, T)).set 9 ((a 9), .inl (cI, 8, .inl (upd (M 9) j v))) = wD cI cZ a b (xu M 9 j v, T) := rfl
theorem sD_10 {cI cZ : ClassId} {a b : Nat → Nat} {M T : xM} {j : Nat} {v : Int32} : (wD cI cZ a b (M, T)).set 10 ((a 10), .inl (cI, 8, .inl (upd (M 10) j v))) = wD cI cZ a b (xu M 10 j v, T) := rfl
theorem sD_11 {cI cZ : ClassId} {a b : Nat → Nat} {M T : xM} {j : Nat} {v : Int32} : (wD cI cZ a b (M, T)).set 11 ((a 11), .inl (cI, 24, .inl (upd (M 11) j v))) = wD cI cZ a b (xu M 11 j v, T) := rfl
theorem sD_12 {cI cZ : ClassId} {a b : Nat → Nat} {M T : xM} {j : Nat} {v : Int32} : (wD cI cZ a b (M, T)).set 12 ((a 12), .inl (cI, 24, .inl (upd (M 12) j v))) = wD cI cZ a b (xu M 12 j v, T) := rfl
theorem sD_13 {cI cZ : ClassId} {a b : Nat → Nat} {M T : xM} {j : Nat} {v : Int32} : (wD cI cZ a b (M, T)).set 13 ((a 13), .inl (cI, 24, .inl (upd (M 13) j v))) = wD cI cZ a b (xu M 13 j v, T) := rfl
theorem sD_14 {cI cZ : ClassId} {a b : Nat → Nat} {M T : xM} {j : Nat} {v : Int32} : (wD cI cZ a b (M, T)).set 14 ((a 14), .inl (cI, 24, .inl (upd (M 14) j v))) = wD cI cZ a b (xu M 14 j v, T) := rfl
theorem sD_15 {cI cZ : ClassId} {a b : Nat → Nat} {M T : xM} {j : Nat} {v : Int32} : (wD cI cZ a b (M, T)).set 15 ((a 15), .inl (cI, 200, .inl (upd (M 15) j v))) = wD cI cZ a b (xu M 15 j v, T) := rfl
theorem sD_16 {cI cZ : ClassId} {a b : Nat → Nat} {M T : xM} {j : Nat} {v : Int32} : (wD cI cZ a b (M, T)).set 16 ((a 16), .inl (cI, 200, .inl (upd (M 16) j v))) = wD cI cZ a b (xu M 16 j v, T) := rfl
theorem sD_17 {cI cZ : ClassId} {a b : Nat → Nat} {M T : xM} {j : Nat} {v : Int32} : (wD cI cZ a b (M, T)).set 17 ((a 17), .inl (cI, 200, .inl (upd (M 17) j v))) = wD cI cZ a b (xu M 17 j v, T) := rfl
theorem sD_18 {cI cZ : ClassId} {a b : Nat → Nat} {M T : xM} {j : Nat} {v : Int32} : (wD cI cZ a b (M, T)).set 18 ((a 18), .inl (cZ, 200, .inl (upd (M 18) j v))) = wD cI cZ a b (xu M 18 j v, T) := rfl
theorem sD_19 {cI cZ : ClassId} {a b : Nat → Nat} {M T : xM} {j : Nat} {v : Int32} : (wD cI cZ a b (M, T)).set 19 ((a 19), .inl (cI, 200, .inl (upd (M 19) j v))) = wD cI cZ a b (xu M 19 j v, T) := rfl
theorem sD_20 {cI cZ : ClassId} {a b : Nat → Nat} {M T : xM} {j : Nat} {v : Int32} : (wD cI cZ a b (M, T)).set 20 ((a 20), .inl (cI, 200, .inl (upd (M 20) j v))) = wD cI cZ a b (xu M 20 j v, T) := rfl
theorem sD_21 {cI cZ : ClassId} {a b : Nat → Nat} {M T : xM} {j : Nat} {v : Int32} : (wD cI cZ a b (M, T)).set 21 ((a 21), .inl (cI, 200, .inl (upd (M 21) j v))) = wD cI cZ a b (xu M 21 j v, T) := rfl
theorem sD_22 {cI cZ : ClassId} {a b : Nat → Nat} {M T : xM} {j : Nat} {v : Int32} : (wD cI cZ a b (M, T)).set 22 ((a 22), .inl (cI, 200, .inl (upd (M 22) j v))) = wD cI cZ a b (xu M 22 j v, T) := rfl
theorem sD_23 {cI cZ : ClassId} {a b : Nat → Nat} {M T : xM} {j : Nat} {v : Int32} : (wD cI cZ a b (M, T)).set 23 ((a 23), .inl (cI, 32, .inl (upd (M 23) j v))) = wD cI cZ a b (xu M 23 j v, T) := rfl
theorem sD_24_4 {cI cZ : ClassId} {a b : Nat → Nat} {M T : xM} {v : Int32} : (wD cI cZ a b (M, T)).set 24 ((b 0), .inr (1, ([.ref (b 1), .ref (b 2), .ref (b 3), .ref (b 4), .int (T 0 4)] : List Value).set 4 (.int v))) = wD cI cZ a b (M, xu T 0 4 v) := rfl
theorem sD_25_0 {cI cZ : ClassId} {a b : Nat → Nat} {M T : xM} {v : Int32} : (wD cI cZ a b (M, T)).set 25 ((b 1), .inr (3, ([.int (T 1 0), .int (T 1 1), .int (T 1 2), .int (T 1 3), .int (T 1 4)] : List Value).set 0 (.int v))) = wD cI cZ a b (M, xu T 1 0 v) := rfl
theorem sD_25_1 {cI cZ : ClassId} {a b : Nat → Nat} {M T : xM} {v : Int32} : (wD cI cZ a b (M, T)).set 25 ((b 1), .inr (3, ([.int (T 1 0), .int (T 1 1), .int (T 1 2), .int (T 1 3), .int (T 1 4)] : List Value).set 1 (.int v))) = wD cI cZ a b (M, xu T 1 1 v) := rfl
theorem sD_25_2 {cI cZ : ClassId} {a b : Nat → Nat} {M T : xM} {v : Int32} : (wD cI cZ a b (M, T)).set 25 ((b 1), .inr (3, ([.int (T 1 0), .int (T 1 1), .int (T 1 2), .int (T 1 3), .int (T 1 4)] : List Value).set 2 (.int v))) = wD cI cZ a b (M, xu T 1 2 v) := rfl
theorem sD_25_3 {cI cZ : ClassId} {a b : Nat → Nat} {M T : xM} {v : Int32} : (wD cI cZ a b (M, T)).set 25 ((b 1), .inr (3, ([.int (T 1 0), .int (T 1 1), .int (T 1 2), .int (T 1 3), .int (T 1 4)] : List Value).set 3 (.int v))) = wD cI cZ a b (M, xu T 1 3 v) := rfl
theorem sD_25_4 {cI cZ : ClassId} {a b : Nat → Nat} {M T : xM} {v : Int32} : (wD cI cZ a b (M, T)).set 25 ((b 1), .inr (3, ([.int (T 1 0), .int (T 1 1), .int (T 1 2), .int (T 1 3), .int (T 1 4)] : List Value).set 4 (.int v))) = wD cI cZ a b (M, xu T 1 4 v) := rfl
theorem sD_26_0 {cI cZ : ClassId} {a b : Nat → Nat} {M T : xM} {v : Int32} : (wD cI cZ a b (M, T)).set 26 ((b 2), .inr (2, ([.int (T 2 0), .ref (b 5), .ref (b 6), .ref (b 7), .ref (b 8), .ref (b 9), .ref (b 10)] : List Value).set 0 (.int v))) = wD cI cZ a b (M, xu T 2 0 v) := rfl
theorem sD_27_0 {cI cZ : ClassId} {a b : Nat → Nat} {M T : xM} {v : Int32} : (wD cI cZ a b (M, T)).set 27 ((b 3), .inr (4, ([.int (T 3 0), .ref (b 11), .ref (b 12), .ref (b 13), .ref (b 14)] : List Value).set 0 (.int v))) = wD cI cZ a b (M, xu T 3 0 v) := rfl
theorem sD_28_0 {cI cZ : ClassId} {a b : Nat → Nat} {M T : xM} {v : Int32} : (wD cI cZ a b (M, T)).set 28 ((b 4), .inr (0, ([.int (T 4 0), .ref (b 15), .ref (b 16), .ref (b 17), .ref (b 18), .ref (b 19), .ref (b 20), .ref (b 21), .ref (b 22), .ref (b 23), .int (T 4 10)] : List Value).set 0 (.int v))) = wD cI cZ a b (M, xu T 4 0 v) := rfl
theorem sD_28_10 {cI cZ : ClassId} {a b : Nat → Nat} {M T : xM} {v : Int32} : (wD cI cZ a b (M, T)).set 28 ((b 4), .inr (0, ([.int (T 4 0), .ref (b 15), .ref (b 16), .ref (b 17), .ref (b 18), .ref (b 19), .ref (b 20), .ref (b 21), .ref (b 22), .ref (b 23), .int (T 4 10)] : List Value).set 10 (.int v))) = wD cI cZ a b (M, xu T 4 10 v) := rfl
theorem sD_29 {cI cZ : ClassId} {a b : Nat → Nat} {M T : xM} {j : Nat} {v : Int32} : (wD cI cZ a b (M, T)).set 29 ((b 5), .inl (cI, 8, .inl (upd (T 5) j v))) = wD cI cZ a b (M, xu T 5 j v) := rfl
theorem sD_30 {cI cZ : ClassId} {a b : Nat → Nat} {M T : xM} {j : Nat} {v : Int32} : (wD cI cZ a b (M, T)).set 30 ((b 6), .inl (cI, 8, .inl (upd (T 6) j v))) = wD cI cZ a b (M, xu T 6 j v) := rfl
theorem sD_31 {cI cZ : ClassId} {a b : Nat → Nat} {M T : xM} {j : Nat} {v : Int32} : (wD cI cZ a b (M, T)).set 31 ((b 7), .inl (cZ, 8, .inl (upd (T 7) j v))) = wD cI cZ a b (M, xu T 7 j v) := rfl
theorem sD_32 {cI cZ : ClassId} {a b : Nat → Nat} {M T : xM} {j : Nat} {v : Int32} : (wD cI cZ a b (M, T)).set 32 ((b 8), .inl (cI, 8, .inl (upd (T 8) j v))) = wD cI cZ a b (M, xu T 8 j v) := rfl
theorem sD_33 {cI cZ : ClassId} {a b : Nat → Nat} {M T : xM} {j : Nat} {v : Int32} : (wD cI cZ a b (M, T)).set 33 ((b 9), .inl (cI, 8, .inl (upd (T 9) j v))) = wD cI cZ a b (M, xu T 9 j v) := rfl
theorem sD_34 {cI cZ : ClassId} {a b : Nat → Nat} {M T : xM} {j : Nat} {v : Int32} : (wD cI cZ a b (M, T)).set 34 ((b 10), .inl (cI, 8, .inl (upd (T 10) j v))) = wD cI cZ a b (M, xu T 10 j v) := rfl
theorem sD_35 {cI cZ : ClassId} {a b : Nat → Nat} {M T : xM} {j : Nat} {v : Int32} : (wD cI cZ a b (M, T)).set 35 ((b 11), .inl (cI, 24, .inl (upd (T 11) j v))) = wD cI cZ a b (M, xu T 11 j v) := rfl
theorem sD_36 {cI cZ : ClassId} {a b : Nat → Nat} {M T : xM} {j : Nat} {v : Int32} : (wD cI cZ a b (M, T)).set 36 ((b 12), .inl (cI, 24, .inl (upd (T 12) j v))) = wD cI cZ a b (M, xu T 12 j v) := rfl
theorem sD_37 {cI cZ : ClassId} {a b : Nat → Nat} {M T : xM} {j : Nat} {v : Int32} : (wD cI cZ a b (M, T)).set 37 ((b 13), .inl (cI, 24, .inl (upd (T 13) j v))) = wD cI cZ a b (M, xu T 13 j v) := rfl
theorem sD_38 {cI cZ : ClassId} {a b : Nat → Nat} {M T : xM} {j : Nat} {v : Int32} : (wD cI cZ a b (M, T)).set 38 ((b 14), .inl (cI, 24, .inl (upd (T 14) j v))) = wD cI cZ a b (M, xu T 14 j v) := rfl
theorem sD_39 {cI cZ : ClassId} {a b : Nat → Nat} {M T : xM} {j : Nat} {v : Int32} : (wD cI cZ a b (M, T)).set 39 ((b 15), .inl (cI, 200, .inl (upd (T 15) j v))) = wD cI cZ a b (M, xu T 15 j v) := rfl
theorem sD_40 {cI cZ : ClassId} {a b : Nat → Nat} {M T : xM} {j : Nat} {v : Int32} : (wD cI cZ a b (M, T)).set 40 ((b 16), .inl (cI, 200, .inl (upd (T 16) j v))) = wD cI cZ a b (M, xu T 16 j v) := rfl
theorem sD_41 {cI cZ : ClassId} {a b : Nat → Nat} {M T : xM} {j : Nat} {v : Int32} : (wD cI cZ a b (M, T)).set 41 ((b 17), .inl (cI, 200, .inl (upd (T 17) j v))) = wD cI cZ a b (M, xu T 17 j v) := rfl
theorem sD_42 {cI cZ : ClassId} {a b : Nat → Nat} {M T : xM} {j : Nat} {v : Int32} : (wD cI cZ a b (M, T)).set 42 ((b 18), .inl (cZ, 200, .inl (upd (T 18) j v))) = wD cI cZ a b (M, xu T 18 j v) := rfl
theorem sD_43 {cI cZ : ClassId} {a b : Nat → Nat} {M T : xM} {j : Nat} {v : Int32} : (wD cI cZ a b (M, T)).set 43 ((b 19), .inl (cI, 200, .inl (upd (T 19) j v))) = wD cI cZ a b (M, xu T 19 j v) := rfl
theorem sD_44 {cI cZ : ClassId} {a b : Nat → Nat} {M T : xM} {j : Nat} {v : Int32} : (wD cI cZ a b (M, T)).set 44 ((b 20), .inl (cI, 200, .inl (upd (T 20) j v))) = wD cI cZ a b (M, xu T 20 j v) := rfl
theorem sD_45 {cI cZ : ClassId} {a b : Nat → Nat} {M T : xM} {j : Nat} {v : Int32} : (wD cI cZ a b (M, T)).set 45 ((b 21), .inl (cI, 200, .inl (upd (T 21) j v))) = wD cI cZ a b (M, xu T 21 j v) := rfl
theorem sD_46 {cI cZ : ClassId} {a b : Nat → Nat} {M T : xM} {j : Nat} {v : Int32} : (wD cI cZ a b (M, T)).set 46 ((b 22), .inl (cI, 200, .inl (upd (T 22) j v))) = wD cI cZ a b (M, xu T 22 j v) := rfl
theorem sD_47 {cI cZ : ClassId} {a b : Nat → Nat} {M T : xM} {j : Nat} {v : Int32} : (wD cI cZ a b (M, T)).set 47 ((b 23), .inl (cI, 32, .inl (upd (T 23) j v))) = wD cI cZ a b (M, xu T 23 j v) := rfl
theorem wO_0 {cI cZ : ClassId} {x : Nat} {a b : Nat → Nat} {M T : xM} : (wO cI cZ x a b (M, T))[0]? = some (x, .inr (5, [.ref (a 0), .ref (b 0)])) := rfl
theorem wO_1 {cI cZ : ClassId} {x : Nat} {a b : Nat → Nat} {M T : xM} : (wO cI cZ x a b (M, T))[1]? = some ((a 0), .inr (1, [.ref (a 1), .ref (a 2), .ref (a 3), .ref (a 4), .int (M 0 4)])) := rfl
theorem wO_2 {cI cZ : ClassId} {x : Nat} {a b : Nat → Nat} {M T : xM} : (wO cI cZ x a b (M, T))[2]? = some ((a 1), .inr (3, [.int (M 1 0), .int (M 1 1), .int (M 1 2), .int (M 1 3), .int (M 1 4)])) := rfl
theorem wO_3 {cI cZ : ClassId} {x : Nat} {a b : Nat → Nat} {M T : xM} : (wO cI cZ x a b (M, T))[3]? = some ((a 2), .inr (2, [.int (M 2 0), .ref (a 5), .ref (a 6), .ref (a 7), .ref (a 8), .ref (a 9), .ref (a 10)])) := rfl
theorem wO_4 {cI cZ : ClassId} {x : Nat} {a b : Nat → Nat} {M T : xM} : (wO cI cZ x a b (M, T))[4]? = some ((a 3), .inr (4, [.int (M 3 0), .ref (a 11), .ref (a 12), .ref (a 13), .ref (a 14)])) := rfl
theorem wO_5 {cI cZ : ClassId} {x : Nat} {a b : Nat → Nat} {M T : xM} : (wO cI cZ x a b (M, T))[5]? = some ((a 4), .inr (0, [.int (M 4 0), .ref (a 15), .ref (a 16), .ref (a 17), .ref (a 18), .ref (a 19), .ref (a 20), .ref (a 21), .ref (a 22), .ref (a 23), .int (M 4 10)])) := rfl
theorem wO_6 {cI cZ : ClassId} {x : Nat} {a b : Nat → Nat} {M T : xM} : (wO cI cZ x a b (M, T))[6]? = some ((a 5), .inl (cI, 8, .inl (M 5))) := rfl
theorem wO_7 {cI cZ : ClassId} {x : Nat} {a b : Nat → Nat} {M T : xM} : (wO cI cZ x a b (M, T))[7]? = some ((a 6), .inl (cI, 8, .inl (M 6))) := rfl
theorem wO_8 {cI cZ : ClassId} {x : Nat} {a b : Nat → Nat} {M T : xM} : (wO cI cZ x a b (M, T))[8]? = some ((a 7), .inl (cZ, 8, .inl (M 7))) := rfl
theorem wO_9 {cI cZ : ClassId} {x : Nat} {a b : Nat → Nat} {M T : xM} : (wO cI cZ x a b (M, T))[9]? = some ((a 8), .inl (cI, 8, .inl (M 8))) := rfl
theorem wO_10 {cI cZ : ClassId} {x : Nat} {a b : Nat → Nat} {M T : xM} : (wO cI cZ x a b (M, T))[10]? = some ((a 9), .inl (cI, 8, .inl (M 9))) := rfl
theorem wO_11 {cI cZ : ClassId} {x : Nat} {a b : Nat → Nat} {M T : xM} : (wO cI cZ x a b (M, T))[11]? = some ((a 10), .inl (cI, 8, .inl (M 10))) := rfl
theorem wO_12 {cI cZ : ClassId} {x : Nat} {a b : Nat → Nat} {M T : xM} : (wO cI cZ x a b (M, T))[12]? = some ((a 11), .inl (cI, 24, .inl (M 11))) := rfl
theorem wO_13 {cI cZ : ClassId} {x : Nat} {a b : Nat → Nat} {M T : xM} : (wO cI cZ x a b (M, T))[13]? = some ((a 12), .inl (cI, 24, .inl (M 12))) := rfl
theorem wO_14 {cI cZ : ClassId} {x : Nat} {a b : Nat → Nat} {M T : xM} : (wO cI cZ x a b (M, T))[14]? = some ((a 13), .inl (cI, 24, .inl (M 13))) := rfl
theorem wO_15 {cI cZ : ClassId} {x : Nat} {a b : Nat → Nat} {M T : xM} : (wO cI cZ x a b (M, T))[15]? = some ((a 14), .inl (cI, 24, .inl (M 14))) := rfl
theorem wO_16 {cI cZ : ClassId} {x : Nat} {a b : Nat → Nat} {M T : xM} : (wO cI cZ x a b (M, T))[16]? = some ((a 15), .inl (cI, 200, .inl (M 15))) := rfl
theorem wO_17 {cI cZ : ClassId} {x : Nat} {a b : Nat → Nat} {M T : xM} : (wO cI cZ x a b (M, T))[17]? = some ((a 16), .inl (cI, 200, .inl (M 16))) := rfl
theorem wO_18 {cI cZ : ClassId} {x : Nat} {a b : Nat → Nat} {M T : xM} : (wO cI cZ x a b (M, T))[18]? = some ((a 17), .inl (cI, 200, .inl (M 17))) := rfl
theorem wO_19 {cI cZ : ClassId} {x : Nat} {a b : Nat → Nat} {M T : xM} : (wO cI cZ x a b (M, T))[19]? = some ((a 18), .inl (cZ, 200, .inl (M 18))) := rfl
theorem wO_20 {cI cZ : ClassId} {x : Nat} {a b : Nat → Nat} {M T : xM} : (wO cI cZ x a b (M, T))[20]? = some ((a 19), .inl (cI, 200, .inl (M 19))) := rfl
theorem wO_21 {cI cZ : ClassId} {x : Nat} {a b : Nat → Nat} {M T : xM} : (wO cI cZ x a b (M, T))[21]? = some ((a 20), .inl (cI, 200, .inl (M 20))) := rfl
theorem wO_22 {cI cZ : ClassId} {x : Nat} {a b : Nat → Nat} {M T : xM} : (wO cI cZ x a b (M, T))[22]? = some ((a 21), .inl (cI, 200, .inl (M 21))) := rfl
theorem wO_23 {cI cZ : ClassId} {x : Nat} {a b : Nat → Nat} {M T : xM} : (wO cI cZ x a b (M, T))[23]? = some ((a 22), .inl (cI, 200, .inl (M 22))) := rfl
theorem wO_24 {cI cZ : ClassId} {x : Nat} {a b : Nat → Nat} {M T : xM} : (wO cI cZ x a b (M, T))[24]? = some ((a 23), .inl (cI, 32, .inl (M 23))) := rfl
theorem wO_25 {cI cZ : ClassId} {x : Nat} {a b : Nat → Nat} {M T : xM} : (wO cI cZ x a b (M, T))[25]? = some ((b 0), .inr (1, [.ref (b 1), .ref (b 2), .ref (b 3), .ref (b 4), .int (T 0 4)])) := rfl
theorem wO_26 {cI cZ : ClassId} {x : Nat} {a b : Nat → Nat} {M T : xM} : (wO cI cZ x a b (M, T))[26]? = some ((b 1), .inr (3, [.int (T 1 0), .int (T 1 1), .int (T 1 2), .int (T 1 3), .int (T 1 4)])) := rfl
theorem wO_27 {cI cZ : ClassId} {x : Nat} {a b : Nat → Nat} {M T : xM} : (wO cI cZ x a b (M, T))[27]? = some ((b 2), .inr (2, [.int (T 2 0), .ref (b 5), .ref (b 6), .ref (b 7), .ref (b 8), .ref (b 9), .ref (b 10)])) := rfl
theorem wO_28 {cI cZ : ClassId} {x : Nat} {a b : Nat → Nat} {M T : xM} : (wO cI cZ x a b (M, T))[28]? = some ((b 3), .inr (4, [.int (T 3 0), .ref (b 11), .ref (b 12), .ref (b 13), .ref (b 14)])) := rfl
theorem wO_29 {cI cZ : ClassId} {x : Nat} {a b : Nat → Nat} {M T : xM} : (wO cI cZ x a b (M, T))[29]? = some ((b 4), .inr (0, [.int (T 4 0), .ref (b 15), .ref (b 16), .ref (b 17), .ref (b 18), .ref (b 19), .ref (b 20), .ref (b 21), .ref (b 22), .ref (b 23), .int (T 4 10)])) := rfl
theorem wO_30 {cI cZ : ClassId} {x : Nat} {a b : Nat → Nat} {M T : xM} : (wO cI cZ x a b (M, T))[30]? = some ((b 5), .inl (cI, 8, .inl (T 5))) := rfl
theorem wO_31 {cI cZ : ClassId} {x : Nat} {a b : Nat → Nat} {M T : xM} : (wO cI cZ x a b (M, T))[31]? = some ((b 6), .inl (cI, 8, .inl (T 6))) := rfl
theorem wO_32 {cI cZ : ClassId} {x : Nat} {a b : Nat → Nat} {M T : xM} : (wO cI cZ x a b (M, T))[32]? = some ((b 7), .inl (cZ, 8, .inl (T 7))) := rfl
theorem wO_33 {cI cZ : ClassId} {x : Nat} {a b : Nat → Nat} {M T : xM} : (wO cI cZ x a b (M, T))[33]? = some ((b 8), .inl (cI, 8, .inl (T 8))) := rfl
theorem wO_34 {cI cZ : ClassId} {x : Nat} {a b : Nat → Nat} {M T : xM} : (wO cI cZ x a b (M, T))[34]? = some ((b 9), .inl (cI, 8, .inl (T 9))) := rfl
theorem wO_35 {cI cZ : ClassId} {x : Nat} {a b : Nat → Nat} {M T : xM} : (wO cI cZ x a b (M, T))[35]? = some ((b 10), .inl (cI, 8, .inl (T 10))) := rfl
theorem wO_36 {cI cZ : ClassId} {x : Nat} {a b : Nat → Nat} {M T : xM} : (wO cI cZ x a b (M, T))[36]? = some ((b 11), .inl (cI, 24, .inl (T 11))) := rfl
theorem wO_37 {cI cZ : ClassId} {x : Nat} {a b : Nat → Nat} {M T : xM} : (wO cI cZ x a b (M, T))[37]? = some ((b 12), .inl (cI, 24, .inl (T 12))) := rfl
theorem wO_38 {cI cZ : ClassId} {x : Nat} {a b : Nat → Nat} {M T : xM} : (wO cI cZ x a b (M, T))[38]? = some ((b 13), .inl (cI, 24, .inl (T 13))) := rfl
theorem wO_39 {cI cZ : ClassId} {x : Nat} {a b : Nat → Nat} {M T : xM} : (wO cI cZ x a b (M, T))[39]? = some ((b 14), .inl (cI, 24, .inl (T 14))) := rfl
theorem wO_40 {cI cZ : ClassId} {x : Nat} {a b : Nat → Nat} {M T : xM} : (wO cI cZ x a b (M, T))[40]? = some ((b 15), .inl (cI, 200, .inl (T 15))) := rfl
theorem wO_41 {cI cZ : ClassId} {x : Nat} {a b : Nat → Nat} {M T : xM} : (wO cI cZ x a b (M, T))[41]? = some ((b 16), .inl (cI, 200, .inl (T 16))) := rfl
theorem wO_42 {cI cZ : ClassId} {x : Nat} {a b : Nat → Nat} {M T : xM} : (wO cI cZ x a b (M, T))[42]? = some ((b 17), .inl (cI, 200, .inl (T 17))) := rfl
theorem wO_43 {cI cZ : ClassId} {x : Nat} {a b : Nat → Nat} {M T : xM} : (wO cI cZ x a b (M, T))[43]? = some ((b 18), .inl (cZ, 200, .inl (T 18))) := rfl
theorem wO_44 {cI cZ : ClassId} {x : Nat} {a b : Nat → Nat} {M T : xM} : (wO cI cZ x a b (M, T))[44]? = some ((b 19), .inl (cI, 200, .inl (T 19))) := rfl
theorem wO_45 {cI cZ : ClassId} {x : Nat} {a b : Nat → Nat} {M T : xM} : (wO cI cZ x a b (M, T))[45]? = some ((b 20), .inl (cI, 200, .inl (T 20))) := rfl
theorem wO_46 {cI cZ : ClassId} {x : Nat} {a b : Nat → Nat} {M T : xM} : (wO cI cZ x a b (M, T))[46]? = some ((b 21), .inl (cI, 200, .inl (T 21))) := rfl
theorem wO_47 {cI cZ : ClassId} {x : Nat} {a b : Nat → Nat} {M T : xM} : (wO cI cZ x a b (M, T))[47]? = some ((b 22), .inl (cI, 200, .inl (T 22))) := rfl
theorem wO_48 {cI cZ : ClassId} {x : Nat} {a b : Nat → Nat} {M T : xM} : (wO cI cZ x a b (M, T))[48]? = some ((b 23), .inl (cI, 32, .inl (T 23))) := rfl
theorem sO_1_4 {cI cZ : ClassId} {x : Nat} {a b : Nat → Nat} {M T : xM} {v : Int32} : (wO cI cZ x a b (M, T)).set 1 ((a 0), .inr (1, ([.ref (a 1), .ref (a 2), .ref (a 3), .ref (a 4), .int (M 0 4)] : List Value).set 4 (.int v))) = wO cI cZ x a b (xu M 0 4 v, T) := rfl
theorem sO_2_0 {cI cZ : ClassId} {x : Nat} {a b : Nat → Nat} {M T : xM} {v : Int32} : (wO cI cZ x a b (M, T)).set 2 ((a 1), .inr (3, ([.int (M 1 0), .int (M 1 1), .int (M 1 2), .int (M 1 3), .int (M 1 4)] : List Value).set 0 (.int v))) = wO cI cZ x a b (xu M 1 0 v, T) := rfl
theorem sO_2_1 {cI cZ : ClassId} {x : Nat} {a b : Nat → Nat} {M T : xM} {v : Int32} : (wO cI cZ x a b (M, T)).set 2 ((a 1), .inr (3, ([.int (M 1 0), .int (M 1 1), .int (M 1 2), .int (M 1 3), .int (M 1 4)] : List Value).set 1 (.int v))) = wO cI cZ x a b (xu M 1 1 v, T) := rfl
theorem sO_2_2 {cI cZ : ClassId} {x : Nat} {a b : Nat → Nat} {M T : xM} {v : Int32} : (wO cI cZ x a b (M, T)).set 2 ((a 1), .inr (3, ([.int (M 1 0), .int (M 1 1), .int (M 1 2), .int (M 1 3), .int (M 1 4)] : List Value).set 2 (.int v))) = wO cI cZ x a b (xu M 1 2 v, T) := rfl
theorem sO_2_3 {cI cZ : ClassId} {x : Nat} {a b : Nat → Nat} {M T : xM} {v : Int32} : (wO cI cZ x a b (M, T)).set 2 ((a 1), .inr (3, ([.int (M 1 0), .int (M 1 1), .int (M 1 2), .int (M 1 3), .int (M 1 4)] : List Value).set 3 (.int v))) = wO cI cZ x a b (xu M 1 3 v, T) := rfl
theorem sO_2_4 {cI cZ : ClassId} {x : Nat} {a b : Nat → Nat} {M T : xM} {v : Int32} : (wO cI cZ x a b (M, T)).set 2 ((a 1), .inr (3, ([.int (M 1 0), .int (M 1 1), .int (M 1 2), .int (M 1 3), .int (M 1 4)] : List Value).set 4 (.int v))) = wO cI cZ x a b (xu M 1 4 v, T) := rfl
theorem sO_3_0 {cI cZ : ClassId} {x : Nat} {a b : Nat → Nat} {M T : xM} {v : Int32} : (wO cI cZ x a b (M, T)).set 3 ((a 2), .inr (2, ([.int (M 2 0), .ref (a 5), .ref (a 6), .ref (a 7), .ref (a 8), .ref (a 9), .ref (a 10)] : List Value).set 0 (.int v))) = wO cI cZ x a b (xu M 2 0 v, T) := rfl
theorem sO_4_0 {cI cZ : ClassId} {x : Nat} {a b : Nat → Nat} {M T : xM} {v : Int32} : (wO cI cZ x a b (M, T)).set 4 ((a 3), .inr (4, ([.int (M 3 0), .ref (a 11), .ref (a 12), .ref (a 13), .ref (a 14)] : List Value).set 0 (.int v))) = wO cI cZ x a b (xu M 3 0 v, T) := rfl
theorem sO_5_0 {cI cZ : ClassId} {x : Nat} {a b : Nat → Nat} {M T : xM} {v : Int32} : (wO cI cZ x a b (M, T)).set 5 ((a 4), .inr (0, ([.int (M 4 0), .ref (a 15), .ref (a 16), .ref (a 17), .ref (a 18), .ref (a 19), .ref (a 20), .ref (a 21), .ref (a 22), .ref (a 23), .int (M 4 10)] : List Value).set 0 (.int v))) = wO cI cZ x a b (xu M 4 0 v, T) := rfl
theorem sO_5_10 {cI cZ : ClassId} {x : Nat} {a b : Nat → Nat} {M T : xM} {v : Int32} : (wO cI cZ x a b (M, T)).set 5 ((a 4), .inr (0, ([.int (M 4 0), .ref (a 15), .ref (a 16), .ref (a 17), .ref (a 18), .ref (a 19), .ref (a 20), .ref (a 21), .ref (a 22), .ref (a 23), .int (M 4 10)] : List Value).set 10 (.int v))) = wO cI cZ x a b (xu M 4 10 v, T) := rfl
theorem sO_6 {cI cZ : ClassId} {x : Nat} {a b : Nat → Nat} {M T : xM} {j : Nat} {v : Int32} : (wO cI cZ x a b (M, T)).set 6 ((a 5), .inl (cI, 8, .inl (upd (M 5) j v))) = wO cI cZ x a b (xu M 5 j v, T) := rfl
theorem sO_7 {cI cZ : ClassId} {x : Nat} {a b : Nat → Nat} {M T : xM} {j : Nat} {v : Int32} : (wO cI cZ x a b (M, T)).set 7 ((a 6), .inl (cI, 8, .inl (upd (M 6) j v))) = wO cI cZ x a b (xu M 6 j v, T) := rfl
theorem sO_8 {cI cZ : ClassId} {x : Nat} {a b : Nat → Nat} {M T : xM} {j : Nat} {v : Int32} : (wO cI cZ x a b (M, T)).set 8 ((a 7), .inl (cZ, 8, .inl (upd (M 7) j v))) = wO cI cZ x a b (xu M 7 j v, T) := rfl
theorem sO_9 {cI cZ : ClassId} {x : Nat} {a b : Nat → Nat} {M T : xM} {j : Nat} {v : Int32} : (wO cI cZ x a b (M, T)).set 9 ((a 8), .inl (cI, 8, .inl (upd (M 8) j v))) = wO cI cZ x a b (xu M 8 j v, T) := rfl
theorem sO_10 {cI cZ : ClassId} {x : Nat} {a b : Nat → Nat} {M T : xM} {j : Nat} {v : Int32} : (wO cI cZ x a b (M, T)).set 10 ((a 9), .inl (cI, 8, .inl (upd (M 9) j v))) = wO cI cZ x a b (xu M 9 j v, T) := rfl
theorem sO_11 {cI cZ : ClassId} {x : Nat} {a b : Nat → Nat} {M T : xM} {j : Nat} {v : Int32} : (wO cI cZ x a b (M, T)).set 11 ((a 10), .inl (cI, 8, .inl (upd (M 10) j v))) = wO cI cZ x a b (xu M 10 j v, T) := rfl
theorem sO_12 {cI cZ : ClassId} {x : Nat} {a b : Nat → Nat} {M T : xM} {j : Nat} {v : Int32} : (wO cI cZ x a b (M, T)).set 12 ((a 11), .inl (cI, 24, .inl (upd (M 11) j v))) = wO cI cZ x a b (xu M 11 j v, T) := rfl
theorem sO_13 {cI cZ : ClassId} {x : Nat} {a b : Nat → Nat} {M T : xM} {j : Nat} {v : Int32} : (wO cI cZ x a b (M, T)).set 13 ((a 12), .inl (cI, 24, .inl (upd (M 12) j v))) = wO cI cZ x a b (xu M 12 j v, T) := rfl
theorem sO_14 {cI cZ : ClassId} {x : Nat} {a b : Nat → Nat} {M T : xM} {j : Nat} {v : Int32} : (wO cI cZ x a b (M, T)).set 14 ((a 13), .inl (cI, 24, .inl (upd (M 13) j v))) = wO cI cZ x a b (xu M 13 j v, T) := rfl
theorem sO_15 {cI cZ : ClassId} {x : Nat} {a b : Nat → Nat} {M T : xM} {j : Nat} {v : Int32} : (wO cI cZ x a b (M, T)).set 15 ((a 14), .inl (cI, 24, .inl (upd (M 14) j v))) = wO cI cZ x a b (xu M 14 j v, T) := rfl
theorem sO_16 {cI cZ : ClassId} {x : Nat} {a b : Nat → Nat} {M T : xM} {j : Nat} {v : Int32} : (wO cI cZ x a b (M, T)).set 16 ((a 15), .inl (cI, 200, .inl (upd (M 15) j v))) = wO cI cZ x a b (xu M 15 j v, T) := rfl
theorem sO_17 {cI cZ : ClassId} {x : Nat} {a b : Nat → Nat} {M T : xM} {j : Nat} {v : Int32} : (wO cI cZ x a b (M, T)).set 17 ((a 16), .inl (cI, 200, .inl (upd (M 16) j v))) = wO cI cZ x a b (xu M 16 j v, T) := rfl
theorem sO_18 {cI cZ : ClassId} {x : Nat} {a b : Nat → Nat} {M T : xM} {j : Nat} {v : Int32} : (wO cI cZ x a b (M, T)).set 18 ((a 17), .inl (cI, 200, .inl (upd (M 17) j v))) = wO cI cZ x a b (xu M 17 j v, T) := rfl
theorem sO_19 {cI cZ : ClassId} {x : Nat} {a b : Nat → Nat} {M T : xM} {j : Nat} {v : Int32} : (wO cI cZ x a b (M, T)).set 19 ((a 18), .inl (cZ, 200, .inl (upd (M 18) j v))) = wO cI cZ x a b (xu M 18 j v, T) := rfl
theorem sO_20 {cI cZ : ClassId} {x : Nat} {a b : Nat → Nat} {M T : xM} {j : Nat} {v : Int32} : (wO cI cZ x a b (M, T)).set 20 ((a 19), .inl (cI, 200, .inl (upd (M 19) j v))) = wO cI cZ x a b (xu M 19 j v, T) := rfl
theorem sO_21 {cI cZ : ClassId} {x : Nat} {a b : Nat → Nat} {M T : xM} {j : Nat} {v : Int32} : (wO cI cZ x a b (M, T)).set 21 ((a 20), .inl (cI, 200, .inl (upd (M 20) j v))) = wO cI cZ x a b (xu M 20 j v, T) := rfl
theorem sO_22 {cI cZ : ClassId} {x : Nat} {a b : Nat → Nat} {M T : xM} {j : Nat} {v : Int32} : (wO cI cZ x a b (M, T)).set 22 ((a 21), .inl (cI, 200, .inl (upd (M 21) j v))) = wO cI cZ x a b (xu M 21 j v, T) := rfl
theorem sO_23 {cI cZ : ClassId} {x : Nat} {a b : Nat → Nat} {M T : xM} {j : Nat} {v : Int32} : (wO cI cZ x a b (M, T)).set 23 ((a 22), .inl (cI, 200, .inl (upd (M 22) j v))) = wO cI cZ x a b (xu M 22 j v, T) := rfl
theorem sO_24 {cI cZ : ClassId} {x : Nat} {a b : Nat → Nat} {M T : xM} {j : Nat} {v : Int32} : (wO cI cZ x a b (M, T)).set 24 ((a 23), .inl (cI, 32, .inl (upd (M 23) j v))) = wO cI cZ x a b (xu M 23 j v, T) := rfl
theorem sO_25_4 {cI cZ : ClassId} {x : Nat} {a b : Nat → Nat} {M T : xM} {v : Int32} : (wO cI cZ x a b (M, T)).set 25 ((b 0), .inr (1, ([.ref (b 1), .ref (b 2), .ref (b 3), .ref (b 4), .int (T 0 4)] : List Value).set 4 (.int v))) = wO cI cZ x a b (M, xu T 0 4 v) := rfl
theorem sO_26_0 {cI cZ : ClassId} {x : Nat} {a b : Nat → Nat} {M T : xM} {v : Int32} : (wO cI cZ x a b (M, T)).set 26 ((b 1), .inr (3, ([.int (T 1 0), .int (T 1 1), .int (T 1 2), .int (T 1 3), .int (T 1 4)] : List Value).set 0 (.int v))) = wO cI cZ x a b (M, xu T 1 0 v) := rfl
theorem sO_26_1 {cI cZ : ClassId} {x : Nat} {a b : Nat → Nat} {M T : xM} {v : Int32} : (wO cI cZ x a b (M, T)).set 26 ((b 1), .inr (3, ([.int (T 1 0), .int (T 1 1), .int (T 1 2), .int (T 1 3), .int (T 1 4)] : List Value).set 1 (.int v))) = wO cI cZ x a b (M, xu T 1 1 v) := rfl
theorem sO_26_2 {cI cZ : ClassId} {x : Nat} {a b : Nat → Nat} {M T : xM} {v : Int32} : (wO cI cZ x a b (M, T)).set 26 ((b 1), .inr (3, ([.int (T 1 0), .int (T 1 1), .int (T 1 2), .int (T 1 3), .int (T 1 4)] : List Value).set 2 (.int v))) = wO cI cZ x a b (M, xu T 1 2 v) := rfl
theorem sO_26_3 {cI cZ : ClassId} {x : Nat} {a b : Nat → Nat} {M T : xM} {v : Int32} : (wO cI cZ x a b (M, T)).set 26 ((b 1), .inr (3, ([.int (T 1 0), .int (T 1 1), .int (T 1 2), .int (T 1 3), .int (T 1 4)] : List Value).set 3 (.int v))) = wO cI cZ x a b (M, xu T 1 3 v) := rfl
theorem sO_26_4 {cI cZ : ClassId} {x : Nat} {a b : Nat → Nat} {M T : xM} {v : Int32} : (wO cI cZ x a b (M, T)).set 26 ((b 1), .inr (3, ([.int (T 1 0), .int (T 1 1), .int (T 1 2), .int (T 1 3), .int (T 1 4)] : List Value).set 4 (.int v))) = wO cI cZ x a b (M, xu T 1 4 v) := rfl
theorem sO_27_0 {cI cZ : ClassId} {x : Nat} {a b : Nat → Nat} {M T : xM} {v : Int32} : (wO cI cZ x a b (M, T)).set 27 ((b 2), .inr (2, ([.int (T 2 0), .ref (b 5), .ref (b 6), .ref (b 7), .ref (b 8), .ref (b 9), .ref (b 10)] : List Value).set 0 (.int v))) = wO cI cZ x a b (M, xu T 2 0 v) := rfl
theorem sO_28_0 {cI cZ : ClassId} {x : Nat} {a b : Nat → Nat} {M T : xM} {v : Int32} : (wO cI cZ x a b (M, T)).set 28 ((b 3), .inr (4, ([.int (T 3 0), .ref (b 11), .ref (b 12), .ref (b 13), .ref (b 14)] : List Value).set 0 (.int v))) = wO cI cZ x a b (M, xu T 3 0 v) := rfl
theorem sO_29_0 {cI cZ : ClassId} {x : Nat} {a b : Nat → Nat} {M T : xM} {v : Int32} : (wO cI cZ x a b (M, T)).set 29 ((b 4), .inr (0, ([.int (T 4 0), .ref (b 15), .ref (b 16), .ref (b 17), .ref (b 18), .ref (b 19), .ref (b 20), .ref (b 21), .ref (b 22), .ref (b 23), .int (T 4 10)] : List Value).set 0 (.int v))) = wO cI cZ x a b (M, xu T 4 0 v) := rfl
theorem sO_29_10 {cI cZ : ClassId} {x : Nat} {a b : Nat → Nat} {M T : xM} {v : Int32} : (wO cI cZ x a b (M, T)).set 29 ((b 4), .inr (0, ([.int (T 4 0), .ref (b 15), .ref (b 16), .ref (b 17), .ref (b 18), .ref (b 19), .ref (b 20), .ref (b 21), .ref (b 22), .ref (b 23), .int (T 4 10)] : List Value).set 10 (.int v))) = wO cI cZ x a b (M, xu T 4 10 v) := rfl
theorem sO_30 {cI cZ : ClassId} {x : Nat} {a b : Nat → Nat} {M T : xM} {j : Nat} {v : Int32} : (wO cI cZ x a b (M, T)).set 30 ((b 5), .inl (cI, 8, .inl (upd (T 5) j v))) = wO cI cZ x a b (M, xu T 5 j v) := rfl
theorem sO_31 {cI cZ : ClassId} {x : Nat} {a b : Nat → Nat} {M T : xM} {j : Nat} {v : Int32} : (wO cI cZ x a b (M, T)).set 31 ((b 6), .inl (cI, 8, .inl (upd (T 6) j v))) = wO cI cZ x a b (M, xu T 6 j v) := rfl
theorem sO_32 {cI cZ : ClassId} {x : Nat} {a b : Nat → Nat} {M T : xM} {j : Nat} {v : Int32} : (wO cI cZ x a b (M, T)).set 32 ((b 7), .inl (cZ, 8, .inl (upd (T 7) j v))) = wO cI cZ x a b (M, xu T 7 j v) := rfl
theorem sO_33 {cI cZ : ClassId} {x : Nat} {a b : Nat → Nat} {M T : xM} {j : Nat} {v : Int32} : (wO cI cZ x a b (M, T)).set 33 ((b 8), .inl (cI, 8, .inl (upd (T 8) j v))) = wO cI cZ x a b (M, xu T 8 j v) := rfl
theorem sO_34 {cI cZ : ClassId} {x : Nat} {a b : Nat → Nat} {M T : xM} {j : Nat} {v : Int32} : (wO cI cZ x a b (M, T)).set 34 ((b 9), .inl (cI, 8, .inl (upd (T 9) j v))) = wO cI cZ x a b (M, xu T 9 j v) := rfl
theorem sO_35 {cI cZ : ClassId} {x : Nat} {a b : Nat → Nat} {M T : xM} {j : Nat} {v : Int32} : (wO cI cZ x a b (M, T)).set 35 ((b 10), .inl (cI, 8, .inl (upd (T 10) j v))) = wO cI cZ x a b (M, xu T 10 j v) := rfl
theorem sO_36 {cI cZ : ClassId} {x : Nat} {a b : Nat → Nat} {M T : xM} {j : Nat} {v : Int32} : (wO cI cZ x a b (M, T)).set 36 ((b 11), .inl (cI, 24, .inl (upd (T 11) j v))) = wO cI cZ x a b (M, xu T 11 j v) := rfl
theorem sO_37 {cI cZ : ClassId} {x : Nat} {a b : Nat → Nat} {M T : xM} {j : Nat} {v : Int32} : (wO cI cZ x a b (M, T)).set 37 ((b 12), .inl (cI, 24, .inl (upd (T 12) j v))) = wO cI cZ x a b (M, xu T 12 j v) := rfl
theorem sO_38 {cI cZ : ClassId} {x : Nat} {a b : Nat → Nat} {M T : xM} {j : Nat} {v : Int32} : (wO cI cZ x a b (M, T)).set 38 ((b 13), .inl (cI, 24, .inl (upd (T 13) j v))) = wO cI cZ x a b (M, xu T 13 j v) := rfl
theorem sO_39 {cI cZ : ClassId} {x : Nat} {a b : Nat → Nat} {M T : xM} {j : Nat} {v : Int32} : (wO cI cZ x a b (M, T)).set 39 ((b 14), .inl (cI, 24, .inl (upd (T 14) j v))) = wO cI cZ x a b (M, xu T 14 j v) := rfl
theorem sO_40 {cI cZ : ClassId} {x : Nat} {a b : Nat → Nat} {M T : xM} {j : Nat} {v : Int32} : (wO cI cZ x a b (M, T)).set 40 ((b 15), .inl (cI, 200, .inl (upd (T 15) j v))) = wO cI cZ x a b (M, xu T 15 j v) := rfl
theorem sO_41 {cI cZ : ClassId} {x : Nat} {a b : Nat → Nat} {M T : xM} {j : Nat} {v : Int32} : (wO cI cZ x a b (M, T)).set 41 ((b 16), .inl (cI, 200, .inl (upd (T 16) j v))) = wO cI cZ x a b (M, xu T 16 j v) := rfl
theorem sO_42 {cI cZ : ClassId} {x : Nat} {a b : Nat → Nat} {M T : xM} {j : Nat} {v : Int32} : (wO cI cZ x a b (M, T)).set 42 ((b 17), .inl (cI, 200, .inl (upd (T 17) j v))) = wO cI cZ x a b (M, xu T 17 j v) := rfl
theorem sO_43 {cI cZ : ClassId} {x : Nat} {a b : Nat → Nat} {M T : xM} {j : Nat} {v : Int32} : (wO cI cZ x a b (M, T)).set 43 ((b 18), .inl (cZ, 200, .inl (upd (T 18) j v))) = wO cI cZ x a b (M, xu T 18 j v) := rfl
theorem sO_44 {cI cZ : ClassId} {x : Nat} {a b : Nat → Nat} {M T : xM} {j : Nat} {v : Int32} : (wO cI cZ x a b (M, T)).set 44 ((b 19), .inl (cI, 200, .inl (upd (T 19) j v))) = wO cI cZ x a b (M, xu T 19 j v) := rfl
theorem sO_45 {cI cZ : ClassId} {x : Nat} {a b : Nat → Nat} {M T : xM} {j : Nat} {v : Int32} : (wO cI cZ x a b (M, T)).set 45 ((b 20), .inl (cI, 200, .inl (upd (T 20) j v))) = wO cI cZ x a b (M, xu T 20 j v) := rfl
theorem sO_46 {cI cZ : ClassId} {x : Nat} {a b : Nat → Nat} {M T : xM} {j : Nat} {v : Int32} : (wO cI cZ x a b (M, T)).set 46 ((b 21), .inl (cI, 200, .inl (upd (T 21) j v))) = wO cI cZ x a b (M, xu T 21 j v) := rfl
theorem sO_47 {cI cZ : ClassId} {x : Nat} {a b : Nat → Nat} {M T : xM} {j : Nat} {v : Int32} : (wO cI cZ x a b (M, T)).set 47 ((b 22), .inl (cI, 200, .inl (upd (T 22) j v))) = wO cI cZ x a b (M, xu T 22 j v) := rfl
theorem sO_48 {cI cZ : ClassId} {x : Nat} {a b : Nat → Nat} {M T : xM} {j : Nat} {v : Int32} : (wO cI cZ x a b (M, T)).set 48 ((b 23), .inl (cI, 32, .inl (upd (T 23) j v))) = wO cI cZ x a b (M, xu T 23 j v) := rfl
theorem wO_t {cI cZ : ClassId} {x : Nat} {a b : Nat → Nat} {M v : xM} : wO cI cZ x a b (M, v) = ((x, .inr (5, [.ref (a 0), .ref (b 0)])) :: wC cI cZ a M) ++ (wC cI cZ b v ++ []) := by
  rw [List.append_nil]
  rfl
theorem wD_t {cI cZ : ClassId} {a b : Nat → Nat} {M v : xM} : wD cI cZ a b (M, v) = wC cI cZ a M ++ (wC cI cZ b v ++ []) := by
  rw [List.append_nil]
  rfl
theorem wO_d {cI cZ : ClassId} {x : Nat} {a b : Nat → Nat} {v : xM × xM} : wO cI cZ x a b v = [(x, .inr (5, [.ref (a 0), .ref (b 0)]))] ++ (wD cI cZ a b v ++ []) := by
  rw [List.append_nil]
  rfl
theorem x_liftiX {S1 S2 : Type} {l : Launch} {y : MethodName} {cc : ByteArray} {n : Nat} {r : Option FieldType} {rm : Room} {D : va_G} {cI cZ : ClassId} {w1 : S1 → va_W} {w : S2 → va_W} {u1 : S1} {u : S2} {av : List Value} {post : Int32 → S1 → Prop} (X Y : va_W) (inj : S1 → S2) (hw : ∀ v, w (inj v) = X ++ (w1 v ++ Y)) (hu : inj u1 = u) (h : xMi l y cc n r rm D cI cZ w1 u1 av post) : xMi l y cc n r rm D cI cZ w u av (fun r v2 => ∃ v, v2 = inj v ∧ post r v) := by
  refine x_lifti X Y inj hw hu ?_
  intro sz
  refine MetFree.mono (h sz) (fun a s hp => hp) (fun _ _ _ _ _ h => h) (fun a s o t hp hq => ?_)
  obtain ⟨⟨⟨rv, v, ho, hpost, hB⟩, hF⟩, hL⟩ := hq
  exact ⟨⟨⟨rv, v, ho, ⟨v, rfl, hpost⟩, hB⟩, hF⟩, hL⟩
theorem x_liftvX {S1 S2 : Type} {l : Launch} {y : MethodName} {cc : ByteArray} {n : Nat} {r : Option FieldType} {rm : Room} {D : va_G} {cI cZ : ClassId} {w1 : S1 → va_W} {w : S2 → va_W} {u1 : S1} {u : S2} {av : List Value} {post : S1 → Prop} (X Y : va_W) (inj : S1 → S2) (hw : ∀ v, w (inj v) = X ++ (w1 v ++ Y)) (hu : inj u1 = u) (h : xMv l y cc n r rm D cI cZ w1 u1 av post) : xMv l y cc n r rm D cI cZ w u av (fun v2 => ∃ v, v2 = inj v ∧ post v) := by
  refine x_liftv X Y inj hw hu ?_
  intro sz
  refine MetFree.mono (h sz) (fun a s hp => hp) (fun _ _ _ _ _ h => h) (fun a s o t hp hq => ?_)
  obtain ⟨⟨⟨v, ho, hpost, hB⟩, hF⟩, hL⟩ := hq
  exact ⟨⟨⟨v, ho, ⟨v, rfl, hpost⟩, hB⟩, hF⟩, hL⟩
theorem c_RX5_19 : xLS RX5 19 yX5_inRange cX5_inRange 3 3 (some .boolean) := ⟨⟨q_5_15, q_1_2, q_5_17, by decide +kernel⟩, q_5_16⟩
theorem c_RX5_27 : xLV RX5 27 yX2_add cX2_add 4 2 (some .int) := ⟨⟨q_5_18, q_2_2, q_5_21, by decide +kernel⟩, q_5_19, q_5_20⟩
theorem c_RX5_33 : xLV RX5 33 yX2_has cX2_has 2 1 (some .boolean) := ⟨⟨q_6_11, q_2_2, q_6_14, by decide +kernel⟩, q_6_12, q_6_13⟩
theorem c_RX5_45 : xLV RX5 45 yX1_loseAttemptsOn cX1_loseAttemptsOn 5 1 (some .int) := ⟨⟨q_7_4, q_1_14, q_7_7, by decide +kernel⟩, q_7_5, q_7_6⟩
theorem c_RX5_53 : xLV RX5 53 yX4_add cX4_add 3 1 (some .int) := ⟨⟨q_8_21, q_2_6, q_9_0, by decide +kernel⟩, q_8_22, q_8_23⟩
theorem c_RX5_57 : xLS RX5 57 yX5_isPolicy cX5_isPolicy 1 1 (some .boolean) := ⟨⟨q_9_12, q_1_2, q_9_14, by decide +kernel⟩, q_9_13⟩
theorem c_RX5_82 : xLV RX5 82 yX1_runOneTick cX1_runOneTick 2 0 (some .int) := ⟨⟨q_10_19, q_1_14, q_10_22, by decide +kernel⟩, q_10_20, q_10_21⟩
theorem c_RX5_89 : xLV RX5 89 yX4_has cX4_has 2 1 (some .boolean) := ⟨⟨q_20_8, q_2_6, q_20_11, by decide +kernel⟩, q_20_9, q_20_10⟩
theorem c_RX5_90 : xLV RX5 90 yX4_stateOf cX4_stateOf 2 1 (some .int) := ⟨⟨q_20_12, q_2_6, q_11_19, by decide +kernel⟩, q_11_17, q_11_18⟩
theorem c_RX5_99 : xLV RX5 99 yX4_lastFinish cX4_lastFinish 3 0 (some .int) := ⟨⟨q_21_19, q_2_6, q_21_22, by decide +kernel⟩, q_21_20, q_21_21⟩
theorem c_RX5_111 : xLV RX5 111 yX0_has cX0_has 2 1 (some .boolean) := ⟨⟨q_23_1, q_2_10, q_23_4, by decide +kernel⟩, q_23_2, q_23_3⟩
theorem c_RX5_127 : xLV RX5 127 yX0_remaining cX0_remaining 3 1 (some .int) := ⟨⟨q_25_5, q_2_10, q_13_23, by decide +kernel⟩, q_13_21, q_13_22⟩
theorem c_RX5_130 : xLV RX5 130 yX2_score cX2_score 2 1 (some .int) := ⟨⟨q_25_14, q_2_2, q_12_14, by decide +kernel⟩, q_12_12, q_12_13⟩
theorem c_RX5_133 : xLV RX5 133 yX2_isSlow cX2_isSlow 3 2 (some .boolean) := ⟨⟨q_25_23, q_2_2, q_12_10, by decide +kernel⟩, q_12_8, q_12_9⟩
theorem c_RX5_140 : xLV RX5 140 yX1_findStraggler cX1_findStraggler 1 0 (some .int) := ⟨⟨q_26_17, q_1_14, q_12_22, by decide +kernel⟩, q_12_20, q_12_21⟩
theorem c_RX5_143 : xLV RX5 143 yX0_countSpeculative cX0_countSpeculative 3 0 (some .int) := ⟨⟨q_27_2, q_2_10, q_12_6, by decide +kernel⟩, q_12_4, q_12_5⟩
theorem c_RX5_146 : xLV RX5 146 yX0_wasted cX0_wasted 3 0 (some .int) := ⟨⟨q_27_11, q_2_10, q_27_14, by decide +kernel⟩, q_27_12, q_27_13⟩
theorem c_RX5_149 : xLV RX5 149 yX1_startAfresh cX1_startAfresh 3 2 none := ⟨⟨q_28_0, q_1_14, q_28_3, by decide +kernel⟩, q_28_1, q_28_2⟩
theorem c_RX6_84 : xLS RX6 84 yX6_within cX6_within 3 3 (some .boolean) := ⟨⟨q_6_3, q_1_5, q_6_5, by decide +kernel⟩, q_6_4⟩
theorem c_RX6_94 : xLV RX6 94 yX6_isNode cX6_isNode 2 1 (some .boolean) := ⟨⟨q_6_19, q_1_5, q_6_22, by decide +kernel⟩, q_6_20, q_6_21⟩
theorem c_RX6_98 : xLV RX6 98 yX6_stops cX6_stops 3 2 none := ⟨⟨q_8_3, q_1_5, q_8_6, by decide +kernel⟩, q_8_4, q_8_5⟩
theorem c_RX6_102 : xLV RX6 102 yX6_progressOf cX6_progressOf 3 1 (some .int) := ⟨⟨q_17_9, q_1_5, q_17_12, by decide +kernel⟩, q_17_10, q_17_11⟩
theorem c_RX6_109 : xLV RX6 109 yX6_first cX6_first 1 0 (some .int) := ⟨⟨q_16_21, q_1_5, q_17_0, by decide +kernel⟩, q_16_22, q_16_23⟩
theorem c_RX6_113 : xLV RX6 113 yX6_last cX6_last 1 0 (some .int) := ⟨⟨q_17_1, q_1_5, q_17_4, by decide +kernel⟩, q_17_2, q_17_3⟩
theorem c_RX6_116 : xLV RX6 116 yX6_rateOf cX6_rateOf 2 1 (some .int) := ⟨⟨q_18_1, q_1_5, q_18_4, by decide +kernel⟩, q_18_2, q_18_3⟩
theorem c_RX6_119 : xLV RX6 119 yX6_scoreOf cX6_scoreOf 3 1 (some .int) := ⟨⟨q_18_19, q_1_5, q_18_22, by decide +kernel⟩, q_18_20, q_18_21⟩
theorem c_RX6_122 : xLV RX6 122 yX6_meanScore cX6_meanScore 4 0 (some .int) := ⟨⟨q_18_23, q_1_5, q_19_2, by decide +kernel⟩, q_19_0, q_19_1⟩
theorem c_RX6_125 : xLV RX6 125 yX6_isCandidate cX6_isCandidate 2 1 (some .boolean) := ⟨⟨q_17_5, q_1_5, q_17_8, by decide +kernel⟩, q_17_6, q_17_7⟩
theorem c_RX6_128 : xLV RX6 128 yX6_meanProgress cX6_meanProgress 4 0 (some .int) := ⟨⟨q_17_13, q_1_5, q_17_16, by decide +kernel⟩, q_17_14, q_17_15⟩
theorem c_RX6_131 : xLV RX6 131 yX6_meanRate cX6_meanRate 4 0 (some .int) := ⟨⟨q_17_21, q_1_5, q_18_0, by decide +kernel⟩, q_17_22, q_17_23⟩
theorem c_RX6_134 : xLV RX6 134 yX6_remainingOf cX6_remainingOf 3 1 (some .int) := ⟨⟨q_18_5, q_1_5, q_18_8, by decide +kernel⟩, q_18_6, q_18_7⟩
theorem c_RX6_137 : xLV RX6 137 yX6_naiveStraggler cX6_naiveStraggler 3 0 (some .int) := ⟨⟨q_16_17, q_1_5, q_16_20, by decide +kernel⟩, q_16_18, q_16_19⟩
theorem c_RX6_140 : xLV RX6 140 yX6_lateStraggler cX6_lateStraggler 5 0 (some .int) := ⟨⟨q_17_17, q_1_5, q_17_20, by decide +kernel⟩, q_17_18, q_17_19⟩
theorem c_RX6_143 : xLV RX6 143 yX6_stateOfTask cX6_stateOfTask 3 1 (some .int) := ⟨⟨q_16_9, q_1_5, q_16_12, by decide +kernel⟩, q_16_10, q_16_11⟩
theorem c_RX6_146 : xLV RX6 146 yX6_firstWaiting cX6_firstWaiting 2 0 (some .int) := ⟨⟨q_16_5, q_1_5, q_16_8, by decide +kernel⟩, q_16_6, q_16_7⟩
theorem c_RX6_149 : xLV RX6 149 yX6_stragglerBy cX6_stragglerBy 2 1 (some .int) := ⟨⟨q_16_13, q_1_5, q_16_16, by decide +kernel⟩, q_16_14, q_16_15⟩
theorem c_RX6_152 : xLV RX6 152 yX6_speculative cX6_speculative 3 0 (some .int) := ⟨⟨q_18_11, q_1_5, q_18_14, by decide +kernel⟩, q_18_12, q_18_13⟩
theorem c_RX6_155 : xLV RX6 155 yX6_isSlow cX6_isSlow 2 1 (some .boolean) := ⟨⟨q_18_15, q_1_5, q_18_18, by decide +kernel⟩, q_18_16, q_18_17⟩
theorem c_RX6_158 : xLV RX6 158 yX6_starts cX6_starts 4 2 none := ⟨⟨q_19_3, q_1_5, q_19_6, by decide +kernel⟩, q_19_4, q_19_5⟩
theorem c_RX6_161 : xLV RX6 161 yX6_killsOther cX6_killsOther 3 1 none := ⟨⟨q_19_15, q_1_5, q_19_18, by decide +kernel⟩, q_19_16, q_19_17⟩
theorem c_RX6_165 : xLV RX6 165 yX6_hasSlot cX6_hasSlot 2 1 (some .boolean) := ⟨⟨q_15_21, q_1_5, q_16_0, by decide +kernel⟩, q_15_22, q_15_23⟩
theorem c_RX6_168 : xLV RX6 168 yX6_startsOn cX6_startsOn 6 2 (some .boolean) := ⟨⟨q_16_1, q_1_5, q_16_4, by decide +kernel⟩, q_16_2, q_16_3⟩
theorem c_RX6_172 : xLV RX6 172 yX6_works cX6_works 3 0 none := ⟨⟨q_19_7, q_1_5, q_19_10, by decide +kernel⟩, q_19_8, q_19_9⟩
theorem c_RX6_175 : xLV RX6 175 yX6_commits cX6_commits 3 0 (some .int) := ⟨⟨q_19_11, q_1_5, q_19_14, by decide +kernel⟩, q_19_12, q_19_13⟩
theorem c_RX6_178 : xLV RX6 178 yX6_passes cX6_passes 4 1 (some .int) := ⟨⟨q_15_17, q_1_5, q_15_20, by decide +kernel⟩, q_15_18, q_15_19⟩
theorem c_RX6_181 : xLV RX6 181 yX6_isTask cX6_isTask 2 1 (some .boolean) := ⟨⟨q_20_17, q_1_5, q_20_20, by decide +kernel⟩, q_20_18, q_20_19⟩
theorem c_RX6_184 : xLV RX6 184 yX6_greatestFinish cX6_greatestFinish 4 0 (some .int) := ⟨⟨q_22_6, q_1_5, q_22_9, by decide +kernel⟩, q_22_7, q_22_8⟩
theorem c_RX6_187 : xLV RX6 187 yX6_isAttempt cX6_isAttempt 2 1 (some .boolean) := ⟨⟨q_23_9, q_1_5, q_23_12, by decide +kernel⟩, q_23_10, q_23_11⟩
theorem c_RX6_190 : xLV RX6 190 yX6_clears cX6_clears 2 0 none := ⟨⟨q_29_2, q_1_5, q_29_5, by decide +kernel⟩, q_29_3, q_29_4⟩
theorem c_RX0_47 : xLV RX0 47 yX0_isFull cX0_isFull 1 0 (some .boolean) := ⟨⟨q_14_9, q_2_10, q_11_11, by decide +kernel⟩, q_11_9, q_11_10⟩
theorem c_RX1_43 : xLV RX1 43 yX3_copyWithPolicy cX3_copyWithPolicy 3 2 none := ⟨⟨q_28_4, q_1_22, q_28_7, by decide +kernel⟩, q_28_5, q_28_6⟩
theorem c_RX1_47 : xLV RX1 47 yX2_copyUnused cX2_copyUnused 3 1 none := ⟨⟨q_28_8, q_2_2, q_28_11, by decide +kernel⟩, q_28_9, q_28_10⟩
theorem c_RX1_51 : xLV RX1 51 yX4_copyUnused cX4_copyUnused 3 1 none := ⟨⟨q_28_13, q_2_6, q_28_16, by decide +kernel⟩, q_28_14, q_28_15⟩
theorem c_RX1_54 : xLV RX1 54 yX0_clear cX0_clear 1 0 none := ⟨⟨q_28_18, q_2_10, q_28_21, by decide +kernel⟩, q_28_19, q_28_20⟩
theorem c_RX1_57 : xLV RX1 57 yX1_startAttempts cX1_startAttempts 4 0 none := ⟨⟨q_10_23, q_1_14, q_11_2, by decide +kernel⟩, q_11_0, q_11_1⟩
theorem c_RX1_60 : xLV RX1 60 yX1_doWork cX1_doWork 4 0 none := ⟨⟨q_14_10, q_1_14, q_14_13, by decide +kernel⟩, q_14_11, q_14_12⟩
theorem c_RX1_63 : xLV RX1 63 yX1_commitFinished cX1_commitFinished 6 0 (some .int) := ⟨⟨q_15_2, q_1_14, q_15_5, by decide +kernel⟩, q_15_3, q_15_4⟩
theorem c_RX1_70 : xLV RX1 70 yX2_hasFreeSlot cX2_hasFreeSlot 2 1 (some .boolean) := ⟨⟨q_11_4, q_2_2, q_11_7, by decide +kernel⟩, q_11_5, q_11_6⟩
theorem c_RX1_74 : xLV RX1 74 yX0_isFull cX0_isFull 1 0 (some .boolean) := ⟨⟨q_11_8, q_2_10, q_11_11, by decide +kernel⟩, q_11_9, q_11_10⟩
theorem c_RX1_78 : xLV RX1 78 yX4_firstWaiting cX4_firstWaiting 2 0 (some .int) := ⟨⟨q_11_12, q_2_6, q_11_15, by decide +kernel⟩, q_11_13, q_11_14⟩
theorem c_RX1_81 : xLV RX1 81 yX1_taskToSpeculate cX1_taskToSpeculate 3 1 (some .int) := ⟨⟨q_11_20, q_1_14, q_11_23, by decide +kernel⟩, q_11_21, q_11_22⟩
theorem c_RX1_85 : xLV RX1 85 yX1_start cX1_start 3 2 none := ⟨⟨q_14_1, q_1_14, q_14_4, by decide +kernel⟩, q_14_2, q_14_3⟩
theorem c_RX1_89 : xLV RX1 89 yX0_countSpeculative cX0_countSpeculative 3 0 (some .int) := ⟨⟨q_12_3, q_2_10, q_12_6, by decide +kernel⟩, q_12_4, q_12_5⟩
theorem c_RX1_101 : xLV RX1 101 yX2_isSlow cX2_isSlow 3 2 (some .boolean) := ⟨⟨q_12_7, q_2_2, q_12_10, by decide +kernel⟩, q_12_8, q_12_9⟩
theorem c_RX1_105 : xLV RX1 105 yX1_findStraggler cX1_findStraggler 1 0 (some .int) := ⟨⟨q_12_19, q_1_14, q_12_22, by decide +kernel⟩, q_12_20, q_12_21⟩
theorem c_RX1_118 : xLV RX1 118 yX0_add cX0_add 5 3 none := ⟨⟨q_14_5, q_2_10, q_14_8, by decide +kernel⟩, q_14_6, q_14_7⟩
theorem c_RX1_137 : xLV RX1 137 yX0_grow cX0_grow 5 3 none := ⟨⟨q_14_18, q_2_10, q_14_21, by decide +kernel⟩, q_14_19, q_14_20⟩
theorem c_RX1_153 : xLV RX1 153 yX1_commit cX1_commit 5 2 none := ⟨⟨q_15_7, q_1_14, q_15_10, by decide +kernel⟩, q_15_8, q_15_9⟩
theorem c_RX1_156 : xLV RX1 156 yX0_dropEnded cX0_dropEnded 4 0 none := ⟨⟨q_7_19, q_2_10, q_7_22, by decide +kernel⟩, q_7_20, q_7_21⟩
theorem c_RX1_159 : xLV RX1 159 yX1_end cX1_end 3 2 none := ⟨⟨q_7_11, q_1_14, q_7_14, by decide +kernel⟩, q_7_12, q_7_13⟩
theorem c_RX1_168 : xLV RX1 168 yX1_leastAdvanced cX1_leastAdvanced 4 0 (some .int) := ⟨⟨q_12_23, q_1_14, q_13_2, by decide +kernel⟩, q_13_0, q_13_1⟩
theorem c_RX1_171 : xLV RX1 171 yX1_longestToRun cX1_longestToRun 6 0 (some .int) := ⟨⟨q_13_14, q_1_14, q_13_17, by decide +kernel⟩, q_13_15, q_13_16⟩
theorem c_RX1_180 : xLV RX1 180 yX1_isCandidate cX1_isCandidate 2 1 (some .boolean) := ⟨⟨q_13_4, q_1_14, q_13_7, by decide +kernel⟩, q_13_5, q_13_6⟩
theorem c_RX1_186 : xLV RX1 186 yX0_meanOfRunning cX0_meanOfRunning 4 1 (some .int) := ⟨⟨q_13_10, q_2_10, q_13_13, by decide +kernel⟩, q_13_11, q_13_12⟩
theorem c_RX1_196 : xLV RX1 196 yX0_remaining cX0_remaining 3 1 (some .int) := ⟨⟨q_13_20, q_2_10, q_13_23, by decide +kernel⟩, q_13_21, q_13_22⟩
theorem c_RX2_35 : xLV RX2 35 yX2_add cX2_add 4 2 (some .int) := ⟨⟨q_28_12, q_2_2, q_5_21, by decide +kernel⟩, q_5_19, q_5_20⟩
theorem c_RX2_39 : xLV RX2 39 yX2_score cX2_score 2 1 (some .int) := ⟨⟨q_12_11, q_2_2, q_12_14, by decide +kernel⟩, q_12_12, q_12_13⟩
theorem c_RX2_43 : xLV RX2 43 yX2_meanScore cX2_meanScore 4 0 (some .int) := ⟨⟨q_12_15, q_2_2, q_12_18, by decide +kernel⟩, q_12_16, q_12_17⟩
theorem c_RX4_28 : xLV RX4 28 yX4_add cX4_add 3 1 (some .int) := ⟨⟨q_28_17, q_2_6, q_9_0, by decide +kernel⟩, q_8_22, q_8_23⟩
theorem c_RX4_32 : xLV RX4 32 yX4_stateOf cX4_stateOf 2 1 (some .int) := ⟨⟨q_11_16, q_2_6, q_11_19, by decide +kernel⟩, q_11_17, q_11_18⟩
theorem c_RL_13 : xLV RL 13 yX5_addNode cX5_addNode 3 2 (some .int) := ⟨⟨q_5_10, q_1_2, q_5_13, by decide +kernel⟩, q_5_11, q_5_12⟩
theorem c_RL_17 : xLV RL 17 yX6_addNode cX6_addNode 3 2 (some .int) := ⟨⟨q_5_22, q_1_5, q_6_1, by decide +kernel⟩, q_5_23, q_6_0⟩
theorem c_RL_18 : xLV RL 18 yX5_setSpeed cX5_setSpeed 4 2 (some .int) := ⟨⟨q_6_6, q_1_2, q_6_9, by decide +kernel⟩, q_6_7, q_6_8⟩
theorem c_RL_21 : xLV RL 21 yX6_setSpeed cX6_setSpeed 4 2 (some .int) := ⟨⟨q_6_15, q_1_5, q_6_18, by decide +kernel⟩, q_6_16, q_6_17⟩
theorem c_RL_22 : xLV RL 22 yX5_failNode cX5_failNode 2 1 (some .int) := ⟨⟨q_6_23, q_1_2, q_7_2, by decide +kernel⟩, q_7_0, q_7_1⟩
theorem c_RL_26 : xLV RL 26 yX6_failNode cX6_failNode 4 1 (some .int) := ⟨⟨q_7_23, q_1_5, q_8_2, by decide +kernel⟩, q_8_0, q_8_1⟩
theorem c_RL_27 : xLV RL 27 yX5_repairNode cX5_repairNode 3 1 (some .int) := ⟨⟨q_8_8, q_1_2, q_8_11, by decide +kernel⟩, q_8_9, q_8_10⟩
theorem c_RL_30 : xLV RL 30 yX6_repairNode cX6_repairNode 3 1 (some .int) := ⟨⟨q_8_12, q_1_5, q_8_15, by decide +kernel⟩, q_8_13, q_8_14⟩
theorem c_RL_31 : xLV RL 31 yX5_addTask cX5_addTask 2 1 (some .int) := ⟨⟨q_8_16, q_1_2, q_8_19, by decide +kernel⟩, q_8_17, q_8_18⟩
theorem c_RL_34 : xLV RL 34 yX6_addTask cX6_addTask 2 1 (some .int) := ⟨⟨q_9_1, q_1_5, q_9_4, by decide +kernel⟩, q_9_2, q_9_3⟩
theorem c_RL_35 : xLV RL 35 yX5_setPolicy cX5_setPolicy 3 1 (some .int) := ⟨⟨q_9_6, q_1_2, q_9_9, by decide +kernel⟩, q_9_7, q_9_8⟩
theorem c_RL_38 : xLV RL 38 yX6_setPolicy cX6_setPolicy 3 1 (some .int) := ⟨⟨q_9_15, q_1_5, q_9_18, by decide +kernel⟩, q_9_16, q_9_17⟩
theorem c_RL_39 : xLV RL 39 yX5_setLimits cX5_setLimits 5 2 (some .int) := ⟨⟨q_9_19, q_1_2, q_9_22, by decide +kernel⟩, q_9_20, q_9_21⟩
theorem c_RL_42 : xLV RL 42 yX6_setLimits cX6_setLimits 4 2 (some .int) := ⟨⟨q_10_1, q_1_5, q_10_4, by decide +kernel⟩, q_10_2, q_10_3⟩
theorem c_RL_43 : xLV RL 43 yX5_setThresholds cX5_setThresholds 5 2 (some .int) := ⟨⟨q_10_5, q_1_2, q_10_8, by decide +kernel⟩, q_10_6, q_10_7⟩
theorem c_RL_46 : xLV RL 46 yX6_setThresholds cX6_setThresholds 4 2 (some .int) := ⟨⟨q_10_11, q_1_5, q_10_14, by decide +kernel⟩, q_10_12, q_10_13⟩
theorem c_RL_47 : xLV RL 47 yX5_tick cX5_tick 4 1 (some .int) := ⟨⟨q_10_15, q_1_2, q_10_18, by decide +kernel⟩, q_10_16, q_10_17⟩
theorem c_RL_50 : xLV RL 50 yX6_tick cX6_tick 4 1 (some .int) := ⟨⟨q_15_13, q_1_5, q_15_16, by decide +kernel⟩, q_15_14, q_15_15⟩
theorem c_RL_51 : xLV RL 51 yX5_time cX5_time 1 0 (some .int) := ⟨⟨q_19_19, q_1_2, q_19_22, by decide +kernel⟩, q_19_20, q_19_21⟩
theorem c_RL_55 : xLV RL 55 yX6_time cX6_time 1 0 (some .int) := ⟨⟨q_20_0, q_1_5, q_20_3, by decide +kernel⟩, q_20_1, q_20_2⟩
theorem c_RL_56 : xLV RL 56 yX5_taskState cX5_taskState 2 1 (some .int) := ⟨⟨q_20_4, q_1_2, q_20_7, by decide +kernel⟩, q_20_5, q_20_6⟩
theorem c_RL_59 : xLV RL 59 yX6_taskState cX6_taskState 2 1 (some .int) := ⟨⟨q_20_13, q_1_5, q_20_16, by decide +kernel⟩, q_20_14, q_20_15⟩
theorem c_RL_60 : xLV RL 60 yX5_committedAttempt cX5_committedAttempt 2 1 (some .int) := ⟨⟨q_20_21, q_1_2, q_21_0, by decide +kernel⟩, q_20_22, q_20_23⟩
theorem c_RL_63 : xLV RL 63 yX6_committedAttempt cX6_committedAttempt 2 1 (some .int) := ⟨⟨q_21_2, q_1_5, q_21_5, by decide +kernel⟩, q_21_3, q_21_4⟩
theorem c_RL_64 : xLV RL 64 yX5_finishTime cX5_finishTime 2 1 (some .int) := ⟨⟨q_21_6, q_1_2, q_21_9, by decide +kernel⟩, q_21_7, q_21_8⟩
theorem c_RL_67 : xLV RL 67 yX6_finishTime cX6_finishTime 2 1 (some .int) := ⟨⟨q_21_11, q_1_5, q_21_14, by decide +kernel⟩, q_21_12, q_21_13⟩
theorem c_RL_68 : xLV RL 68 yX5_makespan cX5_makespan 1 0 (some .int) := ⟨⟨q_21_15, q_1_2, q_21_18, by decide +kernel⟩, q_21_16, q_21_17⟩
theorem c_RL_71 : xLV RL 71 yX6_makespan cX6_makespan 1 0 (some .int) := ⟨⟨q_22_2, q_1_5, q_22_5, by decide +kernel⟩, q_22_3, q_22_4⟩
theorem c_RL_72 : xLV RL 72 yX5_attemptCount cX5_attemptCount 1 0 (some .int) := ⟨⟨q_22_10, q_1_2, q_22_13, by decide +kernel⟩, q_22_11, q_22_12⟩
theorem c_RL_75 : xLV RL 75 yX6_attemptCount cX6_attemptCount 1 0 (some .int) := ⟨⟨q_22_16, q_1_5, q_22_19, by decide +kernel⟩, q_22_17, q_22_18⟩
theorem c_RL_76 : xLV RL 76 yX5_attemptTask cX5_attemptTask 2 1 (some .int) := ⟨⟨q_22_20, q_1_2, q_22_23, by decide +kernel⟩, q_22_21, q_22_22⟩
theorem c_RL_79 : xLV RL 79 yX6_attemptTask cX6_attemptTask 2 1 (some .int) := ⟨⟨q_23_5, q_1_5, q_23_8, by decide +kernel⟩, q_23_6, q_23_7⟩
theorem c_RL_80 : xLV RL 80 yX5_attemptNode cX5_attemptNode 2 1 (some .int) := ⟨⟨q_23_13, q_1_2, q_23_16, by decide +kernel⟩, q_23_14, q_23_15⟩
theorem c_RL_83 : xLV RL 83 yX6_attemptNode cX6_attemptNode 2 1 (some .int) := ⟨⟨q_23_18, q_1_5, q_23_21, by decide +kernel⟩, q_23_19, q_23_20⟩
theorem c_RL_84 : xLV RL 84 yX5_attemptState cX5_attemptState 2 1 (some .int) := ⟨⟨q_23_22, q_1_2, q_24_1, by decide +kernel⟩, q_23_23, q_24_0⟩
theorem c_RL_87 : xLV RL 87 yX6_attemptState cX6_attemptState 2 1 (some .int) := ⟨⟨q_24_3, q_1_5, q_24_6, by decide +kernel⟩, q_24_4, q_24_5⟩
theorem c_RL_88 : xLV RL 88 yX5_isSpeculative cX5_isSpeculative 2 1 (some .int) := ⟨⟨q_24_7, q_1_2, q_24_10, by decide +kernel⟩, q_24_8, q_24_9⟩
theorem c_RL_91 : xLV RL 91 yX6_isSpeculative cX6_isSpeculative 2 1 (some .int) := ⟨⟨q_24_12, q_1_5, q_24_15, by decide +kernel⟩, q_24_13, q_24_14⟩
theorem c_RL_92 : xLV RL 92 yX5_progress cX5_progress 2 1 (some .int) := ⟨⟨q_24_16, q_1_2, q_24_19, by decide +kernel⟩, q_24_17, q_24_18⟩
theorem c_RL_95 : xLV RL 95 yX6_progress cX6_progress 2 1 (some .int) := ⟨⟨q_24_21, q_1_5, q_25_0, by decide +kernel⟩, q_24_22, q_24_23⟩
theorem c_RL_96 : xLV RL 96 yX5_remainingTime cX5_remainingTime 2 1 (some .int) := ⟨⟨q_25_1, q_1_2, q_25_4, by decide +kernel⟩, q_25_2, q_25_3⟩
theorem c_RL_99 : xLV RL 99 yX6_remainingTime cX6_remainingTime 2 1 (some .int) := ⟨⟨q_25_6, q_1_5, q_25_9, by decide +kernel⟩, q_25_7, q_25_8⟩
theorem c_RL_100 : xLV RL 100 yX5_nodeScore cX5_nodeScore 2 1 (some .int) := ⟨⟨q_25_10, q_1_2, q_25_13, by decide +kernel⟩, q_25_11, q_25_12⟩
theorem c_RL_103 : xLV RL 103 yX6_nodeScore cX6_nodeScore 2 1 (some .int) := ⟨⟨q_25_15, q_1_5, q_25_18, by decide +kernel⟩, q_25_16, q_25_17⟩
theorem c_RL_104 : xLV RL 104 yX5_isSlowNode cX5_isSlowNode 2 1 (some .int) := ⟨⟨q_25_19, q_1_2, q_25_22, by decide +kernel⟩, q_25_20, q_25_21⟩
theorem c_RL_107 : xLV RL 107 yX6_isSlowNode cX6_isSlowNode 2 1 (some .int) := ⟨⟨q_26_0, q_1_5, q_26_3, by decide +kernel⟩, q_26_1, q_26_2⟩
theorem c_RL_108 : xLV RL 108 yX5_runningOn cX5_runningOn 2 1 (some .int) := ⟨⟨q_26_4, q_1_2, q_26_7, by decide +kernel⟩, q_26_5, q_26_6⟩
theorem c_RL_111 : xLV RL 111 yX6_runningOn cX6_runningOn 2 1 (some .int) := ⟨⟨q_26_9, q_1_5, q_26_12, by decide +kernel⟩, q_26_10, q_26_11⟩
theorem c_RL_112 : xLV RL 112 yX5_straggler cX5_straggler 1 0 (some .int) := ⟨⟨q_26_13, q_1_2, q_26_16, by decide +kernel⟩, q_26_14, q_26_15⟩
theorem c_RL_115 : xLV RL 115 yX6_straggler cX6_straggler 1 0 (some .int) := ⟨⟨q_26_18, q_1_5, q_26_21, by decide +kernel⟩, q_26_19, q_26_20⟩
theorem c_RL_116 : xLV RL 116 yX5_runningSpeculative cX5_runningSpeculative 1 0 (some .int) := ⟨⟨q_26_22, q_1_2, q_27_1, by decide +kernel⟩, q_26_23, q_27_0⟩
theorem c_RL_119 : xLV RL 119 yX6_runningSpeculative cX6_runningSpeculative 1 0 (some .int) := ⟨⟨q_27_3, q_1_5, q_27_6, by decide +kernel⟩, q_27_4, q_27_5⟩
theorem c_RL_120 : xLV RL 120 yX5_wastedWork cX5_wastedWork 1 0 (some .int) := ⟨⟨q_27_7, q_1_2, q_27_10, by decide +kernel⟩, q_27_8, q_27_9⟩
theorem c_RL_123 : xLV RL 123 yX6_wastedWork cX6_wastedWork 3 0 (some .int) := ⟨⟨q_27_15, q_1_5, q_27_18, by decide +kernel⟩, q_27_16, q_27_17⟩
theorem c_RL_124 : xLV RL 124 yX5_simulatedMakespan cX5_simulatedMakespan 4 1 (some .int) := ⟨⟨q_27_19, q_1_2, q_27_22, by decide +kernel⟩, q_27_20, q_27_21⟩
theorem c_RL_127 : xLV RL 127 yX6_simulatedMakespan cX6_simulatedMakespan 3 1 (some .int) := ⟨⟨q_28_22, q_1_5, q_29_1, by decide +kernel⟩, q_28_23, q_29_0⟩
