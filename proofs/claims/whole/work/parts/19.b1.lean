/-! The pure side, base: reading the memory behind writes; which cells stand fast. (written by wip/whole/pure/base.py) -/
/-- the first n longs of a cell written at once -/
def wJ (M : Mm) (a n : Nat) (g : Nat → Int64) : Mm := (mT M, mW M, mK M, mI M, (fun x j => if x = a ∧ j < n then g j else mJ M x j), mR M)
def wI (M : Mm) (a n : Nat) (g : Nat → Int32) : Mm := (mT M, mW M, mK M, (fun x j => if x = a ∧ j < n then g j else mI M x j), mJ M, mR M)
def wR (M : Mm) (a n : Nat) (g : Nat → Option Nat) : Mm := (mT M, mW M, mK M, mI M, mJ M, (fun x j => if x = a ∧ j < n then g j else mR M x j))
theorem mT_sI (M : Mm) (a k : Nat) (v : Int32) : mT (sI M a k v) = mT M := Eq.trans (Eq.refl _) (Eq.refl _)
theorem mW_sI (M : Mm) (a k : Nat) (v : Int32) : mW (sI M a k v) = mW M := Eq.trans (Eq.refl _) (Eq.refl _)
theorem mK_sI (M : Mm) (a k : Nat) (v : Int32) : mK (sI M a k v) = mK M := Eq.trans (Eq.refl _) (Eq.refl _)
theorem mI_sI (M : Mm) (a k : Nat) (v : Int32) (x j : Nat) : mI (sI M a k v) x j = if x = a ∧ j = k then v else mI M x j := Eq.trans (Eq.refl _) (Eq.refl _)
theorem mJ_sI (M : Mm) (a k : Nat) (v : Int32) : mJ (sI M a k v) = mJ M := Eq.trans (Eq.refl _) (Eq.refl _)
theorem mR_sI (M : Mm) (a k : Nat) (v : Int32) : mR (sI M a k v) = mR M := Eq.trans (Eq.refl _) (Eq.refl _)
theorem mT_sJ (M : Mm) (a k : Nat) (v : Int64) : mT (sJ M a k v) = mT M := Eq.trans (Eq.refl _) (Eq.refl _)
theorem mW_sJ (M : Mm) (a k : Nat) (v : Int64) : mW (sJ M a k v) = mW M := Eq.trans (Eq.refl _) (Eq.refl _)
theorem mK_sJ (M : Mm) (a k : Nat) (v : Int64) : mK (sJ M a k v) = mK M := Eq.trans (Eq.refl _) (Eq.refl _)
theorem mI_sJ (M : Mm) (a k : Nat) (v : Int64) : mI (sJ M a k v) = mI M := Eq.trans (Eq.refl _) (Eq.refl _)
theorem mJ_sJ (M : Mm) (a k : Nat) (v : Int64) (x j : Nat) : mJ (sJ M a k v) x j = if x = a ∧ j = k then v else mJ M x j := Eq.trans (Eq.refl _) (Eq.refl _)
theorem mR_sJ (M : Mm) (a k : Nat) (v : Int64) : mR (sJ M a k v) = mR M := Eq.trans (Eq.refl _) (Eq.refl _)
theorem mT_sR (M : Mm) (a k : Nat) (v : Option Nat) : mT (sR M a k v) = mT M := Eq.trans (Eq.refl _) (Eq.refl _)
theorem mW_sR (M : Mm) (a k : Nat) (v : Option Nat) : mW (sR M a k v) = mW M := Eq.trans (Eq.refl _) (Eq.refl _)
theorem mK_sR (M : Mm) (a k : Nat) (v : Option Nat) : mK (sR M a k v) = mK M := Eq.trans (Eq.refl _) (Eq.refl _)
theorem mI_sR (M : Mm) (a k : Nat) (v : Option Nat) : mI (sR M a k v) = mI M := Eq.trans (Eq.refl _) (Eq.refl _)
theorem mJ_sR (M : Mm) (a k : Nat) (v : Option Nat) : mJ (sR M a k v) = mJ M := Eq.trans (Eq.refl _) (Eq.refl _)
theorem mR_sR (M : Mm) (a k : Nat) (v : Option Nat) (x j : Nat) : mR (sR M a k v) x j = if x = a ∧ j = k then v else mR M x j := Eq.trans (Eq.refl _) (Eq.refl _)
theorem mT_wI (M : Mm) (a n : Nat) (g : Nat → Int32) : mT (wI M a n g) = mT M := Eq.trans (Eq.refl _) (Eq.refl _)
theorem mW_wI (M : Mm) (a n : Nat) (g : Nat → Int32) : mW (wI M a n g) = mW M := Eq.trans (Eq.refl _) (Eq.refl _)
theorem mK_wI (M : Mm) (a n : Nat) (g : Nat → Int32) : mK (wI M a n g) = mK M := Eq.trans (Eq.refl _) (Eq.refl _)
theorem mI_wI (M : Mm) (a n : Nat) (g : Nat → Int32) (x j : Nat) : mI (wI M a n g) x j = if x = a ∧ j < n then g j else mI M x j := Eq.trans (Eq.refl _) (Eq.refl _)
theorem mJ_wI (M : Mm) (a n : Nat) (g : Nat → Int32) : mJ (wI M a n g) = mJ M := Eq.trans (Eq.refl _) (Eq.refl _)
theorem mR_wI (M : Mm) (a n : Nat) (g : Nat → Int32) : mR (wI M a n g) = mR M := Eq.trans (Eq.refl _) (Eq.refl _)
theorem mT_wJ (M : Mm) (a n : Nat) (g : Nat → Int64) : mT (wJ M a n g) = mT M := Eq.trans (Eq.refl _) (Eq.refl _)
theorem mW_wJ (M : Mm) (a n : Nat) (g : Nat → Int64) : mW (wJ M a n g) = mW M := Eq.trans (Eq.refl _) (Eq.refl _)
theorem mK_wJ (M : Mm) (a n : Nat) (g : Nat → Int64) : mK (wJ M a n g) = mK M := Eq.trans (Eq.refl _) (Eq.refl _)
theorem mI_wJ (M : Mm) (a n : Nat) (g : Nat → Int64) : mI (wJ M a n g) = mI M := Eq.trans (Eq.refl _) (Eq.refl _)
theorem mJ_wJ (M : Mm) (a n : Nat) (g : Nat → Int64) (x j : Nat) : mJ (wJ M a n g) x j = if x = a ∧ j < n then g j else mJ M x j := Eq.trans (Eq.refl _) (Eq.refl _)
theorem mR_wJ (M : Mm) (a n : Nat) (g : Nat → Int64) : mR (wJ M a n g) = mR M := Eq.trans (Eq.refl _) (Eq.refl _)
theorem mT_wR (M : Mm) (a n : Nat) (g : Nat → Option Nat) : mT (wR M a n g) = mT M := Eq.trans (Eq.refl _) (Eq.refl _)
theorem mW_wR (M : Mm) (a n : Nat) (g : Nat → Option Nat) : mW (wR M a n g) = mW M := Eq.trans (Eq.refl _) (Eq.refl _)
theorem mK_wR (M : Mm) (a n : Nat) (g : Nat → Option Nat) : mK (wR M a n g) = mK M := Eq.trans (Eq.refl _) (Eq.refl _)
theorem mI_wR (M : Mm) (a n : Nat) (g : Nat → Option Nat) : mI (wR M a n g) = mI M := Eq.trans (Eq.refl _) (Eq.refl _)
theorem mJ_wR (M : Mm) (a n : Nat) (g : Nat → Option Nat) : mJ (wR M a n g) = mJ M := Eq.trans (Eq.refl _) (Eq.refl _)
theorem mR_wR (M : Mm) (a n : Nat) (g : Nat → Option Nat) (x j : Nat) : mR (wR M a n g) x j = if x = a ∧ j < n then g j else mR M x j := Eq.trans (Eq.refl _) (Eq.refl _)
theorem mT_sN (M : Mm) (kd n w : Nat) : mT (sN M kd n w) = mT M + 1 := Eq.trans (Eq.refl _) (Eq.refl _)
theorem mW_sN (M : Mm) (kd n w : Nat) : mW (sN M kd n w) = mW M + w := Eq.trans (Eq.refl _) (Eq.refl _)
theorem mK_sN (M : Mm) (kd n w : Nat) (x : Nat) : mK (sN M kd n w) x = if x = mT M then (kd, n) else mK M x := Eq.trans (Eq.refl _) (Eq.refl _)
theorem mI_sN (M : Mm) (kd n w : Nat) (x j : Nat) : mI (sN M kd n w) x j = if x = mT M then 0 else mI M x j := by show (if x = mT M then (fun _ => 0) else mI M x) j = _; split <;> rfl
theorem mJ_sN (M : Mm) (kd n w : Nat) (x j : Nat) : mJ (sN M kd n w) x j = if x = mT M then 0 else mJ M x j := by show (if x = mT M then (fun _ => 0) else mJ M x) j = _; split <;> rfl
theorem mR_sN (M : Mm) (kd n w : Nat) (x j : Nat) : mR (sN M kd n w) x j = if x = mT M then none else mR M x j := by show (if x = mT M then (fun _ => none) else mR M x) j = _; split <;> rfl
def KT : List (Nat × Nat) := [(9, 0), (22, 8), (6, 0), (23, 8), (24, 8), (1, 0), (21, 24), (21, 24), (6, 0), (23, 8), (24, 8), (1, 0), (21, 24), (21, 24), (6, 0), (23, 8), (24, 8), (1, 0), (21, 24), (21, 24), (20, 8), (2, 0), (25, 8), (20, 24), (20, 24), (20, 24), (20, 24), (20, 24), (20, 24), (20, 24), (20, 24), (26, 9), (21, 24), (21, 24), (21, 24), (21, 24), (21, 24), (21, 24), (21, 24), (21, 24), (21, 24), (8, 0), (20, 20), (21, 19), (4, 0), (21, 160), (4, 0), (21, 160), (4, 0), (21, 160), (4, 0), (21, 160), (4, 0), (21, 160), (4, 0), (21, 160), (4, 0), (21, 160), (4, 0), (21, 160), (10, 0), (20, 8), (20, 8), (20, 8), (20, 8), (20, 8), (20, 8), (20, 8), (20, 8), (21, 24), (21, 24), (20, 8), (20, 8), (20, 8), (20, 8), (21, 1280), (21, 160), (20, 38), (20, 4), (20, 80), (20, 80), (21, 24), (21, 24), (21, 24), (20, 21), (20, 21), (20, 20)]
def KK (o : Nat) : Nat × Nat := KT.getD (o - 20) (0, 0)
/-- the references that never change -/
def RT : List (Nat × Nat × Nat) := [(20, 0, 21), (20, 1, 22), (20, 2, 28), (20, 3, 34), (20, 5, 40), (20, 7, 41), (20, 8, 61), (20, 9, 63), (21, 0, 64), (21, 1, 66), (21, 2, 68), (21, 3, 70), (21, 4, 72), (21, 5, 74), (21, 6, 76), (21, 7, 78), (22, 6, 23), (22, 8, 24), (22, 10, 25), (25, 0, 26), (25, 1, 27), (28, 6, 29), (28, 8, 30), (28, 10, 31), (31, 0, 32), (31, 1, 33), (34, 6, 35), (34, 8, 36), (34, 10, 37), (37, 0, 38), (37, 1, 39), (41, 0, 42), (41, 1, 51), (42, 0, 43), (42, 1, 44), (42, 2, 45), (42, 3, 46), (42, 4, 47), (42, 5, 48), (42, 6, 49), (42, 7, 50), (51, 0, 52), (51, 1, 53), (51, 2, 54), (51, 3, 55), (51, 4, 56), (51, 5, 57), (51, 6, 58), (51, 7, 59), (51, 8, 60), (61, 0, 62), (64, 2, 65), (66, 2, 67), (68, 2, 69), (70, 2, 71), (72, 2, 73), (74, 2, 75), (76, 2, 77), (78, 2, 79), (80, 13, 81), (80, 14, 82), (80, 15, 83), (80, 16, 84), (80, 17, 85), (80, 18, 86), (80, 19, 87), (80, 20, 88), (80, 21, 89), (80, 22, 90), (80, 23, 91), (80, 24, 92), (80, 25, 93), (80, 26, 94), (80, 27, 95), (80, 28, 96), (80, 30, 97), (80, 31, 98), (80, 37, 99), (80, 38, 100), (80, 39, 101), (80, 40, 102), (80, 41, 103), (80, 44, 104), (80, 45, 105), (80, 46, 106)]
def FIX (M : Mm) : Prop := 107 ≤ mT M ∧ (∀ o, 20 ≤ o → o < 107 → mK M o = KK o) ∧ (∀ t ∈ RT, mR M t.1 t.2.1 = some t.2.2)
theorem K20 {M : Mm} (h : FIX M) : mK M 20 = (9, 0) := h.2.1 20 (by decide) (by decide)
theorem K21 {M : Mm} (h : FIX M) : mK M 21 = (22, 8) := h.2.1 21 (by decide) (by decide)
theorem K22 {M : Mm} (h : FIX M) : mK M 22 = (6, 0) := h.2.1 22 (by decide) (by decide)
theorem K23 {M : Mm} (h : FIX M) : mK M 23 = (23, 8) := h.2.1 23 (by decide) (by decide)
theorem K24 {M : Mm} (h : FIX M) : mK M 24 = (24, 8) := h.2.1 24 (by decide) (by decide)
theorem K25 {M : Mm} (h : FIX M) : mK M 25 = (1, 0) := h.2.1 25 (by decide) (by decide)
theorem K26 {M : Mm} (h : FIX M) : mK M 26 = (21, 24) := h.2.1 26 (by decide) (by decide)
theorem K27 {M : Mm} (h : FIX M) : mK M 27 = (21, 24) := h.2.1 27 (by decide) (by decide)
theorem K28 {M : Mm} (h : FIX M) : mK M 28 = (6, 0) := h.2.1 28 (by decide) (by decide)
theorem K29 {M : Mm} (h : FIX M) : mK M 29 = (23, 8) := h.2.1 29 (by decide) (by decide)
theorem K30 {M : Mm} (h : FIX M) : mK M 30 = (24, 8) := h.2.1 30 (by decide) (by decide)
theorem K31 {M : Mm} (h : FIX M) : mK M 31 = (1, 0) := h.2.1 31 (by decide) (by decide)
theorem K32 {M : Mm} (h : FIX M) : mK M 32 = (21, 24) := h.2.1 32 (by decide) (by decide)
theorem K33 {M : Mm} (h : FIX M) : mK M 33 = (21, 24) := h.2.1 33 (by decide) (by decide)
theorem K34 {M : Mm} (h : FIX M) : mK M 34 = (6, 0) := h.2.1 34 (by decide) (by decide)
theorem K35 {M : Mm} (h : FIX M) : mK M 35 = (23, 8) := h.2.1 35 (by decide) (by decide)
theorem K36 {M : Mm} (h : FIX M) : mK M 36 = (24, 8) := h.2.1 36 (by decide) (by decide)
theorem K37 {M : Mm} (h : FIX M) : mK M 37 = (1, 0) := h.2.1 37 (by decide) (by decide)
theorem K38 {M : Mm} (h : FIX M) : mK M 38 = (21, 24) := h.2.1 38 (by decide) (by decide)
theorem K39 {M : Mm} (h : FIX M) : mK M 39 = (21, 24) := h.2.1 39 (by decide) (by decide)
theorem K40 {M : Mm} (h : FIX M) : mK M 40 = (20, 8) := h.2.1 40 (by decide) (by decide)
theorem K41 {M : Mm} (h : FIX M) : mK M 41 = (2, 0) := h.2.1 41 (by decide) (by decide)
theorem K42 {M : Mm} (h : FIX M) : mK M 42 = (25, 8) := h.2.1 42 (by decide) (by decide)
theorem K43 {M : Mm} (h : FIX M) : mK M 43 = (20, 24) := h.2.1 43 (by decide) (by decide)
theorem K44 {M : Mm} (h : FIX M) : mK M 44 = (20, 24) := h.2.1 44 (by decide) (by decide)
theorem K45 {M : Mm} (h : FIX M) : mK M 45 = (20, 24) := h.2.1 45 (by decide) (by decide)
theorem K46 {M : Mm} (h : FIX M) : mK M 46 = (20, 24) := h.2.1 46 (by decide) (by decide)
theorem K47 {M : Mm} (h : FIX M) : mK M 47 = (20, 24) := h.2.1 47 (by decide) (by decide)
theorem K48 {M : Mm} (h : FIX M) : mK M 48 = (20, 24) := h.2.1 48 (by decide) (by decide)
theorem K49 {M : Mm} (h : FIX M) : mK M 49 = (20, 24) := h.2.1 49 (by decide) (by decide)
theorem K50 {M : Mm} (h : FIX M) : mK M 50 = (20, 24) := h.2.1 50 (by decide) (by decide)
theorem K51 {M : Mm} (h : FIX M) : mK M 51 = (26, 9) := h.2.1 51 (by decide) (by decide)
theorem K52 {M : Mm} (h : FIX M) : mK M 52 = (21, 24) := h.2.1 52 (by decide) (by decide)
theorem K53 {M : Mm} (h : FIX M) : mK M 53 = (21, 24) := h.2.1 53 (by decide) (by decide)
theorem K54 {M : Mm} (h : FIX M) : mK M 54 = (21, 24) := h.2.1 54 (by decide) (by decide)
theorem K55 {M : Mm} (h : FIX M) : mK M 55 = (21, 24) := h.2.1 55 (by decide) (by decide)
theorem K56 {M : Mm} (h : FIX M) : mK M 56 = (21, 24) := h.2.1 56 (by decide) (by decide)
theorem K57 {M : Mm} (h : FIX M) : mK M 57 = (21, 24) := h.2.1 57 (by decide) (by decide)
theorem K58 {M : Mm} (h : FIX M) : mK M 58 = (21, 24) := h.2.1 58 (by decide) (by decide)
theorem K59 {M : Mm} (h : FIX M) : mK M 59 = (21, 24) := h.2.1 59 (by decide) (by decide)
theorem K60 {M : Mm} (h : FIX M) : mK M 60 = (21, 24) := h.2.1 60 (by decide) (by decide)
theorem K61 {M : Mm} (h : FIX M) : mK M 61 = (8, 0) := h.2.1 61 (by decide) (by decide)
theorem K62 {M : Mm} (h : FIX M) : mK M 62 = (20, 20) := h.2.1 62 (by decide) (by decide)
theorem K63 {M : Mm} (h : FIX M) : mK M 63 = (21, 19) := h.2.1 63 (by decide) (by decide)
theorem K64 {M : Mm} (h : FIX M) : mK M 64 = (4, 0) := h.2.1 64 (by decide) (by decide)
theorem K65 {M : Mm} (h : FIX M) : mK M 65 = (21, 160) := h.2.1 65 (by decide) (by decide)
theorem K66 {M : Mm} (h : FIX M) : mK M 66 = (4, 0) := h.2.1 66 (by decide) (by decide)
theorem K67 {M : Mm} (h : FIX M) : mK M 67 = (21, 160) := h.2.1 67 (by decide) (by decide)
theorem K68 {M : Mm} (h : FIX M) : mK M 68 = (4, 0) := h.2.1 68 (by decide) (by decide)
theorem K69 {M : Mm} (h : FIX M) : mK M 69 = (21, 160) := h.2.1 69 (by decide) (by decide)
theorem K70 {M : Mm} (h : FIX M) : mK M 70 = (4, 0) := h.2.1 70 (by decide) (by decide)
theorem K71 {M : Mm} (h : FIX M) : mK M 71 = (21, 160) := h.2.1 71 (by decide) (by decide)
theorem K72 {M : Mm} (h : FIX M) : mK M 72 = (4, 0) := h.2.1 72 (by decide) (by decide)
theorem K73 {M : Mm} (h : FIX M) : mK M 73 = (21, 160) := h.2.1 73 (by decide) (by decide)
theorem K74 {M : Mm} (h : FIX M) : mK M 74 = (4, 0) := h.2.1 74 (by decide) (by decide)
theorem K75 {M : Mm} (h : FIX M) : mK M 75 = (21, 160) := h.2.1 75 (by decide) (by decide)
theorem K76 {M : Mm} (h : FIX M) : mK M 76 = (4, 0) := h.2.1 76 (by decide) (by decide)
theorem K77 {M : Mm} (h : FIX M) : mK M 77 = (21, 160) := h.2.1 77 (by decide) (by decide)
theorem K78 {M : Mm} (h : FIX M) : mK M 78 = (4, 0) := h.2.1 78 (by decide) (by decide)
theorem K79 {M : Mm} (h : FIX M) : mK M 79 = (21, 160) := h.2.1 79 (by decide) (by decide)
theorem K80 {M : Mm} (h : FIX M) : mK M 80 = (10, 0) := h.2.1 80 (by decide) (by decide)
theorem K81 {M : Mm} (h : FIX M) : mK M 81 = (20, 8) := h.2.1 81 (by decide) (by decide)
theorem K82 {M : Mm} (h : FIX M) : mK M 82 = (20, 8) := h.2.1 82 (by decide) (by decide)
theorem K83 {M : Mm} (h : FIX M) : mK M 83 = (20, 8) := h.2.1 83 (by decide) (by decide)
theorem K84 {M : Mm} (h : FIX M) : mK M 84 = (20, 8) := h.2.1 84 (by decide) (by decide)
theorem K85 {M : Mm} (h : FIX M) : mK M 85 = (20, 8) := h.2.1 85 (by decide) (by decide)
theorem K86 {M : Mm} (h : FIX M) : mK M 86 = (20, 8) := h.2.1 86 (by decide) (by decide)
theorem K87 {M : Mm} (h : FIX M) : mK M 87 = (20, 8) := h.2.1 87 (by decide) (by decide)
theorem K88 {M : Mm} (h : FIX M) : mK M 88 = (20, 8) := h.2.1 88 (by decide) (by decide)
theorem K89 {M : Mm} (h : FIX M) : mK M 89 = (21, 24) := h.2.1 89 (by decide) (by decide)
theorem K90 {M : Mm} (h : FIX M) : mK M 90 = (21, 24) := h.2.1 90 (by decide) (by decide)
theorem K91 {M : Mm} (h : FIX M) : mK M 91 = (20, 8) := h.2.1 91 (by decide) (by decide)
theorem K92 {M : Mm} (h : FIX M) : mK M 92 = (20, 8) := h.2.1 92 (by decide) (by decide)
theorem K93 {M : Mm} (h : FIX M) : mK M 93 = (20, 8) := h.2.1 93 (by decide) (by decide)
theorem K94 {M : Mm} (h : FIX M) : mK M 94 = (20, 8) := h.2.1 94 (by decide) (by decide)
theorem K95 {M : Mm} (h : FIX M) : mK M 95 = (21, 1280) := h.2.1 95 (by decide) (by decide)
theorem K96 {M : Mm} (h : FIX M) : mK M 96 = (21, 160) := h.2.1 96 (by decide) (by decide)
theorem K97 {M : Mm} (h : FIX M) : mK M 97 = (20, 38) := h.2.1 97 (by decide) (by decide)
theorem K98 {M : Mm} (h : FIX M) : mK M 98 = (20, 4) := h.2.1 98 (by decide) (by decide)
theorem K99 {M : Mm} (h : FIX M) : mK M 99 = (20, 80) := h.2.1 99 (by decide) (by decide)
theorem K100 {M : Mm} (h : FIX M) : mK M 100 = (20, 80) := h.2.1 100 (by decide) (by decide)
theorem K101 {M : Mm} (h : FIX M) : mK M 101 = (21, 24) := h.2.1 101 (by decide) (by decide)
theorem K102 {M : Mm} (h : FIX M) : mK M 102 = (21, 24) := h.2.1 102 (by decide) (by decide)
theorem K103 {M : Mm} (h : FIX M) : mK M 103 = (21, 24) := h.2.1 103 (by decide) (by decide)
theorem K104 {M : Mm} (h : FIX M) : mK M 104 = (20, 21) := h.2.1 104 (by decide) (by decide)
theorem K105 {M : Mm} (h : FIX M) : mK M 105 = (20, 21) := h.2.1 105 (by decide) (by decide)
theorem K106 {M : Mm} (h : FIX M) : mK M 106 = (20, 20) := h.2.1 106 (by decide) (by decide)
theorem R20_0 {M : Mm} (h : FIX M) : mR M 20 0 = some 21 := h.2.2 (20, 0, 21) (List.mem_of_getElem? (i := 0) rfl)
theorem R20_1 {M : Mm} (h : FIX M) : mR M 20 1 = some 22 := h.2.2 (20, 1, 22) (List.mem_of_getElem? (i := 1) rfl)
theorem R20_2 {M : Mm} (h : FIX M) : mR M 20 2 = some 28 := h.2.2 (20, 2, 28) (List.mem_of_getElem? (i := 2) rfl)
theorem R20_3 {M : Mm} (h : FIX M) : mR M 20 3 = some 34 := h.2.2 (20, 3, 34) (List.mem_of_getElem? (i := 3) rfl)
theorem R20_5 {M : Mm} (h : FIX M) : mR M 20 5 = some 40 := h.2.2 (20, 5, 40) (List.mem_of_getElem? (i := 4) rfl)
theorem R20_7 {M : Mm} (h : FIX M) : mR M 20 7 = some 41 := h.2.2 (20, 7, 41) (List.mem_of_getElem? (i := 5) rfl)
theorem R20_8 {M : Mm} (h : FIX M) : mR M 20 8 = some 61 := h.2.2 (20, 8, 61) (List.mem_of_getElem? (i := 6) rfl)
theorem R20_9 {M : Mm} (h : FIX M) : mR M 20 9 = some 63 := h.2.2 (20, 9, 63) (List.mem_of_getElem? (i := 7) rfl)
theorem R21_0 {M : Mm} (h : FIX M) : mR M 21 0 = some 64 := h.2.2 (21, 0, 64) (List.mem_of_getElem? (i := 8) rfl)
theorem R21_1 {M : Mm} (h : FIX M) : mR M 21 1 = some 66 := h.2.2 (21, 1, 66) (List.mem_of_getElem? (i := 9) rfl)
theorem R21_2 {M : Mm} (h : FIX M) : mR M 21 2 = some 68 := h.2.2 (21, 2, 68) (List.mem_of_getElem? (i := 10) rfl)
theorem R21_3 {M : Mm} (h : FIX M) : mR M 21 3 = some 70 := h.2.2 (21, 3, 70) (List.mem_of_getElem? (i := 11) rfl)
theorem R21_4 {M : Mm} (h : FIX M) : mR M 21 4 = some 72 := h.2.2 (21, 4, 72) (List.mem_of_getElem? (i := 12) rfl)
theorem R21_5 {M : Mm} (h : FIX M) : mR M 21 5 = some 74 := h.2.2 (21, 5, 74) (List.mem_of_getElem? (i := 13) rfl)
theorem R21_6 {M : Mm} (h : FIX M) : mR M 21 6 = some 76 := h.2.2 (21, 6, 76) (List.mem_of_getElem? (i := 14) rfl)
theorem R21_7 {M : Mm} (h : FIX M) : mR M 21 7 = some 78 := h.2.2 (21, 7, 78) (List.mem_of_getElem? (i := 15) rfl)
theorem R22_6 {M : Mm} (h : FIX M) : mR M 22 6 = some 23 := h.2.2 (22, 6, 23) (List.mem_of_getElem? (i := 16) rfl)
theorem R22_8 {M : Mm} (h : FIX M) : mR M 22 8 = some 24 := h.2.2 (22, 8, 24) (List.mem_of_getElem? (i := 17) rfl)
theorem R22_10 {M : Mm} (h : FIX M) : mR M 22 10 = some 25 := h.2.2 (22, 10, 25) (List.mem_of_getElem? (i := 18) rfl)
theorem R25_0 {M : Mm} (h : FIX M) : mR M 25 0 = some 26 := h.2.2 (25, 0, 26) (List.mem_of_getElem? (i := 19) rfl)
theorem R25_1 {M : Mm} (h : FIX M) : mR M 25 1 = some 27 := h.2.2 (25, 1, 27) (List.mem_of_getElem? (i := 20) rfl)
theorem R28_6 {M : Mm} (h : FIX M) : mR M 28 6 = some 29 := h.2.2 (28, 6, 29) (List.mem_of_getElem? (i := 21) rfl)
theorem R28_8 {M : Mm} (h : FIX M) : mR M 28 8 = some 30 := h.2.2 (28, 8, 30) (List.mem_of_getElem? (i := 22) rfl)
theorem R28_10 {M : Mm} (h : FIX M) : mR M 28 10 = some 31 := h.2.2 (28, 10, 31) (List.mem_of_getElem? (i := 23) rfl)
theorem R31_0 {M : Mm} (h : FIX M) : mR M 31 0 = some 32 := h.2.2 (31, 0, 32) (List.mem_of_getElem? (i := 24) rfl)
theorem R31_1 {M : Mm} (h : FIX M) : mR M 31 1 = some 33 := h.2.2 (31, 1, 33) (List.mem_of_getElem? (i := 25) rfl)
theorem R34_6 {M : Mm} (h : FIX M) : mR M 34 6 = some 35 := h.2.2 (34, 6, 35) (List.mem_of_getElem? (i := 26) rfl)
theorem R34_8 {M : Mm} (h : FIX M) : mR M 34 8 = some 36 := h.2.2 (34, 8, 36) (List.mem_of_getElem? (i := 27) rfl)
theorem R34_10 {M : Mm} (h : FIX M) : mR M 34 10 = some 37 := h.2.2 (34, 10, 37) (List.mem_of_getElem? (i := 28) rfl)
theorem R37_0 {M : Mm} (h : FIX M) : mR M 37 0 = some 38 := h.2.2 (37, 0, 38) (List.mem_of_getElem? (i := 29) rfl)
theorem R37_1 {M : Mm} (h : FIX M) : mR M 37 1 = some 39 := h.2.2 (37, 1, 39) (List.mem_of_getElem? (i := 30) rfl)
theorem R41_0 {M : Mm} (h : FIX M) : mR M 41 0 = some 42 := h.2.2 (41, 0, 42) (List.mem_of_getElem? (i := 31) rfl)
theorem R41_1 {M : Mm} (h : FIX M) : mR M 41 1 = some 51 := h.2.2 (41, 1, 51) (List.mem_of_getElem? (i := 32) rfl)
theorem R42_0 {M : Mm} (h : FIX M) : mR M 42 0 = some 43 := h.2.2 (42, 0, 43) (List.mem_of_getElem? (i := 33) rfl)
theorem R42_1 {M : Mm} (h : FIX M) : mR M 42 1 = some 44 := h.2.2 (42, 1, 44) (List.mem_of_getElem? (i := 34) rfl)
theorem R42_2 {M : Mm} (h : FIX M) : mR M 42 2 = some 45 := h.2.2 (42, 2, 45) (List.mem_of_getElem? (i := 35) rfl)
theorem R42_3 {M : Mm} (h : FIX M) : mR M 42 3 = some 46 := h.2.2 (42, 3, 46) (List.mem_of_getElem? (i := 36) rfl)
theorem R42_4 {M : Mm} (h : FIX M) : mR M 42 4 = some 47 := h.2.2 (42, 4, 47) (List.mem_of_getElem? (i := 37) rfl)
theorem R42_5 {M : Mm} (h : FIX M) : mR M 42 5 = some 48 := h.2.2 (42, 5, 48) (List.mem_of_getElem? (i := 38) rfl)
theorem R42_6 {M : Mm} (h : FIX M) : mR M 42 6 = some 49 := h.2.2 (42, 6, 49) (List.mem_of_getElem? (i := 39) rfl)
theorem R42_7 {M : Mm} (h : FIX M) : mR M 42 7 = some 50 := h.2.2 (42, 7, 50) (List.mem_of_getElem? (i := 40) rfl)
theorem R51_0 {M : Mm} (h : FIX M) : mR M 51 0 = some 52 := h.2.2 (51, 0, 52) (List.mem_of_getElem? (i := 41) rfl)
theorem R51_1 {M : Mm} (h : FIX M) : mR M 51 1 = some 53 := h.2.2 (51, 1, 53) (List.mem_of_getElem? (i := 42) rfl)
theorem R51_2 {M : Mm} (h : FIX M) : mR M 51 2 = some 54 := h.2.2 (51, 2, 54) (List.mem_of_getElem? (i := 43) rfl)
theorem R51_3 {M : Mm} (h : FIX M) : mR M 51 3 = some 55 := h.2.2 (51, 3, 55) (List.mem_of_getElem? (i := 44) rfl)
theorem R51_4 {M : Mm} (h : FIX M) : mR M 51 4 = some 56 := h.2.2 (51, 4, 56) (List.mem_of_getElem? (i := 45) rfl)
theorem R51_5 {M : Mm} (h : FIX M) : mR M 51 5 = some 57 := h.2.2 (51, 5, 57) (List.mem_of_getElem? (i := 46) rfl)
theorem R51_6 {M : Mm} (h : FIX M) : mR M 51 6 = some 58 := h.2.2 (51, 6, 58) (List.mem_of_getElem? (i := 47) rfl)
theorem R51_7 {M : Mm} (h : FIX M) : mR M 51 7 = some 59 := h.2.2 (51, 7, 59) (List.mem_of_getElem? (i := 48) rfl)
theorem R51_8 {M : Mm} (h : FIX M) : mR M 51 8 = some 60 := h.2.2 (51, 8, 60) (List.mem_of_getElem? (i := 49) rfl)
theorem R61_0 {M : Mm} (h : FIX M) : mR M 61 0 = some 62 := h.2.2 (61, 0, 62) (List.mem_of_getElem? (i := 50) rfl)
theorem R64_2 {M : Mm} (h : FIX M) : mR M 64 2 = some 65 := h.2.2 (64, 2, 65) (List.mem_of_getElem? (i := 51) rfl)
theorem R66_2 {M : Mm} (h : FIX M) : mR M 66 2 = some 67 := h.2.2 (66, 2, 67) (List.mem_of_getElem? (i := 52) rfl)
theorem R68_2 {M : Mm} (h : FIX M) : mR M 68 2 = some 69 := h.2.2 (68, 2, 69) (List.mem_of_getElem? (i := 53) rfl)
theorem R70_2 {M : Mm} (h : FIX M) : mR M 70 2 = some 71 := h.2.2 (70, 2, 71) (List.mem_of_getElem? (i := 54) rfl)
theorem R72_2 {M : Mm} (h : FIX M) : mR M 72 2 = some 73 := h.2.2 (72, 2, 73) (List.mem_of_getElem? (i := 55) rfl)
theorem R74_2 {M : Mm} (h : FIX M) : mR M 74 2 = some 75 := h.2.2 (74, 2, 75) (List.mem_of_getElem? (i := 56) rfl)
theorem R76_2 {M : Mm} (h : FIX M) : mR M 76 2 = some 77 := h.2.2 (76, 2, 77) (List.mem_of_getElem? (i := 57) rfl)
theorem R78_2 {M : Mm} (h : FIX M) : mR M 78 2 = some 79 := h.2.2 (78, 2, 79) (List.mem_of_getElem? (i := 58) rfl)
theorem R80_13 {M : Mm} (h : FIX M) : mR M 80 13 = some 81 := h.2.2 (80, 13, 81) (List.mem_of_getElem? (i := 59) rfl)
theorem R80_14 {M : Mm} (h : FIX M) : mR M 80 14 = some 82 := h.2.2 (80, 14, 82) (List.mem_of_getElem? (i := 60) rfl)
theorem R80_15 {M : Mm} (h : FIX M) : mR M 80 15 = some 83 := h.2.2 (80, 15, 83) (List.mem_of_getElem? (i := 61) rfl)
theorem R80_16 {M : Mm} (h : FIX M) : mR M 80 16 = some 84 := h.2.2 (80, 16, 84) (List.mem_of_getElem? (i := 62) rfl)
theorem R80_17 {M : Mm} (h : FIX M) : mR M 80 17 = some 85 := h.2.2 (80, 17, 85) (List.mem_of_getElem? (i := 63) rfl)
theorem R80_18 {M : Mm} (h : FIX M) : mR M 80 18 = some 86 := h.2.2 (80, 18, 86) (List.mem_of_getElem? (i := 64) rfl)
theorem R80_19 {M : Mm} (h : FIX M) : mR M 80 19 = some 87 := h.2.2 (80, 19, 87) (List.mem_of_getElem? (i := 65) rfl)
theorem R80_20 {M : Mm} (h : FIX M) : mR M 80 20 = some 88 := h.2.2 (80, 20, 88) (List.mem_of_getElem? (i := 66) rfl)
theorem R80_21 {M : Mm} (h : FIX M) : mR M 80 21 = some 89 := h.2.2 (80, 21, 89) (List.mem_of_getElem? (i := 67) rfl)
theorem R80_22 {M : Mm} (h : FIX M) : mR M 80 22 = some 90 := h.2.2 (80, 22, 90) (List.mem_of_getElem? (i := 68) rfl)
theorem R80_23 {M : Mm} (h : FIX M) : mR M 80 23 = some 91 := h.2.2 (80, 23, 91) (List.mem_of_getElem? (i := 69) rfl)
theorem R80_24 {M : Mm} (h : FIX M) : mR M 80 24 = some 92 := h.2.2 (80, 24, 92) (List.mem_of_getElem? (i := 70) rfl)
theorem R80_25 {M : Mm} (h : FIX M) : mR M 80 25 = some 93 := h.2.2 (80, 25, 93) (List.mem_of_getElem? (i := 71) rfl)
theorem R80_26 {M : Mm} (h : FIX M) : mR M 80 26 = some 94 := h.2.2 (80, 26, 94) (List.mem_of_getElem? (i := 72) rfl)
theorem R80_27 {M : Mm} (h : FIX M) : mR M 80 27 = some 95 := h.2.2 (80, 27, 95) (List.mem_of_getElem? (i := 73) rfl)
theorem R80_28 {M : Mm} (h : FIX M) : mR M 80 28 = some 96 := h.2.2 (80, 28, 96) (List.mem_of_getElem? (i := 74) rfl)
theorem R80_30 {M : Mm} (h : FIX M) : mR M 80 30 = some 97 := h.2.2 (80, 30, 97) (List.mem_of_getElem? (i := 75) rfl)
theorem R80_31 {M : Mm} (h : FIX M) : mR M 80 31 = some 98 := h.2.2 (80, 31, 98) (List.mem_of_getElem? (i := 76) rfl)
theorem R80_37 {M : Mm} (h : FIX M) : mR M 80 37 = some 99 := h.2.2 (80, 37, 99) (List.mem_of_getElem? (i := 77) rfl)
theorem R80_38 {M : Mm} (h : FIX M) : mR M 80 38 = some 100 := h.2.2 (80, 38, 100) (List.mem_of_getElem? (i := 78) rfl)
theorem R80_39 {M : Mm} (h : FIX M) : mR M 80 39 = some 101 := h.2.2 (80, 39, 101) (List.mem_of_getElem? (i := 79) rfl)
theorem R80_40 {M : Mm} (h : FIX M) : mR M 80 40 = some 102 := h.2.2 (80, 40, 102) (List.mem_of_getElem? (i := 80) rfl)
theorem R80_41 {M : Mm} (h : FIX M) : mR M 80 41 = some 103 := h.2.2 (80, 41, 103) (List.mem_of_getElem? (i := 81) rfl)
theorem R80_44 {M : Mm} (h : FIX M) : mR M 80 44 = some 104 := h.2.2 (80, 44, 104) (List.mem_of_getElem? (i := 82) rfl)
theorem R80_45 {M : Mm} (h : FIX M) : mR M 80 45 = some 105 := h.2.2 (80, 45, 105) (List.mem_of_getElem? (i := 83) rfl)
theorem R80_46 {M : Mm} (h : FIX M) : mR M 80 46 = some 106 := h.2.2 (80, 46, 106) (List.mem_of_getElem? (i := 84) rfl)
/-- the street's cells, by the street's object -/
def sl (s : Nat) : Prop := s = 22 ∨ s = 28 ∨ s = 34
theorem kS {M : Mm} (h : FIX M) {s : Nat} (hs : sl s) : mK M s = (6, 0) := by
  rcases hs with rfl | rfl | rfl
  · exact K22 h
  · exact K28 h
  · exact K34 h
theorem kS1 {M : Mm} (h : FIX M) {s : Nat} (hs : sl s) : mK M (s + 1) = (23, 8) := by
  rcases hs with rfl | rfl | rfl
  · exact K23 h
  · exact K29 h
  · exact K35 h
theorem kS2 {M : Mm} (h : FIX M) {s : Nat} (hs : sl s) : mK M (s + 2) = (24, 8) := by
  rcases hs with rfl | rfl | rfl
  · exact K24 h
  · exact K30 h
  · exact K36 h
theorem kS3 {M : Mm} (h : FIX M) {s : Nat} (hs : sl s) : mK M (s + 3) = (1, 0) := by
  rcases hs with rfl | rfl | rfl
  · exact K25 h
  · exact K31 h
  · exact K37 h
theorem kS4 {M : Mm} (h : FIX M) {s : Nat} (hs : sl s) : mK M (s + 4) = (21, 24) := by
  rcases hs with rfl | rfl | rfl
  · exact K26 h
  · exact K32 h
  · exact K38 h
theorem kS5 {M : Mm} (h : FIX M) {s : Nat} (hs : sl s) : mK M (s + 5) = (21, 24) := by
  rcases hs with rfl | rfl | rfl
  · exact K27 h
  · exact K33 h
  · exact K39 h
theorem rS6 {M : Mm} (h : FIX M) {s : Nat} (hs : sl s) : mR M s 6 = some (s + 1) := by
  rcases hs with rfl | rfl | rfl
  · exact R22_6 h
  · exact R28_6 h
  · exact R34_6 h
theorem rS8 {M : Mm} (h : FIX M) {s : Nat} (hs : sl s) : mR M s 8 = some (s + 2) := by
  rcases hs with rfl | rfl | rfl
  · exact R22_8 h
  · exact R28_8 h
  · exact R34_8 h
theorem rS10 {M : Mm} (h : FIX M) {s : Nat} (hs : sl s) : mR M s 10 = some (s + 3) := by
  rcases hs with rfl | rfl | rfl
  · exact R22_10 h
  · exact R28_10 h
  · exact R34_10 h
theorem rO0 {M : Mm} (h : FIX M) {s : Nat} (hs : sl s) : mR M (s + 3) 0 = some (s + 4) := by
  rcases hs with rfl | rfl | rfl
  · exact R25_0 h
  · exact R31_0 h
  · exact R37_0 h
theorem rO1 {M : Mm} (h : FIX M) {s : Nat} (hs : sl s) : mR M (s + 3) 1 = some (s + 5) := by
  rcases hs with rfl | rfl | rfl
  · exact R25_1 h
  · exact R31_1 h
  · exact R37_1 h
theorem RT_in {t : Nat × Nat × Nat} (h : t ∈ RT) : t.1 < 23 ∨ (24 < t.1 ∧ t.1 < 29) ∨ (30 < t.1 ∧ t.1 < 35) ∨ (36 < t.1 ∧ t.1 < 107) := by
  have : ∀ t ∈ RT, t.1 < 23 ∨ (24 < t.1 ∧ t.1 < 29) ∨ (30 < t.1 ∧ t.1 < 35) ∨ (36 < t.1 ∧ t.1 < 107) := by decide
  exact this t h
theorem FIX.mk2 {M M1 : Mm} (h : FIX M) (hT : mT M ≤ mT M1) (hK : ∀ o, 20 ≤ o → o < 107 → mK M1 o = mK M o) (hR : ∀ o k, o < 23 ∨ (24 < o ∧ o < 29) ∨ (30 < o ∧ o < 35) ∨ (36 < o ∧ o < 107) → mR M1 o k = mR M o k) : FIX M1 :=
  ⟨Nat.le_trans h.1 hT, fun o a b => by rw [hK o a b]; exact h.2.1 o a b, fun t ht => by rw [hR _ _ (RT_in ht)]; exact h.2.2 t ht⟩
theorem FIX.sI {M : Mm} (h : FIX M) (a k : Nat) (v : Int32) : FIX (sI M a k v) := h
theorem FIX.sJ {M : Mm} (h : FIX M) (a k : Nat) (v : Int64) : FIX (sJ M a k v) := h
theorem FIX.wI {M : Mm} (h : FIX M) (a n : Nat) (g : Nat → Int32) : FIX (wI M a n g) := h
theorem FIX.wJ {M : Mm} (h : FIX M) (a n : Nat) (g : Nat → Int64) : FIX (wJ M a n g) := h
theorem FIX.sN {M : Mm} (h : FIX M) (kd n w : Nat) : FIX (sN M kd n w) := by
  have h0 := h.1
  refine h.mk2 (by rw [mT_sN]; omega) (fun o a b => ?_) (fun o k hq => ?_)
  · rw [mK_sN, if_neg (by omega)]
  · rw [mR_sN, if_neg (by omega)]
theorem FIX.sR {M : Mm} (h : FIX M) {a : Nat} (k : Nat) (v : Option Nat) (ha : a = 23 ∨ a = 24 ∨ a = 29 ∨ a = 30 ∨ a = 35 ∨ a = 36 ∨ 107 ≤ a) : FIX (sR M a k v) := by
  refine h.mk2 (Nat.le_refl _) (fun _ _ _ => rfl) (fun o k2 hq => ?_)
  rw [mR_sR, if_neg (by omega)]
theorem FIX.wR {M : Mm} (h : FIX M) {a : Nat} (n : Nat) (g : Nat → Option Nat) (ha : a = 23 ∨ a = 24 ∨ a = 29 ∨ a = 30 ∨ a = 35 ∨ a = 36 ∨ 107 ≤ a) : FIX (wR M a n g) := by
  refine h.mk2 (Nat.le_refl _) (fun _ _ _ => rfl) (fun o k2 hq => ?_)
  rw [mR_wR, if_neg (by omega)]
/-! ints and longs as numbers -/
theorem le_nn {a b : Nat} (ha : a < 2147483648) (hb : b < 2147483648) : (nI a ≤ nI b) = (a ≤ b) := propext (nI_leI ha hb)
theorem lt_nn {a b : Nat} (ha : a < 2147483648) (hb : b < 2147483648) : (nI a < nI b) = (a < b) := propext (nI_ltI ha hb)
theorem eq_nn {a b : Nat} (ha : a < 2147483648) (hb : b < 2147483648) : (nI a = nI b) = (a = b) := propext (nI_eq ha hb)
theorem cl_nn {a : Nat} (ha : a < 2147483648) : (nI a).toNatClampNeg = a := nI_clamp ha
theorem lt0_n {a : Nat} (ha : a < 2147483648) : (nI a < 0) = False := eq_false (nI_pos ha)
theorem le_ln {a b : Nat} (ha : a < 2147483648) (hb : b < 2147483648) : ((OfNat.ofNat a : Int32) ≤ nI b) = (a ≤ b) := propext (nI_leI ha hb)
theorem lt_ln {a b : Nat} (ha : a < 2147483648) (hb : b < 2147483648) : ((OfNat.ofNat a : Int32) < nI b) = (a < b) := propext (nI_ltI ha hb)
theorem le_nl {a b : Nat} (ha : a < 2147483648) (hb : b < 2147483648) : (nI a ≤ (OfNat.ofNat b : Int32)) = (a ≤ b) := propext (nI_leI ha hb)
theorem lt_nl {a b : Nat} (ha : a < 2147483648) (hb : b < 2147483648) : (nI a < (OfNat.ofNat b : Int32)) = (a < b) := propext (nI_ltI ha hb)
theorem eq_nl {a b : Nat} (ha : a < 2147483648) (hb : b < 2147483648) : (nI a = (OfNat.ofNat b : Int32)) = (a = b) := propext (nI_eq ha hb)
theorem ad_nl (a b : Nat) : nI a + (OfNat.ofNat b : Int32) = nI (a + b) := nI_add a b
theorem cl_l {a : Nat} (ha : a < 2147483648) : (OfNat.ofNat a : Int32).toNatClampNeg = a := nI_clamp ha
/-- every int: a number or below 0 -/
theorem i_cases (x : Int32) : x < 0 ∨ ∃ j : Nat, j < 2147483648 ∧ x = nI j := by
  by_cases h : x < 0
  · exact Or.inl h
  · exact Or.inr (nI_of h)
/-- comparisons with literals and numbers, as of whole numbers -/
theorem I_lt (a b : Int32) : (a < b) = (a.toInt < b.toInt) := propext Int32.lt_iff_toInt_lt
theorem I_le (a b : Int32) : (a ≤ b) = (a.toInt ≤ b.toInt) := propext Int32.le_iff_toInt_le
theorem I_eq (a b : Int32) : (a = b) = (a.toInt = b.toInt) := propext Int32.toInt_inj.symm
theorem I_n {n : Nat} (h : n < 2147483648) : (nI n).toInt = (n : Int) := nI_toInt h
theorem I_l {n : Nat} (h : n < 2147483648) : (OfNat.ofNat n : Int32).toInt = (n : Int) := nI_toInt h
theorem I_m1 : (-1 : Int32).toInt = -1 := by decide
theorem x_rng (x : Int32) : -2147483648 ≤ x.toInt ∧ x.toInt < 2147483648 := ⟨by have := x.le_toInt; simpa using this, by have := x.toInt_lt; simpa using this⟩
