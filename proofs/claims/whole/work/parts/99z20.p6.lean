/-! the class made (written by x8.py) -/
theorem Fx.K {l : List Nat} {M M1 : Mm} (f : Fx l M M1) {o : Nat} (ho : o < mT M) : mK M1 o = mK M o := (f.2 o ho).1
theorem Fx.I {l : List Nat} {M M1 : Mm} (f : Fx l M M1) {o : Nat} (ho : o < mT M) (hn : ¬ o ∈ l) (k : Nat) : mI M1 o k = mI M o k := ((f.2 o ho).2 hn).1 k
theorem Fx.J {l : List Nat} {M M1 : Mm} (f : Fx l M M1) {o : Nat} (ho : o < mT M) (hn : ¬ o ∈ l) (k : Nat) : mJ M1 o k = mJ M o k := ((f.2 o ho).2 hn).2.1 k
theorem Fx.R {l : List Nat} {M M1 : Mm} (f : Fx l M M1) {o : Nat} (ho : o < mT M) (hn : ¬ o ∈ l) (k : Nat) : mR M1 o k = mR M o k := ((f.2 o ho).2 hn).2.2 k
def X8F (M : Mm) : Prop := (mK M 20 = (9, 0) ∧ mK M 21 = (22, 8)) ∧ (StN 22 M ∧ StN 28 M ∧ StN 34 M) ∧ Ze M 40 (20, 8) ∧ (mK M 41 = (2, 0) ∧ mK M 42 = (25, 8) ∧ mK M 51 = (26, 9) ∧ mR M 41 0 = some 42 ∧ mR M 41 1 = some 51 ∧ (∀ j, j < 8 → mR M 42 j = some (43 + j) ∧ mK M (43 + j) = (20, 24)) ∧ (∀ j, j < 9 → mR M 51 j = some (52 + j) ∧ mK M (52 + j) = (21, 24))) ∧ (mK M 61 = (8, 0) ∧ Ze M 62 (20, 20) ∧ mR M 61 0 = some 62 ∧ mI M 61 1 = 0) ∧ Ze M 63 (21, 19) ∧
  (∀ j, j < 8 → (mK M (64 + 2 * j) = (4, 0) ∧ mI M (64 + 2 * j) 0 = -nI 1 ∧ mI M (64 + 2 * j) 1 = nI 0 ∧ mR M (64 + 2 * j) 2 = some (65 + 2 * j)) ∧ Ze M (65 + 2 * j) (21, 160) ∧ mR M 21 j = some (64 + 2 * j)) ∧
  (mR M 20 0 = some 21 ∧ mR M 20 1 = some 22 ∧ mR M 20 2 = some 28 ∧ mR M 20 3 = some 34 ∧ mR M 20 5 = some 40 ∧ mR M 20 7 = some 41 ∧ mR M 20 8 = some 61 ∧ mR M 20 9 = some 63) ∧ mI M 20 4 = 0 ∧ mI M 20 6 = -nI 1
theorem i8 {M0 : Mm} (hT : mT M0 = 20) : ∃ M1, fX8_init 20 (sN M0 9 0 10) = some M1 ∧ mT M1 = 80 ∧ mW M1 ≤ mW M0 + 3000 ∧ Fx [] M0 M1 ∧ X8F M1 := by
  have in20 : 20 ∈ [20] := List.mem_cons_self
  have n20 : ∀ a, a ≠ 20 → ¬ 20 ∈ [a] := fun a ha z => ha (List.mem_singleton.mp z).symm
  obtain ⟨A1, hA1⟩ : ∃ A1, A1 = sN M0 9 0 10 := ⟨_, rfl⟩
  have fA1 : Fx [20] M0 A1 := by rw [hA1]; exact Fx.wN _ _ _
  have tA1 : mT A1 = 21 := by rw [hA1, mT_sN, hT]
  have wA1 : mW A1 = mW M0 + 10 := by rw [hA1, mW_sN]
  have zA1 : Ze A1 20 (9, 0) := by
    have := Ze.new M0 9 0 10
    rw [hT, ← hA1] at this
    exact this
  have kA1 : mK A1 20 = (9, 0) := zA1.1
  obtain ⟨A2, hA2⟩ : ∃ A2, A2 = sN A1 22 8 8 := ⟨_, rfl⟩
  have fA2 : Fx [20] A1 A2 := by rw [hA2]; exact Fx.wN _ _ _
  have tA2 : mT A2 = 22 := by rw [hA2, mT_sN, tA1]
  have wA2 : mW A2 = mW A1 + 8 := by rw [hA2, mW_sN]
  have zA2 : Ze A2 21 (22, 8) := by
    have := Ze.new A1 22 8 8
    rw [tA1, ← hA2] at this
    exact this
  have RA2 : ∀ j, mR A2 20 j = mR A1 20 j := fun j => by rw [hA2, mR_sN, if_neg (by omega)]
  have IA2 : ∀ j, mI A2 20 j = mI A1 20 j := fun j => by rw [hA2, mI_sN, if_neg (by omega)]
  have kA2 : mK A2 20 = (9, 0) := by rw [fA2.K (by omega)]; exact kA1
  have qA2 : mK A2 21 = (22, 8) := zA2.1
  obtain ⟨A3, hA3⟩ : ∃ A3, A3 = sR A2 20 0 (some 21) := ⟨_, rfl⟩
  have fA3 : Fx [20] A2 A3 := by rw [hA3]; exact Fx.wR in20 _ _
  have tA3 : mT A3 = 22 := by rw [hA3, mT_sR]; exact tA2
  have wA3 : mW A3 = mW A2 := by rw [hA3, mW_sR]
  have RA3 : ∀ j, mR A3 20 j = if j = 0 then some 21 else mR A2 20 j := fun j => by rw [hA3, mR_sR]; simp only [true_and]
  have IA3 : ∀ j, mI A3 20 j = mI A2 20 j := fun j => by rw [hA3, mI_sR]
  have kA3 : mK A3 20 = (9, 0) := by rw [fA3.K (by omega)]; exact kA2
  have qA3 : mK A3 21 = (22, 8) := by rw [fA3.K (by omega)]; exact qA2
  obtain ⟨A4, hA4⟩ : ∃ A4, A4 = sN A3 6 0 15 := ⟨_, rfl⟩
  have fA4 : Fx [20] A3 A4 := by rw [hA4]; exact Fx.wN _ _ _
  have tA4 : mT A4 = 23 := by rw [hA4, mT_sN, tA3]
  have wA4 : mW A4 = mW A3 + 15 := by rw [hA4, mW_sN]
  have zA4 : Ze A4 22 (6, 0) := by
    have := Ze.new A3 6 0 15
    rw [tA3, ← hA4] at this
    exact this
  have RA4 : ∀ j, mR A4 20 j = mR A3 20 j := fun j => by rw [hA4, mR_sN, if_neg (by omega)]
  have IA4 : ∀ j, mI A4 20 j = mI A3 20 j := fun j => by rw [hA4, mI_sN, if_neg (by omega)]
  have kA4 : mK A4 20 = (9, 0) := by rw [fA4.K (by omega)]; exact kA3
  have qA4 : mK A4 21 = (22, 8) := by rw [fA4.K (by omega)]; exact qA3
  obtain ⟨A5, eA5, tA5, wA5, gA5, xA5⟩ := s522 tA4 zA4
  have RA5 : ∀ j, mR A5 20 j = mR A4 20 j := fun j => gA5.R (by omega) (n20 22 (by decide)) j
  have IA5 : ∀ j, mI A5 20 j = mI A4 20 j := fun j => gA5.I (by omega) (n20 22 (by decide)) j
  have kA5 : mK A5 20 = (9, 0) := by rw [gA5.K (by omega)]; exact kA4
  have qA5 : mK A5 21 = (22, 8) := by rw [gA5.K (by omega)]; exact qA4
  obtain ⟨A6, hA6⟩ : ∃ A6, A6 = sR A5 20 1 (some 22) := ⟨_, rfl⟩
  have fA6 : Fx [20] A5 A6 := by rw [hA6]; exact Fx.wR in20 _ _
  have tA6 : mT A6 = 28 := by rw [hA6, mT_sR]; exact tA5
  have wA6 : mW A6 = mW A5 := by rw [hA6, mW_sR]
  have RA6 : ∀ j, mR A6 20 j = if j = 1 then some 22 else mR A5 20 j := fun j => by rw [hA6, mR_sR]; simp only [true_and]
  have IA6 : ∀ j, mI A6 20 j = mI A5 20 j := fun j => by rw [hA6, mI_sR]
  have kA6 : mK A6 20 = (9, 0) := by rw [fA6.K (by omega)]; exact kA5
  have qA6 : mK A6 21 = (22, 8) := by rw [fA6.K (by omega)]; exact qA5
  obtain ⟨A7, hA7⟩ : ∃ A7, A7 = sN A6 6 0 15 := ⟨_, rfl⟩
  have fA7 : Fx [20] A6 A7 := by rw [hA7]; exact Fx.wN _ _ _
  have tA7 : mT A7 = 29 := by rw [hA7, mT_sN, tA6]
  have wA7 : mW A7 = mW A6 + 15 := by rw [hA7, mW_sN]
  have zA7 : Ze A7 28 (6, 0) := by
    have := Ze.new A6 6 0 15
    rw [tA6, ← hA7] at this
    exact this
  have RA7 : ∀ j, mR A7 20 j = mR A6 20 j := fun j => by rw [hA7, mR_sN, if_neg (by omega)]
  have IA7 : ∀ j, mI A7 20 j = mI A6 20 j := fun j => by rw [hA7, mI_sN, if_neg (by omega)]
  have kA7 : mK A7 20 = (9, 0) := by rw [fA7.K (by omega)]; exact kA6
  have qA7 : mK A7 21 = (22, 8) := by rw [fA7.K (by omega)]; exact qA6
  obtain ⟨A8, eA8, tA8, wA8, gA8, xA8⟩ := s528 tA7 zA7
  have RA8 : ∀ j, mR A8 20 j = mR A7 20 j := fun j => gA8.R (by omega) (n20 28 (by decide)) j
  have IA8 : ∀ j, mI A8 20 j = mI A7 20 j := fun j => gA8.I (by omega) (n20 28 (by decide)) j
  have kA8 : mK A8 20 = (9, 0) := by rw [gA8.K (by omega)]; exact kA7
  have qA8 : mK A8 21 = (22, 8) := by rw [gA8.K (by omega)]; exact qA7
  obtain ⟨A9, hA9⟩ : ∃ A9, A9 = sR A8 20 2 (some 28) := ⟨_, rfl⟩
  have fA9 : Fx [20] A8 A9 := by rw [hA9]; exact Fx.wR in20 _ _
  have tA9 : mT A9 = 34 := by rw [hA9, mT_sR]; exact tA8
  have wA9 : mW A9 = mW A8 := by rw [hA9, mW_sR]
  have RA9 : ∀ j, mR A9 20 j = if j = 2 then some 28 else mR A8 20 j := fun j => by rw [hA9, mR_sR]; simp only [true_and]
  have IA9 : ∀ j, mI A9 20 j = mI A8 20 j := fun j => by rw [hA9, mI_sR]
  have kA9 : mK A9 20 = (9, 0) := by rw [fA9.K (by omega)]; exact kA8
  have qA9 : mK A9 21 = (22, 8) := by rw [fA9.K (by omega)]; exact qA8
  obtain ⟨A10, hA10⟩ : ∃ A10, A10 = sN A9 6 0 15 := ⟨_, rfl⟩
  have fA10 : Fx [20] A9 A10 := by rw [hA10]; exact Fx.wN _ _ _
  have tA10 : mT A10 = 35 := by rw [hA10, mT_sN, tA9]
  have wA10 : mW A10 = mW A9 + 15 := by rw [hA10, mW_sN]
  have zA10 : Ze A10 34 (6, 0) := by
    have := Ze.new A9 6 0 15
    rw [tA9, ← hA10] at this
    exact this
  have RA10 : ∀ j, mR A10 20 j = mR A9 20 j := fun j => by rw [hA10, mR_sN, if_neg (by omega)]
  have IA10 : ∀ j, mI A10 20 j = mI A9 20 j := fun j => by rw [hA10, mI_sN, if_neg (by omega)]
  have kA10 : mK A10 20 = (9, 0) := by rw [fA10.K (by omega)]; exact kA9
  have qA10 : mK A10 21 = (22, 8) := by rw [fA10.K (by omega)]; exact qA9
  obtain ⟨A11, eA11, tA11, wA11, gA11, xA11⟩ := s534 tA10 zA10
  have RA11 : ∀ j, mR A11 20 j = mR A10 20 j := fun j => gA11.R (by omega) (n20 34 (by decide)) j
  have IA11 : ∀ j, mI A11 20 j = mI A10 20 j := fun j => gA11.I (by omega) (n20 34 (by decide)) j
  have kA11 : mK A11 20 = (9, 0) := by rw [gA11.K (by omega)]; exact kA10
  have qA11 : mK A11 21 = (22, 8) := by rw [gA11.K (by omega)]; exact qA10
  obtain ⟨A12, hA12⟩ : ∃ A12, A12 = sR A11 20 3 (some 34) := ⟨_, rfl⟩
  have fA12 : Fx [20] A11 A12 := by rw [hA12]; exact Fx.wR in20 _ _
  have tA12 : mT A12 = 40 := by rw [hA12, mT_sR]; exact tA11
  have wA12 : mW A12 = mW A11 := by rw [hA12, mW_sR]
  have RA12 : ∀ j, mR A12 20 j = if j = 3 then some 34 else mR A11 20 j := fun j => by rw [hA12, mR_sR]; simp only [true_and]
  have IA12 : ∀ j, mI A12 20 j = mI A11 20 j := fun j => by rw [hA12, mI_sR]
  have kA12 : mK A12 20 = (9, 0) := by rw [fA12.K (by omega)]; exact kA11
  have qA12 : mK A12 21 = (22, 8) := by rw [fA12.K (by omega)]; exact qA11
  obtain ⟨A13, hA13⟩ : ∃ A13, A13 = sI A12 20 4 0 := ⟨_, rfl⟩
  have fA13 : Fx [20] A12 A13 := by rw [hA13]; exact Fx.wI in20 _ _
  have tA13 : mT A13 = 40 := by rw [hA13, mT_sI]; exact tA12
  have wA13 : mW A13 = mW A12 := by rw [hA13, mW_sI]
  have RA13 : ∀ j, mR A13 20 j = mR A12 20 j := fun j => by rw [hA13, mR_sI]
  have IA13 : ∀ j, mI A13 20 j = if j = 4 then 0 else mI A12 20 j := fun j => by rw [hA13, mI_sI]; simp only [true_and]
  have kA13 : mK A13 20 = (9, 0) := by rw [fA13.K (by omega)]; exact kA12
  have qA13 : mK A13 21 = (22, 8) := by rw [fA13.K (by omega)]; exact qA12
  obtain ⟨A14, hA14⟩ : ∃ A14, A14 = sN A13 20 8 8 := ⟨_, rfl⟩
  have fA14 : Fx [20] A13 A14 := by rw [hA14]; exact Fx.wN _ _ _
  have tA14 : mT A14 = 41 := by rw [hA14, mT_sN, tA13]
  have wA14 : mW A14 = mW A13 + 8 := by rw [hA14, mW_sN]
  have zA14 : Ze A14 40 (20, 8) := by
    have := Ze.new A13 20 8 8
    rw [tA13, ← hA14] at this
    exact this
  have RA14 : ∀ j, mR A14 20 j = mR A13 20 j := fun j => by rw [hA14, mR_sN, if_neg (by omega)]
  have IA14 : ∀ j, mI A14 20 j = mI A13 20 j := fun j => by rw [hA14, mI_sN, if_neg (by omega)]
  have kA14 : mK A14 20 = (9, 0) := by rw [fA14.K (by omega)]; exact kA13
  have qA14 : mK A14 21 = (22, 8) := by rw [fA14.K (by omega)]; exact qA13
  obtain ⟨A15, hA15⟩ : ∃ A15, A15 = sR A14 20 5 (some 40) := ⟨_, rfl⟩
  have fA15 : Fx [20] A14 A15 := by rw [hA15]; exact Fx.wR in20 _ _
  have tA15 : mT A15 = 41 := by rw [hA15, mT_sR]; exact tA14
  have wA15 : mW A15 = mW A14 := by rw [hA15, mW_sR]
  have RA15 : ∀ j, mR A15 20 j = if j = 5 then some 40 else mR A14 20 j := fun j => by rw [hA15, mR_sR]; simp only [true_and]
  have IA15 : ∀ j, mI A15 20 j = mI A14 20 j := fun j => by rw [hA15, mI_sR]
  have kA15 : mK A15 20 = (9, 0) := by rw [fA15.K (by omega)]; exact kA14
  have qA15 : mK A15 21 = (22, 8) := by rw [fA15.K (by omega)]; exact qA14
  obtain ⟨A16, hA16⟩ : ∃ A16, A16 = sI A15 20 6 (-1) := ⟨_, rfl⟩
  have fA16 : Fx [20] A15 A16 := by rw [hA16]; exact Fx.wI in20 _ _
  have tA16 : mT A16 = 41 := by rw [hA16, mT_sI]; exact tA15
  have wA16 : mW A16 = mW A15 := by rw [hA16, mW_sI]
  have RA16 : ∀ j, mR A16 20 j = mR A15 20 j := fun j => by rw [hA16, mR_sI]
  have IA16 : ∀ j, mI A16 20 j = if j = 6 then (-1) else mI A15 20 j := fun j => by rw [hA16, mI_sI]; simp only [true_and]
  have kA16 : mK A16 20 = (9, 0) := by rw [fA16.K (by omega)]; exact kA15
  have qA16 : mK A16 21 = (22, 8) := by rw [fA16.K (by omega)]; exact qA15
  obtain ⟨A17, hA17⟩ : ∃ A17, A17 = sN A16 2 0 4 := ⟨_, rfl⟩
  have fA17 : Fx [20] A16 A17 := by rw [hA17]; exact Fx.wN _ _ _
  have tA17 : mT A17 = 42 := by rw [hA17, mT_sN, tA16]
  have wA17 : mW A17 = mW A16 + 4 := by rw [hA17, mW_sN]
  have zA17 : Ze A17 41 (2, 0) := by
    have := Ze.new A16 2 0 4
    rw [tA16, ← hA17] at this
    exact this
  have RA17 : ∀ j, mR A17 20 j = mR A16 20 j := fun j => by rw [hA17, mR_sN, if_neg (by omega)]
  have IA17 : ∀ j, mI A17 20 j = mI A16 20 j := fun j => by rw [hA17, mI_sN, if_neg (by omega)]
  have kA17 : mK A17 20 = (9, 0) := by rw [fA17.K (by omega)]; exact kA16
  have qA17 : mK A17 21 = (22, 8) := by rw [fA17.K (by omega)]; exact qA16
  obtain ⟨A18, eA18, tA18, wA18, gA18, xA18⟩ := i1 tA17 zA17.1
  have RA18 : ∀ j, mR A18 20 j = mR A17 20 j := fun j => gA18.R (by omega) (n20 41 (by decide)) j
  have IA18 : ∀ j, mI A18 20 j = mI A17 20 j := fun j => gA18.I (by omega) (n20 41 (by decide)) j
  have kA18 : mK A18 20 = (9, 0) := by rw [gA18.K (by omega)]; exact kA17
  have qA18 : mK A18 21 = (22, 8) := by rw [gA18.K (by omega)]; exact qA17
  obtain ⟨A19, hA19⟩ : ∃ A19, A19 = sR A18 20 7 (some 41) := ⟨_, rfl⟩
  have fA19 : Fx [20] A18 A19 := by rw [hA19]; exact Fx.wR in20 _ _
  have tA19 : mT A19 = 61 := by rw [hA19, mT_sR]; exact tA18
  have wA19 : mW A19 = mW A18 := by rw [hA19, mW_sR]
  have RA19 : ∀ j, mR A19 20 j = if j = 7 then some 41 else mR A18 20 j := fun j => by rw [hA19, mR_sR]; simp only [true_and]
  have IA19 : ∀ j, mI A19 20 j = mI A18 20 j := fun j => by rw [hA19, mI_sR]
  have kA19 : mK A19 20 = (9, 0) := by rw [fA19.K (by omega)]; exact kA18
  have qA19 : mK A19 21 = (22, 8) := by rw [fA19.K (by omega)]; exact qA18
  obtain ⟨A20, hA20⟩ : ∃ A20, A20 = sN A19 8 0 2 := ⟨_, rfl⟩
  have fA20 : Fx [20] A19 A20 := by rw [hA20]; exact Fx.wN _ _ _
  have tA20 : mT A20 = 62 := by rw [hA20, mT_sN, tA19]
  have wA20 : mW A20 = mW A19 + 2 := by rw [hA20, mW_sN]
  have zA20 : Ze A20 61 (8, 0) := by
    have := Ze.new A19 8 0 2
    rw [tA19, ← hA20] at this
    exact this
  have RA20 : ∀ j, mR A20 20 j = mR A19 20 j := fun j => by rw [hA20, mR_sN, if_neg (by omega)]
  have IA20 : ∀ j, mI A20 20 j = mI A19 20 j := fun j => by rw [hA20, mI_sN, if_neg (by omega)]
  have kA20 : mK A20 20 = (9, 0) := by rw [fA20.K (by omega)]; exact kA19
  have qA20 : mK A20 21 = (22, 8) := by rw [fA20.K (by omega)]; exact qA19
  obtain ⟨A21, eA21, tA21, wA21, gA21, xA21⟩ := i7 tA20 zA20.1
  have RA21 : ∀ j, mR A21 20 j = mR A20 20 j := fun j => gA21.R (by omega) (n20 61 (by decide)) j
  have IA21 : ∀ j, mI A21 20 j = mI A20 20 j := fun j => gA21.I (by omega) (n20 61 (by decide)) j
  have kA21 : mK A21 20 = (9, 0) := by rw [gA21.K (by omega)]; exact kA20
  have qA21 : mK A21 21 = (22, 8) := by rw [gA21.K (by omega)]; exact qA20
  obtain ⟨A22, hA22⟩ : ∃ A22, A22 = sR A21 20 8 (some 61) := ⟨_, rfl⟩
  have fA22 : Fx [20] A21 A22 := by rw [hA22]; exact Fx.wR in20 _ _
  have tA22 : mT A22 = 63 := by rw [hA22, mT_sR]; exact tA21
  have wA22 : mW A22 = mW A21 := by rw [hA22, mW_sR]
  have RA22 : ∀ j, mR A22 20 j = if j = 8 then some 61 else mR A21 20 j := fun j => by rw [hA22, mR_sR]; simp only [true_and]
  have IA22 : ∀ j, mI A22 20 j = mI A21 20 j := fun j => by rw [hA22, mI_sR]
  have kA22 : mK A22 20 = (9, 0) := by rw [fA22.K (by omega)]; exact kA21
  have qA22 : mK A22 21 = (22, 8) := by rw [fA22.K (by omega)]; exact qA21
  obtain ⟨A23, hA23⟩ : ∃ A23, A23 = sN A22 21 19 19 := ⟨_, rfl⟩
  have fA23 : Fx [20] A22 A23 := by rw [hA23]; exact Fx.wN _ _ _
  have tA23 : mT A23 = 64 := by rw [hA23, mT_sN, tA22]
  have wA23 : mW A23 = mW A22 + 19 := by rw [hA23, mW_sN]
  have zA23 : Ze A23 63 (21, 19) := by
    have := Ze.new A22 21 19 19
    rw [tA22, ← hA23] at this
    exact this
  have RA23 : ∀ j, mR A23 20 j = mR A22 20 j := fun j => by rw [hA23, mR_sN, if_neg (by omega)]
  have IA23 : ∀ j, mI A23 20 j = mI A22 20 j := fun j => by rw [hA23, mI_sN, if_neg (by omega)]
  have kA23 : mK A23 20 = (9, 0) := by rw [fA23.K (by omega)]; exact kA22
  have qA23 : mK A23 21 = (22, 8) := by rw [fA23.K (by omega)]; exact qA22
  obtain ⟨A24, hA24⟩ : ∃ A24, A24 = sR A23 20 9 (some 63) := ⟨_, rfl⟩
  have fA24 : Fx [20] A23 A24 := by rw [hA24]; exact Fx.wR in20 _ _
  have tA24 : mT A24 = 64 := by rw [hA24, mT_sR]; exact tA23
  have wA24 : mW A24 = mW A23 := by rw [hA24, mW_sR]
  have RA24 : ∀ j, mR A24 20 j = if j = 9 then some 63 else mR A23 20 j := fun j => by rw [hA24, mR_sR]; simp only [true_and]
  have IA24 : ∀ j, mI A24 20 j = mI A23 20 j := fun j => by rw [hA24, mI_sR]
  have kA24 : mK A24 20 = (9, 0) := by rw [fA24.K (by omega)]; exact kA23
  have qA24 : mK A24 21 = (22, 8) := by rw [fA24.K (by omega)]; exact qA23
  have sh0 : Shv 0 A24 := ⟨tA24, ⟨kA24, by simp only [RA24, RA23, RA22, RA21, RA20, RA19, RA18, RA17, RA16, RA15, RA14, RA13, RA12, RA11, RA10, RA9, RA8, RA7, RA6, RA5, RA4, RA3, RA2, Nat.reduceEqDiff, ↓reduceIte], qA24⟩, fun j hj => by omega⟩
  obtain ⟨A25, eA25, xA25, gA25, wA25⟩ := i96 8 1991 0 A24 sh0 (by decide)
  have tA25 : mT A25 = 80 := xA25.1
  have RA25 : ∀ j, mR A25 20 j = mR A24 20 j := fun j => gA25.R (by omega) (n20 21 (by decide)) j
  have IA25 : ∀ j, mI A25 20 j = mI A24 20 j := fun j => gA25.I (by omega) (n20 21 (by decide)) j
  have kA25 : mK A25 20 = (9, 0) := by rw [gA25.K (by omega)]; exact kA24
  have qA25 : mK A25 21 = (22, 8) := by rw [gA25.K (by omega)]; exact qA24
  have fM : Fx [] M0 A25 := by
    have a0 : Fx [] M0 A1 := by rw [hA1]; exact Fx.wN _ _ _
    have a1 : Fx [] M0 A2 := a0.cut fA2 (fun o ho => Or.inr (by have := List.mem_singleton.mp ho; omega))
    have a2 : Fx [] M0 A3 := a1.cut fA3 (fun o ho => Or.inr (by have := List.mem_singleton.mp ho; omega))
    have a3 : Fx [] M0 A4 := a2.cut fA4 (fun o ho => Or.inr (by have := List.mem_singleton.mp ho; omega))
    have a4 : Fx [] M0 A5 := a3.cut gA5 (fun o ho => Or.inr (by have := List.mem_singleton.mp ho; omega))
    have a5 : Fx [] M0 A6 := a4.cut fA6 (fun o ho => Or.inr (by have := List.mem_singleton.mp ho; omega))
    have a6 : Fx [] M0 A7 := a5.cut fA7 (fun o ho => Or.inr (by have := List.mem_singleton.mp ho; omega))
    have a7 : Fx [] M0 A8 := a6.cut gA8 (fun o ho => Or.inr (by have := List.mem_singleton.mp ho; omega))
    have a8 : Fx [] M0 A9 := a7.cut fA9 (fun o ho => Or.inr (by have := List.mem_singleton.mp ho; omega))
    have a9 : Fx [] M0 A10 := a8.cut fA10 (fun o ho => Or.inr (by have := List.mem_singleton.mp ho; omega))
    have a10 : Fx [] M0 A11 := a9.cut gA11 (fun o ho => Or.inr (by have := List.mem_singleton.mp ho; omega))
    have a11 : Fx [] M0 A12 := a10.cut fA12 (fun o ho => Or.inr (by have := List.mem_singleton.mp ho; omega))
    have a12 : Fx [] M0 A13 := a11.cut fA13 (fun o ho => Or.inr (by have := List.mem_singleton.mp ho; omega))
    have a13 : Fx [] M0 A14 := a12.cut fA14 (fun o ho => Or.inr (by have := List.mem_singleton.mp ho; omega))
    have a14 : Fx [] M0 A15 := a13.cut fA15 (fun o ho => Or.inr (by have := List.mem_singleton.mp ho; omega))
    have a15 : Fx [] M0 A16 := a14.cut fA16 (fun o ho => Or.inr (by have := List.mem_singleton.mp ho; omega))
    have a16 : Fx [] M0 A17 := a15.cut fA17 (fun o ho => Or.inr (by have := List.mem_singleton.mp ho; omega))
    have a17 : Fx [] M0 A18 := a16.cut gA18 (fun o ho => Or.inr (by have := List.mem_singleton.mp ho; omega))
    have a18 : Fx [] M0 A19 := a17.cut fA19 (fun o ho => Or.inr (by have := List.mem_singleton.mp ho; omega))
    have a19 : Fx [] M0 A20 := a18.cut fA20 (fun o ho => Or.inr (by have := List.mem_singleton.mp ho; omega))
    have a20 : Fx [] M0 A21 := a19.cut gA21 (fun o ho => Or.inr (by have := List.mem_singleton.mp ho; omega))
    have a21 : Fx [] M0 A22 := a20.cut fA22 (fun o ho => Or.inr (by have := List.mem_singleton.mp ho; omega))
    have a22 : Fx [] M0 A23 := a21.cut fA23 (fun o ho => Or.inr (by have := List.mem_singleton.mp ho; omega))
    have a23 : Fx [] M0 A24 := a22.cut fA24 (fun o ho => Or.inr (by have := List.mem_singleton.mp ho; omega))
    have a24 : Fx [] M0 A25 := a23.cut gA25 (fun o ho => Or.inr (by have := List.mem_singleton.mp ho; omega))
    exact a24
  have cS22 : Fx [20, 21] A5 A25 := by
    have a4 : Fx [20, 21] A5 A5 := Fx.rf
    have a5 : Fx [20, 21] A5 A6 := a4.cut fA6 (fun o ho => by
      rw [List.mem_singleton.mp ho]
      first
        | exact Or.inl (by decide)
        | exact Or.inr (by omega))
    have a6 : Fx [20, 21] A5 A7 := a5.cut fA7 (fun o ho => by
      rw [List.mem_singleton.mp ho]
      first
        | exact Or.inl (by decide)
        | exact Or.inr (by omega))
    have a7 : Fx [20, 21] A5 A8 := a6.cut gA8 (fun o ho => by
      rw [List.mem_singleton.mp ho]
      first
        | exact Or.inl (by decide)
        | exact Or.inr (by omega))
    have a8 : Fx [20, 21] A5 A9 := a7.cut fA9 (fun o ho => by
      rw [List.mem_singleton.mp ho]
      first
        | exact Or.inl (by decide)
        | exact Or.inr (by omega))
    have a9 : Fx [20, 21] A5 A10 := a8.cut fA10 (fun o ho => by
      rw [List.mem_singleton.mp ho]
      first
        | exact Or.inl (by decide)
        | exact Or.inr (by omega))
    have a10 : Fx [20, 21] A5 A11 := a9.cut gA11 (fun o ho => by
      rw [List.mem_singleton.mp ho]
      first
        | exact Or.inl (by decide)
        | exact Or.inr (by omega))
    have a11 : Fx [20, 21] A5 A12 := a10.cut fA12 (fun o ho => by
      rw [List.mem_singleton.mp ho]
      first
        | exact Or.inl (by decide)
        | exact Or.inr (by omega))
    have a12 : Fx [20, 21] A5 A13 := a11.cut fA13 (fun o ho => by
      rw [List.mem_singleton.mp ho]
      first
        | exact Or.inl (by decide)
        | exact Or.inr (by omega))
    have a13 : Fx [20, 21] A5 A14 := a12.cut fA14 (fun o ho => by
      rw [List.mem_singleton.mp ho]
      first
        | exact Or.inl (by decide)
        | exact Or.inr (by omega))
    have a14 : Fx [20, 21] A5 A15 := a13.cut fA15 (fun o ho => by
      rw [List.mem_singleton.mp ho]
      first
        | exact Or.inl (by decide)
        | exact Or.inr (by omega))
    have a15 : Fx [20, 21] A5 A16 := a14.cut fA16 (fun o ho => by
      rw [List.mem_singleton.mp ho]
      first
        | exact Or.inl (by decide)
        | exact Or.inr (by omega))
    have a16 : Fx [20, 21] A5 A17 := a15.cut fA17 (fun o ho => by
      rw [List.mem_singleton.mp ho]
      first
        | exact Or.inl (by decide)
        | exact Or.inr (by omega))
    have a17 : Fx [20, 21] A5 A18 := a16.cut gA18 (fun o ho => by
      rw [List.mem_singleton.mp ho]
      first
        | exact Or.inl (by decide)
        | exact Or.inr (by omega))
    have a18 : Fx [20, 21] A5 A19 := a17.cut fA19 (fun o ho => by
      rw [List.mem_singleton.mp ho]
      first
        | exact Or.inl (by decide)
        | exact Or.inr (by omega))
    have a19 : Fx [20, 21] A5 A20 := a18.cut fA20 (fun o ho => by
      rw [List.mem_singleton.mp ho]
      first
        | exact Or.inl (by decide)
        | exact Or.inr (by omega))
    have a20 : Fx [20, 21] A5 A21 := a19.cut gA21 (fun o ho => by
      rw [List.mem_singleton.mp ho]
      first
        | exact Or.inl (by decide)
        | exact Or.inr (by omega))
    have a21 : Fx [20, 21] A5 A22 := a20.cut fA22 (fun o ho => by
      rw [List.mem_singleton.mp ho]
      first
        | exact Or.inl (by decide)
        | exact Or.inr (by omega))
    have a22 : Fx [20, 21] A5 A23 := a21.cut fA23 (fun o ho => by
      rw [List.mem_singleton.mp ho]
      first
        | exact Or.inl (by decide)
        | exact Or.inr (by omega))
    have a23 : Fx [20, 21] A5 A24 := a22.cut fA24 (fun o ho => by
      rw [List.mem_singleton.mp ho]
      first
        | exact Or.inl (by decide)
        | exact Or.inr (by omega))
    have a24 : Fx [20, 21] A5 A25 := a23.cut gA25 (fun o ho => by
      rw [List.mem_singleton.mp ho]
      first
        | exact Or.inl (by decide)
        | exact Or.inr (by omega))
    exact a24
  have cS28 : Fx [20, 21] A8 A25 := by
    have a7 : Fx [20, 21] A8 A8 := Fx.rf
    have a8 : Fx [20, 21] A8 A9 := a7.cut fA9 (fun o ho => by
      rw [List.mem_singleton.mp ho]
      first
        | exact Or.inl (by decide)
        | exact Or.inr (by omega))
    have a9 : Fx [20, 21] A8 A10 := a8.cut fA10 (fun o ho => by
      rw [List.mem_singleton.mp ho]
      first
        | exact Or.inl (by decide)
        | exact Or.inr (by omega))
    have a10 : Fx [20, 21] A8 A11 := a9.cut gA11 (fun o ho => by
      rw [List.mem_singleton.mp ho]
      first
        | exact Or.inl (by decide)
        | exact Or.inr (by omega))
    have a11 : Fx [20, 21] A8 A12 := a10.cut fA12 (fun o ho => by
      rw [List.mem_singleton.mp ho]
      first
        | exact Or.inl (by decide)
        | exact Or.inr (by omega))
    have a12 : Fx [20, 21] A8 A13 := a11.cut fA13 (fun o ho => by
      rw [List.mem_singleton.mp ho]
      first
        | exact Or.inl (by decide)
        | exact Or.inr (by omega))
    have a13 : Fx [20, 21] A8 A14 := a12.cut fA14 (fun o ho => by
      rw [List.mem_singleton.mp ho]
      first
        | exact Or.inl (by decide)
        | exact Or.inr (by omega))
    have a14 : Fx [20, 21] A8 A15 := a13.cut fA15 (fun o ho => by
      rw [List.mem_singleton.mp ho]
      first
        | exact Or.inl (by decide)
        | exact Or.inr (by omega))
    have a15 : Fx [20, 21] A8 A16 := a14.cut fA16 (fun o ho => by
      rw [List.mem_singleton.mp ho]
      first
        | exact Or.inl (by decide)
        | exact Or.inr (by omega))
    have a16 : Fx [20, 21] A8 A17 := a15.cut fA17 (fun o ho => by
      rw [List.mem_singleton.mp ho]
      first
        | exact Or.inl (by decide)
        | exact Or.inr (by omega))
    have a17 : Fx [20, 21] A8 A18 := a16.cut gA18 (fun o ho => by
      rw [List.mem_singleton.mp ho]
      first
        | exact Or.inl (by decide)
        | exact Or.inr (by omega))
    have a18 : Fx [20, 21] A8 A19 := a17.cut fA19 (fun o ho => by
      rw [List.mem_singleton.mp ho]
      first
        | exact Or.inl (by decide)
        | exact Or.inr (by omega))
    have a19 : Fx [20, 21] A8 A20 := a18.cut fA20 (fun o ho => by
      rw [List.mem_singleton.mp ho]
      first
        | exact Or.inl (by decide)
        | exact Or.inr (by omega))
    have a20 : Fx [20, 21] A8 A21 := a19.cut gA21 (fun o ho => by
      rw [List.mem_singleton.mp ho]
      first
        | exact Or.inl (by decide)
        | exact Or.inr (by omega))
    have a21 : Fx [20, 21] A8 A22 := a20.cut fA22 (fun o ho => by
      rw [List.mem_singleton.mp ho]
      first
        | exact Or.inl (by decide)
        | exact Or.inr (by omega))
    have a22 : Fx [20, 21] A8 A23 := a21.cut fA23 (fun o ho => by
      rw [List.mem_singleton.mp ho]
      first
        | exact Or.inl (by decide)
        | exact Or.inr (by omega))
    have a23 : Fx [20, 21] A8 A24 := a22.cut fA24 (fun o ho => by
      rw [List.mem_singleton.mp ho]
      first
        | exact Or.inl (by decide)
        | exact Or.inr (by omega))
    have a24 : Fx [20, 21] A8 A25 := a23.cut gA25 (fun o ho => by
      rw [List.mem_singleton.mp ho]
      first
        | exact Or.inl (by decide)
        | exact Or.inr (by omega))
    exact a24
  have cS34 : Fx [20, 21] A11 A25 := by
    have a10 : Fx [20, 21] A11 A11 := Fx.rf
    have a11 : Fx [20, 21] A11 A12 := a10.cut fA12 (fun o ho => by
      rw [List.mem_singleton.mp ho]
      first
        | exact Or.inl (by decide)
        | exact Or.inr (by omega))
    have a12 : Fx [20, 21] A11 A13 := a11.cut fA13 (fun o ho => by
      rw [List.mem_singleton.mp ho]
      first
        | exact Or.inl (by decide)
        | exact Or.inr (by omega))
    have a13 : Fx [20, 21] A11 A14 := a12.cut fA14 (fun o ho => by
      rw [List.mem_singleton.mp ho]
      first
        | exact Or.inl (by decide)
        | exact Or.inr (by omega))
    have a14 : Fx [20, 21] A11 A15 := a13.cut fA15 (fun o ho => by
      rw [List.mem_singleton.mp ho]
      first
        | exact Or.inl (by decide)
        | exact Or.inr (by omega))
    have a15 : Fx [20, 21] A11 A16 := a14.cut fA16 (fun o ho => by
      rw [List.mem_singleton.mp ho]
      first
        | exact Or.inl (by decide)
        | exact Or.inr (by omega))
    have a16 : Fx [20, 21] A11 A17 := a15.cut fA17 (fun o ho => by
      rw [List.mem_singleton.mp ho]
      first
        | exact Or.inl (by decide)
        | exact Or.inr (by omega))
    have a17 : Fx [20, 21] A11 A18 := a16.cut gA18 (fun o ho => by
      rw [List.mem_singleton.mp ho]
      first
        | exact Or.inl (by decide)
        | exact Or.inr (by omega))
    have a18 : Fx [20, 21] A11 A19 := a17.cut fA19 (fun o ho => by
      rw [List.mem_singleton.mp ho]
      first
        | exact Or.inl (by decide)
        | exact Or.inr (by omega))
    have a19 : Fx [20, 21] A11 A20 := a18.cut fA20 (fun o ho => by
      rw [List.mem_singleton.mp ho]
      first
        | exact Or.inl (by decide)
        | exact Or.inr (by omega))
    have a20 : Fx [20, 21] A11 A21 := a19.cut gA21 (fun o ho => by
      rw [List.mem_singleton.mp ho]
      first
        | exact Or.inl (by decide)
        | exact Or.inr (by omega))
    have a21 : Fx [20, 21] A11 A22 := a20.cut fA22 (fun o ho => by
      rw [List.mem_singleton.mp ho]
      first
        | exact Or.inl (by decide)
        | exact Or.inr (by omega))
    have a22 : Fx [20, 21] A11 A23 := a21.cut fA23 (fun o ho => by
      rw [List.mem_singleton.mp ho]
      first
        | exact Or.inl (by decide)
        | exact Or.inr (by omega))
    have a23 : Fx [20, 21] A11 A24 := a22.cut fA24 (fun o ho => by
      rw [List.mem_singleton.mp ho]
      first
        | exact Or.inl (by decide)
        | exact Or.inr (by omega))
    have a24 : Fx [20, 21] A11 A25 := a23.cut gA25 (fun o ho => by
      rw [List.mem_singleton.mp ho]
      first
        | exact Or.inl (by decide)
        | exact Or.inr (by omega))
    exact a24
  have cN40 : Fx [20, 21] A14 A25 := by
    have a13 : Fx [20, 21] A14 A14 := Fx.rf
    have a14 : Fx [20, 21] A14 A15 := a13.cut fA15 (fun o ho => by
      rw [List.mem_singleton.mp ho]
      first
        | exact Or.inl (by decide)
        | exact Or.inr (by omega))
    have a15 : Fx [20, 21] A14 A16 := a14.cut fA16 (fun o ho => by
      rw [List.mem_singleton.mp ho]
      first
        | exact Or.inl (by decide)
        | exact Or.inr (by omega))
    have a16 : Fx [20, 21] A14 A17 := a15.cut fA17 (fun o ho => by
      rw [List.mem_singleton.mp ho]
      first
        | exact Or.inl (by decide)
        | exact Or.inr (by omega))
    have a17 : Fx [20, 21] A14 A18 := a16.cut gA18 (fun o ho => by
      rw [List.mem_singleton.mp ho]
      first
        | exact Or.inl (by decide)
        | exact Or.inr (by omega))
    have a18 : Fx [20, 21] A14 A19 := a17.cut fA19 (fun o ho => by
      rw [List.mem_singleton.mp ho]
      first
        | exact Or.inl (by decide)
        | exact Or.inr (by omega))
    have a19 : Fx [20, 21] A14 A20 := a18.cut fA20 (fun o ho => by
      rw [List.mem_singleton.mp ho]
      first
        | exact Or.inl (by decide)
        | exact Or.inr (by omega))
    have a20 : Fx [20, 21] A14 A21 := a19.cut gA21 (fun o ho => by
      rw [List.mem_singleton.mp ho]
      first
        | exact Or.inl (by decide)
        | exact Or.inr (by omega))
    have a21 : Fx [20, 21] A14 A22 := a20.cut fA22 (fun o ho => by
      rw [List.mem_singleton.mp ho]
      first
        | exact Or.inl (by decide)
        | exact Or.inr (by omega))
    have a22 : Fx [20, 21] A14 A23 := a21.cut fA23 (fun o ho => by
      rw [List.mem_singleton.mp ho]
      first
        | exact Or.inl (by decide)
        | exact Or.inr (by omega))
    have a23 : Fx [20, 21] A14 A24 := a22.cut fA24 (fun o ho => by
      rw [List.mem_singleton.mp ho]
      first
        | exact Or.inl (by decide)
        | exact Or.inr (by omega))
    have a24 : Fx [20, 21] A14 A25 := a23.cut gA25 (fun o ho => by
      rw [List.mem_singleton.mp ho]
      first
        | exact Or.inl (by decide)
        | exact Or.inr (by omega))
    exact a24
  have cX1 : Fx [20, 21] A18 A25 := by
    have a17 : Fx [20, 21] A18 A18 := Fx.rf
    have a18 : Fx [20, 21] A18 A19 := a17.cut fA19 (fun o ho => by
      rw [List.mem_singleton.mp ho]
      first
        | exact Or.inl (by decide)
        | exact Or.inr (by omega))
    have a19 : Fx [20, 21] A18 A20 := a18.cut fA20 (fun o ho => by
      rw [List.mem_singleton.mp ho]
      first
        | exact Or.inl (by decide)
        | exact Or.inr (by omega))
    have a20 : Fx [20, 21] A18 A21 := a19.cut gA21 (fun o ho => by
      rw [List.mem_singleton.mp ho]
      first
        | exact Or.inl (by decide)
        | exact Or.inr (by omega))
    have a21 : Fx [20, 21] A18 A22 := a20.cut fA22 (fun o ho => by
      rw [List.mem_singleton.mp ho]
      first
        | exact Or.inl (by decide)
        | exact Or.inr (by omega))
    have a22 : Fx [20, 21] A18 A23 := a21.cut fA23 (fun o ho => by
      rw [List.mem_singleton.mp ho]
      first
        | exact Or.inl (by decide)
        | exact Or.inr (by omega))
    have a23 : Fx [20, 21] A18 A24 := a22.cut fA24 (fun o ho => by
      rw [List.mem_singleton.mp ho]
      first
        | exact Or.inl (by decide)
        | exact Or.inr (by omega))
    have a24 : Fx [20, 21] A18 A25 := a23.cut gA25 (fun o ho => by
      rw [List.mem_singleton.mp ho]
      first
        | exact Or.inl (by decide)
        | exact Or.inr (by omega))
    exact a24
  have cX7 : Fx [20, 21] A21 A25 := by
    have a20 : Fx [20, 21] A21 A21 := Fx.rf
    have a21 : Fx [20, 21] A21 A22 := a20.cut fA22 (fun o ho => by
      rw [List.mem_singleton.mp ho]
      first
        | exact Or.inl (by decide)
        | exact Or.inr (by omega))
    have a22 : Fx [20, 21] A21 A23 := a21.cut fA23 (fun o ho => by
      rw [List.mem_singleton.mp ho]
      first
        | exact Or.inl (by decide)
        | exact Or.inr (by omega))
    have a23 : Fx [20, 21] A21 A24 := a22.cut fA24 (fun o ho => by
      rw [List.mem_singleton.mp ho]
      first
        | exact Or.inl (by decide)
        | exact Or.inr (by omega))
    have a24 : Fx [20, 21] A21 A25 := a23.cut gA25 (fun o ho => by
      rw [List.mem_singleton.mp ho]
      first
        | exact Or.inl (by decide)
        | exact Or.inr (by omega))
    exact a24
  have cN63 : Fx [20, 21] A23 A25 := by
    have a22 : Fx [20, 21] A23 A23 := Fx.rf
    have a23 : Fx [20, 21] A23 A24 := a22.cut fA24 (fun o ho => by
      rw [List.mem_singleton.mp ho]
      first
        | exact Or.inl (by decide)
        | exact Or.inr (by omega))
    have a24 : Fx [20, 21] A23 A25 := a23.cut gA25 (fun o ho => by
      rw [List.mem_singleton.mp ho]
      first
        | exact Or.inl (by decide)
        | exact Or.inr (by omega))
    exact a24
  obtain ⟨y1, y2, y3, y4, y5, y6, y7⟩ := xA18
  obtain ⟨v1, v2, v3, v4⟩ := xA21
  have n2 : ∀ o, 22 ≤ o → ¬ o ∈ [20, 21] := fun o ho z => by simp only [List.mem_cons, List.not_mem_nil, or_false] at z; omega
  have l2 : ∀ a, 22 ≤ a → ∀ o ∈ [20, 21], o < a ∨ a + 6 ≤ o := fun a ha o ho => by simp only [List.mem_cons, List.not_mem_nil, or_false] at ho; omega
  refine ⟨A25, ?_, tA25, by omega, fM, ⟨kA25, qA25⟩, ⟨xA5.fx cS22 (l2 _ (by decide)) (by omega), xA8.fx cS28 (l2 _ (by decide)) (by omega), xA11.fx cS34 (l2 _ (by decide)) (by omega)⟩, zA14.fx cN40 (by omega) (n2 _ (by decide)), ⟨?_, ?_, ?_, ?_, ?_, fun j hj => ⟨?_, ?_⟩, fun j hj => ⟨?_, ?_⟩⟩, ⟨?_, v2.fx cX7 (by omega) (n2 _ (by decide)), ?_, ?_⟩, zA23.fx cN63 (by omega) (n2 _ (by decide)), xA25.2.2, ⟨?_, ?_, ?_, ?_, ?_, ?_, ?_, ?_⟩, ?_, ?_⟩
  · unfold fX8_init
    rw [← hA1, bkc (by rw [kA1]), bnA8]
    dsimp only
    rw [← hA2, tA1, bpR (by rw [kA2]), ← hA3, bnO]
    dsimp only
    rw [← hA4, tA3, bnd1 eA5, bpR (by rw [kA5]), ← hA6, bnO]
    dsimp only
    rw [← hA7, tA6, bnd1 eA8, bpR (by rw [kA8]), ← hA9, bnO]
    dsimp only
    rw [← hA10, tA9, bnd1 eA11, bpR (by rw [kA11]), ← hA12, bpZ (by rw [kA12]), ← hA13, bnA8]
    dsimp only
    rw [← hA14, tA13, bpR (by rw [kA14]), ← hA15, bpI (by rw [kA15]), ← hA16, bnO]
    dsimp only
    rw [← hA17, tA16, bnd1 eA18, bpR (by rw [kA18]), ← hA19, bnO]
    dsimp only
    rw [← hA20, tA19, bnd1 eA21, bpR (by rw [kA21]), ← hA22, bnA19]
    dsimp only
    rw [← hA23, tA22, bpR (by rw [kA23]), ← hA24]
    exact eA25
  · rw [cX1.K (by omega)]; exact y1
  · rw [cX1.K (by omega)]; exact y2
  · rw [cX1.K (by omega)]; exact y3
  · rw [cX1.R (by omega) (n2 _ (by decide))]; exact y4
  · rw [cX1.R (by omega) (n2 _ (by decide))]; exact y5
  · rw [cX1.R (by omega) (n2 _ (by decide))]; exact (y6 j hj).1
  · rw [cX1.K (by omega)]; exact (y6 j hj).2
  · rw [cX1.R (by omega) (n2 _ (by decide))]; exact (y7 j hj).1
  · rw [cX1.K (by omega)]; exact (y7 j hj).2
  · rw [cX7.K (by omega)]; exact v1
  · rw [cX7.R (by omega) (n2 _ (by decide))]; exact v3
  · rw [cX7.I (by omega) (n2 _ (by decide))]; exact v4
  · simp only [RA25, RA24, RA23, RA22, RA21, RA20, RA19, RA18, RA17, RA16, RA15, RA14, RA13, RA12, RA11, RA10, RA9, RA8, RA7, RA6, RA5, RA4, RA3, RA2, Nat.reduceEqDiff, ↓reduceIte]
  · simp only [RA25, RA24, RA23, RA22, RA21, RA20, RA19, RA18, RA17, RA16, RA15, RA14, RA13, RA12, RA11, RA10, RA9, RA8, RA7, RA6, RA5, RA4, RA3, RA2, Nat.reduceEqDiff, ↓reduceIte]
  · simp only [RA25, RA24, RA23, RA22, RA21, RA20, RA19, RA18, RA17, RA16, RA15, RA14, RA13, RA12, RA11, RA10, RA9, RA8, RA7, RA6, RA5, RA4, RA3, RA2, Nat.reduceEqDiff, ↓reduceIte]
  · simp only [RA25, RA24, RA23, RA22, RA21, RA20, RA19, RA18, RA17, RA16, RA15, RA14, RA13, RA12, RA11, RA10, RA9, RA8, RA7, RA6, RA5, RA4, RA3, RA2, Nat.reduceEqDiff, ↓reduceIte]
  · simp only [RA25, RA24, RA23, RA22, RA21, RA20, RA19, RA18, RA17, RA16, RA15, RA14, RA13, RA12, RA11, RA10, RA9, RA8, RA7, RA6, RA5, RA4, RA3, RA2, Nat.reduceEqDiff, ↓reduceIte]
  · simp only [RA25, RA24, RA23, RA22, RA21, RA20, RA19, RA18, RA17, RA16, RA15, RA14, RA13, RA12, RA11, RA10, RA9, RA8, RA7, RA6, RA5, RA4, RA3, RA2, Nat.reduceEqDiff, ↓reduceIte]
  · simp only [RA25, RA24, RA23, RA22, RA21, RA20, RA19, RA18, RA17, RA16, RA15, RA14, RA13, RA12, RA11, RA10, RA9, RA8, RA7, RA6, RA5, RA4, RA3, RA2, Nat.reduceEqDiff, ↓reduceIte]
  · simp only [RA25, RA24, RA23, RA22, RA21, RA20, RA19, RA18, RA17, RA16, RA15, RA14, RA13, RA12, RA11, RA10, RA9, RA8, RA7, RA6, RA5, RA4, RA3, RA2, Nat.reduceEqDiff, ↓reduceIte]
  · simp only [IA25, IA24, IA23, IA22, IA21, IA20, IA19, IA18, IA17, IA16, IA15, IA14, IA13, IA12, IA11, IA10, IA9, IA8, IA7, IA6, IA5, IA4, IA3, IA2, Nat.reduceEqDiff, ↓reduceIte]
  · simp only [IA25, IA24, IA23, IA22, IA21, IA20, IA19, IA18, IA17, IA16, IA15, IA14, IA13, IA12, IA11, IA10, IA9, IA8, IA7, IA6, IA5, IA4, IA3, IA2, Nat.reduceEqDiff, ↓reduceIte]; decide
