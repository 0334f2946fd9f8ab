/-! strengths, whatever the odds are meanwhile -/
theorem ten8c {s : Nat} (hs : sl s) {M : Mm} {q od oe : Nat → Nat} {sd : Int32} {r i c : Nat} (hF : FIX M) (h : St s q oe sd M) (hI : Inv q od) (g : Sg M r i q) (hi : i < q 62) (hc : c < 24) : fX5_tenthsOf s r (nI c) M = some (nI (tn q i c), M) := by
  obtain ⟨b1, b2, b3, b4⟩ := hI.2.2.2.2.2.2.2.2.2.2.1 i hi
  have hL := hI.1
  have h59 := hI.2.2.1
  have h60 := hI.2.2.2.1
  have h62 := hI.sg.1
  have h65 : q 65 ≤ 16 := by have := hI.2.2.2.2.2.2.2.1; have := hI.2.2.2.2.2.2.2.2.1; omega
  have b5 := hI.2.2.2.2.2.2.2.2.2.2.2.2.1 (24 + i) (by omega)
  have lo := lou8 g hc (by omega) b4
  obtain ⟨g1, g2, g3, g4, g5, g6, g7, g9⟩ := g
  have e60 := h.f60
  have e59 := h.f59
  have e65 := h.f65
  have e56 := h.f56
  have bt := bit_n b5 h59
  have b2m : q (24 + i) / 2 ^ q 59 % 2 < 2 := Nat.mod_lt _ (by decide)
  have md : mdI (nI (q (24 + i))) (nI (q 56)) = some (nI (q (24 + i) % q 56)) := mdI_n (by omega) (by omega) (by omega)
  have mm : q (24 + i) % q 56 < 24 := by have := Nat.mod_lt (q (24 + i)) (show q 56 > 0 by omega); omega
  have st : ∀ v : Nat, v = (if c = q (8 + i) then q (16 + i) else 0) → fX5_tenthsOf_b16 s r (nI c) (nI v) M = some (nI (tn q i c), M) := fun v hv => by
    have hv10 : v ≤ 10 := by rw [hv]; split <;> omega
    unfold fX5_tenthsOf_b16 tn
    have hk : q i = 0 ∨ q i = 1 ∨ q i = 2 ∨ q i = 3 ∨ q i = 4 ∨ q i = 5 ∨ q i = 6 := by omega
    rcases hk with k | k | k | k | k | k | k
    · simp (disch := first | assumption | omega | (simp only [FIX_sI, FIX_sJ, FIX_gI, FIX_gJ]; assumption)) only [↓ibG g3, g5, k, l1, l2, l3, l4, l5, l6, eq_nn, Nat.reduceEqDiff, ↓reduceIte, hv]
    · by_cases z : q 60 = 0
      · simp (disch := first | assumption | omega | (simp only [FIX_sI, FIX_sJ, FIX_gI, FIX_gJ]; assumption)) only [↓ibG g3, ↓ibS hs, g5, k, l0, l1, eq_nn, ↓reduceIte, e60, z, and_true, hv]
      · simp (disch := first | assumption | omega | (simp only [FIX_sI, FIX_sJ, FIX_gI, FIX_gJ]; assumption)) only [↓ibG g3, ↓ibS hs, g5, k, l0, l1, eq_nn, ↓reduceIte, e60, z, and_false]
    · simp (disch := first | assumption | omega | (simp only [FIX_sI, FIX_sJ, FIX_gI, FIX_gJ]; assumption)) only [↓ibG g3, g5, k, l1, l2, eq_nn, Nat.reduceEqDiff, ↓reduceIte, lo, Option.bind_some]
    · by_cases z : q (24 + i) / 2 ^ q 59 % 2 = 1
      · simp (disch := first | assumption | omega | (simp only [FIX_sI, FIX_sJ, FIX_gI, FIX_gJ]; assumption)) only [↓ibG g3, ↓ibS hs, g5, k, l0, l1, l2, l3, l31, eq_nn, Nat.reduceEqDiff, ↓reduceIte, lo, Option.bind_some, g9, e59, bt, z]
      · simp (disch := first | assumption | omega | (simp only [FIX_sI, FIX_sJ, FIX_gI, FIX_gJ]; assumption)) only [↓ibG g3, ↓ibS hs, g5, k, l0, l1, l2, l3, l31, eq_nn, Nat.reduceEqDiff, ↓reduceIte, lo, Option.bind_some, g9, e59, bt, z]
    · by_cases z : q 60 = 0
      · simp (disch := first | assumption | omega | (simp only [FIX_sI, FIX_sJ, FIX_gI, FIX_gJ]; assumption)) only [↓ibG g3, ↓ibS hs, g5, k, l0, l1, l2, l3, l4, eq_nn, Nat.reduceEqDiff, ↓reduceIte, e60, z, hv]
      · simp (disch := first | assumption | omega | (simp only [FIX_sI, FIX_sJ, FIX_gI, FIX_gJ]; assumption)) only [↓ibG g3, ↓ibS hs, g5, k, l0, l1, l2, l3, l4, eq_nn, Nat.reduceEqDiff, ↓reduceIte, e60, z, dI_nn, Option.bind_some]
        rw [hv]
        split <;> rfl
    · by_cases z : q 65 = q (24 + i)
      · simp (disch := first | assumption | omega | (simp only [FIX_sI, FIX_sJ, FIX_gI, FIX_gJ]; assumption)) only [↓ibG g3, ↓ibS hs, g5, k, l0, l1, l2, l3, l4, l5, eq_nn, Nat.reduceEqDiff, ↓reduceIte, e65, g9, g7, z]
      · simp (disch := first | assumption | omega | (simp only [FIX_sI, FIX_sJ, FIX_gI, FIX_gJ]; assumption)) only [↓ibG g3, ↓ibS hs, g5, k, l0, l1, l2, l3, l4, l5, eq_nn, Nat.reduceEqDiff, ↓reduceIte, e65, g9, g7, z]
    · by_cases z : q 60 = 0
      · have oc : fX5_otherCellOf s r M = some (nI (q (24 + i) % q 56), M) := by
          unfold fX5_otherCellOf
          simp (disch := first | assumption | omega | (simp only [FIX_sI, FIX_sJ, FIX_gI, FIX_gJ]; assumption)) only [↓kbS hs, ↓ibS hs, ↓ibG g3, e56, g9, l0, le_nn, show ¬ q 56 ≤ 0 by omega, ↓reduceIte, md, Option.bind_some]
        by_cases y : c = q (24 + i) % q 56
        · simp (disch := first | assumption | omega | (simp only [FIX_sI, FIX_sJ, FIX_gI, FIX_gJ]; assumption)) only [↓ibG g3, ↓ibS hs, g5, g7, k, l0, l1, l2, l3, l4, l5, l6, eq_nn, Nat.reduceEqDiff, ↓reduceIte, e60, z, oc, Option.bind_some]
          rw [if_pos y, if_pos ⟨trivial, Or.inr y⟩]
        · simp (disch := first | assumption | omega | (simp only [FIX_sI, FIX_sJ, FIX_gI, FIX_gJ]; assumption)) only [↓ibG g3, ↓ibS hs, g5, g7, k, l0, l1, l2, l3, l4, l5, l6, eq_nn, Nat.reduceEqDiff, ↓reduceIte, e60, z, oc, Option.bind_some]
          rw [if_neg y, hv]
          by_cases x : c = q (8 + i)
          · rw [if_pos x, if_pos ⟨trivial, Or.inl x⟩]
          · rw [if_neg x, if_neg (fun w => w.2.elim x y)]
      · simp (disch := first | assumption | omega | (simp only [FIX_sI, FIX_sJ, FIX_gI, FIX_gJ]; assumption)) only [↓ibG g3, ↓ibS hs, g5, k, l0, l1, l2, l3, l4, l5, l6, eq_nn, Nat.reduceEqDiff, ↓reduceIte, e60, z, false_and]
  unfold fX5_tenthsOf
  by_cases x : c = q (8 + i)
  · have := st (q (16 + i)) (by rw [if_pos x])
    simp (disch := first | assumption | omega | (simp only [FIX_sI, FIX_sJ, FIX_gI, FIX_gJ]; assumption)) only [↓kbS hs, ↓ibG g3, g6, g7, eq_nn]
    rw [if_pos x]
    exact this
  · have := st 0 (by rw [if_neg x])
    simp (disch := first | assumption | omega | (simp only [FIX_sI, FIX_sJ, FIX_gI, FIX_gJ]; assumption)) only [↓kbS hs, ↓ibG g3, g6, eq_nn, l0]
    rw [if_neg x]
    exact this
theorem ten9c {M : Mm} {q od oe : Nat → Nat} {sd : Int32} {i c : Nat} (hF : FIX M) (h : MD q oe sd M) (hI : Inv q od) (hi : i < q 62) (hc : c < 24) : fX9_strengthOf 80 (nI i) (nI c) M = some (nI (tn q i c), M) := by
  obtain ⟨b1, b2, b3, b4⟩ := hI.2.2.2.2.2.2.2.2.2.2.1 i hi
  have hL := hI.1
  have h59 := hI.2.2.1
  have h60 := hI.2.2.2.1
  have h62 := hI.sg.1
  have h65 : q 65 ≤ 16 := by have := hI.2.2.2.2.2.2.2.1; have := hI.2.2.2.2.2.2.2.2.1; omega
  have b5 := hI.2.2.2.2.2.2.2.2.2.2.2.2.1 (24 + i) (by omega)
  have h8 : i < 8 := by omega
  obtain ⟨m1, m2, m3, m4, -⟩ := h.a h8
  have e60 := h.f60
  have e59 := h.f59
  have e65 := h.f65
  have e56 := h.f56
  have bt := bit_n b5 h59
  have b2m : q (24 + i) / 2 ^ q 59 % 2 < 2 := Nat.mod_lt _ (by decide)
  have md : mdI (nI (q (24 + i))) (nI (q 56)) = some (nI (q (24 + i) % q 56)) := mdI_n (by omega) (by omega) (by omega)
  have mm : q (24 + i) % q 56 < 24 := by have := Nat.mod_lt (q (24 + i)) (show q 56 > 0 by omega); omega
  have st : ∀ v : Nat, v < 24 → (v = 0 ↔ c = q (8 + i)) → (v = 1 ↔ c = q (8 + i) + 1 ∨ c + 1 = q (8 + i)) → fX9_strengthOf_b36 80 (nI i) (nI c) (nI (q (16 + i))) (nI v) M = some (nI (tn q i c), M) := fun v hv v0 v1 => by
    have lo : (if v = 0 then some (nI (q (16 + i)), M) else if v = 1 then some (nI (q (16 + i) / 2), M) else some (nI 0, M)) = some (nI (lou q i c), M) := by
      unfold lou
      by_cases x : v = 0
      · rw [if_pos x, if_pos (v0.mp x)]
      · rw [if_neg x, if_neg (fun z => x (v0.mpr z))]
        by_cases y : v = 1
        · rw [if_pos y, if_pos (v1.mp y)]
        · rw [if_neg y, if_neg (fun z => y (v1.mpr z))]
    unfold fX9_strengthOf_b36 tn
    have hk : q i = 0 ∨ q i = 1 ∨ q i = 2 ∨ q i = 3 ∨ q i = 4 ∨ q i = 5 ∨ q i = 6 := by omega
    rcases hk with k | k | k | k | k | k | k
    · simp (disch := first | assumption | omega | (simp only [FIX_sI, FIX_sJ, FIX_gI, FIX_gJ]; assumption)) only [↓rb80_14, ↓ab82, m1, k, l0, l1, l2, l3, l4, l5, l6, eq_nn, Nat.reduceEqDiff, ↓reduceIte]
      by_cases x : v = 0
      · rw [if_pos x, if_pos (v0.mp x)]
      · rw [if_neg x, if_neg (fun z => x (v0.mpr z))]
    · simp (disch := first | assumption | omega | (simp only [FIX_sI, FIX_sJ, FIX_gI, FIX_gJ]; assumption)) only [↓rb80_14, ↓ab82, ↓ib80, m1, k, l0, l1, eq_nn, ↓reduceIte, e60]
      by_cases x : v = 0
      · by_cases z : q 60 = 0
        · rw [if_pos x, if_pos z, if_pos ⟨v0.mp x, z⟩]
        · rw [if_pos x, if_neg z, if_neg (fun w => z w.2)]
      · rw [if_neg x, if_neg (fun w => x (v0.mpr w.1))]
    · simp (disch := first | assumption | omega | (simp only [FIX_sI, FIX_sJ, FIX_gI, FIX_gJ]; assumption)) only [↓rb80_14, ↓ab82, m1, k, l0, l1, l2, eq_nn, Nat.reduceEqDiff, ↓reduceIte, dI_nn, Option.bind_some]
      exact lo
    · simp (disch := first | assumption | omega | (simp only [FIX_sI, FIX_sJ, FIX_gI, FIX_gJ]; assumption)) only [↓rb80_14, ↓rb80_17, ↓ab82, ↓ab85, ↓ib80, m1, m4, e59, k, l0, l1, l2, l3, l31, eq_nn, Nat.reduceEqDiff, ↓reduceIte, dI_nn, Option.bind_some, bt]
      by_cases z : q (24 + i) / 2 ^ q 59 % 2 = 1
      · rw [if_neg (by omega), if_pos z]; exact lo
      · rw [if_pos (by omega), if_neg z]
    · simp (disch := first | assumption | omega | (simp only [FIX_sI, FIX_sJ, FIX_gI, FIX_gJ]; assumption)) only [↓rb80_14, ↓ab82, ↓ib80, m1, e60, k, l0, l1, l2, l3, l4, eq_nn, Nat.reduceEqDiff, ↓reduceIte, dI_nn, Option.bind_some]
      by_cases x : v = 0
      · by_cases z : q 60 = 0
        · rw [if_pos x, if_neg (by omega), if_pos (v0.mp x), if_pos z]
        · rw [if_pos x, if_pos (by omega), if_pos (v0.mp x), if_neg z]
      · rw [if_neg x, if_neg (fun w => x (v0.mpr w))]
    · simp (disch := first | assumption | omega | (simp only [FIX_sI, FIX_sJ, FIX_gI, FIX_gJ]; assumption)) only [↓rb80_14, ↓rb80_17, ↓ab82, ↓ab85, ↓ib80, m1, m4, e65, k, l0, l1, l2, l3, l4, l5, eq_nn, Nat.reduceEqDiff, ↓reduceIte]
      by_cases z : q 65 = q (24 + i)
      · rw [if_pos z, if_pos z]
      · rw [if_neg z, if_neg z]
    · simp (disch := first | assumption | omega | (simp only [FIX_sI, FIX_sJ, FIX_gI, FIX_gJ]; assumption)) only [↓rb80_14, ↓rb80_17, ↓ab82, ↓ab85, ↓ib80, m1, m4, e60, e56, k, l0, l1, l2, l3, l4, l5, l6, eq_nn, Nat.reduceEqDiff, ↓reduceIte, fX9_strengthOf_b147, md, Option.bind_some]
      by_cases x : v = 0
      · by_cases z : q 60 = 0
        · rw [if_pos x, if_pos z, if_pos ⟨z, Or.inl (v0.mp x)⟩]
        · rw [if_pos x, if_neg z, if_neg (fun w => z w.1)]
      · by_cases y : c = q (24 + i) % q 56
        · by_cases z : q 60 = 0
          · rw [if_neg x, if_pos y, if_pos z, if_pos ⟨z, Or.inr y⟩]
          · rw [if_neg x, if_pos y, if_neg z, if_neg (fun w => z w.1)]
        · rw [if_neg x, if_neg y, if_neg (fun w => w.2.elim (fun u => x (v0.mpr u)) y)]
  unfold fX9_strengthOf
  by_cases x : c ≤ q (8 + i)
  · have := st (q (8 + i) - c) (by omega) (by omega) (by omega)
    simp (disch := first | assumption | omega | (simp only [FIX_sI, FIX_sJ, FIX_gI, FIX_gJ]; assumption)) only [↓kb80, ↓rb80_16, ↓rb80_15, ↓ab84, ↓ab83, m3, m2, le_nn, x, ↓reduceIte, sub_nn]
    exact this
  · have := st (c - q (8 + i)) (by omega) (by omega) (by omega)
    simp (disch := first | assumption | omega | (simp only [FIX_sI, FIX_sJ, FIX_gI, FIX_gJ]; assumption)) only [↓kb80, ↓rb80_16, ↓rb80_15, ↓ab84, ↓ab83, m3, m2, le_nn, x, ↓reduceIte, sub_nn]
    exact this
