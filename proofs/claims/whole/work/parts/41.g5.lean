/-! strength, in tenths -/
def lou (q : Nat → Nat) (i c : Nat) : Nat := if c = q (8 + i) then q (16 + i) else if c = q (8 + i) + 1 ∨ c + 1 = q (8 + i) then q (16 + i) / 2 else 0
def tn (q : Nat → Nat) (i c : Nat) : Nat :=
  if q i = 1 then (if c = q (8 + i) ∧ q 60 = 0 then q (16 + i) else 0) else
  if q i = 2 then lou q i c else
  if q i = 3 then (if q (24 + i) / 2 ^ q 59 % 2 = 1 then lou q i c else 0) else
  if q i = 4 then (if c = q (8 + i) then (if q 60 = 0 then q (16 + i) else q (16 + i) / 2) else 0) else
  if q i = 5 then (if q 65 = q (24 + i) then q (16 + i) else 0) else
  if q i = 6 then (if q 60 = 0 ∧ (c = q (8 + i) ∨ c = q (24 + i) % q 56) then q (16 + i) else 0) else
  if c = q (8 + i) then q (16 + i) else 0
theorem bit_n {b h : Nat} (hb : b ≤ 255) (hh : h ≤ 7) : ((nI b >>> (nI h &&& nI 31)) &&& nI 1) = nI (b / 2 ^ h % 2) := by
  have e : ∀ h, h ≤ 7 → nI h &&& nI 31 = nI h := by decide
  have e2 : ∀ h, h ≤ 7 → ((nI h).toBitVec.smod 32).toNat = h := by decide
  rw [e h hh, pk_shrN (show b < 2 ^ 31 by omega) _ h (e2 h hh)]
  have : b / 2 ^ h ≤ b := Nat.div_le_self _ _
  exact pk_andN (show b / 2 ^ h < 2 ^ 32 by omega) (m := nI 1) 1 (by decide)
theorem abI_n {a b : Nat} (ha : a < 2147483648) (hb : b < 2147483648) : abI (nI a - nI b) = nI (if b ≤ a then a - b else b - a) := by
  unfold abI
  by_cases c : b ≤ a
  · rw [sub_nn c, if_pos (nI_pos' (by omega)), if_pos c]
  · rw [sub_mi (by omega), if_neg c]
    rw [if_neg]
    · show nI 0 - -nI (b - a) = _
      simp [nI_0]
    · show ¬ nI 0 ≤ -nI (b - a)
      rw [Int32.le_iff_toInt_le, neg_toI (by omega), I_n (by decide)]
      omega
theorem mdI_n {a d : Nat} (ha : a < 2147483648) (h0 : 0 < d) (hd : d < 2147483648) : mdI (nI a) (nI d) = some (nI (a % d)) := by
  unfold mdI
  rw [if_neg (nI_ne0 h0 hd), pk_rem ha h0 hd]
theorem ibG {β : Type} {M : Mm} {r : Nat} (h : mK M r = (5, 0)) (k : Nat) (f : Int32 → Option β) : Option.bind (fI M 4 r k) f = f (mI M r k) := bnd1 (by unfold fI; rw [h]; rfl) f
theorem lou8 {M : Mm} {q : Nat → Nat} {r i c : Nat} (g : Sg M r i q) (hc : c < 24) (h8 : q (8 + i) < 24) (ha : q (16 + i) ≤ 10) : fX5_loudness r (nI c) M = some (nI (lou q i c), M) := by
  obtain ⟨g1, g2, g3, g4, g5, g6, g7, g9⟩ := g
  unfold fX5_loudness lou
  have e := abI_n (show c < 2147483648 by omega) (show q (8 + i) < 2147483648 by omega)
  by_cases c1 : c = q (8 + i)
  · have e0 : (if q (8 + i) ≤ c then c - q (8 + i) else q (8 + i) - c) = 0 := by rw [if_pos (by omega)]; omega
    rw [e0] at e
    simp (disch := first | assumption | omega | (simp only [FIX_sI, FIX_sJ, FIX_gI, FIX_gJ]; assumption)) only [↓ibG g3, g6, g7, e, l0, c1, ↓reduceIte]
    simp only [c1] at e
    simp only [e, ↓reduceIte]
  · have n0 : ¬ (if q (8 + i) ≤ c then c - q (8 + i) else q (8 + i) - c) = 0 := by split <;> omega
    have nb : (if q (8 + i) ≤ c then c - q (8 + i) else q (8 + i) - c) < 24 := by split <;> omega
    by_cases c2 : c = q (8 + i) + 1 ∨ c + 1 = q (8 + i)
    · have n1 : (if q (8 + i) ≤ c then c - q (8 + i) else q (8 + i) - c) = 1 := by split <;> omega
      rw [n1] at e
      rw [if_neg c1, if_pos c2]
      simp (disch := first | assumption | omega | (simp only [FIX_sI, FIX_sJ, FIX_gI, FIX_gJ]; assumption)) only [↓ibG g3, g6, g7, e, l0, l1, l2, eq_nn, Nat.reduceEqDiff, ↓reduceIte, dI_nn, Option.bind_some]
    · have n1 : ¬ (if q (8 + i) ≤ c then c - q (8 + i) else q (8 + i) - c) = 1 := by split <;> omega
      rw [if_neg c1, if_neg c2]
      generalize (if q (8 + i) ≤ c then c - q (8 + i) else q (8 + i) - c) = d at *
      simp (disch := first | assumption | omega | (simp only [FIX_sI, FIX_sJ, FIX_gI, FIX_gJ]; assumption)) only [↓ibG g3, g6, g7, e, l0, l1, l2, eq_nn, n0, n1, ↓reduceIte]
theorem ten8 {s : Nat} (hs : sl s) {M : Mm} {q od : Nat → Nat} {sd : Int32} {r i c : Nat} (hF : FIX M) (h : St s q od sd M) (hI : Inv q od) (g : Sg M r i q) (hi : i < q 62) (hc : c < 24) : fX5_tenthsOf s r (nI c) M = some (nI (tn q i c), M) := by
  obtain ⟨b1, b2, b3, b4⟩ := hI.2.2.2.2.2.2.2.2.2.2.1 i hi
  have hL := hI.1
  have h59 := hI.2.2.1
  have h60 := hI.2.2.2.1
  have h62 := hI.sg.1
  have h65 : q 65 ≤ 16 := by have := hI.2.2.2.2.2.2.2.1; have := hI.2.2.2.2.2.2.2.2.1; omega
  have b5 := hI.2.2.2.2.2.2.2.2.2.2.2.2.1 (24 + i) (by omega)
  have lo := lou8 g hc (by omega) b4
  obtain ⟨g1, g2, g3, g4, g5, g6, g7, g9⟩ := g
  have e60 := h.f60
  have e59 := h.f59
  have e65 := h.f65
  have e56 := h.f56
  have bt := bit_n b5 h59
  have b2m : q (24 + i) / 2 ^ q 59 % 2 < 2 := Nat.mod_lt _ (by decide)
  have md : mdI (nI (q (24 + i))) (nI (q 56)) = some (nI (q (24 + i) % q 56)) := mdI_n (by omega) (by omega) (by omega)
  have mm : q (24 + i) % q 56 < 24 := by have := Nat.mod_lt (q (24 + i)) (show q 56 > 0 by omega); omega
  have st : ∀ v : Nat, v = (if c = q (8 + i) then q (16 + i) else 0) → fX5_tenthsOf_b16 s r (nI c) (nI v) M = some (nI (tn q i c), M) := fun v hv => by
    have hv10 : v ≤ 10 := by rw [hv]; split <;> omega
    unfold fX5_tenthsOf_b16 tn
    have hk : q i = 0 ∨ q i = 1 ∨ q i = 2 ∨ q i = 3 ∨ q i = 4 ∨ q i = 5 ∨ q i = 6 := by omega
    rcases hk with k | k | k | k | k | k | k
    · simp (disch := first | assumption | omega | (simp only [FIX_sI, FIX_sJ, FIX_gI, FIX_gJ]; assumption)) only [↓ibG g3, g5, k, l1, l2, l3, l4, l5, l6, eq_nn, Nat.reduceEqDiff, ↓reduceIte, hv]
    · by_cases z : q 60 = 0
      · simp (disch := first | assumption | omega | (simp only [FIX_sI, FIX_sJ, FIX_gI, FIX_gJ]; assumption)) only [↓ibG g3, ↓ibS hs, g5, k, l0, l1, eq_nn, ↓reduceIte, e60, z, and_true, hv]
      · simp (disch := first | assumption | omega | (simp only [FIX_sI, FIX_sJ, FIX_gI, FIX_gJ]; assumption)) only [↓ibG g3, ↓ibS hs, g5, k, l0, l1, eq_nn, ↓reduceIte, e60, z, and_false]
    · simp (disch := first | assumption | omega | (simp only [FIX_sI, FIX_sJ, FIX_gI, FIX_gJ]; assumption)) only [↓ibG g3, g5, k, l1, l2, eq_nn, Nat.reduceEqDiff, ↓reduceIte, lo, Option.bind_some]
    · by_cases z : q (24 + i) / 2 ^ q 59 % 2 = 1
      · simp (disch := first | assumption | omega | (simp only [FIX_sI, FIX_sJ, FIX_gI, FIX_gJ]; assumption)) only [↓ibG g3, ↓ibS hs, g5, k, l0, l1, l2, l3, l31, eq_nn, Nat.reduceEqDiff, ↓reduceIte, lo, Option.bind_some, g9, e59, bt, z]
      · simp (disch := first | assumption | omega | (simp only [FIX_sI, FIX_sJ, FIX_gI, FIX_gJ]; assumption)) only [↓ibG g3, ↓ibS hs, g5, k, l0, l1, l2, l3, l31, eq_nn, Nat.reduceEqDiff, ↓reduceIte, lo, Option.bind_some, g9, e59, bt, z]
    · by_cases z : q 60 = 0
      · simp (disch := first | assumption | omega | (simp only [FIX_sI, FIX_sJ, FIX_gI, FIX_gJ]; assumption)) only [↓ibG g3, ↓ibS hs, g5, k, l0, l1, l2, l3, l4, eq_nn, Nat.reduceEqDiff, ↓reduceIte, e60, z, hv]
      · simp (disch := first | assumption | omega | (simp only [FIX_sI, FIX_sJ, FIX_gI, FIX_gJ]; assumption)) only [↓ibG g3, ↓ibS hs, g5, k, l0, l1, l2, l3, l4, eq_nn, Nat.reduceEqDiff, ↓reduceIte, e60, z, dI_nn, Option.bind_some]
        rw [hv]
        split <;> rfl
    · by_cases z : q 65 = q (24 + i)
      · simp (disch := first | assumption | omega | (simp only [FIX_sI, FIX_sJ, FIX_gI, FIX_gJ]; assumption)) only [↓ibG g3, ↓ibS hs, g5, k, l0, l1, l2, l3, l4, l5, eq_nn, Nat.reduceEqDiff, ↓reduceIte, e65, g9, g7, z]
      · simp (disch := first | assumption | omega | (simp only [FIX_sI, FIX_sJ, FIX_gI, FIX_gJ]; assumption)) only [↓ibG g3, ↓ibS hs, g5, k, l0, l1, l2, l3, l4, l5, eq_nn, Nat.reduceEqDiff, ↓reduceIte, e65, g9, g7, z]
    · by_cases z : q 60 = 0
      · have oc : fX5_otherCellOf s r M = some (nI (q (24 + i) % q 56), M) := by
          unfold fX5_otherCellOf
          simp (disch := first | assumption | omega | (simp only [FIX_sI, FIX_sJ, FIX_gI, FIX_gJ]; assumption)) only [↓kbS hs, ↓ibS hs, ↓ibG g3, e56, g9, l0, le_nn, show ¬ q 56 ≤ 0 by omega, ↓reduceIte, md, Option.bind_some]
        by_cases y : c = q (24 + i) % q 56
        · simp (disch := first | assumption | omega | (simp only [FIX_sI, FIX_sJ, FIX_gI, FIX_gJ]; assumption)) only [↓ibG g3, ↓ibS hs, g5, g7, k, l0, l1, l2, l3, l4, l5, l6, eq_nn, Nat.reduceEqDiff, ↓reduceIte, e60, z, oc, Option.bind_some]
          rw [if_pos y, if_pos ⟨trivial, Or.inr y⟩]
        · simp (disch := first | assumption | omega | (simp only [FIX_sI, FIX_sJ, FIX_gI, FIX_gJ]; assumption)) only [↓ibG g3, ↓ibS hs, g5, g7, k, l0, l1, l2, l3, l4, l5, l6, eq_nn, Nat.reduceEqDiff, ↓reduceIte, e60, z, oc, Option.bind_some]
          rw [if_neg y, hv]
          by_cases x : c = q (8 + i)
          · rw [if_pos x, if_pos ⟨trivial, Or.inl x⟩]
          · rw [if_neg x, if_neg (fun w => w.2.elim x y)]
      · simp (disch := first | assumption | omega | (simp only [FIX_sI, FIX_sJ, FIX_gI, FIX_gJ]; assumption)) only [↓ibG g3, ↓ibS hs, g5, k, l0, l1, l2, l3, l4, l5, l6, eq_nn, Nat.reduceEqDiff, ↓reduceIte, e60, z, false_and]
  unfold fX5_tenthsOf
  by_cases x : c = q (8 + i)
  · have := st (q (16 + i)) (by rw [if_pos x])
    simp (disch := first | assumption | omega | (simp only [FIX_sI, FIX_sJ, FIX_gI, FIX_gJ]; assumption)) only [↓kbS hs, ↓ibG g3, g6, g7, eq_nn]
    rw [if_pos x]
    exact this
  · have := st 0 (by rw [if_neg x])
    simp (disch := first | assumption | omega | (simp only [FIX_sI, FIX_sJ, FIX_gI, FIX_gJ]; assumption)) only [↓kbS hs, ↓ibG g3, g6, eq_nn, l0]
    rw [if_neg x]
    exact this
