/-! runs of writes -/
def gJ (M : Mm) (a i n : Nat) (g : Nat → Int64) : Mm := (mT M, mW M, mK M, mI M, (fun x j => if x = a ∧ i ≤ j ∧ j < n then g j else mJ M x j), mR M)
def gI (M : Mm) (a i n : Nat) (g : Nat → Int32) : Mm := (mT M, mW M, mK M, (fun x j => if x = a ∧ i ≤ j ∧ j < n then g j else mI M x j), mJ M, mR M)
theorem mT_gJ (M : Mm) (a i n : Nat) (g : Nat → Int64) : mT (gJ M a i n g) = mT M := Eq.trans (Eq.refl _) (Eq.refl _)
theorem mW_gJ (M : Mm) (a i n : Nat) (g : Nat → Int64) : mW (gJ M a i n g) = mW M := Eq.trans (Eq.refl _) (Eq.refl _)
theorem mK_gJ (M : Mm) (a i n : Nat) (g : Nat → Int64) : mK (gJ M a i n g) = mK M := Eq.trans (Eq.refl _) (Eq.refl _)
theorem mI_gJ (M : Mm) (a i n : Nat) (g : Nat → Int64) : mI (gJ M a i n g) = mI M := Eq.trans (Eq.refl _) (Eq.refl _)
theorem mR_gJ (M : Mm) (a i n : Nat) (g : Nat → Int64) : mR (gJ M a i n g) = mR M := Eq.trans (Eq.refl _) (Eq.refl _)
theorem mJ_gJ (M : Mm) (a i n : Nat) (g : Nat → Int64) (x j : Nat) : mJ (gJ M a i n g) x j = if x = a ∧ i ≤ j ∧ j < n then g j else mJ M x j := Eq.trans (Eq.refl _) (Eq.refl _)
theorem mT_gI (M : Mm) (a i n : Nat) (g : Nat → Int32) : mT (gI M a i n g) = mT M := Eq.trans (Eq.refl _) (Eq.refl _)
theorem mW_gI (M : Mm) (a i n : Nat) (g : Nat → Int32) : mW (gI M a i n g) = mW M := Eq.trans (Eq.refl _) (Eq.refl _)
theorem mK_gI (M : Mm) (a i n : Nat) (g : Nat → Int32) : mK (gI M a i n g) = mK M := Eq.trans (Eq.refl _) (Eq.refl _)
theorem mJ_gI (M : Mm) (a i n : Nat) (g : Nat → Int32) : mJ (gI M a i n g) = mJ M := Eq.trans (Eq.refl _) (Eq.refl _)
theorem mR_gI (M : Mm) (a i n : Nat) (g : Nat → Int32) : mR (gI M a i n g) = mR M := Eq.trans (Eq.refl _) (Eq.refl _)
theorem mI_gI (M : Mm) (a i n : Nat) (g : Nat → Int32) (x j : Nat) : mI (gI M a i n g) x j = if x = a ∧ i ≤ j ∧ j < n then g j else mI M x j := Eq.trans (Eq.refl _) (Eq.refl _)
theorem FIX_gJ (M : Mm) (a i n : Nat) (g : Nat → Int64) : FIX (gJ M a i n g) = FIX M := propext ⟨id, id⟩
theorem FIX_gI (M : Mm) (a i n : Nat) (g : Nat → Int32) : FIX (gI M a i n g) = FIX M := propext ⟨id, id⟩
theorem Jeta {M : Mm} {J : Nat → Nat → Int64} (h : J = mJ M) : (mT M, mW M, mK M, mI M, J, mR M) = M := by rw [h]; rfl
theorem Ieta {M : Mm} {J : Nat → Nat → Int32} (h : J = mI M) : (mT M, mW M, mK M, J, mJ M, mR M) = M := by rw [h]; rfl
theorem gJ_end (M : Mm) (a n : Nat) (g : Nat → Int64) : gJ M a n n g = M := Jeta (funext fun x => funext fun j => if_neg (by omega))
theorem gI_end (M : Mm) (a n : Nat) (g : Nat → Int32) : gI M a n n g = M := Ieta (funext fun x => funext fun j => if_neg (by omega))
theorem gJ_step {M : Mm} {a i n : Nat} {g : Nat → Int64} {v : Int64} (h : i < n) (hv : v = g i) : gJ (sJ M a i v) a (i + 1) n g = gJ M a i n g := by
  have : (fun x j => if x = a ∧ i + 1 ≤ j ∧ j < n then g j else mJ (sJ M a i v) x j) = (fun x j => if x = a ∧ i ≤ j ∧ j < n then g j else mJ M x j) := by
    funext x j
    simp only [mJ_sJ]
    by_cases e : x = a ∧ j = i
    · obtain ⟨rfl, rfl⟩ := e
      rw [if_neg (by omega), if_pos (by omega), if_pos (by omega), hv]
    · rw [if_neg e]
      by_cases e2 : x = a ∧ i + 1 ≤ j ∧ j < n
      · rw [if_pos e2, if_pos (by omega)]
      · rw [if_neg e2, if_neg (by omega)]
  unfold gJ
  rw [this]
  rfl
theorem gI_step {M : Mm} {a i n : Nat} {g : Nat → Int32} {v : Int32} (h : i < n) (hv : v = g i) : gI (sI M a i v) a (i + 1) n g = gI M a i n g := by
  have : (fun x j => if x = a ∧ i + 1 ≤ j ∧ j < n then g j else mI (sI M a i v) x j) = (fun x j => if x = a ∧ i ≤ j ∧ j < n then g j else mI M x j) := by
    funext x j
    simp only [mI_sI]
    by_cases e : x = a ∧ j = i
    · obtain ⟨rfl, rfl⟩ := e
      rw [if_neg (by omega), if_pos (by omega), if_pos (by omega), hv]
    · rw [if_neg e]
      by_cases e2 : x = a ∧ i + 1 ≤ j ∧ j < n
      · rw [if_pos e2, if_pos (by omega)]
      · rw [if_neg e2, if_neg (by omega)]
  unfold gI
  rw [this]
  rfl
theorem Fr.gJ {ds : List Nat} {es : List (Nat × Nat)} {M : Mm} {a : Nat} (i n : Nat) (g : Nat → Int64) (h : a ∈ ds) : Fr ds es M (gJ M a i n g) := ⟨⟨Nat.le_refl _, Nat.le_refl _⟩, fun _ _ => Eq.refl _, fun _ _ _ => Eq.refl _, fun o _ hn => ⟨funext fun j => by rw [mJ_gJ, if_neg (by rintro ⟨rfl, -⟩; exact hn h)], fun _ _ => Eq.refl _⟩⟩
theorem Fr.gI {ds : List Nat} {es : List (Nat × Nat)} {M : Mm} {a : Nat} (i n : Nat) (g : Nat → Int32) (h : a ∈ ds) : Fr ds es M (gI M a i n g) := ⟨⟨Nat.le_refl _, Nat.le_refl _⟩, fun _ _ => Eq.refl _, fun _ _ _ => Eq.refl _, fun o _ hn => ⟨Eq.refl _, fun j _ => by rw [mI_gI, if_neg (by rintro ⟨rfl, -⟩; exact hn h)]⟩⟩
/-- Arrays.fill over longs -/
theorem fill_b {a L : Nat} (hL : L < 2147483648) {v : Int64} : ∀ n i (M : Mm), i ≤ L → L - i < n → (mK M a) = (21, L) → fJ7_fill_d0a16_b6 n a v (nI i) (nI L) M = some (gJ M a i L (fun _ => v)) := by
  intro n
  induction n with
  | zero => intro i M h1 h2; omega
  | succ n ih =>
    intro i M h1 h2 hk
    unfold fJ7_fill_d0a16_b6
    have hi : i < 2147483648 := by omega
    by_cases c : L ≤ i
    · have e : i = L := by omega
      subst e
      simp (disch := first | assumption | omega | (simp only [FIX_sI, FIX_sJ, FIX_gI, FIX_gJ]; assumption)) only [l0, l1, l2, l3, l4, l5, l6, l7, l8, l9, l10, l11, l12, l13, l14, l15, l16, l17, l18, l19, l20, l21, l22, l23, l24, l25, l26, l27, l28, l29, l30, l31, l32, l33, l34, l35, l36, l37, l38, l39, l40, l41, l42, l43, l44, l45, l46, l48, l50, l57, l59, l60, l63, l70, l71, l80, l97, l99, l100, l101, l103, l104, l105, l108, l110, l111, l114, l115, l116, l117, l119, l160, l200, l255, l1280, l12345, le_nn, lt_nn, eq_nn, cl_nn, ng_le, ng_lt, ng_lt2, ng_le2, ng_eq, mi_eq, mi_ne, mi_ne2, mi_mi, add_nn, mul_nn, sub_nn, refX, refY, not_false_eq_true, not_true_eq_false, Nat.not_lt_zero, Nat.zero_le, Nat.reduceLeDiff, Nat.reduceLT, Nat.reduceMul, Nat.reduceSub, true_or, or_true, or_false, false_or, kc, fI, fR, pI, pR, Option.bind_some, ↓reduceIte, Nat.reduceAdd, Nat.reduceEqDiff, and_self, and_true, true_and, false_and, and_false, Option.bind_none, Nat.le_refl, gJ_end]
    · have c2 : i < L := by omega
      simp (disch := first | assumption | omega | (simp only [FIX_sI, FIX_sJ, FIX_gI, FIX_gJ]; assumption)) only [l0, l1, l2, l3, l4, l5, l6, l7, l8, l9, l10, l11, l12, l13, l14, l15, l16, l17, l18, l19, l20, l21, l22, l23, l24, l25, l26, l27, l28, l29, l30, l31, l32, l33, l34, l35, l36, l37, l38, l39, l40, l41, l42, l43, l44, l45, l46, l48, l50, l57, l59, l60, l63, l70, l71, l80, l97, l99, l100, l101, l103, l104, l105, l108, l110, l111, l114, l115, l116, l117, l119, l160, l200, l255, l1280, l12345, le_nn, lt_nn, eq_nn, cl_nn, ng_le, ng_lt, ng_lt2, ng_le2, ng_eq, mi_eq, mi_ne, mi_ne2, mi_mi, add_nn, mul_nn, sub_nn, refX, refY, not_false_eq_true, not_true_eq_false, Nat.not_lt_zero, Nat.zero_le, Nat.reduceLeDiff, Nat.reduceLT, Nat.reduceMul, Nat.reduceSub, true_or, or_true, or_false, false_or, kc, fI, fR, pI, pR, Option.bind_some, ↓reduceIte, Nat.reduceAdd, Nat.reduceEqDiff, and_self, and_true, true_and, false_and, and_false, Option.bind_none, c, tJ, hk, c2]
      rw [ih (i + 1) (sJ M a i v) (by omega) (by omega) hk, gJ_step (v := v) c2 rfl]
theorem fill {a L : Nat} (hL : L < 2000) {v : Int64} (M : Mm) (hk : (mK M a) = (21, L)) : fJ7_fill_d0a16 a v M = some (gJ M a 0 L (fun _ => v)) := by
  unfold fJ7_fill_d0a16
  have := fill_b (a := a) (L := L) (v := v) (by omega) FU 0 M (by omega) (by unfold FU; omega) hk
  have e : Int32.ofNat L = nI L := rfl
  simp (disch := first | assumption | omega | (simp only [FIX_sI, FIX_sJ, FIX_gI, FIX_gJ]; assumption)) only [kc, fI, fR, pI, pR, Option.bind_some, ↓reduceIte, Nat.reduceAdd, Nat.reduceEqDiff, and_self, and_true, true_and, false_and, and_false, Option.bind_none, l0, l1, l2, l3, l4, l5, l6, l7, l8, l9, l10, l11, l12, l13, l14, l15, l16, l17, l18, l19, l20, l21, l22, l23, l24, l25, l26, l27, l28, l29, l30, l31, l32, l33, l34, l35, l36, l37, l38, l39, l40, l41, l42, l43, l44, l45, l46, l48, l50, l57, l59, l60, l63, l70, l71, l80, l97, l99, l100, l101, l103, l104, l105, l108, l110, l111, l114, l115, l116, l117, l119, l160, l200, l255, l1280, l12345, le_nn, lt_nn, eq_nn, cl_nn, ng_le, ng_lt, ng_lt2, ng_le2, ng_eq, mi_eq, mi_ne, mi_ne2, mi_mi, add_nn, mul_nn, sub_nn, refX, refY, not_false_eq_true, not_true_eq_false, Nat.not_lt_zero, Nat.zero_le, Nat.reduceLeDiff, Nat.reduceLT, Nat.reduceMul, Nat.reduceSub, true_or, or_true, or_false, false_or, aL, hk, e, Nat.reduceLeDiff, this]
