/-! the least row, the reference; the call -/
theorem lea97 {q od : Nat → Nat} {M : Mm} {K : Nat → Int32 → Int32 → Int64 → Int32 → Mm → Option (Int32 × Mm)} {x1 x2 : Int32} {x3 : Int64} {S s : Nat} (hs : s ≤ 8) {W : Nat} (hW : W < 9223372036854775808) (hW0 : s = 0 → W * 10 < 9223372036854775808) : ∀ m n k w, (m + k = s ∨ m = 0 ∧ k = 1 ∧ s = 0) → m < n → (∀ j, j ≤ m → w * 10 ^ j < 9223372036854775808) →
    fX9_least_b97 K n 80 x1 x2 x3 (nI S) (nI s) (lN w) (lN W) (nI k) M = if (if s = 0 then decide (w ≤ W * 10) else decide (w * 10 ^ m ≤ W)) = true then K 80 x1 (nI S) x3 (nI (S + 1)) M else K 80 x1 x2 x3 (nI (S + 1)) M := by
  intro m
  induction m with
  | zero =>
    intro n k w hk hn hb
    obtain ⟨n, rfl⟩ : ∃ a, n = a + 1 := ⟨n - 1, by omega⟩
    have b0 := hb 0 (Nat.le_refl _)
    rw [Nat.pow_zero, Nat.mul_one] at b0
    rw [fX9_least_b97, if_pos (by rw [le_nn (by omega) (by omega)]; omega), Nat.pow_zero, Nat.mul_one, show nI S + (1 : Int32) = nI (S + 1) from add_nn S 1]
    unfold fX9_least_b146
    rw [show nI S + (1 : Int32) = nI (S + 1) from add_nn S 1]
    by_cases z : s = 0
    · have b1 := hW0 z
      rw [if_pos (by rw [z]; rfl), if_pos z, show (10 : Int64) = lN 10 from rfl, lN_mul]
      by_cases y : w ≤ W * 10
      · rw [if_neg (by rw [lt_LL b1 b0]; omega), decide_eq_true y, if_pos rfl]
      · rw [if_pos (by rw [lt_LL b1 b0]; omega), decide_eq_false y, if_neg (by decide)]
    · rw [if_neg (show ¬ nI s = 0 by rw [l0, eq_nn (by omega) (by decide)]; exact z), if_neg z]
      by_cases y : w ≤ W
      · rw [if_neg (by rw [lt_LL hW b0]; omega), decide_eq_true y, if_pos rfl]
      · rw [if_pos (by rw [lt_LL hW b0]; omega), decide_eq_false y, if_neg (by decide)]
  | succ m ih =>
    intro n k w hk hn hb
    obtain ⟨n, rfl⟩ : ∃ a, n = a + 1 := ⟨n - 1, by omega⟩
    have e : w * 10 ^ (m + 1) = w * 10 * 10 ^ m := by rw [Nat.pow_succ, Nat.mul_comm (10 ^ m) 10, Nat.mul_assoc]
    have s0 : ¬ s = 0 := by omega
    rw [fX9_least_b97, if_neg (by rw [le_nn (by omega) (by omega)]; omega), show (10 : Int64) = lN 10 from rfl, lN_mul, show nI k + (1 : Int32) = nI (k + 1) from add_nn k 1, ih n (k + 1) (w * 10) (by omega) (by omega) (fun j hj => by
      have := hb (j + 1) (by omega)
      rw [Nat.pow_succ, Nat.mul_comm (10 ^ j) 10, ← Nat.mul_assoc] at this
      exact this), if_neg s0, if_neg s0, e]
theorem lea80 {M : Mm} (hF : FIX M) {q od : Nat → Nat} {sd : Int32} (h : MD q od sd M) (hI : Inv q od) (h9 : q 64 ≤ 9) {t : Nat} (ht : t ≤ 10) {S : Nat} (hS : S < 2 ^ q 62) {K : Nat → Int32 → Int32 → Int64 → Int32 → Mm → Option (Int32 × Mm)} {x2 : Int32} :
    fX9_least_b80 K 80 (nI t) x2 (lN (sm od 24)) (nI S) (nI (pc S)) M = if rch q od t S = true then K 80 (nI t) (nI S) (lN (sm od 24)) (nI (S + 1)) M else K 80 (nI t) x2 (lN (sm od 24)) (nI (S + 1)) M := by
  have hq := hI.sg
  have h8 : 2 ^ q 62 ≤ 2 ^ 8 := Nat.pow_le_pow_right (by decide) hq.1
  have p8 := pc_le8 S (by omega)
  obtain ⟨b1, b2, b3, b4, b5⟩ := rch_b hI h9 ht hS
  have e := lea97 (q := q) (od := od) (M := M) (K := K) (x1 := nI t) (x2 := x2) (x3 := lN (sm od 24)) (S := S) p8 b4 b2 (pc S - 1) FU 1 (t * sm od 24) (by omega) (by unfold FU; omega) (fun j hj => by
    by_cases z : pc S = 0
    · rw [show j = 0 by omega, Nat.pow_zero, Nat.mul_one]
      exact b3
    · exact b5 j (by omega))
  unfold fX9_least_b80
  rw [bnd1 (wor9 hF h hI hS b1)]
  dsimp only
  rw [nI_l (show t < 2 ^ 31 by omega), lN_mul, show (1 : Int32) = nI 1 from rfl]
  exact e
theorem lea43 {M : Mm} (hF : FIX M) {q od : Nat → Nat} {sd : Int32} (h : MD q od sd M) (hI : Inv q od) (h9 : q 64 ≤ 9) {t : Nat} (ht : t ≤ 10) : ∀ d n S (b : Option Nat), d + S = 2 ^ q 62 → d < n → CH q od t S b →
    ∃ r, fX9_least_b43 n 80 (nI t) (eX3 b) (lN (sm od 24)) (nI S) M = some (eX3 r, M) ∧ CH q od t (2 ^ q 62) r := by
  have hq := hI.sg
  have h8 : 2 ^ q 62 ≤ 2 ^ 8 := Nat.pow_le_pow_right (by decide) hq.1
  have sh := shl_n (q 62) hq.1
  intro d
  induction d with
  | zero =>
    intro n S b hd hn hc
    obtain ⟨n, rfl⟩ : ∃ a, n = a + 1 := ⟨n - 1, by omega⟩
    refine ⟨b, ?_, by rw [show 2 ^ q 62 = S by omega]; exact hc⟩
    rw [fX9_least_b43, ib80 hF, h.f62, sh, if_pos (by rw [le_nn (by omega) (by omega)]; omega)]
  | succ d ih =>
    intro n S b hd hn hc
    obtain ⟨n, rfl⟩ : ∃ a, n = a + 1 := ⟨n - 1, by omega⟩
    have hS : S < 2 ^ q 62 := by omega
    have p8 := pc_le8 S (by omega)
    have e80 := fun x2 => lea80 hF h hI h9 ht hS (K := fX9_least_b43 n) (x2 := x2)
    have c1 := cn9 hF (show S < 256 by omega)
    rw [fX9_least_b43, ib80 hF, h.f62, sh, if_neg (by rw [le_nn (by omega) (by omega)]; omega), bnd1 c1]
    dsimp only
    cases b with
    | none =>
      rw [if_pos (show eX3 none = -1 from rfl), e80]
      cases hr : rch q od t S with
      | true =>
        rw [if_pos rfl]
        refine ih n (S + 1) (some S) (by omega) (by omega) ⟨by omega, hr, fun S' hS' hr' => ?_⟩
        by_cases y : S' = S
        · rw [y]; exact Or.inr ⟨rfl, Nat.le_refl _⟩
        · have := hc S' (by omega)
          rw [hr'] at this
          cases this
      | false =>
        rw [if_neg (by decide)]
        refine ih n (S + 1) none (by omega) (by omega) (fun S' hS' => ?_)
        by_cases y : S' = S
        · rw [y]; exact hr
        · exact hc S' (by omega)
    | some a =>
      obtain ⟨h1, h2, h3⟩ := hc
      have pa := pc_le8 a (by omega)
      rw [if_neg (show ¬ eX3 (some a) = -1 from by show ¬ nI a = -1; rw [l1, mi_ne (by omega) (by decide) (by decide)]; exact id), show eX3 (some a) = nI a from rfl, bnd1 (cn9 hF (show a < 256 by omega))]
      dsimp only
      by_cases z : pc S < pc a
      · rw [if_pos (by rw [lt_nn (by omega) (by omega)]; exact z), e80]
        cases hr : rch q od t S with
        | true =>
          rw [if_pos rfl]
          refine ih n (S + 1) (some S) (by omega) (by omega) ⟨by omega, hr, fun S' hS' hr' => ?_⟩
          by_cases y : S' = S
          · rw [y]; exact Or.inr ⟨rfl, Nat.le_refl _⟩
          · have := h3 S' (by omega) hr'
            left
            omega
        | false =>
          rw [if_neg (by decide)]
          refine ih n (S + 1) (some a) (by omega) (by omega) ⟨by omega, h2, fun S' hS' hr' => ?_⟩
          by_cases y : S' = S
          · rw [y, hr] at hr'
            cases hr'
          · exact h3 S' (by omega) hr'
      · rw [if_neg (by rw [lt_nn (by omega) (by omega)]; exact z), show nI S + (1 : Int32) = nI (S + 1) from add_nn S 1]
        refine ih n (S + 1) (some a) (by omega) (by omega) ⟨by omega, h2, fun S' hS' hr' => ?_⟩
        by_cases y : S' = S
        · rw [y]
          by_cases x : pc a = pc S
          · exact Or.inr ⟨x, by omega⟩
          · left
            omega
        · exact h3 S' (by omega) hr'
theorem op_least (A : Mm) (x1 : Int32) : Eqv A (fX8_least 20 x1) (fX9_least 80 x1) := by
  rintro M ⟨q, od, sd, b, q2, od2, sd2, h⟩
  have hF := h.1
  have hI := h.2.2.1
  have hq := hI.sg
  have hS := h.2.2.2.1
  have hM := h.2.2.2.2.1
  have h16 : q 64 ≤ 16 := hI.2.2.2.2.2.2.2.1
  have h8 : 2 ^ q 62 ≤ 2 ^ 8 := Nat.pow_le_pow_right (by decide) hq.1
  rcases n_cases x1 with c | ⟨t, ht, rfl⟩
  · exact ex_no h 6 (-nI 6 - nI 10) (by simp (disch := first | assumption | omega | (simp only [FIX_sI, FIX_sJ, FIX_gI, FIX_gJ]; assumption)) only [fX8_least, ↓kb20, ↓ib20, ↓pb20, ↓kb22, ↓ib22, ↓pb22, ↓kb25, ↓ib25, ↓pb25, ↓ab26, ↓tb26, ↓ab27, ↓tb27, ↓ab40, ↓tb40, ↓kb41, ↓ib41, ↓pb41, ↓kb61, ↓ib61, ↓pb61, ↓ab62, ↓tb62, ↓ab63, ↓tb63, ↓rb20_0, ↓rb20_1, ↓rb20_2, ↓rb20_3, ↓rb20_5, ↓rb20_7, ↓rb20_8, ↓rb20_9, ↓rb22_6, ↓rb22_8, ↓rb22_10, ↓rb25_0, ↓rb25_1, ↓rb41_0, ↓rb41_1, ↓rb61_0, ↓fb1, ↓fb2, ↓fb3, ↓fb4, ↓fb5, ↓fb6, ↓fb7, ↓kbH, ↓ibH, ↓pbH, ↓rbH, ↓abH, ↓tbH, ↓sbH, ↓sbB, ↓Option.bind_some, ↓Option.elim_some, ↓Option.elim_none, ↓reduceIte, Nat.reduceEqDiff, Nat.reduceAdd, and_self, and_true, true_and, false_and, and_false, l0, l1, l2, l3, l4, l5, l6, l7, l8, l9, l10, l11, l12, l13, l14, l15, l16, l17, l18, l19, l20, l21, l22, l23, l24, l25, l26, l27, l28, l29, l30, l31, l32, l33, l34, l35, l36, l37, l38, l39, l40, l41, l42, l43, l44, l45, l46, l48, l50, l57, l59, l60, l63, l70, l71, l80, l97, l99, l100, l101, l103, l104, l105, l108, l110, l111, l114, l115, l116, l117, l119, l160, l200, l255, l1280, l12345, le_nn, lt_nn, eq_nn, cl_nn, ng_le, ng_lt, ng_lt2, ng_le2, ng_eq, mi_eq, mi_ne, mi_ne2, mi_mi, add_nn, mul_nn, sub_nn, refX, refY, not_false_eq_true, not_true_eq_false, Nat.not_lt_zero, Nat.zero_le, Nat.reduceLeDiff, Nat.reduceLT, Nat.reduceMul, Nat.reduceSub, true_or, or_true, or_false, false_or, m610]) (by simp (disch := first | assumption | omega | (simp only [FIX_sI, FIX_sJ, FIX_gI, FIX_gJ]; assumption)) only [fX9_least, ↓kb80, ↓ib80, ↓pb80, ↓ab81, ↓tb81, ↓ab82, ↓tb82, ↓ab83, ↓tb83, ↓ab84, ↓tb84, ↓ab85, ↓tb85, ↓ab86, ↓tb86, ↓ab87, ↓tb87, ↓ab88, ↓tb88, ↓ab89, ↓tb89, ↓ab90, ↓tb90, ↓ab91, ↓tb91, ↓ab92, ↓tb92, ↓ab93, ↓tb93, ↓ab94, ↓tb94, ↓ab95, ↓tb95, ↓ab96, ↓tb96, ↓ab97, ↓tb97, ↓ab98, ↓tb98, ↓ab99, ↓tb99, ↓ab100, ↓tb100, ↓ab101, ↓tb101, ↓ab102, ↓tb102, ↓ab103, ↓tb103, ↓ab104, ↓tb104, ↓ab105, ↓tb105, ↓ab106, ↓tb106, ↓rb80_13, ↓rb80_14, ↓rb80_15, ↓rb80_16, ↓rb80_17, ↓rb80_18, ↓rb80_19, ↓rb80_20, ↓rb80_21, ↓rb80_22, ↓rb80_23, ↓rb80_24, ↓rb80_25, ↓rb80_26, ↓rb80_27, ↓rb80_28, ↓rb80_30, ↓rb80_31, ↓rb80_37, ↓rb80_38, ↓rb80_39, ↓rb80_40, ↓rb80_41, ↓rb80_44, ↓rb80_45, ↓rb80_46, ↓nb1, ↓nb2, ↓nb3, ↓nb4, ↓nb5, ↓nb6, ↓nb7, ↓zbH, ↓zbB, ↓Option.bind_some, ↓Option.elim_some, ↓Option.elim_none, ↓reduceIte, Nat.reduceEqDiff, Nat.reduceAdd, and_self, and_true, true_and, false_and, and_false, ↓nt6, l0, l1, l2, l3, l4, l5, l6, l7, l8, l9, l10, l11, l12, l13, l14, l15, l16, l17, l18, l19, l20, l21, l22, l23, l24, l25, l26, l27, l28, l29, l30, l31, l32, l33, l34, l35, l36, l37, l38, l39, l40, l41, l42, l43, l44, l45, l46, l48, l50, l57, l59, l60, l63, l70, l71, l80, l97, l99, l100, l101, l103, l104, l105, l108, l110, l111, l114, l115, l116, l117, l119, l160, l200, l255, l1280, l12345, le_nn, lt_nn, eq_nn, cl_nn, ng_le, ng_lt, ng_lt2, ng_le2, ng_eq, mi_eq, mi_ne, mi_ne2, mi_mi, add_nn, mul_nn, sub_nn, refX, refY, not_false_eq_true, not_true_eq_false, Nat.not_lt_zero, Nat.zero_le, Nat.reduceLeDiff, Nat.reduceLT, Nat.reduceMul, Nat.reduceSub, true_or, or_true, or_false, false_or, mT_sI, mW_sI, mK_sI, mI_sI, mJ_sI, mR_sI, mT_sJ, mW_sJ, mK_sJ, mI_sJ, mJ_sJ, mR_sJ, mT_sR, mW_sR, mK_sR, mI_sR, mJ_sR, mR_sR, mT_gI, mW_gI, mK_gI, mI_gI, mJ_gI, mR_gI, mT_gJ, mW_gJ, mK_gJ, mI_gJ, mJ_gJ, mR_gJ, mT_wR, mW_wR, mK_wR, mI_wR, mJ_wR, mR_wR])
  by_cases t10 : t ≤ 10
  rotate_left
  · exact ex_no h 6 (-nI 6 - nI 10) (by simp (disch := first | assumption | omega | (simp only [FIX_sI, FIX_sJ, FIX_gI, FIX_gJ]; assumption)) only [fX8_least, ↓kb20, ↓ib20, ↓pb20, ↓kb22, ↓ib22, ↓pb22, ↓kb25, ↓ib25, ↓pb25, ↓ab26, ↓tb26, ↓ab27, ↓tb27, ↓ab40, ↓tb40, ↓kb41, ↓ib41, ↓pb41, ↓kb61, ↓ib61, ↓pb61, ↓ab62, ↓tb62, ↓ab63, ↓tb63, ↓rb20_0, ↓rb20_1, ↓rb20_2, ↓rb20_3, ↓rb20_5, ↓rb20_7, ↓rb20_8, ↓rb20_9, ↓rb22_6, ↓rb22_8, ↓rb22_10, ↓rb25_0, ↓rb25_1, ↓rb41_0, ↓rb41_1, ↓rb61_0, ↓fb1, ↓fb2, ↓fb3, ↓fb4, ↓fb5, ↓fb6, ↓fb7, ↓kbH, ↓ibH, ↓pbH, ↓rbH, ↓abH, ↓tbH, ↓sbH, ↓sbB, ↓Option.bind_some, ↓Option.elim_some, ↓Option.elim_none, ↓reduceIte, Nat.reduceEqDiff, Nat.reduceAdd, and_self, and_true, true_and, false_and, and_false, l0, l1, l2, l3, l4, l5, l6, l7, l8, l9, l10, l11, l12, l13, l14, l15, l16, l17, l18, l19, l20, l21, l22, l23, l24, l25, l26, l27, l28, l29, l30, l31, l32, l33, l34, l35, l36, l37, l38, l39, l40, l41, l42, l43, l44, l45, l46, l48, l50, l57, l59, l60, l63, l70, l71, l80, l97, l99, l100, l101, l103, l104, l105, l108, l110, l111, l114, l115, l116, l117, l119, l160, l200, l255, l1280, l12345, le_nn, lt_nn, eq_nn, cl_nn, ng_le, ng_lt, ng_lt2, ng_le2, ng_eq, mi_eq, mi_ne, mi_ne2, mi_mi, add_nn, mul_nn, sub_nn, refX, refY, not_false_eq_true, not_true_eq_false, Nat.not_lt_zero, Nat.zero_le, Nat.reduceLeDiff, Nat.reduceLT, Nat.reduceMul, Nat.reduceSub, true_or, or_true, or_false, false_or, t10, m610]) (by simp (disch := first | assumption | omega | (simp only [FIX_sI, FIX_sJ, FIX_gI, FIX_gJ]; assumption)) only [fX9_least, ↓kb80, ↓ib80, ↓pb80, ↓ab81, ↓tb81, ↓ab82, ↓tb82, ↓ab83, ↓tb83, ↓ab84, ↓tb84, ↓ab85, ↓tb85, ↓ab86, ↓tb86, ↓ab87, ↓tb87, ↓ab88, ↓tb88, ↓ab89, ↓tb89, ↓ab90, ↓tb90, ↓ab91, ↓tb91, ↓ab92, ↓tb92, ↓ab93, ↓tb93, ↓ab94, ↓tb94, ↓ab95, ↓tb95, ↓ab96, ↓tb96, ↓ab97, ↓tb97, ↓ab98, ↓tb98, ↓ab99, ↓tb99, ↓ab100, ↓tb100, ↓ab101, ↓tb101, ↓ab102, ↓tb102, ↓ab103, ↓tb103, ↓ab104, ↓tb104, ↓ab105, ↓tb105, ↓ab106, ↓tb106, ↓rb80_13, ↓rb80_14, ↓rb80_15, ↓rb80_16, ↓rb80_17, ↓rb80_18, ↓rb80_19, ↓rb80_20, ↓rb80_21, ↓rb80_22, ↓rb80_23, ↓rb80_24, ↓rb80_25, ↓rb80_26, ↓rb80_27, ↓rb80_28, ↓rb80_30, ↓rb80_31, ↓rb80_37, ↓rb80_38, ↓rb80_39, ↓rb80_40, ↓rb80_41, ↓rb80_44, ↓rb80_45, ↓rb80_46, ↓nb1, ↓nb2, ↓nb3, ↓nb4, ↓nb5, ↓nb6, ↓nb7, ↓zbH, ↓zbB, ↓Option.bind_some, ↓Option.elim_some, ↓Option.elim_none, ↓reduceIte, Nat.reduceEqDiff, Nat.reduceAdd, and_self, and_true, true_and, false_and, and_false, ↓nt6, l0, l1, l2, l3, l4, l5, l6, l7, l8, l9, l10, l11, l12, l13, l14, l15, l16, l17, l18, l19, l20, l21, l22, l23, l24, l25, l26, l27, l28, l29, l30, l31, l32, l33, l34, l35, l36, l37, l38, l39, l40, l41, l42, l43, l44, l45, l46, l48, l50, l57, l59, l60, l63, l70, l71, l80, l97, l99, l100, l101, l103, l104, l105, l108, l110, l111, l114, l115, l116, l117, l119, l160, l200, l255, l1280, l12345, le_nn, lt_nn, eq_nn, cl_nn, ng_le, ng_lt, ng_lt2, ng_le2, ng_eq, mi_eq, mi_ne, mi_ne2, mi_mi, add_nn, mul_nn, sub_nn, refX, refY, not_false_eq_true, not_true_eq_false, Nat.not_lt_zero, Nat.zero_le, Nat.reduceLeDiff, Nat.reduceLT, Nat.reduceMul, Nat.reduceSub, true_or, or_true, or_false, false_or, mT_sI, mW_sI, mK_sI, mI_sI, mJ_sI, mR_sI, mT_sJ, mW_sJ, mK_sJ, mI_sJ, mJ_sJ, mR_sJ, mT_sR, mW_sR, mK_sR, mI_sR, mJ_sR, mR_sR, mT_gI, mW_gI, mK_gI, mI_gI, mJ_gI, mR_gI, mT_gJ, mW_gJ, mK_gJ, mI_gJ, mJ_gJ, mR_gJ, mT_wR, mW_wR, mK_wR, mI_wR, mJ_wR, mR_wR, t10])
  by_cases h9 : q 64 ≤ 9
  rotate_left
  · exact ex_no h 7 (-nI 7 - nI 10) (by simp (disch := first | assumption | omega | (simp only [FIX_sI, FIX_sJ, FIX_gI, FIX_gJ]; assumption)) only [fX8_least, ↓kb20, ↓ib20, ↓pb20, ↓kb22, ↓ib22, ↓pb22, ↓kb25, ↓ib25, ↓pb25, ↓ab26, ↓tb26, ↓ab27, ↓tb27, ↓ab40, ↓tb40, ↓kb41, ↓ib41, ↓pb41, ↓kb61, ↓ib61, ↓pb61, ↓ab62, ↓tb62, ↓ab63, ↓tb63, ↓rb20_0, ↓rb20_1, ↓rb20_2, ↓rb20_3, ↓rb20_5, ↓rb20_7, ↓rb20_8, ↓rb20_9, ↓rb22_6, ↓rb22_8, ↓rb22_10, ↓rb25_0, ↓rb25_1, ↓rb41_0, ↓rb41_1, ↓rb61_0, ↓fb1, ↓fb2, ↓fb3, ↓fb4, ↓fb5, ↓fb6, ↓fb7, ↓kbH, ↓ibH, ↓pbH, ↓rbH, ↓abH, ↓tbH, ↓sbH, ↓sbB, ↓Option.bind_some, ↓Option.elim_some, ↓Option.elim_none, ↓reduceIte, Nat.reduceEqDiff, Nat.reduceAdd, and_self, and_true, true_and, false_and, and_false, l0, l1, l2, l3, l4, l5, l6, l7, l8, l9, l10, l11, l12, l13, l14, l15, l16, l17, l18, l19, l20, l21, l22, l23, l24, l25, l26, l27, l28, l29, l30, l31, l32, l33, l34, l35, l36, l37, l38, l39, l40, l41, l42, l43, l44, l45, l46, l48, l50, l57, l59, l60, l63, l70, l71, l80, l97, l99, l100, l101, l103, l104, l105, l108, l110, l111, l114, l115, l116, l117, l119, l160, l200, l255, l1280, l12345, le_nn, lt_nn, eq_nn, cl_nn, ng_le, ng_lt, ng_lt2, ng_le2, ng_eq, mi_eq, mi_ne, mi_ne2, mi_mi, add_nn, mul_nn, sub_nn, refX, refY, not_false_eq_true, not_true_eq_false, Nat.not_lt_zero, Nat.zero_le, Nat.reduceLeDiff, Nat.reduceLT, Nat.reduceMul, Nat.reduceSub, true_or, or_true, or_false, false_or, t10, h.x64, h9, m710]) (by simp (disch := first | assumption | omega | (simp only [FIX_sI, FIX_sJ, FIX_gI, FIX_gJ]; assumption)) only [fX9_least, ↓kb80, ↓ib80, ↓pb80, ↓ab81, ↓tb81, ↓ab82, ↓tb82, ↓ab83, ↓tb83, ↓ab84, ↓tb84, ↓ab85, ↓tb85, ↓ab86, ↓tb86, ↓ab87, ↓tb87, ↓ab88, ↓tb88, ↓ab89, ↓tb89, ↓ab90, ↓tb90, ↓ab91, ↓tb91, ↓ab92, ↓tb92, ↓ab93, ↓tb93, ↓ab94, ↓tb94, ↓ab95, ↓tb95, ↓ab96, ↓tb96, ↓ab97, ↓tb97, ↓ab98, ↓tb98, ↓ab99, ↓tb99, ↓ab100, ↓tb100, ↓ab101, ↓tb101, ↓ab102, ↓tb102, ↓ab103, ↓tb103, ↓ab104, ↓tb104, ↓ab105, ↓tb105, ↓ab106, ↓tb106, ↓rb80_13, ↓rb80_14, ↓rb80_15, ↓rb80_16, ↓rb80_17, ↓rb80_18, ↓rb80_19, ↓rb80_20, ↓rb80_21, ↓rb80_22, ↓rb80_23, ↓rb80_24, ↓rb80_25, ↓rb80_26, ↓rb80_27, ↓rb80_28, ↓rb80_30, ↓rb80_31, ↓rb80_37, ↓rb80_38, ↓rb80_39, ↓rb80_40, ↓rb80_41, ↓rb80_44, ↓rb80_45, ↓rb80_46, ↓nb1, ↓nb2, ↓nb3, ↓nb4, ↓nb5, ↓nb6, ↓nb7, ↓zbH, ↓zbB, ↓Option.bind_some, ↓Option.elim_some, ↓Option.elim_none, ↓reduceIte, Nat.reduceEqDiff, Nat.reduceAdd, and_self, and_true, true_and, false_and, and_false, ↓nt7, l0, l1, l2, l3, l4, l5, l6, l7, l8, l9, l10, l11, l12, l13, l14, l15, l16, l17, l18, l19, l20, l21, l22, l23, l24, l25, l26, l27, l28, l29, l30, l31, l32, l33, l34, l35, l36, l37, l38, l39, l40, l41, l42, l43, l44, l45, l46, l48, l50, l57, l59, l60, l63, l70, l71, l80, l97, l99, l100, l101, l103, l104, l105, l108, l110, l111, l114, l115, l116, l117, l119, l160, l200, l255, l1280, l12345, le_nn, lt_nn, eq_nn, cl_nn, ng_le, ng_lt, ng_lt2, ng_le2, ng_eq, mi_eq, mi_ne, mi_ne2, mi_mi, add_nn, mul_nn, sub_nn, refX, refY, not_false_eq_true, not_true_eq_false, Nat.not_lt_zero, Nat.zero_le, Nat.reduceLeDiff, Nat.reduceLT, Nat.reduceMul, Nat.reduceSub, true_or, or_true, or_false, false_or, mT_sI, mW_sI, mK_sI, mI_sI, mJ_sI, mR_sI, mT_sJ, mW_sJ, mK_sJ, mI_sJ, mJ_sJ, mR_sJ, mT_sR, mW_sR, mK_sR, mI_sR, mJ_sR, mR_sR, mT_gI, mW_gI, mK_gI, mI_gI, mJ_gI, mR_gI, mT_gJ, mW_gJ, mK_gJ, mI_gJ, mJ_gJ, mR_gJ, mT_wR, mW_wR, mK_wR, mI_wR, mJ_wR, mR_wR, t10, h.y64, h9])
  obtain ⟨M1, e1, f1, t1, o1, r1⟩ := look8 hF hS hI
  have hF1 := f1.fix hF
  have hm : ∀ o ∈ OLS, o < 107 ∧ o ≠ 22 ∧ o ≠ 22 + 1 ∧ o ≠ 22 + 2 ∧ o ≠ 22 + 4 ∧ o ≠ 22 + 5 := by decide
  have hS1 := hS.fr hF f1 (by decide) hm mem0
  have a8 := all8 (Or.inl rfl) hF1 hS1
  obtain ⟨r, M2, e2, f2, t2, c2⟩ := few3 hI h9 t10 (q 62 + 1) FU 0 M1 hF1 o1 r1 (Nat.add_zero _) (by unfold FU; omega) (fun _ _ _ => Nat.zero_le _)
  have fT := f1.trans f2
  have hF2 := fT.fix hF
  have hM2 := hM.fr hF fT OLS_md mem0
  have a9 := all9 hF2 hM2 hI
  obtain ⟨r', e3, c3⟩ := lea43 hF2 hM2 hI h9 t10 (2 ^ q 62) FU 0 none (Nat.add_zero _) (by unfold FU; omega) (fun S hS => absurd hS (Nat.not_lt_zero _))
  have er := CH.one c2 c3
  subst er
  refine ex_fr (r := eX3 r) (M1 := M2) (M2 := M2) h ?_ ?_ fT OLS_sca ⟨t2.1.trans t1.1, t2.2.trans t1.2⟩
  · unfold fX8_least
    rw [kb20 hF, if_neg (nI_pos (by omega)), if_pos (by rw [l10, le_nn ht (by decide)]; exact t10), rb20_1 hF, ib22 hF, h.x64, if_pos (by rw [l9, le_nn (by omega) (by decide)]; exact h9), rb20_7 hF, rb20_1 hF, bnd1 e1, rb20_7 hF1, rb20_1 hF1, rb22_10 hF1, bnd1 a8]
    dsimp only
    unfold fX1_fewestFor
    rw [kb41 hF1, show (0 : Int32) = nI 0 from rfl]
    exact bnd1 e2 _
  · unfold fX9_least
    rw [kb80 hF2, if_neg (nI_pos (by omega)), if_pos (by rw [l10, le_nn ht (by decide)]; exact t10), ib80 hF2, hM2.f64, if_pos (by rw [l9, le_nn (by omega) (by decide)]; exact h9), bnd1 a9]
    dsimp only
    rw [show (0 : Int32) = nI 0 from rfl]
    exact e3
