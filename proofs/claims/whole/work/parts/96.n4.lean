/-! worth, next: the calls -/
theorem shr_z {S T : Nat} (hS : S < 2147483648) (hT : T ≤ 8) : (nI S >>> (nI T &&& 31) = 0) = (S < 2 ^ T) := by
  have e2 : ∀ h, h ≤ 8 → ((nI h &&& 31).toBitVec.smod 32).toNat = h := by decide
  rw [pk_shrN (show S < 2 ^ 31 by omega) _ T (e2 T hT), l0]
  have le : S / 2 ^ T ≤ S := Nat.div_le_self _ _
  rw [eq_nn (by omega) (by decide)]
  apply propext
  rw [Nat.div_eq_zero_iff]
  have : 0 < 2 ^ T := Nat.pow_pos (by decide)
  omega
theorem shl_n : ∀ T, T ≤ 8 → (1 : Int32) <<< (nI T &&& 31) = nI (2 ^ T) := by decide
theorem nn1 : (-nI 1).toInt64 = (-1 : Int32).toInt64 := rfl
theorem ex_noL {A : Mm} {q od q2 od2 : Nat → Nat} {sd sd2 : Int32} {b : Nat} {M : Mm} (h : REL A q od sd b q2 od2 sd2 M) (k : Nat) (r : Int64) {f g : Mm → Option (Int64 × Mm)}
    (hf : f M = some (r, sI M 40 k (mI M 40 k + nI 1))) (hg : g (sI M 40 k (mI M 40 k + nI 1)) = some (r, sI (sI M 40 k (mI M 40 k + nI 1)) 81 k (mI M 81 k + nI 1))) : ∃ r M1 M2, f M = some (r, M1) ∧ g M1 = some (r, M2) ∧ Rel A M2 ∧ Gr M M2 :=
  ⟨r, _, _, hf, hg, ⟨q, od, sd, b, q2, od2, sd2, h.no k⟩, (Gr.same (by simp only [mT_sI, mW_sI, mK_sI, mI_sI, mJ_sI, mR_sI, mT_sJ, mW_sJ, mK_sJ, mI_sJ, mJ_sJ, mR_sJ, mT_sR, mW_sR, mK_sR, mI_sR, mJ_sR, mR_sR, mT_gI, mW_gI, mK_gI, mI_gI, mJ_gI, mR_gI, mT_gJ, mW_gJ, mK_gJ, mI_gJ, mJ_gJ, mR_gJ, mT_wR, mW_wR, mK_wR, mI_wR, mJ_wR, mR_wR]) (by simp only [mT_sI, mW_sI, mK_sI, mI_sI, mJ_sI, mR_sI, mT_sJ, mW_sJ, mK_sJ, mI_sJ, mJ_sJ, mR_sJ, mT_sR, mW_sR, mK_sR, mI_sR, mJ_sR, mR_sR, mT_gI, mW_gI, mK_gI, mI_gI, mJ_gI, mR_gI, mT_gJ, mW_gJ, mK_gJ, mI_gJ, mJ_gJ, mR_gJ, mT_wR, mW_wR, mK_wR, mI_wR, mJ_wR, mR_wR]))⟩
theorem ex_fr {α : Type} {A : Mm} {q od q2 od2 : Nat → Nat} {sd sd2 : Int32} {b : Nat} {M M1 M2 : Mm} {r : α} {ds : List Nat} {f g : Mm → Option (α × Mm)} (h : REL A q od sd b q2 od2 sd2 M) (hf : f M = some (r, M1)) (hg : g M1 = some (r, M2)) (fr : Fr ds [] M M2) (hd : ∀ o ∈ ds, sca o) (t : mT M2 = mT M ∧ mW M2 = mW M) : ∃ r M1 M2, f M = some (r, M1) ∧ g M1 = some (r, M2) ∧ Rel A M2 ∧ Gr M M2 :=
  ⟨r, M1, M2, hf, hg, ⟨q, od, sd, b, q2, od2, sd2, h.fr fr hd mem0⟩, Gr.same t.1 t.2⟩
theorem OLS_sca : ∀ o ∈ OLS ++ RLS, sca o := by unfold sca; decide
theorem OLS_md : ∀ o ∈ OLS ++ RLS, o < 80 ∨ o = 81 ∨ 90 ≤ o := by decide
theorem op_worth (A : Mm) (x1 : Int32) : Eqv A (fX8_worth 20 x1) (fX9_worth 80 x1) := by
  rintro M ⟨q, od, sd, b, q2, od2, sd2, h⟩
  have hF := h.1
  have hI := h.2.2.1
  have hq := hI.sg
  have hS := h.2.2.2.1
  have hM := h.2.2.2.2.1
  have h16 : q 64 ≤ 16 := hI.2.2.2.2.2.2.2.1
  have h8 : 2 ^ q 62 ≤ 2 ^ 8 := Nat.pow_le_pow_right (by decide) hq.1
  have sh := shl_n (q 62) hq.1
  rcases n_cases x1 with c | ⟨S, hS2, rfl⟩
  · exact ex_noL h 1 (-nI 1).toInt64 (by simp (disch := first | assumption | omega | (simp only [FIX_sI, FIX_sJ, FIX_gI, FIX_gJ]; assumption)) only [fX8_worth, ↓kb20, ↓ib20, ↓pb20, ↓kb22, ↓ib22, ↓pb22, ↓kb25, ↓ib25, ↓pb25, ↓ab26, ↓tb26, ↓ab27, ↓tb27, ↓ab40, ↓tb40, ↓kb41, ↓ib41, ↓pb41, ↓kb61, ↓ib61, ↓pb61, ↓ab62, ↓tb62, ↓ab63, ↓tb63, ↓rb20_0, ↓rb20_1, ↓rb20_2, ↓rb20_3, ↓rb20_5, ↓rb20_7, ↓rb20_8, ↓rb20_9, ↓rb22_6, ↓rb22_8, ↓rb22_10, ↓rb25_0, ↓rb25_1, ↓rb41_0, ↓rb41_1, ↓rb61_0, ↓fb1, ↓fb2, ↓fb3, ↓fb4, ↓fb5, ↓fb6, ↓fb7, ↓kbH, ↓ibH, ↓pbH, ↓rbH, ↓abH, ↓tbH, ↓sbH, ↓sbB, ↓Option.bind_some, ↓Option.elim_some, ↓Option.elim_none, ↓reduceIte, Nat.reduceEqDiff, Nat.reduceAdd, and_self, and_true, true_and, false_and, and_false, l0, l1, l2, l3, l4, l5, l6, l7, l8, l9, l10, l11, l12, l13, l14, l15, l16, l17, l18, l19, l20, l21, l22, l23, l24, l25, l26, l27, l28, l29, l30, l31, l32, l33, l34, l35, l36, l37, l38, l39, l40, l41, l42, l43, l44, l45, l46, l48, l50, l57, l59, l60, l63, l70, l71, l80, l97, l99, l100, l101, l103, l104, l105, l108, l110, l111, l114, l115, l116, l117, l119, l160, l200, l255, l1280, l12345, le_nn, lt_nn, eq_nn, cl_nn, ng_le, ng_lt, ng_lt2, ng_le2, ng_eq, mi_eq, mi_ne, mi_ne2, mi_mi, add_nn, mul_nn, sub_nn, refX, refY, not_false_eq_true, not_true_eq_false, Nat.not_lt_zero, Nat.zero_le, Nat.reduceLeDiff, Nat.reduceLT, Nat.reduceMul, Nat.reduceSub, true_or, or_true, or_false, false_or]) (by simp (disch := first | assumption | omega | (simp only [FIX_sI, FIX_sJ, FIX_gI, FIX_gJ]; assumption)) only [fX9_worth, ↓kb80, ↓ib80, ↓pb80, ↓ab81, ↓tb81, ↓ab82, ↓tb82, ↓ab83, ↓tb83, ↓ab84, ↓tb84, ↓ab85, ↓tb85, ↓ab86, ↓tb86, ↓ab87, ↓tb87, ↓ab88, ↓tb88, ↓ab89, ↓tb89, ↓ab90, ↓tb90, ↓ab91, ↓tb91, ↓ab92, ↓tb92, ↓ab93, ↓tb93, ↓ab94, ↓tb94, ↓ab95, ↓tb95, ↓ab96, ↓tb96, ↓ab97, ↓tb97, ↓ab98, ↓tb98, ↓ab99, ↓tb99, ↓ab100, ↓tb100, ↓ab101, ↓tb101, ↓ab102, ↓tb102, ↓ab103, ↓tb103, ↓ab104, ↓tb104, ↓ab105, ↓tb105, ↓ab106, ↓tb106, ↓rb80_13, ↓rb80_14, ↓rb80_15, ↓rb80_16, ↓rb80_17, ↓rb80_18, ↓rb80_19, ↓rb80_20, ↓rb80_21, ↓rb80_22, ↓rb80_23, ↓rb80_24, ↓rb80_25, ↓rb80_26, ↓rb80_27, ↓rb80_28, ↓rb80_30, ↓rb80_31, ↓rb80_37, ↓rb80_38, ↓rb80_39, ↓rb80_40, ↓rb80_41, ↓rb80_44, ↓rb80_45, ↓rb80_46, ↓nb1, ↓nb2, ↓nb3, ↓nb4, ↓nb5, ↓nb6, ↓nb7, ↓zbH, ↓zbB, ↓Option.bind_some, ↓Option.elim_some, ↓Option.elim_none, ↓reduceIte, Nat.reduceEqDiff, Nat.reduceAdd, and_self, and_true, true_and, false_and, and_false, l0, l1, l2, l3, l4, l5, l6, l7, l8, l9, l10, l11, l12, l13, l14, l15, l16, l17, l18, l19, l20, l21, l22, l23, l24, l25, l26, l27, l28, l29, l30, l31, l32, l33, l34, l35, l36, l37, l38, l39, l40, l41, l42, l43, l44, l45, l46, l48, l50, l57, l59, l60, l63, l70, l71, l80, l97, l99, l100, l101, l103, l104, l105, l108, l110, l111, l114, l115, l116, l117, l119, l160, l200, l255, l1280, l12345, le_nn, lt_nn, eq_nn, cl_nn, ng_le, ng_lt, ng_lt2, ng_le2, ng_eq, mi_eq, mi_ne, mi_ne2, mi_mi, add_nn, mul_nn, sub_nn, refX, refY, not_false_eq_true, not_true_eq_false, Nat.not_lt_zero, Nat.zero_le, Nat.reduceLeDiff, Nat.reduceLT, Nat.reduceMul, Nat.reduceSub, true_or, or_true, or_false, false_or, mT_sI, mW_sI, mK_sI, mI_sI, mJ_sI, mR_sI, mT_sJ, mW_sJ, mK_sJ, mI_sJ, mJ_sJ, mR_sJ, mT_sR, mW_sR, mK_sR, mI_sR, mJ_sR, mR_sR, mT_gI, mW_gI, mK_gI, mI_gI, mJ_gI, mR_gI, mT_gJ, mW_gJ, mK_gJ, mI_gJ, mJ_gJ, mR_gJ, mT_wR, mW_wR, mK_wR, mI_wR, mJ_wR, mR_wR])
  have s1 := shr_z hS2 hq.1
  by_cases z : S < 2 ^ q 62
  rotate_left
  · refine ex_noL h 1 (-nI 1).toInt64 ?_ ?_
    · unfold fX8_worth
      rw [kb20 hF, if_neg (nI_pos (by omega)), rb20_1 hF, ib22 hF, h.x62, if_neg (by rw [s1]; exact z), fb1 hF]
    · have hF4 : FIX (sI M 40 1 (mI M 40 1 + nI 1)) := by rw [FIX_sI]; exact hF
      have h62 : mI (sI M 40 1 (mI M 40 1 + nI 1)) 80 6 = nI (q 62) := by rw [mI_sI, if_neg (by omega)]; exact h.y62
      unfold fX9_worth
      rw [kb80 hF4, if_neg (nI_pos (by omega)), ib80 hF4, h62, sh, if_neg (by rw [lt_nn hS2 (by omega)]; exact z), nb1 hF4, mI_sI, if_neg (by omega)]
  have pb : fJ6_bitCount_0f7a4 (nI S) M = some (nI (pc S), M) := by rw [bc8, bc_n (by omega)]
  have p8 := pc_le8 S (by omega)
  by_cases y : q 64 + pc S ≤ 17
  rotate_left
  · refine ex_noL h 7 (-nI 7).toInt64 ?_ ?_
    · unfold fX8_worth
      rw [kb20 hF, if_neg (nI_pos (by omega)), rb20_1 hF, ib22 hF, h.x62, if_pos (by rw [s1]; exact z), rb20_1 hF, ib22 hF, h.x64, bnd1 pb]
      dsimp only
      rw [add_nn, if_neg (by rw [l17, le_nn (by omega) (by decide)]; exact y), fb7 hF]
    · have hF4 : FIX (sI M 40 7 (mI M 40 7 + nI 1)) := by rw [FIX_sI]; exact hF
      have h62 : mI (sI M 40 7 (mI M 40 7 + nI 1)) 80 6 = nI (q 62) := by rw [mI_sI, if_neg (by omega)]; exact h.y62
      have h64 : mI (sI M 40 7 (mI M 40 7 + nI 1)) 80 8 = nI (q 64) := by rw [mI_sI, if_neg (by omega)]; exact h.y64
      unfold fX9_worth
      rw [kb80 hF4, if_neg (nI_pos (by omega)), ib80 hF4, h62, sh, if_pos (by rw [lt_nn hS2 (by omega)]; exact z), ib80 hF4, h64, bnd1 (cn9 hF4 (show S < 256 by omega))]
      dsimp only
      rw [add_nn, if_neg (by rw [l17, le_nn (by omega) (by decide)]; exact y), nb7 hF4, mI_sI, if_neg (by omega)]
  have wb := (hI.w17 y).2
  obtain ⟨M1, e1, f1, t1, o1, r1⟩ := look8 hF hS hI
  have hF1 := f1.fix hF
  obtain ⟨M2, e2, f2, t2, -⟩ := wor8 hF1 hI o1 r1 z wb
  have fT := f1.trans f2
  have hF2 := fT.fix hF
  have hM2 := hM.fr hF fT OLS_md mem0
  have e9 := wor9 hF2 hM2 hI z wb
  refine ex_fr (r := lN (wo q 8 S od)) (M1 := M2) (M2 := M2) h ?_ ?_ fT OLS_sca ⟨t2.1.trans t1.1, t2.2.trans t1.2⟩
  · unfold fX8_worth
    rw [kb20 hF, if_neg (nI_pos (by omega)), rb20_1 hF, ib22 hF, h.x62, if_pos (by rw [s1]; exact z), rb20_1 hF, ib22 hF, h.x64, bnd1 pb]
    dsimp only
    rw [add_nn, if_pos (by rw [l17, le_nn (by omega) (by decide)]; exact y), rb20_7 hF, rb20_1 hF, bnd1 e1, rb20_7 hF1]
    unfold fX1_worthOf
    rw [kb41 hF1, show (0 : Int32) = nI 0 from rfl, bnd1 e2]
    rfl
  · unfold fX9_worth
    rw [kb80 hF2, if_neg (nI_pos (by omega)), ib80 hF2, hM2.f62, sh, if_pos (by rw [lt_nn hS2 (by omega)]; exact z), ib80 hF2, hM2.f64, bnd1 (cn9 hF2 (show S < 256 by omega))]
    dsimp only
    rw [add_nn, if_pos (by rw [l17, le_nn (by omega) (by decide)]; exact y), bnd1 e9]
/-- the first for which w is greatest -/
def gi (w : Nat → Nat) : Nat → Option (Nat × Nat)
  | 0 => none
  | n + 1 => match gi w n with
    | none => some (n, w n)
    | some (b, s) => if s < w n then some (n, w n) else some (b, s)
theorem gi_lt {w : Nat → Nat} : ∀ n b s, gi w n = some (b, s) → b < n ∧ s = w b := by
  intro n
  induction n with
  | zero => intro b s h; cases h
  | succ n ih =>
    intro b s h
    unfold gi at h
    cases e : gi w n with
    | none => rw [e] at h; cases h; exact ⟨by omega, rfl⟩
    | some x =>
      obtain ⟨b', s'⟩ := x
      have i := ih b' s' e
      rw [e] at h
      dsimp only at h
      by_cases z : s' < w n
      · rw [if_pos z] at h
        cases h
        exact ⟨by omega, rfl⟩
      · rw [if_neg z] at h
        cases h
        exact ⟨by omega, i.2⟩
theorem pc_2 : ∀ i, i < 8 → pc (2 ^ i) = 1 := by decide
theorem two_lt {i T : Nat} (h : i < T) : 2 ^ i < 2 ^ T := Nat.pow_lt_pow_right (by decide) h
theorem bal8 {q od : Nat → Nat} (hI : Inv q od) (hb : ∀ c, od c * 10 < 9223372036854775808) (hs : sm od (q 56) * 10 < 9223372036854775808) : ∀ m n i (M : Mm), FIX M → OV q M → RV q 0 od M → m + i = q 62 → m < n →
    ∃ M', fX1_bestAlone_b9 n 41 (eX1 (gi (fun i => wo q 8 (2 ^ i) od) i)) (eX2 (gi (fun i => wo q 8 (2 ^ i) od) i)) (nI i) M = some (eX1 (gi (fun i => wo q 8 (2 ^ i) od) (q 62)), M') ∧ Fr RLS [] M M' ∧ (mT M' = mT M ∧ mW M' = mW M) := by
  have hq := hI.sg
  have wl : ∀ i, i < q 62 → wo q 8 (2 ^ i) od < 9223372036854775808 := fun i hi => by
    have := wo_le hI 8 (2 ^ i) od (two_lt hi) (pc_le8 _ (Nat.pow_lt_pow_right (show 1 < 2 by decide) (show i < 8 by omega)))
    rw [pc_2 i (by omega), Nat.pow_one] at this
    omega
  intro m
  induction m with
  | zero =>
    intro n i M hF hO hR hi hn
    obtain ⟨n, rfl⟩ : ∃ a, n = a + 1 := ⟨n - 1, by omega⟩
    exact ⟨M, by rw [fX1_bestAlone_b9, ib41 hF, hO.1, if_pos (by rw [le_nn (by omega) (by omega)]; omega), show i = q 62 by omega], Fr.rfl, ⟨rfl, rfl⟩⟩
  | succ m ih =>
    intro n i M hF hO hR hi hn
    obtain ⟨n, rfl⟩ : ∃ a, n = a + 1 := ⟨n - 1, by omega⟩
    have wi := wl i (by omega)
    obtain ⟨M1, e1, f1, t1, o1⟩ := wor8 hF hI hO hR (two_lt (show i < q 62 by omega)) (fun c => by rw [pc_2 i (by omega), Nat.pow_one]; exact hb c)
    have hF1 := f1.fix hF
    obtain ⟨M', a1, a2, a3⟩ := ih n (i + 1) M1 hF1 (hO.fr hF hq.1 f1) (fun c hc => by rw [o1 _ (by omega)]; exact hR c hc) (by omega) (by omega)
    refine ⟨M', ?_, f1.tr a2, ⟨a3.1.trans t1.1, a3.2.trans t1.2⟩⟩
    rw [fX1_bestAlone_b9, ib41 hF, hO.1, if_neg (by rw [le_nn (by omega) (by omega)]; omega), shl_n i (by omega), show (0 : Int32) = nI 0 from rfl, bnd1 e1]
    dsimp only
    rw [show nI i + (1 : Int32) = nI (i + 1) from add_nn i 1]
    have ef : gi (fun i => wo q 8 (2 ^ i) od) (i + 1) = (match gi (fun i => wo q 8 (2 ^ i) od) i with
      | none => some (i, wo q 8 (2 ^ i) od)
      | some (b, s) => if s < wo q 8 (2 ^ i) od then some (i, wo q 8 (2 ^ i) od) else some (b, s)) := rfl
    rw [ef] at a1
    cases e : gi (fun i => wo q 8 (2 ^ i) od) i with
    | none =>
      rw [e] at a1
      rw [if_neg (show ¬ lN (wo q 8 (2 ^ i) od) ≤ eX2 none from m1_le wi)]
      exact a1
    | some x =>
      obtain ⟨b, s⟩ := x
      have hs2 := gi_lt i b s e
      have hsb := wl b (by omega)
      rw [e] at a1
      dsimp only at a1
      rw [hs2.2] at a1 ⊢
      by_cases y : wo q 8 (2 ^ b) od < wo q 8 (2 ^ i) od
      · have y2 : ¬ lN (wo q 8 (2 ^ i) od) ≤ lN (wo q 8 (2 ^ b) od) := by rw [le_LL wi hsb]; omega
        rw [if_pos y] at a1
        rw [if_neg (show ¬ lN (wo q 8 (2 ^ i) od) ≤ eX2 (some (b, wo q 8 (2 ^ b) od)) from y2)]
        exact a1
      · have y2 : lN (wo q 8 (2 ^ i) od) ≤ lN (wo q 8 (2 ^ b) od) := by rw [le_LL wi hsb]; omega
        rw [if_neg y] at a1
        rw [if_pos (show lN (wo q 8 (2 ^ i) od) ≤ eX2 (some (b, wo q 8 (2 ^ b) od)) from y2)]
        exact a1
theorem bal9 {M : Mm} (hF : FIX M) {q od : Nat → Nat} {sd : Int32} (h : MD q od sd M) (hI : Inv q od) (hb : ∀ c, od c * 10 < 9223372036854775808) (hs : sm od (q 56) * 10 < 9223372036854775808) : ∀ m n i, m + i = q 62 → m < n →
    fX9_next_b21 n 80 (eX1 (gi (fun i => wo q 8 (2 ^ i) od) i)) (eY2 (gi (fun i => wo q 8 (2 ^ i) od) i)) (nI i) M = some (eX1 (gi (fun i => wo q 8 (2 ^ i) od) (q 62)), M) := by
  have hq := hI.sg
  have wl : ∀ i, i < q 62 → wo q 8 (2 ^ i) od < 9223372036854775808 := fun i hi => by
    have := wo_le hI 8 (2 ^ i) od (two_lt hi) (pc_le8 _ (Nat.pow_lt_pow_right (show 1 < 2 by decide) (show i < 8 by omega)))
    rw [pc_2 i (by omega), Nat.pow_one] at this
    omega
  intro m
  induction m with
  | zero =>
    intro n i hi hn
    obtain ⟨n, rfl⟩ : ∃ a, n = a + 1 := ⟨n - 1, by omega⟩
    rw [fX9_next_b21, ib80 hF, h.f62, if_pos (by rw [le_nn (by omega) (by omega)]; omega), show i = q 62 by omega]
  | succ m ih =>
    intro n i hi hn
    obtain ⟨n, rfl⟩ : ∃ a, n = a + 1 := ⟨n - 1, by omega⟩
    have wi := wl i (by omega)
    have a1 := ih n (i + 1) (by omega) (by omega)
    have e9 := wor9 hF h hI (two_lt (show i < q 62 by omega)) (fun c => by rw [pc_2 i (by omega), Nat.pow_one]; exact hb c)
    rw [fX9_next_b21, ib80 hF, h.f62, if_neg (by rw [le_nn (by omega) (by omega)]; omega), shl_n i (by omega), bnd1 e9]
    dsimp only
    unfold fX9_next_b55
    rw [show nI i + (1 : Int32) = nI (i + 1) from add_nn i 1]
    have ef : gi (fun i => wo q 8 (2 ^ i) od) (i + 1) = (match gi (fun i => wo q 8 (2 ^ i) od) i with
      | none => some (i, wo q 8 (2 ^ i) od)
      | some (b, s) => if s < wo q 8 (2 ^ i) od then some (i, wo q 8 (2 ^ i) od) else some (b, s)) := rfl
    rw [ef] at a1
    cases e : gi (fun i => wo q 8 (2 ^ i) od) i with
    | none =>
      rw [e] at a1
      rw [if_pos (show eX1 none = -1 from rfl)]
      exact a1
    | some x =>
      obtain ⟨b, s⟩ := x
      have hs2 := gi_lt i b s e
      have hsb := wl b (by omega)
      rw [e] at a1
      dsimp only at a1
      rw [if_neg (show ¬ eX1 (some (b, s)) = -1 from by show ¬ nI b = -1; rw [l1, mi_ne (by omega) (by decide) (by decide)]; exact id)]
      rw [hs2.2] at a1 ⊢
      by_cases y : wo q 8 (2 ^ b) od < wo q 8 (2 ^ i) od
      · have y2 : lN (wo q 8 (2 ^ b) od) < lN (wo q 8 (2 ^ i) od) := by rw [lt_LL hsb wi]; exact y
        rw [if_pos y] at a1
        rw [if_pos (show eY2 (some (b, wo q 8 (2 ^ b) od)) < lN (wo q 8 (2 ^ i) od) from y2)]
        exact a1
      · have y2 : ¬ lN (wo q 8 (2 ^ b) od) < lN (wo q 8 (2 ^ i) od) := by rw [lt_LL hsb wi]; exact y
        rw [if_neg y] at a1
        rw [if_neg (show ¬ eY2 (some (b, wo q 8 (2 ^ b) od)) < lN (wo q 8 (2 ^ i) od) from y2)]
        exact a1
theorem op_next (A : Mm) : Eqv A (fX8_next 20) (fX9_next 80) := by
  rintro M ⟨q, od, sd, b, q2, od2, sd2, h⟩
  have hF := h.1
  have hI := h.2.2.1
  have hq := hI.sg
  have hS := h.2.2.2.1
  have hM := h.2.2.2.2.1
  have h16 : q 64 ≤ 16 := hI.2.2.2.2.2.2.2.1
  by_cases z : q 62 = 0
  · exact ex_no h 5 (-nI 5) (by simp (disch := first | assumption | omega | (simp only [FIX_sI, FIX_sJ, FIX_gI, FIX_gJ]; assumption)) only [fX8_next, ↓kb20, ↓ib20, ↓pb20, ↓kb22, ↓ib22, ↓pb22, ↓kb25, ↓ib25, ↓pb25, ↓ab26, ↓tb26, ↓ab27, ↓tb27, ↓ab40, ↓tb40, ↓kb41, ↓ib41, ↓pb41, ↓kb61, ↓ib61, ↓pb61, ↓ab62, ↓tb62, ↓ab63, ↓tb63, ↓rb20_0, ↓rb20_1, ↓rb20_2, ↓rb20_3, ↓rb20_5, ↓rb20_7, ↓rb20_8, ↓rb20_9, ↓rb22_6, ↓rb22_8, ↓rb22_10, ↓rb25_0, ↓rb25_1, ↓rb41_0, ↓rb41_1, ↓rb61_0, ↓fb1, ↓fb2, ↓fb3, ↓fb4, ↓fb5, ↓fb6, ↓fb7, ↓kbH, ↓ibH, ↓pbH, ↓rbH, ↓abH, ↓tbH, ↓sbH, ↓sbB, ↓Option.bind_some, ↓Option.elim_some, ↓Option.elim_none, ↓reduceIte, Nat.reduceEqDiff, Nat.reduceAdd, and_self, and_true, true_and, false_and, and_false, l0, l1, l2, l3, l4, l5, l6, l7, l8, l9, l10, l11, l12, l13, l14, l15, l16, l17, l18, l19, l20, l21, l22, l23, l24, l25, l26, l27, l28, l29, l30, l31, l32, l33, l34, l35, l36, l37, l38, l39, l40, l41, l42, l43, l44, l45, l46, l48, l50, l57, l59, l60, l63, l70, l71, l80, l97, l99, l100, l101, l103, l104, l105, l108, l110, l111, l114, l115, l116, l117, l119, l160, l200, l255, l1280, l12345, le_nn, lt_nn, eq_nn, cl_nn, ng_le, ng_lt, ng_lt2, ng_le2, ng_eq, mi_eq, mi_ne, mi_ne2, mi_mi, add_nn, mul_nn, sub_nn, refX, refY, not_false_eq_true, not_true_eq_false, Nat.not_lt_zero, Nat.zero_le, Nat.reduceLeDiff, Nat.reduceLT, Nat.reduceMul, Nat.reduceSub, true_or, or_true, or_false, false_or, h.x62, z]) (by simp (disch := first | assumption | omega | (simp only [FIX_sI, FIX_sJ, FIX_gI, FIX_gJ]; assumption)) only [fX9_next, ↓kb80, ↓ib80, ↓pb80, ↓ab81, ↓tb81, ↓ab82, ↓tb82, ↓ab83, ↓tb83, ↓ab84, ↓tb84, ↓ab85, ↓tb85, ↓ab86, ↓tb86, ↓ab87, ↓tb87, ↓ab88, ↓tb88, ↓ab89, ↓tb89, ↓ab90, ↓tb90, ↓ab91, ↓tb91, ↓ab92, ↓tb92, ↓ab93, ↓tb93, ↓ab94, ↓tb94, ↓ab95, ↓tb95, ↓ab96, ↓tb96, ↓ab97, ↓tb97, ↓ab98, ↓tb98, ↓ab99, ↓tb99, ↓ab100, ↓tb100, ↓ab101, ↓tb101, ↓ab102, ↓tb102, ↓ab103, ↓tb103, ↓ab104, ↓tb104, ↓ab105, ↓tb105, ↓ab106, ↓tb106, ↓rb80_13, ↓rb80_14, ↓rb80_15, ↓rb80_16, ↓rb80_17, ↓rb80_18, ↓rb80_19, ↓rb80_20, ↓rb80_21, ↓rb80_22, ↓rb80_23, ↓rb80_24, ↓rb80_25, ↓rb80_26, ↓rb80_27, ↓rb80_28, ↓rb80_30, ↓rb80_31, ↓rb80_37, ↓rb80_38, ↓rb80_39, ↓rb80_40, ↓rb80_41, ↓rb80_44, ↓rb80_45, ↓rb80_46, ↓nb1, ↓nb2, ↓nb3, ↓nb4, ↓nb5, ↓nb6, ↓nb7, ↓zbH, ↓zbB, ↓Option.bind_some, ↓Option.elim_some, ↓Option.elim_none, ↓reduceIte, Nat.reduceEqDiff, Nat.reduceAdd, and_self, and_true, true_and, false_and, and_false, l0, l1, l2, l3, l4, l5, l6, l7, l8, l9, l10, l11, l12, l13, l14, l15, l16, l17, l18, l19, l20, l21, l22, l23, l24, l25, l26, l27, l28, l29, l30, l31, l32, l33, l34, l35, l36, l37, l38, l39, l40, l41, l42, l43, l44, l45, l46, l48, l50, l57, l59, l60, l63, l70, l71, l80, l97, l99, l100, l101, l103, l104, l105, l108, l110, l111, l114, l115, l116, l117, l119, l160, l200, l255, l1280, l12345, le_nn, lt_nn, eq_nn, cl_nn, ng_le, ng_lt, ng_lt2, ng_le2, ng_eq, mi_eq, mi_ne, mi_ne2, mi_mi, add_nn, mul_nn, sub_nn, refX, refY, not_false_eq_true, not_true_eq_false, Nat.not_lt_zero, Nat.zero_le, Nat.reduceLeDiff, Nat.reduceLT, Nat.reduceMul, Nat.reduceSub, true_or, or_true, or_false, false_or, mT_sI, mW_sI, mK_sI, mI_sI, mJ_sI, mR_sI, mT_sJ, mW_sJ, mK_sJ, mI_sJ, mJ_sJ, mR_sJ, mT_sR, mW_sR, mK_sR, mI_sR, mJ_sR, mR_sR, mT_gI, mW_gI, mK_gI, mI_gI, mJ_gI, mR_gI, mT_gJ, mW_gJ, mK_gJ, mI_gJ, mJ_gJ, mR_gJ, mT_wR, mW_wR, mK_wR, mI_wR, mJ_wR, mR_wR, h.y62, z])
  have w := hI.w17 (k := 1) (by omega)
  rw [Nat.pow_one] at w
  obtain ⟨M1, e1, f1, t1, o1, r1⟩ := look8 hF hS hI
  have hF1 := f1.fix hF
  obtain ⟨M2, e2, f2, t2⟩ := bal8 hI w.2 (by omega) (q 62) FU 0 M1 hF1 o1 r1 (Nat.add_zero _) (by unfold FU; omega)
  have fT := f1.trans f2
  have hF2 := fT.fix hF
  have hM2 := hM.fr hF fT OLS_md mem0
  have e9 := bal9 hF2 hM2 hI w.2 (by omega) (q 62) FU 0 (Nat.add_zero _) (by unfold FU; omega)
  refine ex_fr (r := eX1 (gi (fun i => wo q 8 (2 ^ i) od) (q 62))) (M1 := M2) (M2 := M2) h ?_ ?_ fT OLS_sca ⟨t2.1.trans t1.1, t2.2.trans t1.2⟩
  · unfold fX8_next
    rw [kb20 hF, rb20_1 hF, ib22 hF, h.x62, if_neg (show ¬ nI (q 62) = 0 by rw [l0, eq_nn (by omega) (by decide)]; exact z), rb20_1 hF, ib22 hF, h.x64, l1, add_nn, if_pos (by rw [l17, le_nn (by omega) (by decide)]; omega), rb20_7 hF, rb20_1 hF, bnd1 e1, rb20_7 hF1]
    unfold fX1_bestAlone
    rw [kb41 hF1, show (0 : Int32) = nI 0 from rfl]
    exact bnd1 e2 _
  · unfold fX9_next
    rw [kb80 hF2, ib80 hF2, hM2.f62, if_neg (show ¬ nI (q 62) = 0 by rw [l0, eq_nn (by omega) (by decide)]; exact z), show (0 : Int32) = nI 0 from rfl]
    exact e9
