def ntM (M : Mm) (s n : Nat) (k c a : Nat) : Mm := sI (sR (sI (sI (sI (sN M 7 0 3) (mT M) 0 (nI k)) (mT M) 1 (nI c)) (mT M) 2 (nI a)) (s + 2) n (some (mT M))) s 9 (nI (n + 1))
theorem mK_newt (M : Mm) : mK (sN M 7 0 3) (mT M) = (7, 0) := by rw [mK_sN, if_pos rfl]
theorem addt8 {s : Nat} (hs : sl s) {M : Mm} (hF : FIX M) {n k c a : Nat} (hn : n < 8) (hc1 : c ≤ 1) (h : mI M s 9 = nI n) : fX5_addThing s (nI k) (nI c) (nI a) M = some (nI n, ntM M s n k c a) := by
  have hl := sl_lt hs
  have h0 := hF.1
  have kn := mK_newt M
  have hF1 : FIX (sN M 7 0 3) := hF.sN 7 0 3
  have hF2 : FIX (sI (sI (sI (sN M 7 0 3) (mT M) 0 (nI k)) (mT M) 1 (nI c)) (mT M) 2 (nI a)) := by
    simp only [FIX_sI]; exact hF1
  have pz : ∀ c, c ≤ 1 → nI c &&& 1 = nI c := by decide
  have hi : fX6_init (mT M) (nI k) (nI c) (nI a) (sN M 7 0 3) = some (sI (sI (sI (sN M 7 0 3) (mT M) 0 (nI k)) (mT M) 1 (nI c)) (mT M) 2 (nI a)) := by
    unfold fX6_init
    simp only [kc, pI, pZ, pz c hc1, mK_sI, kn, Nat.reduceAdd, and_self, ↓reduceIte, Option.bind_some]
  have ht : tR (sI (sI (sI (sN M 7 0 3) (mT M) 0 (nI k)) (mT M) 1 (nI c)) (mT M) 2 (nI a)) 24 6 (s + 2) (nI n) (some (mT M)) = some (sR (sI (sI (sI (sN M 7 0 3) (mT M) 0 (nI k)) (mT M) 1 (nI c)) (mT M) 2 (nI a)) (s + 2) n (some (mT M))) := by
    have hc := nI_clamp (show n < 2 ^ 31 by omega)
    unfold tR
    rw [if_pos, hc]
    rw [kS2 hF2 hs, hc]
    refine ⟨rfl, nI_pos (by omega), hn, fun a ha => ?_⟩
    cases ha
    simp only [mK_sI, kn]
  have hF3 : FIX (sR (sI (sI (sI (sN M 7 0 3) (mT M) 0 (nI k)) (mT M) 1 (nI c)) (mT M) 2 (nI a)) (s + 2) n (some (mT M))) := hF2.sR n _ (by rcases hs with rfl | rfl | rfl <;> decide)
  have h7 : mI (sR (sI (sI (sI (sN M 7 0 3) (mT M) 0 (nI k)) (mT M) 1 (nI c)) (mT M) 2 (nI a)) (s + 2) n (some (mT M))) s 9 = nI n := by
    rw [mI_sR, mI_sI, if_neg (by omega), mI_sI, if_neg (by omega), mI_sI, if_neg (by omega), mI_sN, if_neg (by omega)]
    exact h
  have n8 : ¬ 8 ≤ n := by omega
  unfold fX5_addThing ntM
  rw [kbS hs hF, ibS hs hF, h]
  simp (disch := first | assumption | omega | (simp only [FIX_sI, FIX_sJ, FIX_gI, FIX_gJ]; assumption)) only [l0, l1, l8, le_nn, lt_nn, n8, Nat.not_lt_zero, ↓reduceIte, ↓rbS8 hs, nO, Option.bind_some, hi, ht, ↓ibS hs hF3, h7, ↓pbS hs hF3, add_nn]
theorem fr_nt (M : Mm) (s n k c a : Nat) (hs : s + 2 ∈ rcs) : Fr [s + 2] [(s, 9)] M (ntM M s n k c a) := by
  unfold ntM
  have f0 : Fr [s + 2] [(s, 9)] M (sI (sI (sI (sN M 7 0 3) (mT M) 0 (nI k)) (mT M) 1 (nI c)) (mT M) 2 (nI a)) := (((Fr.oN 7 0 3).xI _ _ (Nat.le_refl _)).xI _ _ (Nat.le_refl _)).xI _ _ (Nat.le_refl _)
  exact (f0.tr (Fr.oR _ _ List.mem_cons_self hs)).tr (Fr.oI _ _ (Or.inr List.mem_cons_self))
def qth (q : Nat → Nat) (n k c a : Nat) : Nat → Nat := u1 (u1 (u1 (u1 q (32 + n) k) (40 + n) c) (48 + n) a) 63 (n + 1)
theorem qth_o {q : Nat → Nat} {n k c a i : Nat} (h : i ≠ 32 + n ∧ i ≠ 40 + n ∧ i ≠ 48 + n ∧ i ≠ 63) : qth q n k c a i = q i := by
  unfold qth u1
  rw [if_neg h.2.2.2, if_neg h.2.2.1, if_neg h.2.1, if_neg h.1]
theorem qth_n {q : Nat → Nat} {n k c a : Nat} (hn : n < 8) : qth q n k c a (32 + n) = k ∧ qth q n k c a (40 + n) = c ∧ qth q n k c a (48 + n) = a ∧ qth q n k c a 63 = n + 1 := by
  unfold qth u1
  refine ⟨?_, ?_, ?_, if_pos rfl⟩
  · rw [if_neg (by omega), if_neg (by omega), if_neg (by omega), if_pos rfl]
  · rw [if_neg (by omega), if_neg (by omega), if_pos rfl]
  · rw [if_neg (by omega), if_pos rfl]
theorem St.nt {s : Nat} (hs : sl s) {q od : Nat → Nat} {sd : Int32} {M : Mm} (hF : FIX M) (h : St s q od sd M) {n k c a : Nat} (hq : q 63 = n) (hq2 : q 62 ≤ 8) (hn : n < 8) : St s (qth q n k c a) od sd (ntM M s n k c a) := by
  have hl := sl_lt hs
  have h0 := hF.1
  have hr : s + 2 ∈ rcs := by rcases hs with rfl | rfl | rfl <;> decide
  have f := fr_nt M s n k c a hr
  have m1 : ∀ o, o ∈ [s + 2] → o < 107 := fun o ho => by rw [List.mem_singleton.mp ho]; omega
  have m2 : ∀ t, t ∈ [(s, 9)] → t.1 < 107 := fun t ht => by rw [List.mem_singleton.mp ht]; show s < 107; omega
  have n0 : ¬ s ∈ [s + 2] := by simp
  have ne : ∀ j, j ≠ 9 → ¬ (s, j) ∈ [(s, 9)] := fun j hj z => by simp at z; exact hj z
  obtain ⟨p1, p2, p3, p5⟩ := qth_n (q := q) (k := k) (c := c) (a := a) hn
  obtain ⟨a1, b1, c1, d1, e1, g1, w1, w2, w3⟩ := h
  have i7 : mI (ntM M s n k c a) s 9 = nI (n + 1) := by unfold ntM; rw [mI_sI, if_pos ⟨rfl, rfl⟩]
  have rr : ∀ i, mR (ntM M s n k c a) (s + 2) i = if i = n then some (mT M) else mR M (s + 2) i := fun i => by
    unfold ntM
    simp only [mR_sI]
    rw [mR_sR]
    simp only [mR_sI]
    rw [mR_sN, if_neg (show ¬ s + 2 = mT M by omega)]
    by_cases z : i = n
    · rw [if_pos ⟨trivial, z⟩, if_pos z]
    · rw [if_neg (fun y => z y.2), if_neg z]
  have r2 : ∀ i, mR (ntM M s n k c a) (s + 1) i = mR M (s + 1) i := fun i => f.R (by omega) (Or.inl (by simp)) i
  have tT : mT (ntM M s n k c a) = mT M + 1 := by unfold ntM; simp only [mT_sI, mW_sI, mK_sI, mI_sI, mJ_sI, mR_sI, mT_sJ, mW_sJ, mK_sJ, mI_sJ, mJ_sJ, mR_sJ, mT_sR, mW_sR, mK_sR, mI_sR, mJ_sR, mR_sR, mT_gI, mW_gI, mK_gI, mI_gI, mJ_gI, mR_gI, mT_gJ, mW_gJ, mK_gJ, mI_gJ, mJ_gJ, mR_gJ, mT_wR, mW_wR, mK_wR, mI_wR, mJ_wR, mR_wR, mT_sN, mW_sN, mK_sN, mI_sN, mJ_sN, mR_sN]
  have kN : mK (ntM M s n k c a) (mT M) = (7, 0) := by unfold ntM; simp only [mK_sI, mK_sR]; exact mK_newt M
  have sg : Th (ntM M s n k c a) (mT M) n (qth q n k c a) := by
    refine ⟨h0, by rw [tT]; omega, kN, ?_, ?_, ?_⟩
    · unfold ntM
      rw [mI_sI, if_neg (by omega), mI_sR, mI_sI, if_neg (by omega), mI_sI, if_neg (by omega), mI_sI, if_pos ⟨rfl, rfl⟩, p1]
    · unfold ntM
      rw [mI_sI, if_neg (by omega), mI_sR, mI_sI, if_neg (by omega), mI_sI, if_pos ⟨rfl, rfl⟩, p2]
    · unfold ntM
      rw [mI_sI, if_neg (by omega), mI_sR, mI_sI, if_pos ⟨rfl, rfl⟩, p3]
  refine ⟨fun t ht => ?_, ?_, ?_, fun i hi => ?_, fun i hi => ?_, fun x hx => ?_, fun i hi r hr2 => ?_, fun i hi r hr2 => ?_, fun x hx => ?_⟩
  · have hj := SCL_inj (9, 63) (by decide) t ht
    by_cases z : t.1 = 9
    · rw [z, hj.1.mp z, i7, p5]
    · have hge := (SCL_inj t ht t ht).2.2.2.2
      rw [f.I (by omega) n0 (ne _ z), qth_o ⟨by omega, by omega, by omega, fun y => z (hj.1.mpr y)⟩]
      exact a1 t ht
  · rw [f.I (by omega) n0 (ne _ (by decide)), qth_o (by omega)]; exact b1
  · rw [f.I (by omega) n0 (ne _ (by decide))]; exact c1
  · rw [qth_o (by omega)] at hi
    obtain ⟨r, hr2, x⟩ := d1 i hi
    refine ⟨r, by rw [r2]; exact hr2, ?_⟩
    obtain ⟨y1, y2, y3, y4, y5, y6, y7, y8⟩ := x.fr f m1 m2
    exact ⟨y1, y2, y3, y4, by rw [qth_o (by omega)]; exact y5, by rw [qth_o (by omega)]; exact y6, by rw [qth_o (by omega)]; exact y7, by rw [qth_o (by omega)]; exact y8⟩
  · rw [p5] at hi
    by_cases z : i = n
    · subst z
      exact ⟨mT M, by rw [rr, if_pos rfl], sg⟩
    · obtain ⟨r, hr2, x⟩ := e1 i (by omega)
      refine ⟨r, by rw [rr, if_neg z]; exact hr2, ?_⟩
      obtain ⟨y1, y2, y3, y4, y5, y6⟩ := x.fr f m1 m2
      exact ⟨y1, y2, y3, by rw [qth_o (by omega)]; exact y4, by rw [qth_o (by omega)]; exact y5, by rw [qth_o (by omega)]; exact y6⟩
  · rw [f.J (by omega) (by simp)]; exact g1 x hx
  · rw [r2] at hr2
    obtain ⟨y1, y2, y3⟩ := w1 i hi r hr2
    exact ⟨y1, by rw [tT]; omega, by rw [f.2.1 r y2]; exact y3⟩
  · rw [rr] at hr2
    by_cases z : i = n
    · rw [if_pos z] at hr2
      cases hr2
      exact ⟨h0, by rw [tT]; omega, kN⟩
    · rw [if_neg z] at hr2
      obtain ⟨y1, y2, y3⟩ := w2 i hi r hr2
      exact ⟨y1, by rw [tT]; omega, by rw [f.2.1 r y2]; exact y3⟩
  · rw [f.J (by omega) (by simp)]; exact w3 x hx
def ntY (M : Mm) (n k c a : Nat) : Mm := sI (sI (sI (sI M 86 n (nI k)) 87 n (nI c)) 88 n (nI a)) 80 7 (nI (n + 1))
theorem addt9 {M : Mm} (hF : FIX M) {n k c a : Nat} (hn : n < 8) (h : mI M 80 7 = nI n) : fX9_stands 80 (nI k) (nI c) (nI a) M = some (nI n, ntY M n k c a) := by
  unfold fX9_stands ntY
  simp (disch := first | assumption | omega | (simp only [FIX_sI, FIX_sJ, FIX_gI, FIX_gJ]; assumption)) only [↓kb80, ↓rb80_18, ↓rb80_19, ↓rb80_20, ↓ib80, ↓pb80, ↓tb86, ↓tb87, ↓tb88, mI_sI, Nat.reduceEqDiff, false_and, ↓reduceIte, h, l1, add_nn]
