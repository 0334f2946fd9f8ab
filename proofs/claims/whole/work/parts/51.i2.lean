theorem St.ns {s : Nat} (hs : sl s) {q od : Nat → Nat} {sd : Int32} {M : Mm} (hF : FIX M) (h : St s q od sd M) {n k c a e : Nat} (hq : q 62 = n) (hq2 : q 63 ≤ 8) (hn : n < 8) : St s (qsg q n k c a e) od sd (nsM M s n k c a e) := by
  have hl := sl_lt hs
  have h0 := hF.1
  have hr : s + 1 ∈ rcs := by rcases hs with rfl | rfl | rfl <;> decide
  have f := fr_ns M s n k c a e hr
  have m1 : ∀ o, o ∈ [s + 1] → o < 107 := fun o ho => by rw [List.mem_singleton.mp ho]; omega
  have m2 : ∀ t, t ∈ [(s, 7)] → t.1 < 107 := fun t ht => by rw [List.mem_singleton.mp ht]; show s < 107; omega
  have n0 : ¬ s ∈ [s + 1] := by simp
  have ne : ∀ j, j ≠ 7 → ¬ (s, j) ∈ [(s, 7)] := fun j hj z => by simp at z; exact hj z
  obtain ⟨p1, p2, p3, p4, p5⟩ := qsg_n (q := q) (k := k) (c := c) (a := a) (e := e) hn
  obtain ⟨a1, b1, c1, d1, e1, g1, w1, w2, w3⟩ := h
  have i7 : mI (nsM M s n k c a e) s 7 = nI (n + 1) := by unfold nsM; rw [mI_sI, if_pos ⟨rfl, rfl⟩]
  have rr : ∀ i, mR (nsM M s n k c a e) (s + 1) i = if i = n then some (mT M) else mR M (s + 1) i := fun i => by
    unfold nsM
    simp only [mR_sI]
    rw [mR_sR]
    simp only [mR_sI]
    rw [mR_sN, if_neg (show ¬ s + 1 = mT M by omega)]
    by_cases z : i = n
    · rw [if_pos ⟨trivial, z⟩, if_pos z]
    · rw [if_neg (fun y => z y.2), if_neg z]
  have r2 : ∀ i, mR (nsM M s n k c a e) (s + 2) i = mR M (s + 2) i := fun i => f.R (by omega) (Or.inl (by simp)) i
  have tT : mT (nsM M s n k c a e) = mT M + 1 := by unfold nsM; simp only [mT_sI, mW_sI, mK_sI, mI_sI, mJ_sI, mR_sI, mT_sJ, mW_sJ, mK_sJ, mI_sJ, mJ_sJ, mR_sJ, mT_sR, mW_sR, mK_sR, mI_sR, mJ_sR, mR_sR, mT_gI, mW_gI, mK_gI, mI_gI, mJ_gI, mR_gI, mT_gJ, mW_gJ, mK_gJ, mI_gJ, mJ_gJ, mR_gJ, mT_wR, mW_wR, mK_wR, mI_wR, mJ_wR, mR_wR, mT_sN, mW_sN, mK_sN, mI_sN, mJ_sN, mR_sN]
  have kN : mK (nsM M s n k c a e) (mT M) = (5, 0) := by unfold nsM; simp only [mK_sI, mK_sR]; exact mK_new M
  have sg : Sg (nsM M s n k c a e) (mT M) n (qsg q n k c a e) := by
    refine ⟨h0, by rw [tT]; omega, kN, ?_, ?_, ?_, ?_, ?_⟩
    · unfold nsM
      rw [mI_sI, if_neg (by omega), mI_sR, mI_sI, if_neg (by omega), mI_sI, if_neg (by omega), mI_sI, if_neg (by omega), mI_sI, if_neg (by omega), mI_sI, if_pos ⟨rfl, rfl⟩]
    · unfold nsM
      rw [mI_sI, if_neg (by omega), mI_sR, mI_sI, if_neg (by omega), mI_sI, if_neg (by omega), mI_sI, if_neg (by omega), mI_sI, if_pos ⟨rfl, rfl⟩, p1]
    · unfold nsM
      rw [mI_sI, if_neg (by omega), mI_sR, mI_sI, if_neg (by omega), mI_sI, if_neg (by omega), mI_sI, if_pos ⟨rfl, rfl⟩, p2]
    · unfold nsM
      rw [mI_sI, if_neg (by omega), mI_sR, mI_sI, if_neg (by omega), mI_sI, if_pos ⟨rfl, rfl⟩, p3]
    · unfold nsM
      rw [mI_sI, if_neg (by omega), mI_sR, mI_sI, if_pos ⟨rfl, rfl⟩, p4]
  refine ⟨fun t ht => ?_, ?_, ?_, fun i hi => ?_, fun i hi => ?_, fun x hx => ?_, fun i hi r hr2 => ?_, fun i hi r hr2 => ?_, fun x hx => ?_⟩
  · have hj := SCL_inj (7, 62) (by decide) t ht
    by_cases z : t.1 = 7
    · rw [z, hj.1.mp z, i7, p5]
    · have hge := (SCL_inj t ht t ht).2.2.2.2
      rw [f.I (by omega) n0 (ne _ z), qsg_o ⟨by omega, by omega, by omega, by omega, fun y => z (hj.1.mpr y)⟩]
      exact a1 t ht
  · rw [f.I (by omega) n0 (ne _ (by decide)), qsg_o (by omega)]; exact b1
  · rw [f.I (by omega) n0 (ne _ (by decide))]; exact c1
  · rw [p5] at hi
    by_cases z : i = n
    · subst z
      exact ⟨mT M, by rw [rr, if_pos rfl], sg⟩
    · obtain ⟨r, hr2, x⟩ := d1 i (by omega)
      refine ⟨r, by rw [rr, if_neg z]; exact hr2, ?_⟩
      have := x.fr f m1 m2
      obtain ⟨y1, y2, y3, y4, y5, y6, y7, y8⟩ := this
      exact ⟨y1, y2, y3, y4, by rw [qsg_o (by omega)]; exact y5, by rw [qsg_o (by omega)]; exact y6, by rw [qsg_o (by omega)]; exact y7, by rw [qsg_o (by omega)]; exact y8⟩
  · rw [qsg_o (by omega)] at hi
    obtain ⟨r, hr2, x⟩ := e1 i hi
    refine ⟨r, by rw [r2]; exact hr2, ?_⟩
    obtain ⟨y1, y2, y3, y4, y5, y6⟩ := x.fr f m1 m2
    exact ⟨y1, y2, y3, by rw [qsg_o (by omega)]; exact y4, by rw [qsg_o (by omega)]; exact y5, by rw [qsg_o (by omega)]; exact y6⟩
  · rw [f.J (by omega) (by simp)]; exact g1 x hx
  · rw [rr] at hr2
    by_cases z : i = n
    · rw [if_pos z] at hr2
      cases hr2
      exact ⟨h0, by rw [tT]; omega, kN⟩
    · rw [if_neg z] at hr2
      obtain ⟨y1, y2, y3⟩ := w1 i hi r hr2
      exact ⟨y1, by rw [tT]; omega, by rw [f.2.1 r y2]; exact y3⟩
  · rw [r2] at hr2
    obtain ⟨y1, y2, y3⟩ := w2 i hi r hr2
    exact ⟨y1, by rw [tT]; omega, by rw [f.2.1 r y2]; exact y3⟩
  · rw [f.J (by omega) (by simp)]; exact w3 x hx
def nsY (M : Mm) (n k c a e : Nat) : Mm := sI (sI (sI (sI (sI M 82 n (nI k)) 83 n (nI c)) 84 n (nI a)) 85 n (nI e)) 80 6 (nI (n + 1))
theorem add9 {M : Mm} (hF : FIX M) {n k c a e : Nat} (hn : n < 8) (h : mI M 80 6 = nI n) : fX9_signs 80 (nI k) (nI c) (nI a) (nI e) M = some (nI n, nsY M n k c a e) := by
  unfold fX9_signs nsY
  simp (disch := first | assumption | omega | (simp only [FIX_sI, FIX_sJ, FIX_gI, FIX_gJ]; assumption)) only [↓kb80, ↓rb80_14, ↓rb80_15, ↓rb80_16, ↓rb80_17, ↓ib80, ↓pb80, ↓tb82, ↓tb83, ↓tb84, ↓tb85, mI_sI, Nat.reduceEqDiff, false_and, ↓reduceIte, h, l1, add_nn]
