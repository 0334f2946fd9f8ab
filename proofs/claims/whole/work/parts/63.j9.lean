/-- the odds, lessened -/
def les (od : Nat → Nat) : Nat → Nat := if gc od 24 ≤ 1 then od else fun c => od c / gc od 24
theorem leX35 {s : Nat} (hs : sl s) {od : Nat → Nat} {d : Nat} (hd : 1 < d) (hd2 : d < 9223372036854775808) (hB : ∀ c, od c ≤ 9223372036854775807) : ∀ n i (M : Mm), FIX M → (∀ c, i ≤ c → c < 24 → mJ M (s + 4) c = lN (od c)) → i ≤ 24 → 24 - i < n → fX0_lessen_b35 n (s + 3) (lN d) (nI i) M = some (gJ M (s + 4) i 24 (fun c => lN (od c / d))) := by
  intro n
  induction n with
  | zero => intro i M _ _ h1 h2; omega
  | succ n ih =>
    intro i M hF g h1 h2
    rw [fX0_lessen_b35]
    by_cases c : 24 ≤ i
    · have e : i = 24 := by omega
      subst e
      simp (disch := first | assumption | omega | (simp only [FIX_sI, FIX_sJ, FIX_gI, FIX_gJ]; assumption)) only [l24, le_nn, Nat.le_refl, ↓reduceIte, gJ_end]
    · have ci : i < 24 := by omega
      have ho := hB i
      have n1 : ¬ lN d ≤ lN 1 := by rw [le_LL hd2 (by decide)]; omega
      have dv := (mdJ_n (a := od i) (b := d) (by omega) (by omega) hd2).1
      simp (disch := first | assumption | omega | (simp only [FIX_sI, FIX_sJ, FIX_gI, FIX_gJ]; assumption)) only [l24, l1, le_nn, c, lN1, n1, ↓reduceIte, ↓rbO0 hs, ↓abW hs, g i (Nat.le_refl _) ci, ↓bnd1 dv, ↓tbW hs, add_nn]
      rw [ih (i + 1) (sJ M (s + 4) i (lN (od i / d))) (by simp only [FIX_sI, FIX_sJ, FIX_gI, FIX_gJ]; exact hF) (fun x h3 h4 => by rw [mJ_sJ, if_neg (by omega)]; exact g x (by omega) h4) (by omega) (by omega), gJ_step (g := fun c => lN (od c / d)) ci rfl]
theorem les8 {s : Nat} (hs : sl s) {M : Mm} (hF : FIX M) {od : Nat → Nat} (g : ∀ c, c < 24 → mJ M (s + 4) c = lN (od c)) (hB : ∀ c, od c ≤ 9223372036854775807) : ∃ M1, fX0_lessen (s + 3) M = some M1 ∧ Fr [s + 4] [] M M1 ∧ (mT M1 = mT M ∧ mW M1 = mW M) ∧ ∀ c, c < 24 → mJ M1 (s + 4) c = lN (les od c) := by
  have e := leX4 hs hF g hB FU 0 (by decide) (by decide)
  have hg := gc_le hB 24
  have e2 : fX0_lessen (s + 3) M = fX0_lessen_b35 FU (s + 3) (lN (gc od 24)) (nI 0) M := by
    unfold fX0_lessen
    rw [kbO hs hF]
    exact e
  unfold les
  by_cases c : gc od 24 ≤ 1
  · refine ⟨M, ?_, Fr.rfl, ⟨rfl, rfl⟩, fun x hx => by rw [if_pos c]; exact g x hx⟩
    have n1 : lN (gc od 24) ≤ lN 1 := by rw [le_LL (by omega) (by decide)]; exact c
    rw [e2, show FU = 1999 + 1 from rfl, fX0_lessen_b35]
    simp (disch := first | assumption | omega | (simp only [FIX_sI, FIX_sJ, FIX_gI, FIX_gJ]; assumption)) only [l24, le_nn, Nat.reduceLeDiff, lN1, n1, ↓reduceIte]
  · refine ⟨gJ M (s + 4) 0 24 (fun x => lN (od x / gc od 24)), ?_, Fr.gJ _ _ _ List.mem_cons_self, ⟨by simp only [mT_sI, mW_sI, mK_sI, mI_sI, mJ_sI, mR_sI, mT_sJ, mW_sJ, mK_sJ, mI_sJ, mJ_sJ, mR_sJ, mT_sR, mW_sR, mK_sR, mI_sR, mJ_sR, mR_sR, mT_gI, mW_gI, mK_gI, mI_gI, mJ_gI, mR_gI, mT_gJ, mW_gJ, mK_gJ, mI_gJ, mJ_gJ, mR_gJ, mT_wR, mW_wR, mK_wR, mI_wR, mJ_wR, mR_wR], by simp only [mT_sI, mW_sI, mK_sI, mI_sI, mJ_sI, mR_sI, mT_sJ, mW_sJ, mK_sJ, mI_sJ, mJ_sJ, mR_sJ, mT_sR, mW_sR, mK_sR, mI_sR, mJ_sR, mR_sR, mT_gI, mW_gI, mK_gI, mI_gI, mJ_gI, mR_gI, mT_gJ, mW_gJ, mK_gJ, mI_gJ, mJ_gJ, mR_gJ, mT_wR, mW_wR, mK_wR, mI_wR, mJ_wR, mR_wR]⟩, fun x hx => by rw [if_neg c, mJ_gJ, if_pos ⟨rfl, Nat.zero_le _, hx⟩]⟩
    rw [e2]
    exact leX35 hs (by omega) (by omega) hB FU 0 M hF (fun x _ hx => g x hx) (by decide) (by decide)
