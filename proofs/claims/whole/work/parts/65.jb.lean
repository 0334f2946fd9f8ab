theorem gc_zero {od : Nat → Nat} {L : Nat} (h : ∀ c, L ≤ c → od c = 0) : ∀ d, gc od (L + d) = gc od L := by
  intro d
  induction d with
  | zero => rfl
  | succ d ih =>
    show Nat.gcd (od (L + d)) (gc od (L + d)) = _
    rw [ih, h _ (by omega), Nat.gcd_zero_left]
theorem leY4 {M : Mm} (hF : FIX M) {od : Nat → Nat} {L : Nat} (e0 : mI M 80 0 = nI L) (hL : L ≤ 24) (g : ∀ c, c < 24 → mJ M 89 c = lN (od c)) (hB : ∀ c, od c ≤ 9223372036854775807) : ∀ n i, i ≤ L → L - i < n → fX9_lessens_b4 n 80 (lN (gc od i)) (nI i) M = if 2 ≤ gc od L then fX9_lessens_b68 FU 80 (lN (gc od L)) (nI 0) M else some M := by
  intro n
  induction n with
  | zero => intro i h1 h2; omega
  | succ n ih =>
    intro i h1 h2
    have hg := gc_le hB i
    have ho := hB i
    rw [fX9_lessens_b4]
    by_cases c : L ≤ i
    · have e : i = L := by omega
      subst e
      by_cases c2 : 2 ≤ gc od i
      · simp (disch := first | assumption | omega | (simp only [FIX_sI, FIX_sJ, FIX_gI, FIX_gJ]; assumption)) only [↓ib80, e0, l0, le_nn, Nat.le_refl, ↓reduceIte, show (2 : Int64) = lN 2 from rfl, le_LL, c2]
      · simp (disch := first | assumption | omega | (simp only [FIX_sI, FIX_sJ, FIX_gI, FIX_gJ]; assumption)) only [↓ib80, e0, l0, le_nn, Nat.le_refl, ↓reduceIte, show (2 : Int64) = lN 2 from rfl, le_LL, c2]
    · have ci : i < 24 := by omega
      simp (disch := first | assumption | omega | (simp only [FIX_sI, FIX_sJ, FIX_gI, FIX_gJ]; assumption)) only [↓ib80, e0, le_nn, c, ↓reduceIte, ↓rb80_21, ↓ab89, g i ci]
      rw [cpY M (fX9_lessens_b4 n) i 63 FU (gc od i) (od i) (by omega) (by decide) (by omega) (by omega)]
      exact ih (i + 1) (by omega) (by omega)
theorem leY68 {od : Nat → Nat} {L d : Nat} (hL : L ≤ 24) (hd : 1 < d) (hd2 : d < 9223372036854775808) (hB : ∀ c, od c ≤ 9223372036854775807) : ∀ n i (M : Mm), FIX M → mI M 80 0 = nI L → (∀ c, i ≤ c → c < 24 → mJ M 89 c = lN (od c)) → i ≤ L → L - i < n → fX9_lessens_b68 n 80 (lN d) (nI i) M = some (gJ M 89 i L (fun c => lN (od c / d))) := by
  intro n
  induction n with
  | zero => intro i M _ _ _ h1 h2; omega
  | succ n ih =>
    intro i M hF e0 g h1 h2
    rw [fX9_lessens_b68]
    by_cases c : L ≤ i
    · have e : i = L := by omega
      subst e
      simp (disch := first | assumption | omega | (simp only [FIX_sI, FIX_sJ, FIX_gI, FIX_gJ]; assumption)) only [↓ib80, e0, le_nn, Nat.le_refl, ↓reduceIte, gJ_end]
    · have ci : i < 24 := by omega
      have ho := hB i
      have dv := (mdJ_n (a := od i) (b := d) (by omega) (by omega) hd2).1
      simp (disch := first | assumption | omega | (simp only [FIX_sI, FIX_sJ, FIX_gI, FIX_gJ]; assumption)) only [↓ib80, e0, l1, le_nn, c, ↓reduceIte, ↓rb80_21, ↓ab89, g i (Nat.le_refl _) ci, ↓bnd1 dv, ↓tb89, add_nn]
      rw [ih (i + 1) (sJ M 89 i (lN (od i / d))) (by simp only [FIX_sI, FIX_sJ, FIX_gI, FIX_gJ]; exact hF) (by rw [mI_sJ]; exact e0) (fun x h3 h4 => by rw [mJ_sJ, if_neg (by omega)]; exact g x (by omega) h4) (by omega) (by omega), gJ_step (g := fun c => lN (od c / d)) (by omega) rfl]
theorem les9 {M : Mm} (hF : FIX M) {od : Nat → Nat} {L : Nat} (e0 : mI M 80 0 = nI L) (hL : L ≤ 24) (hz : ∀ c, L ≤ c → od c = 0) (g : ∀ c, c < 24 → mJ M 89 c = lN (od c)) (hB : ∀ c, od c ≤ 9223372036854775807) : ∃ M1, fX9_lessens 80 M = some M1 ∧ Fr [89] [] M M1 ∧ (mT M1 = mT M ∧ mW M1 = mW M) ∧ ∀ c, c < 24 → mJ M1 89 c = lN (les od c) := by
  have e := leY4 hF e0 hL g hB FU 0 (Nat.zero_le _) (by unfold FU; omega)
  have hg := gc_le hB 24
  have eL : gc od 24 = gc od L := by rw [show 24 = L + (24 - L) by omega]; exact gc_zero hz _
  have e2 : fX9_lessens 80 M = if 2 ≤ gc od L then fX9_lessens_b68 FU 80 (lN (gc od L)) (nI 0) M else some M := by
    unfold fX9_lessens
    rw [kb80 hF]
    exact e
  rw [← eL] at e2
  unfold les
  by_cases c : gc od 24 ≤ 1
  · refine ⟨M, ?_, Fr.rfl, ⟨rfl, rfl⟩, fun x hx => by rw [if_pos c]; exact g x hx⟩
    rw [e2, if_neg (by omega)]
  · refine ⟨gJ M 89 0 L (fun x => lN (od x / gc od 24)), ?_, Fr.gJ _ _ _ List.mem_cons_self, ⟨by simp only [mT_sI, mW_sI, mK_sI, mI_sI, mJ_sI, mR_sI, mT_sJ, mW_sJ, mK_sJ, mI_sJ, mJ_sJ, mR_sJ, mT_sR, mW_sR, mK_sR, mI_sR, mJ_sR, mR_sR, mT_gI, mW_gI, mK_gI, mI_gI, mJ_gI, mR_gI, mT_gJ, mW_gJ, mK_gJ, mI_gJ, mJ_gJ, mR_gJ, mT_wR, mW_wR, mK_wR, mI_wR, mJ_wR, mR_wR], by simp only [mT_sI, mW_sI, mK_sI, mI_sI, mJ_sI, mR_sI, mT_sJ, mW_sJ, mK_sJ, mI_sJ, mJ_sJ, mR_sJ, mT_sR, mW_sR, mK_sR, mI_sR, mJ_sR, mR_sR, mT_gI, mW_gI, mK_gI, mI_gI, mJ_gI, mR_gI, mT_gJ, mW_gJ, mK_gJ, mI_gJ, mJ_gJ, mR_gJ, mT_wR, mW_wR, mK_wR, mI_wR, mJ_wR, mR_wR]⟩, fun x hx => ?_⟩
    · rw [e2, if_pos (by omega)]
      exact leY68 hL (by omega) (by omega) hB FU 0 M hF e0 (fun x _ hx => g x hx) (Nat.zero_le _) (by unfold FU; omega)
    · rw [if_neg c, mJ_gJ]
      by_cases z : x < L
      · rw [if_pos ⟨rfl, Nat.zero_le _, z⟩]
      · rw [if_neg (fun y => z y.2.2), g x hx, hz x (by omega), Nat.zero_div]
