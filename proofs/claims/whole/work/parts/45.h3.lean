/-! shelves that let their signs go -/
def HS : List Nat := [64, 66, 68, 70, 72, 74, 76, 78]
theorem HS_in {s : Nat} (h : s < 8) : 64 + 2 * s ∈ HS := by
  have : ∀ s, s < 8 → 64 + 2 * s ∈ HS := by decide
  exact this s h
def dr (x : Int32) (M : Mm) (s k : Nat) : Int32 := if mI M (64 + 2 * s) 0 < nI 100 ∧ ¬ mI M (64 + 2 * s) 0 < x then (if k = 0 then -nI 1 else if k = 1 then nI 0 else mI M (64 + 2 * s) k) else mI M (64 + 2 * s) k
theorem abR {β : Type} {M : Mm} (h : FIX M) {s : Nat} (hs : s < 8) (f : Option Nat → Option β) : Option.bind (aR M 22 21 (nI s)) f = f (some (64 + 2 * s)) := by
  have hc := nI_clamp (show s < 2 ^ 31 by omega)
  refine bnd1 ?_ f
  unfold aR
  rw [if_pos (by rw [K21 h, hc]; exact ⟨rfl, nI_pos (by omega), hs⟩), hc, rH h hs]
theorem hr8 {M : Mm} (h : FIX M) {s : Nat} (hs : s < 8) : fX3_holdsRow (64 + 2 * s) M = some (if mI M (64 + 2 * s) 0 < nI 100 then nI 0 else nI 1, M) := by
  unfold fX3_holdsRow
  by_cases c : mI M (64 + 2 * s) 0 < nI 100
  · simp (disch := first | assumption | omega | (simp only [FIX_sI, FIX_sJ, FIX_gI, FIX_gJ]; assumption)) only [↓kbH, ↓ibH, l0, l1, l100, c, ↓reduceIte]
  · simp (disch := first | assumption | omega | (simp only [FIX_sI, FIX_sJ, FIX_gI, FIX_gJ]; assumption)) only [↓kbH, ↓ibH, l0, l1, l100, c, ↓reduceIte]
theorem ts8 {M : Mm} (h : FIX M) {s : Nat} (hs : s < 8) (v : Int32) : fX3_takeSign (64 + 2 * s) v M = some (sI (sI M (64 + 2 * s) 0 v) (64 + 2 * s) 1 (nI 0)) := by
  unfold fX3_takeSign
  simp (disch := first | assumption | omega | (simp only [FIX_sI, FIX_sJ, FIX_gI, FIX_gJ]; assumption)) only [↓kbH, ↓pbH, l0]
theorem drX (x : Int32) : ∀ n i (M : Mm), FIX M → i ≤ 8 → 8 - i < n → ∃ M1, fX8_dropSignsFrom_b2 n 20 x (nI i) M = some M1 ∧ Fr HS [] M M1 ∧ (mT M1 = mT M ∧ mW M1 = mW M) ∧ ∀ s, s < 8 → ∀ k, mI M1 (64 + 2 * s) k = if i ≤ s then dr x M s k else mI M (64 + 2 * s) k := by
  intro n
  induction n with
  | zero => intro i M _ h1 h2; omega
  | succ n ih =>
    intro i M hF h1 h2
    unfold fX8_dropSignsFrom_b2
    by_cases c : 8 ≤ i
    · refine ⟨M, by simp (disch := first | assumption | omega | (simp only [FIX_sI, FIX_sJ, FIX_gI, FIX_gJ]; assumption)) only [l8, le_nn, c, ↓reduceIte], Fr.rfl, ⟨rfl, rfl⟩, fun s hs k => ?_⟩
      rw [if_neg (by omega)]
    · have ci : i < 8 := by omega
      have e1 := hr8 hF ci
      by_cases c1 : mI M (64 + 2 * i) 0 < nI 100
      · rw [if_pos c1] at e1
        by_cases c2 : mI M (64 + 2 * i) 0 < x
        · obtain ⟨M1, a, f, t, g⟩ := ih (i + 1) M hF (by omega) (by omega)
          refine ⟨M1, by simp (disch := first | assumption | omega | (simp only [FIX_sI, FIX_sJ, FIX_gI, FIX_gJ]; assumption)) only [l8, l0, l1, le_nn, c, ↓reduceIte, ↓rb20_0, ↓abR, ↓Option.elim_some, ↓bnd1 e1, ↓ibH, c2, add_nn]; exact a, f, t, fun s hs k => ?_⟩
          rw [g s hs k]
          by_cases e : s = i
          · subst e
            rw [if_neg (by omega), if_pos (Nat.le_refl _), dr, if_neg (fun z => z.2 c2)]
          · by_cases z : i ≤ s
            · rw [if_pos (by omega), if_pos z]
            · rw [if_neg (by omega), if_neg z]
        · obtain ⟨M1, a, f, t, g⟩ := ih (i + 1) (sI (sI M (64 + 2 * i) 0 (-nI 1)) (64 + 2 * i) 1 (nI 0)) (by simp only [FIX_sI, FIX_sJ, FIX_gI, FIX_gJ]; exact hF) (by omega) (by omega)
          have e2 := ts8 hF ci (-nI 1)
          have f0 : Fr HS [] M (sI (sI M (64 + 2 * i) 0 (-nI 1)) (64 + 2 * i) 1 (nI 0)) := (Fr.oI _ _ (Or.inl (HS_in ci))).tr (Fr.oI _ _ (Or.inl (HS_in ci)))
          simp only [mT_sI, mW_sI, mK_sI, mI_sI, mJ_sI, mR_sI, mT_sJ, mW_sJ, mK_sJ, mI_sJ, mJ_sJ, mR_sJ, mT_sR, mW_sR, mK_sR, mI_sR, mJ_sR, mR_sR, mT_gI, mW_gI, mK_gI, mI_gI, mJ_gI, mR_gI, mT_gJ, mW_gJ, mK_gJ, mI_gJ, mJ_gJ, mR_gJ, mT_wR, mW_wR, mK_wR, mI_wR, mJ_wR, mR_wR] at t
          refine ⟨M1, by simp (disch := first | assumption | omega | (simp only [FIX_sI, FIX_sJ, FIX_gI, FIX_gJ]; assumption)) only [l8, l0, l1, le_nn, c, ↓reduceIte, ↓rb20_0, ↓abR, ↓Option.elim_some, ↓bnd1 e1, ↓ibH, c2, ↓bnd1 e2, add_nn]; exact a, f0.tr f, t, fun s hs k => ?_⟩
          rw [g s hs k]
          by_cases e : s = i
          · subst e
            rw [if_neg (by omega), if_pos (Nat.le_refl _), dr, if_pos ⟨c1, c2⟩, mI_sI, mI_sI]
            by_cases k1 : k = 1
            · subst k1
              rw [if_pos ⟨rfl, rfl⟩, if_neg (by decide), if_pos rfl]
            · rw [if_neg (fun z => k1 z.2)]
              by_cases k0 : k = 0
              · rw [if_pos ⟨rfl, k0⟩, if_pos k0]
              · rw [if_neg (fun z => k0 z.2), if_neg k0, if_neg k1]
          · have hne : ∀ j, mI (sI (sI M (64 + 2 * i) 0 (-nI 1)) (64 + 2 * i) 1 (nI 0)) (64 + 2 * s) j = mI M (64 + 2 * s) j := fun j => by rw [mI_sI, if_neg (by omega), mI_sI, if_neg (by omega)]
            unfold dr
            rw [hne, hne]
            by_cases z : i ≤ s
            · rw [if_pos (by omega), if_pos z]
            · rw [if_neg (by omega), if_neg z]
      · rw [if_neg c1] at e1
        obtain ⟨M1, a, f, t, g⟩ := ih (i + 1) M hF (by omega) (by omega)
        refine ⟨M1, by simp (disch := first | assumption | omega | (simp only [FIX_sI, FIX_sJ, FIX_gI, FIX_gJ]; assumption)) only [l8, l0, l1, le_nn, eq_nn, Nat.reduceEqDiff, c, ↓reduceIte, ↓rb20_0, ↓abR, ↓Option.elim_some, ↓bnd1 e1, add_nn]; exact a, f, t, fun s hs k => ?_⟩
        rw [g s hs k]
        by_cases e : s = i
        · subst e
          rw [if_neg (by omega), if_pos (Nat.le_refl _), dr, if_neg (fun z => c1 z.1)]
        · by_cases z : i ≤ s
          · rw [if_pos (by omega), if_pos z]
          · rw [if_neg (by omega), if_neg z]
theorem gI_skip {M : Mm} {a i n : Nat} {g : Nat → Int32} (h : i < n) (hv : mI M a i = g i) : gI M a (i + 1) n g = gI M a i n g := by
  have : (fun x j => if x = a ∧ i + 1 ≤ j ∧ j < n then g j else mI M x j) = (fun x j => if x = a ∧ i ≤ j ∧ j < n then g j else mI M x j) := by
    funext x j
    by_cases e : x = a ∧ j = i
    · obtain ⟨rfl, rfl⟩ := e
      rw [if_neg (by omega), if_pos (by omega), hv]
    · by_cases e2 : x = a ∧ i + 1 ≤ j ∧ j < n
      · rw [if_pos e2, if_pos (by omega)]
      · rw [if_neg e2, if_neg (by omega)]
  unfold gI
  rw [this]
theorem emY (m : Nat → Int32) : ∀ n i (M : Mm), FIX M → (∀ s, i ≤ s → s < 8 → mI M 91 s = m s) → i ≤ 8 → 8 - i < n → fX9_empties_b2 n 80 (nI i) M = some (gI M 91 i 8 (fun s => if m s = nI 2 then nI 0 else m s)) := by
  intro n
  induction n with
  | zero => intro i M _ _ h1 h2; omega
  | succ n ih =>
    intro i M hF hm h1 h2
    unfold fX9_empties_b2
    by_cases c : 8 ≤ i
    · have e : i = 8 := by omega
      subst e
      simp (disch := first | assumption | omega | (simp only [FIX_sI, FIX_sJ, FIX_gI, FIX_gJ]; assumption)) only [l8, le_nn, Nat.le_refl, ↓reduceIte, gI_end]
    · have ci : i < 8 := by omega
      have mi := hm i (Nat.le_refl _) ci
      by_cases c2 : m i = nI 2
      · simp (disch := first | assumption | omega | (simp only [FIX_sI, FIX_sJ, FIX_gI, FIX_gJ]; assumption)) only [l8, l0, l1, l2, le_nn, c, ↓reduceIte, ↓rb80_23, ↓ab91, ↓tb91, mi, c2, add_nn]
        rw [ih (i + 1) (sI M 91 i (nI 0)) (by simp only [FIX_sI, FIX_sJ, FIX_gI, FIX_gJ]; exact hF) (fun s h3 h4 => by rw [mI_sI, if_neg (by omega)]; exact hm s (by omega) h4) (by omega) (by omega), gI_step ci (by rw [if_pos c2])]
      · simp (disch := first | assumption | omega | (simp only [FIX_sI, FIX_sJ, FIX_gI, FIX_gJ]; assumption)) only [l8, l0, l1, l2, le_nn, c, ↓reduceIte, ↓rb80_23, ↓ab91, ↓tb91, mi, c2, add_nn]
        rw [ih (i + 1) M hF (fun s h3 h4 => hm s (by omega) h4) (by omega) (by omega), gI_skip ci (by rw [if_neg c2]; exact mi)]
