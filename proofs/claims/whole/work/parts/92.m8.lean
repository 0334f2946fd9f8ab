/-! acts: the reference, the call -/
def TY (l : List Nat) (M : Mm) : Prop := mI M 80 47 = nI l.length ∧ ∀ i, i < 20 → i < l.length → mI M 106 i = nI (l.getD i 0)
theorem tad9 {M : Mm} (hF : FIX M) {l : List Nat} (h : TY l M) (hl : l.length < 100) (b : Nat) : ∃ M', fX9_body 80 (nI b) M = some M' ∧ TY (l ++ [b]) M' ∧ Fr [106] [(80, 47)] M M' ∧ (mT M' = mT M ∧ mW M' = mW M) := by
  have fin : ∀ N, FIX N → mI N 80 47 = nI l.length → fX9_body_b19 80 N = some (sI N 80 47 (nI (l.length + 1))) := fun N hN h1 => by
    unfold fX9_body_b19
    rw [ib80 hN, h1, show nI l.length + (1 : Int32) = nI (l.length + 1) from add_nn _ 1, pb80 hN]
  unfold fX9_body
  rw [kb80 hF, ib80 hF, h.1]
  by_cases c : 20 ≤ l.length
  · rw [if_pos (by rw [l20, le_nn (by decide) (by omega)]; exact c), fin M hF h.1]
    refine ⟨_, rfl, ⟨by rw [mI_sI, if_pos ⟨rfl, rfl⟩, len1], fun i h1 h2 => ?_⟩, Fr.oI _ _ (Or.inr List.mem_cons_self), ⟨mT_sI _ _ _ _, mW_sI _ _ _ _⟩⟩
    rw [mI_sI, if_neg (by omega), getD_app (by omega)]
    exact h.2 i h1 (by omega)
  · have hF2 : FIX (sI M 106 l.length (nI b)) := by rw [FIX_sI]; exact hF
    rw [if_neg (by rw [l20, le_nn (by decide) (by omega)]; exact c), rb80_46 hF, ib80 hF, h.1, tb106 hF (by omega), fin _ hF2 (by rw [mI_sI, if_neg (by omega)]; exact h.1)]
    refine ⟨_, rfl, ⟨by rw [mI_sI, if_pos ⟨rfl, rfl⟩, len1], fun i h1 h2 => ?_⟩, (Fr.oI _ _ (Or.inl List.mem_cons_self)).tr (Fr.oI _ _ (Or.inr List.mem_cons_self)), ⟨by rw [mT_sI, mT_sI], by rw [mW_sI, mW_sI]⟩⟩
    rw [mI_sI, if_neg (by omega), mI_sI]
    by_cases z : i = l.length
    · rw [if_pos ⟨rfl, z⟩, z, getD_app2]
    · rw [len1] at h2
      rw [if_neg (fun y => z y.2), getD_app (by omega)]
      exact h.2 i h1 (by omega)
def CY (q od : Nat → Nat) (sd : Int32) (l : List Nat) (M : Mm) : Prop := FIX M ∧ MD q od sd M ∧ TY l M
theorem CY.add {q od : Nat → Nat} {sd : Int32} {l : List Nat} {M : Mm} (h : CY q od sd l M) (hl : l.length < 100) (b : Nat) : ∃ M', fX9_body 80 (nI b) M = some M' ∧ CY q od sd (l ++ [b]) M' ∧ Fr [106] [(80, 47)] M M' ∧ (mT M' = mT M ∧ mW M' = mW M) := by
  obtain ⟨hF, hM, hT⟩ := h
  obtain ⟨M', e, t, f, m⟩ := tad9 hF hT hl b
  exact ⟨M', e, ⟨f.fix hF, hM.fr hF f (by decide) (by decide), t⟩, f, m⟩
theorem ab82k {β : Type} {q od : Nat → Nat} {sd : Int32} {l : List Nat} {M : Mm} (h : CY q od sd l M) {g : Nat} (hg : g < 8) (f : Int32 → Option β) : Option.bind (aI M 82 (nI g)) f = f (nI (q g)) := by
  rw [ab82 h.1 hg, (h.2.1.a hg).1]
theorem ab85k {β : Type} {q od : Nat → Nat} {sd : Int32} {l : List Nat} {M : Mm} (h : CY q od sd l M) {g : Nat} (hg : g < 8) (f : Int32 → Option β) : Option.bind (aI M 85 (nI g)) f = f (nI (q (24 + g))) := by
  rw [ab85 h.1 hg, (h.2.1.a hg).2.2.2.1]

theorem fe9 {q od : Nat → Nat} {sd : Int32} {l : List Nat} {M : Mm} (h : CY q od sd l M) {g : Nat} (hg : g < 8) (hq : q g < 7) (hl : l.length + 2 ≤ 60) (x : Int32) :
    ∃ M', fX9_feeling 80 (nI g) x M = some (vF (q g) (nI g) (nI (q (24 + g))) x, M') ∧ CY q od sd (l ++ bF (q g)) M' ∧ Fr [106] [(80, 47)] M M' ∧ (mT M' = mT M ∧ mW M' = mW M) := by
  obtain ⟨k, hk⟩ : ∃ k, k = q g := ⟨_, rfl⟩
  have : k = 0 ∨ k = 1 ∨ k = 2 ∨ k = 3 ∨ k = 4 ∨ k = 5 ∨ k = 6 := by omega
  unfold fX9_feeling
  rw [kb80 h.1, rb80_14 h.1, ab82k h hg, ← hk]
  rcases this with rfl | rfl | rfl | rfl | rfl | rfl | rfl
  · obtain ⟨M2, e2, c2, f2, t2⟩ := h.add (by omega) 10
    rw [if_neg (show ¬ nI 0 = 1 by decide), if_neg (show ¬ nI 0 = 4 by decide), if_neg (show ¬ nI 0 = 6 by decide)]
    unfold fX9_feeling_b28
    rw [if_pos rfl]
    unfold fX9_feeling_b41
    rw [if_neg (show ¬ nI 0 = 5 by decide)]
    unfold fX9_feeling_b52
    rw [show (10 : Int32) = nI 10 from rfl, bnd1 e2, if_pos rfl, if_neg (show ¬ nI 0 = 5 by decide)]
    exact ⟨M2, rfl, c2, f2, t2⟩
  · obtain ⟨M1, e1, c1, f1, t1⟩ := h.add (by omega) 20
    obtain ⟨M2, e2, c2, f2, t2⟩ := c1.add (by rw [len1]; omega) 10
    rw [if_pos (show nI 1 = 1 from rfl)]
    unfold fX9_feeling_b23 fX9_feeling_b28
    rw [if_neg (by decide), show (20 : Int32) = nI 20 from rfl, bnd1 e1]
    unfold fX9_feeling_b41
    rw [if_neg (show ¬ nI 1 = 5 by decide)]
    unfold fX9_feeling_b52
    rw [show (10 : Int32) = nI 10 from rfl, bnd1 e2, if_neg (by decide), rb80_17 c2.1, ab85k c2 hg]
    exact ⟨M2, rfl, by rw [show bF 1 = [20, 10] from rfl, ← app1]; exact c2, f1.tr f2, ⟨t2.1.trans t1.1, t2.2.trans t1.2⟩⟩
  · obtain ⟨M2, e2, c2, f2, t2⟩ := h.add (by omega) 10
    rw [if_neg (show ¬ nI 2 = 1 by decide), if_neg (show ¬ nI 2 = 4 by decide), if_neg (show ¬ nI 2 = 6 by decide)]
    unfold fX9_feeling_b28
    rw [if_pos rfl]
    unfold fX9_feeling_b41
    rw [if_neg (show ¬ nI 2 = 5 by decide)]
    unfold fX9_feeling_b52
    rw [show (10 : Int32) = nI 10 from rfl, bnd1 e2, if_pos rfl, if_neg (show ¬ nI 2 = 5 by decide)]
    exact ⟨M2, rfl, c2, f2, t2⟩
  · obtain ⟨M2, e2, c2, f2, t2⟩ := h.add (by omega) 10
    rw [if_neg (show ¬ nI 3 = 1 by decide), if_neg (show ¬ nI 3 = 4 by decide), if_neg (show ¬ nI 3 = 6 by decide)]
    unfold fX9_feeling_b28
    rw [if_pos rfl]
    unfold fX9_feeling_b41
    rw [if_neg (show ¬ nI 3 = 5 by decide)]
    unfold fX9_feeling_b52
    rw [show (10 : Int32) = nI 10 from rfl, bnd1 e2, if_pos rfl, if_neg (show ¬ nI 3 = 5 by decide)]
    exact ⟨M2, rfl, c2, f2, t2⟩
  · obtain ⟨M1, e1, c1, f1, t1⟩ := h.add (by omega) 20
    obtain ⟨M2, e2, c2, f2, t2⟩ := c1.add (by rw [len1]; omega) 10
    rw [if_neg (show ¬ nI 4 = 1 by decide), if_pos (show nI 4 = 4 from rfl)]
    unfold fX9_feeling_b23 fX9_feeling_b28
    rw [if_neg (by decide), show (20 : Int32) = nI 20 from rfl, bnd1 e1]
    unfold fX9_feeling_b41
    rw [if_neg (show ¬ nI 4 = 5 by decide)]
    unfold fX9_feeling_b52
    rw [show (10 : Int32) = nI 10 from rfl, bnd1 e2, if_neg (by decide), rb80_17 c2.1, ab85k c2 hg]
    exact ⟨M2, rfl, by rw [show bF 4 = [20, 10] from rfl, ← app1]; exact c2, f1.tr f2, ⟨t2.1.trans t1.1, t2.2.trans t1.2⟩⟩
  · obtain ⟨M1, e1, c1, f1, t1⟩ := h.add (by omega) 70
    obtain ⟨M2, e2, c2, f2, t2⟩ := c1.add (by rw [len1]; omega) 10
    rw [if_neg (show ¬ nI 5 = 1 by decide), if_neg (show ¬ nI 5 = 4 by decide), if_neg (show ¬ nI 5 = 6 by decide)]
    unfold fX9_feeling_b28
    rw [if_pos rfl]
    unfold fX9_feeling_b41
    rw [if_pos (show nI 5 = 5 from rfl), show (70 : Int32) = nI 70 from rfl, bnd1 e1]
    unfold fX9_feeling_b52
    rw [show (10 : Int32) = nI 10 from rfl, bnd1 e2, if_pos rfl, if_pos (show nI 5 = 5 from rfl)]
    exact ⟨M2, rfl, by rw [show bF 5 = [70, 10] from rfl, ← app1]; exact c2, f1.tr f2, ⟨t2.1.trans t1.1, t2.2.trans t1.2⟩⟩
  · obtain ⟨M1, e1, c1, f1, t1⟩ := h.add (by omega) 20
    obtain ⟨M2, e2, c2, f2, t2⟩ := c1.add (by rw [len1]; omega) 10
    rw [if_neg (show ¬ nI 6 = 1 by decide), if_neg (show ¬ nI 6 = 4 by decide), if_pos (show nI 6 = 6 from rfl)]
    unfold fX9_feeling_b23 fX9_feeling_b28
    rw [if_neg (by decide), show (20 : Int32) = nI 20 from rfl, bnd1 e1]
    unfold fX9_feeling_b41
    rw [if_neg (show ¬ nI 6 = 5 by decide)]
    unfold fX9_feeling_b52
    rw [show (10 : Int32) = nI 10 from rfl, bnd1 e2, if_neg (by decide), rb80_17 c2.1, ab85k c2 hg]
    exact ⟨M2, rfl, by rw [show bF 6 = [20, 10] from rfl, ← app1]; exact c2, f1.tr f2, ⟨t2.1.trans t1.1, t2.2.trans t1.2⟩⟩
theorem bF_len (k : Nat) : (bF k).length ≤ 2 := by
  unfold bF
  repeat' split
  all_goals decide
theorem te0 {q od : Nat → Nat} {sd : Int32} {l : List Nat} {M : Mm} (h : CY q od sd l M) {g : Nat} (hg : g < 8) (hq : q g < 7) (hl : l.length + 3 ≤ 60) (x3 : Int32) (x : Int32) :
    ∃ M', fX9_teaching_b59 80 (nI g) x3 x M = some (if x3 = 4 then vT0 (q g) (nI g) (nI (q (24 + g))) x * 3 else vT0 (q g) (nI g) (nI (q (24 + g))) x, M') ∧ CY q od sd (l ++ bT0 (q g)) M' ∧ Fr [106] [(80, 47)] M M' ∧ (mT M' = mT M ∧ mW M' = mW M) := by
  obtain ⟨M1, e1, c1, f1, t1⟩ := h.add (by omega) 11
  obtain ⟨M2, e2, c2, f2, t2⟩ := fe9 c1 hg hq (by rw [len1]; omega) x
  refine ⟨M2, ?_, by unfold bT0; rw [← app1]; exact c2, f1.tr f2, ⟨t2.1.trans t1.1, t2.2.trans t1.2⟩⟩
  unfold fX9_teaching_b59
  rw [show (11 : Int32) = nI 11 from rfl, bnd1 e1, bnd1 e2]
  dsimp only
  split
  · rfl
  · rfl
theorem te9 {q od : Nat → Nat} {sd : Int32} {l : List Nat} {M : Mm} (h : CY q od sd l M) {g : Nat} (hg : g < 8) (hq : q g < 7) (hl : l.length + 4 ≤ 60) (x : Int32) :
    ∃ M', fX9_teaching 80 (nI g) x M = some (vT (q g) (nI g) (nI (q (24 + g))) x, M') ∧ CY q od sd (l ++ bT (q g)) M' ∧ Fr [106] [(80, 47)] M M' ∧ (mT M' = mT M ∧ mW M' = mW M) := by
  obtain ⟨k, hk⟩ : ∃ k, k = q g := ⟨_, rfl⟩
  have : k = 0 ∨ k = 1 ∨ k = 2 ∨ k = 3 ∨ k = 4 ∨ k = 5 ∨ k = 6 := by omega
  unfold fX9_teaching
  rw [kb80 h.1, rb80_14 h.1, ab82k h hg, ← hk]
  rcases this with rfl | rfl | rfl | rfl | rfl | rfl | rfl
  · obtain ⟨M2, e2, c2, f2, t2⟩ := te0 h hg hq (by omega) (nI 0) x
    rw [if_neg (show ¬ nI 0 = 4 by decide)] at e2 ⊢
    unfold fX9_teaching_b21
    rw [if_neg (show ¬ nI 0 = 6 by decide)]
    unfold fX9_teaching_b38
    rw [if_neg (show ¬ nI 0 = 5 by decide)]
    exact ⟨M2, by rw [← hk] at e2; exact e2, by rw [← hk] at c2; exact c2, f2, t2⟩
  · obtain ⟨M2, e2, c2, f2, t2⟩ := te0 h hg hq (by omega) (nI 1) x
    rw [if_neg (show ¬ nI 1 = 4 by decide)] at e2 ⊢
    unfold fX9_teaching_b21
    rw [if_neg (show ¬ nI 1 = 6 by decide)]
    unfold fX9_teaching_b38
    rw [if_neg (show ¬ nI 1 = 5 by decide)]
    exact ⟨M2, by rw [← hk] at e2; exact e2, by rw [← hk] at c2; exact c2, f2, t2⟩
  · obtain ⟨M2, e2, c2, f2, t2⟩ := te0 h hg hq (by omega) (nI 2) x
    rw [if_neg (show ¬ nI 2 = 4 by decide)] at e2 ⊢
    unfold fX9_teaching_b21
    rw [if_neg (show ¬ nI 2 = 6 by decide)]
    unfold fX9_teaching_b38
    rw [if_neg (show ¬ nI 2 = 5 by decide)]
    exact ⟨M2, by rw [← hk] at e2; exact e2, by rw [← hk] at c2; exact c2, f2, t2⟩
  · obtain ⟨M2, e2, c2, f2, t2⟩ := te0 h hg hq (by omega) (nI 3) x
    rw [if_neg (show ¬ nI 3 = 4 by decide)] at e2 ⊢
    unfold fX9_teaching_b21
    rw [if_neg (show ¬ nI 3 = 6 by decide)]
    unfold fX9_teaching_b38
    rw [if_neg (show ¬ nI 3 = 5 by decide)]
    exact ⟨M2, by rw [← hk] at e2; exact e2, by rw [← hk] at c2; exact c2, f2, t2⟩
  · obtain ⟨M1, e1, c1, f1, t1⟩ := h.add (by omega) 30
    obtain ⟨M2, e2, c2, f2, t2⟩ := te0 c1 hg hq (by rw [len1]; omega) (nI 4) x
    rw [if_pos (show nI 4 = 4 from rfl)] at e2 ⊢
    rw [show (30 : Int32) = nI 30 from rfl, bnd1 e1]
    unfold fX9_teaching_b21
    rw [if_neg (show ¬ nI 4 = 6 by decide)]
    unfold fX9_teaching_b38
    rw [if_neg (show ¬ nI 4 = 5 by decide)]
    exact ⟨M2, by rw [← hk] at e2; exact e2, by rw [show bT 4 = 30 :: bT0 4 from rfl, ← app1]; rw [← hk] at c2; exact c2, f1.tr f2, ⟨t2.1.trans t1.1, t2.2.trans t1.2⟩⟩
  · obtain ⟨M1, e1, c1, f1, t1⟩ := h.add (by omega) 71
    obtain ⟨M2, e2, c2, f2, t2⟩ := te0 c1 hg hq (by rw [len1]; omega) (nI 5) (x - nI (q (24 + g)))
    rw [if_neg (show ¬ nI 5 = 4 by decide)] at e2 ⊢
    unfold fX9_teaching_b21
    rw [if_neg (show ¬ nI 5 = 6 by decide)]
    unfold fX9_teaching_b38
    rw [if_pos (show nI 5 = 5 from rfl), show (71 : Int32) = nI 71 from rfl, bnd1 e1, rb80_17 c1.1, ab85k c1 hg]
    exact ⟨M2, by rw [← hk] at e2; exact e2, by rw [show bT 5 = 71 :: bT0 5 from rfl, ← app1]; rw [← hk] at c2; exact c2, f1.tr f2, ⟨t2.1.trans t1.1, t2.2.trans t1.2⟩⟩
  · obtain ⟨M1, e1, c1, f1, t1⟩ := h.add (by omega) 40
    obtain ⟨M2, e2, c2, f2, t2⟩ := te0 c1 hg hq (by rw [len1]; omega) (nI 6) (x + 1)
    rw [if_neg (show ¬ nI 6 = 4 by decide)] at e2 ⊢
    unfold fX9_teaching_b21
    rw [if_pos (show nI 6 = 6 from rfl), show (40 : Int32) = nI 40 from rfl, bnd1 e1]
    unfold fX9_teaching_b38
    rw [if_neg (show ¬ nI 6 = 5 by decide)]
    exact ⟨M2, by rw [← hk] at e2; exact e2, by rw [show bT 6 = 40 :: bT0 6 from rfl, ← app1]; rw [← hk] at c2; exact c2, f1.tr f2, ⟨t2.1.trans t1.1, t2.2.trans t1.2⟩⟩
theorem bT_len (k : Nat) : (bT k).length ≤ 4 := by
  have := bF_len k
  unfold bT bT0
  repeat' split
  all_goals simp only [List.length_cons]
  all_goals omega
theorem fa0 {q od : Nat → Nat} {sd : Int32} {l : List Nat} {M : Mm} (h : CY q od sd l M) {g : Nat} (hg : g < 8) (hq : q g < 7) (hl : l.length + 7 ≤ 60) (x3 : Int32) (x : Int32) :
    ∃ M', fX9_fading_b46 80 (nI g) x x3 M = some (if x3 = 6 then vA0 (q g) (nI g) (nI (q (24 + g))) x - nI g else if x3 = 2 then -vA0 (q g) (nI g) (nI (q (24 + g))) x else if x3 = 3 then -vA0 (q g) (nI g) (nI (q (24 + g))) x ^^^ 5 else vA0 (q g) (nI g) (nI (q (24 + g))) x, M') ∧ CY q od sd (l ++ bA0 (q g)) M' ∧ Fr [106] [(80, 47)] M M' ∧ (mT M' = mT M ∧ mW M' = mW M) := by
  have bl := bT_len (q g)
  obtain ⟨M1, e1, c1, f1, t1⟩ := h.add (by omega) 12
  obtain ⟨M2, e2, c2, f2, t2⟩ := te9 c1 hg hq (by rw [len1]; omega) x
  obtain ⟨M3, e3, c3, f3, t3⟩ := fe9 c2 hg hq (by rw [List.length_append, len1]; omega) (x - nI (q (24 + g)))
  refine ⟨M3, ?_, by unfold bA0; rw [← app1, ← List.append_assoc]; exact c3, (f1.tr f2).tr f3, ⟨(t3.1.trans t2.1).trans t1.1, (t3.2.trans t2.2).trans t1.2⟩⟩
  unfold fX9_fading_b46
  rw [show (12 : Int32) = nI 12 from rfl, bnd1 e1, bnd1 e2]
  dsimp only
  rw [rb80_17 c2.1, ab85k c2 hg, bnd1 e3]
  dsimp only
  unfold vA0
  repeat' split
  all_goals rfl
theorem fa9 {q od : Nat → Nat} {sd : Int32} {l : List Nat} {M : Mm} (h : CY q od sd l M) {g : Nat} (hg : g < 8) (hq : q g < 7) (hl : l.length + 9 ≤ 60) (x : Int32) :
    ∃ M', fX9_fading 80 (nI g) x M = some (vA (q g) (nI g) (nI (q (24 + g))) x, M') ∧ CY q od sd (l ++ bA (q g)) M' ∧ Fr [106] [(80, 47)] M M' ∧ (mT M' = mT M ∧ mW M' = mW M) := by
  obtain ⟨k, hk⟩ : ∃ k, k = q g := ⟨_, rfl⟩
  have : k = 0 ∨ k = 1 ∨ k = 2 ∨ k = 3 ∨ k = 4 ∨ k = 5 ∨ k = 6 := by omega
  unfold fX9_fading
  rw [kb80 h.1, rb80_14 h.1, ab82k h hg, ← hk]
  rcases this with rfl | rfl | rfl | rfl | rfl | rfl | rfl
  · obtain ⟨M2, e2, c2, g2, t9⟩ := fa0 h hg hq (by omega) (nI 0) x
    rw [if_neg (show ¬ nI 0 = 6 by decide), if_neg (show ¬ nI 0 = 2 by decide), if_neg (show ¬ nI 0 = 3 by decide)] at e2
    rw [if_neg (show ¬ nI 0 = 6 by decide)]
    unfold fX9_fading_b19
    rw [if_neg (show ¬ nI 0 = 3 by decide)]
    unfold fX9_fading_b30
    rw [if_neg (show ¬ nI 0 = 2 by decide), if_neg (show ¬ nI 0 = 3 by decide)]
    exact ⟨M2, by rw [← hk] at e2; exact e2, by rw [← hk] at c2; exact c2, g2, t9⟩
  · obtain ⟨M2, e2, c2, g2, t9⟩ := fa0 h hg hq (by omega) (nI 1) x
    rw [if_neg (show ¬ nI 1 = 6 by decide), if_neg (show ¬ nI 1 = 2 by decide), if_neg (show ¬ nI 1 = 3 by decide)] at e2
    rw [if_neg (show ¬ nI 1 = 6 by decide)]
    unfold fX9_fading_b19
    rw [if_neg (show ¬ nI 1 = 3 by decide)]
    unfold fX9_fading_b30
    rw [if_neg (show ¬ nI 1 = 2 by decide), if_neg (show ¬ nI 1 = 3 by decide)]
    exact ⟨M2, by rw [← hk] at e2; exact e2, by rw [← hk] at c2; exact c2, g2, t9⟩
  · obtain ⟨P0, p0, r0, f0, t0⟩ := h.add (by omega) 50
    obtain ⟨M2, e2, c2, g2, t9⟩ := fa0 r0 hg hq (by rw [len1]; omega) (nI 2) x
    rw [if_neg (show ¬ nI 2 = 6 by decide), if_pos (show nI 2 = 2 from rfl)] at e2
    rw [if_neg (show ¬ nI 2 = 6 by decide)]
    unfold fX9_fading_b19
    rw [if_neg (show ¬ nI 2 = 3 by decide)]
    unfold fX9_fading_b30
    rw [if_pos (show nI 2 = 2 from rfl)]
    unfold fX9_fading_b40
    rw [show (50 : Int32) = nI 50 from rfl, bnd1 p0]
    exact ⟨M2, by rw [← hk] at e2; exact e2, by rw [show bA 2 = 50 :: bA0 2 from rfl, ← app1]; rw [← hk] at c2; exact c2, f0.tr g2, ⟨t9.1.trans t0.1, t9.2.trans t0.2⟩⟩
  · obtain ⟨P0, p0, r0, f0, t0⟩ := h.add (by omega) 60
    obtain ⟨P1, p1, r1, f1, t1⟩ := r0.add (by rw [len1]; omega) 50
    obtain ⟨M2, e2, c2, g2, t9⟩ := fa0 r1 hg hq (by rw [len1, len1]; omega) (nI 3) x
    rw [if_neg (show ¬ nI 3 = 6 by decide), if_neg (show ¬ nI 3 = 2 by decide), if_pos (show nI 3 = 3 from rfl)] at e2
    rw [if_neg (show ¬ nI 3 = 6 by decide)]
    unfold fX9_fading_b19
    rw [if_pos (show nI 3 = 3 from rfl), show (60 : Int32) = nI 60 from rfl, bnd1 p0]
    unfold fX9_fading_b30
    rw [if_neg (show ¬ nI 3 = 2 by decide), if_pos (show nI 3 = 3 from rfl)]
    unfold fX9_fading_b40
    rw [show (50 : Int32) = nI 50 from rfl, bnd1 p1]
    exact ⟨M2, by rw [← hk] at e2; exact e2, by rw [show bA 3 = 60 :: 50 :: bA0 3 from rfl, ← app1, ← app1]; rw [← hk] at c2; exact c2, (f0.tr f1).tr g2, ⟨(t9.1.trans t1.1).trans t0.1, (t9.2.trans t1.2).trans t0.2⟩⟩
  · obtain ⟨M2, e2, c2, g2, t9⟩ := fa0 h hg hq (by omega) (nI 4) x
    rw [if_neg (show ¬ nI 4 = 6 by decide), if_neg (show ¬ nI 4 = 2 by decide), if_neg (show ¬ nI 4 = 3 by decide)] at e2
    rw [if_neg (show ¬ nI 4 = 6 by decide)]
    unfold fX9_fading_b19
    rw [if_neg (show ¬ nI 4 = 3 by decide)]
    unfold fX9_fading_b30
    rw [if_neg (show ¬ nI 4 = 2 by decide), if_neg (show ¬ nI 4 = 3 by decide)]
    exact ⟨M2, by rw [← hk] at e2; exact e2, by rw [← hk] at c2; exact c2, g2, t9⟩
  · obtain ⟨M2, e2, c2, g2, t9⟩ := fa0 h hg hq (by omega) (nI 5) x
    rw [if_neg (show ¬ nI 5 = 6 by decide), if_neg (show ¬ nI 5 = 2 by decide), if_neg (show ¬ nI 5 = 3 by decide)] at e2
    rw [if_neg (show ¬ nI 5 = 6 by decide)]
    unfold fX9_fading_b19
    rw [if_neg (show ¬ nI 5 = 3 by decide)]
    unfold fX9_fading_b30
    rw [if_neg (show ¬ nI 5 = 2 by decide), if_neg (show ¬ nI 5 = 3 by decide)]
    exact ⟨M2, by rw [← hk] at e2; exact e2, by rw [← hk] at c2; exact c2, g2, t9⟩
  · obtain ⟨P0, p0, r0, f0, t0⟩ := h.add (by omega) 41
    obtain ⟨M2, e2, c2, g2, t9⟩ := fa0 r0 hg hq (by rw [len1]; omega) (nI 6) x
    rw [if_pos (show nI 6 = 6 from rfl)] at e2
    rw [if_pos (show nI 6 = 6 from rfl), show (41 : Int32) = nI 41 from rfl, bnd1 p0]
    unfold fX9_fading_b19
    rw [if_neg (show ¬ nI 6 = 3 by decide)]
    unfold fX9_fading_b30
    rw [if_neg (show ¬ nI 6 = 2 by decide), if_neg (show ¬ nI 6 = 3 by decide)]
    exact ⟨M2, by rw [← hk] at e2; exact e2, by rw [show bA 6 = 41 :: bA0 6 from rfl, ← app1]; rw [← hk] at c2; exact c2, f0.tr g2, ⟨t9.1.trans t0.1, t9.2.trans t0.2⟩⟩
theorem bA_len (k : Nat) : (bA k).length ≤ 9 := by
  have h1 := bF_len k
  have h2 := bT_len k
  unfold bA bA0
  repeat' split
  all_goals simp only [List.length_cons, List.length_append]
  all_goals omega
theorem REL.act {ds : List Nat} {es : List (Nat × Nat)} {A : Mm} {q od q2 od2 : Nat → Nat} {sd sd2 : Int32} {b : Nat} {M M1 : Mm} (h : REL A q od sd b q2 od2 sd2 M) (f : Fr ds es M M1)
    (hd : ∀ o ∈ ds, o = 62 ∨ o = 106) (he : ∀ t ∈ es, (t.1 = 61 ∧ t.2 = 1) ∨ (t.1 = 80 ∧ t.2 = 47)) (ht : Tr M1) : REL A q od sd b q2 od2 sd2 M1 := by
  obtain ⟨a1, a2, a3, a4, a5, a6, a7, ⟨i1, i2, i3⟩, a9, a10, a11, -, a13⟩ := h
  have h0 := a1.1
  have n0 : ∀ o, ¬ (o = 62 ∨ o = 106) → ¬ o ∈ ds := fun o ho x => ho (hd o x)
  have ne : ∀ o k, ¬ ((o = 61 ∧ k = 1) ∨ (o = 80 ∧ k = 47)) → ¬ (o, k) ∈ es := fun o k ho x => ho (he _ x)
  have g : ∀ o k, o < 107 → ¬ (o = 62 ∨ o = 106) → ¬ ((o = 61 ∧ k = 1) ∨ (o = 80 ∧ k = 47)) → mI M1 o k = mI M o k := fun o k b c d => f.I (by omega) (n0 o c) (ne o k d)
  refine ⟨f.fix a1, a2.fr a1 f (fun o ho => by have := hd o ho; omega) (fun o ho => by have := he o ho; omega), a3, a4.fr a1 f (by omega) (fun o ho => by have := hd o ho; omega) (fun o ho => by have := he o ho; omega), a5.fr a1 f (fun o ho => by have := hd o ho; omega) (fun o ho => by have := he o ho; omega), a6.fr a1 f (by omega) (n0 _ (by omega)) (n0 _ (by omega)) (n0 _ (by omega)), a7.fr a1 f (by omega) (n0 _ (by omega)) (n0 _ (by omega)) (n0 _ (by omega)), ⟨?_, ?_, ?_⟩, fun s hs => (a9 s hs).fr a1 f hs (fun o ho => by have := hd o ho; omega) (fun o ho => by have := he o ho; omega), fun k x y => ?_, ?_, ht, fun k hk => ?_⟩
  · rw [g _ _ (by omega) (by omega) (by omega)]; exact i1
  · rw [g _ _ (by omega) (by omega) (by omega)]; exact i2
  · refine i3.imp id fun z => ⟨z.1, z.2.1, z.2.2.1.fr a1 f (by omega) (fun o ho => by have := hd o ho; omega) (fun o ho => by have := he o ho; omega), z.2.2.2.fr a1 f (n0 _ (by omega)) (n0 _ (by omega)) (fun o ho => by have := he o ho; omega)⟩
  · rw [g _ _ (by omega) (by omega) (by omega), g _ _ (by omega) (by omega) (by omega)]; exact a10 k x y
  · rw [g _ _ (by omega) (by omega) (by omega), g _ _ (by omega) (by omega) (by omega)]; exact a11
  · rw [g _ _ (by omega) (by omega) (by omega)]; exact a13 k hk
theorem op_act {A : Mm} (hA : AB A) (hB : BB A) (x1 x2 x3 : Int32) : Eqv A (fX8_act 20 x1 x2 x3) (fX9_act 80 x1 x2 x3) := by
  rintro M ⟨q, od, sd, b, q2, od2, sd2, h⟩
  have hF := h.1
  have h0 := hF.1
  have hI := h.2.2.1
  have hq := hI.sg
  have hS := h.2.2.2.1
  have hM := h.2.2.2.2.1
  obtain ⟨N, hN⟩ : ∃ N, N = sI M 61 1 (nI 0) := ⟨_, rfl⟩
  have fN : Fr [62] [(61, 1)] M N := by rw [hN]; exact Fr.oI _ _ (Or.inr (by decide))
  have hFN := fN.fix hF
  have h0N := hFN.1
  have ew : fX7_wipe 61 M = some N := by
    unfold fX7_wipe
    rw [kb61 hF, show (0 : Int32) = nI 0 from rfl, pb61 hF, hN]
  have hSN := hS.fr hF fN (by decide) (by decide) (by decide)
  have tN : TX [] N := ⟨by rw [hN, mI_sI, if_pos ⟨rfl, rfl⟩]; rfl, fun i _ hi => absurd hi (Nat.not_lt_zero _)⟩
  have mN : mT N = mT M ∧ mW N = mW M := by rw [hN]; exact ⟨mT_sI _ _ _ _, mW_sI _ _ _ _⟩
  have roN := h.2.1.fr hF fN (by decide) (by decide)
  have X0 : ∀ r, fX5_signAt 22 x1 N = some (r, N) → fX8_act 20 x1 x2 x3 M = Option.elim r (some (0, N)) (fun o6_ => if x2 < 0 then some (0, N) else if x2 < 3 then Option.bind (fI N 4 o6_ 1) fun v7 => Option.bind (fX8_perform 40 o6_ v7 x2 x3 61 0 N) fun q9 => some (q9.1, q9.2) else some (0, N)) := fun r hr => by
    unfold fX8_act
    rw [kb20 hF, rb20_8 hF, bnd1 ew, rb20_1 hFN, bnd1 hr]
    dsimp only
    rw [Option.bind_some]
    cases r with
    | none => rfl
    | some o6 =>
      rw [Option.elim_some, Option.elim_some]
      split
      · rfl
      · split
        · congr 1
          funext v7
          rw [rb20_8 hFN]
        · rfl
  -- the reference, from any memory that is as M outside the class's trace
  have Y0 : ∀ P, FIX P → MD q od sd P → ∃ P', P' = sI P 80 47 (nI 0) ∧ Fr [106] [(80, 47)] P P' ∧ CY q od sd [] P' ∧ (mT P' = mT P ∧ mW P' = mW P) ∧ ∀ z, fX9_isSign 80 x1 P' = some (z, P') → fX9_act 80 x1 x2 x3 P = if z = 0 then some (0, P') else if x2 < 0 then some (0, P') else if x2 ≤ 2 then (if x2 = 0 then Option.bind (fX9_feeling 80 x1 x3 P') fun q5 => some (q5.1, q5.2) else if x2 = 1 then Option.bind (fX9_teaching 80 x1 x3 P') fun q4 => some (q4.1, q4.2) else Option.bind (fX9_fading 80 x1 x3 P') fun q3 => some (q3.1, q3.2)) else some (0, P') := fun P hFP hMP => by
    obtain ⟨P', hP'⟩ : ∃ P', P' = sI P 80 47 (nI 0) := ⟨_, rfl⟩
    have fP : Fr [106] [(80, 47)] P P' := by rw [hP']; exact Fr.oI _ _ (Or.inr (by decide))
    have hFP' := fP.fix hFP
    refine ⟨P', hP', fP, ⟨hFP', hMP.fr hFP fP (by decide) (by decide), by rw [hP', mI_sI, if_pos ⟨rfl, rfl⟩]; rfl, fun i _ hi => absurd hi (Nat.not_lt_zero _)⟩, by rw [hP']; exact ⟨mT_sI _ _ _ _, mW_sI _ _ _ _⟩, fun z hz => ?_⟩
    unfold fX9_act
    rw [kb80 hFP, show (0 : Int32) = nI 0 from rfl, pb80 hFP, ← hP', bnd1 hz]
  have fin : ∀ (l : List Nat) (v : Int32) (M1 M2 : Mm), l.length ≤ 60 → fX8_act 20 x1 x2 x3 M = some (v, M1) → fX9_act 80 x1 x2 x3 M1 = some (v, M2) → Fr [62] [(61, 1)] M M1 → Fr [106] [(80, 47)] M1 M2 → TX l M1 → TY l M2 → (mT M2 = mT M ∧ mW M2 = mW M) → ∃ r M1 M2, fX8_act 20 x1 x2 x3 M = some (r, M1) ∧ fX9_act 80 x1 x2 x3 M1 = some (r, M2) ∧ Rel A M2 ∧ Gr M M2 := fun l v M1 M2 hl e1 e2 f1 f2 t1 t2 m => by
    have hF1 := f1.fix hF
    have h01 := hF1.1
    refine ⟨v, M1, M2, e1, e2, ⟨q, od, sd, b, q2, od2, sd2, h.act (f1.trans f2) (by decide) (by decide) ⟨l.length, by omega, ?_, t2.1, fun i h1 h2 => ?_⟩⟩, Gr.same m.1 m.2⟩
    · rw [f2.I (by omega) (by decide) (by decide)]; exact t1.1
    · rw [f2.I (by omega) (by decide) (by intro z; have := congrArg Prod.fst (List.mem_singleton.mp z); simp at this), t1.2 i h1 h2, t2.2 i h1 h2]
  have hMN := hM.fr hF fN (by decide) (by decide)
  rcases bn_cases (q 62) x1 with hb | ⟨g, hg, hg3, rfl⟩
  · obtain ⟨P', hP', fP, cP, mP, yP⟩ := Y0 N hFN hMN
    exact fin [] 0 N P' (by decide) (X0 none (gAt_no (Or.inl rfl) hFN hSN hq hb)) ((yP _ (isG_no cP.1 cP.2.1 hq hb)).trans (if_pos rfl)) fN fP tN cP.2.2 ⟨mP.1.trans mN.1, mP.2.trans mN.2⟩
  obtain ⟨r, er, sg⟩ := gAt (Or.inl rfl) hFN hSN hq hg
  have X1 := X0 _ er
  rw [Option.elim_some] at X1
  have hg8 : g < 8 := by omega
  have q7 : q g < 7 := by have := (hI.2.2.2.2.2.2.2.2.2.2.1 g hg).1; omega
  have cx : CX r g q [] N := ⟨hFN, hA.ro roN, hB.ro roN, sg, tN⟩
  have none0 : (x2 < 0 ∨ ¬ x2 < 0 ∧ ¬ x2 < 3) → ∃ r M1 M2, fX8_act 20 (nI g) x2 x3 M = some (r, M1) ∧ fX9_act 80 (nI g) x2 x3 M1 = some (r, M2) ∧ Rel A M2 ∧ Gr M M2 := fun hx => by
    obtain ⟨P', hP', fP, cP, mP, yP⟩ := Y0 N hFN hMN
    have y1 := yP _ (isG cP.1 cP.2.1 hq hg)
    rw [if_neg (by decide)] at y1
    refine fin [] 0 N P' (by decide) ?_ ?_ fN fP tN cP.2.2 ⟨mP.1.trans mN.1, mP.2.trans mN.2⟩
    · rw [X1]
      rcases hx with hx | ⟨hx, hx2⟩
      · rw [if_pos hx]
      · rw [if_neg hx, if_neg hx2]
    · rw [y1]
      rcases hx with hx | ⟨hx, hx2⟩
      · rw [if_pos hx]
      · rw [if_neg hx, if_neg (show ¬ x2 ≤ 2 by
          rw [Int32.lt_iff_toInt_lt, show (3 : Int32).toInt = 3 by decide] at hx2
          rw [Int32.le_iff_toInt_le, show (2 : Int32).toInt = 2 by decide]
          omega)]
  rcases n_cases x2 with c | ⟨a, ha, rfl⟩
  · exact none0 (Or.inl c)
  by_cases a3 : a < 3
  rotate_left
  · exact none0 (Or.inr ⟨nI_pos (by omega), by rw [l3, lt_nn ha (by decide)]; exact a3⟩)
  have go : ∀ (v : Int32) (bs : List Nat), bs.length ≤ 9 → PF r g q 0 40 (q g) a x3 v bs → (∀ P', CY q od sd [] P' → ∃ M2, (if nI a = 0 then Option.bind (fX9_feeling 80 (nI g) x3 P') fun q5 => some (q5.1, q5.2) else if nI a = 1 then Option.bind (fX9_teaching 80 (nI g) x3 P') fun q4 => some (q4.1, q4.2) else Option.bind (fX9_fading 80 (nI g) x3 P') fun q3 => some (q3.1, q3.2)) = some (v, M2) ∧ CY q od sd ([] ++ bs) M2 ∧ Fr [106] [(80, 47)] P' M2 ∧ (mT M2 = mT P' ∧ mW M2 = mW P')) → ∃ r M1 M2, fX8_act 20 (nI g) (nI a) x3 M = some (r, M1) ∧ fX9_act 80 (nI g) (nI a) x3 M1 = some (r, M2) ∧ Rel A M2 ∧ Gr M M2 := fun v bs hbs hp hy => by
    obtain ⟨M1, e1, c1, f1, t1⟩ := hp N [] 0 cx (by simp; omega) (Nat.le_refl _)
    have hF1 := f1.fix hFN
    have hM1 := hMN.fr hFN f1 (by decide) (by decide)
    obtain ⟨P', hP', fP, cP, mP, yP⟩ := Y0 M1 hF1 hM1
    have y1 := yP _ (isG cP.1 cP.2.1 hq hg)
    rw [if_neg (by decide), if_neg (nI_pos (by omega)), if_pos (by rw [l2, le_nn ha (by decide)]; omega)] at y1
    obtain ⟨M2, e2, c2, f2, t2⟩ := hy P' cP
    refine fin ([] ++ bs) v M1 M2 (by simp; omega) ?_ (y1.trans e2) (fN.tr f1) (fP.tr f2) c1.2.2.2.2 c2.2.2 ⟨((t2.1.trans mP.1).trans t1.1).trans mN.1, ((t2.2.trans mP.2).trans t1.2).trans mN.2⟩
    rw [X1, if_neg (nI_pos (by omega)), if_pos (by rw [l3, lt_nn ha (by decide)]; exact a3), ibG sg.2.2.1, sg.2.2.2.2.1, show (0 : Int32) = nI 0 from rfl, bnd1 e1]
  have ha3 : a = 0 ∨ a = 1 ∨ a = 2 := by omega
  rcases ha3 with rfl | rfl | rfl
  · refine go _ _ (by have := bF_len (q g); omega) ((pfF 38 q7 x3).le (by decide)) (fun P' cP => ?_)
    obtain ⟨M2, e2, c2, f2, t2⟩ := fe9 cP hg8 q7 (by decide) x3
    exact ⟨M2, by rw [if_pos (show nI 0 = 0 from rfl), bnd1 e2], c2, f2, t2⟩
  · refine go _ _ (by have := bT_len (q g); omega) ((pfT 36 q7 x3).le (by decide)) (fun P' cP => ?_)
    obtain ⟨M2, e2, c2, f2, t2⟩ := te9 cP hg8 q7 (by decide) x3
    exact ⟨M2, by rw [if_neg (show ¬ nI 1 = 0 by decide), if_pos (show nI 1 = 1 from rfl), bnd1 e2], c2, f2, t2⟩
  · refine go _ _ (bA_len (q g)) ((pfA 33 q7 x3).le (by decide)) (fun P' cP => ?_)
    obtain ⟨M2, e2, c2, f2, t2⟩ := fa9 cP hg8 q7 (by decide) x3
    exact ⟨M2, by rw [if_neg (show ¬ nI 2 = 0 by decide), if_neg (show ¬ nI 2 = 1 by decide), bnd1 e2], c2, f2, t2⟩
