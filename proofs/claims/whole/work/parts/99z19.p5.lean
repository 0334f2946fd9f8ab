/-! a street as it is made (written by s5.py) -/
def StN (a : Nat) (M : Mm) : Prop := (mK M a = (6, 0) ∧ mK M (a + 1) = (23, 8) ∧ mK M (a + 2) = (24, 8) ∧ mK M (a + 3) = (1, 0) ∧ mK M (a + 4) = (21, 24) ∧ mK M (a + 5) = (21, 24)) ∧ (mR M a 6 = some (a + 1) ∧ mR M a 8 = some (a + 2) ∧ mR M a 10 = some (a + 3) ∧ mR M (a + 3) 0 = some (a + 4) ∧ mR M (a + 3) 1 = some (a + 5)) ∧ (mI M a 0 = nI 12 ∧ mI M a 1 = nI 1 ∧ mI M a 2 = nI 1 ∧ mI M a 3 = nI 0 ∧ mI M a 4 = nI 0 ∧ mI M a 5 = nI 5 ∧ mI M a 7 = nI 0 ∧ mI M a 9 = nI 0 ∧ mI M a 11 = nI 0 ∧ mI M a 12 = nI 0 ∧ mI M a 13 = -nI 1 ∧ mI M a 14 = nI 1) ∧ (∀ i, mR M (a + 1) i = none) ∧ (∀ i, mR M (a + 2) i = none) ∧ (∀ c, c < 24 → mJ M (a + 4) c = lN (evn 12 c)) ∧ ∀ c, mJ M (a + 5) c = 0
theorem StN.fx {a : Nat} {l : List Nat} {M M1 : Mm} (h : StN a M) (f : Fx l M M1) (hl : ∀ o ∈ l, o < a ∨ a + 6 ≤ o) (ht : a + 6 ≤ mT M) : StN a M1 := by
  have k : ∀ o, a ≤ o → o < a + 6 → mK M1 o = mK M o := fun o h1 h2 => (f.2 o (by omega)).1
  have n : ∀ o, a ≤ o → o < a + 6 → (∀ k, mI M1 o k = mI M o k) ∧ (∀ k, mJ M1 o k = mJ M o k) ∧ ∀ k, mR M1 o k = mR M o k := fun o h1 h2 => (f.2 o (by omega)).2 (fun z => by have := hl o z; omega)
  obtain ⟨n0, -, r0⟩ := n a (by omega) (by omega)
  obtain ⟨-, -, r1⟩ := n (a + 1) (by omega) (by omega)
  obtain ⟨-, -, r2⟩ := n (a + 2) (by omega) (by omega)
  obtain ⟨-, -, r3⟩ := n (a + 3) (by omega) (by omega)
  obtain ⟨-, j4, -⟩ := n (a + 4) (by omega) (by omega)
  obtain ⟨-, j5, -⟩ := n (a + 5) (by omega) (by omega)
  unfold StN
  rw [k a (by omega) (by omega), k (a + 1) (by omega) (by omega), k (a + 2) (by omega) (by omega), k (a + 3) (by omega) (by omega), k (a + 4) (by omega) (by omega), k (a + 5) (by omega) (by omega)]
  simp only [n0, r0, r1, r2, r3, j4, j5]
  exact h
theorem s522 {M : Mm} (hT : mT M = 23) (hz : Ze M 22 (6, 0)) : ∃ G, fX5_init 22 M = some G ∧ mT G = 28 ∧ mW G = mW M + 66 ∧ Fx [22] M G ∧ StN 22 G := by
  have hk := hz.1
  have zi := hz.2.1
  have zr := hz.2.2.2
  have ff : Fx [22] M (c5b22 (c5a22 M)) := by
    have fa : Fx [22] M (c5a22 M) := by
      unfold c5a22
      exact (((((((((((Fx.wI List.mem_cons_self _ _).tr (Fx.wI List.mem_cons_self _ _)).tr (Fx.wI List.mem_cons_self _ _)).tr (Fx.wI List.mem_cons_self _ _)).tr (Fx.wI List.mem_cons_self _ _)).tr (Fx.wI List.mem_cons_self _ _)).tr (Fx.wN _ _ _)).tr (Fx.wR List.mem_cons_self _ _)).tr (Fx.wI List.mem_cons_self _ _)).tr (Fx.wN _ _ _)).tr (Fx.wR List.mem_cons_self _ _)).tr (Fx.wI List.mem_cons_self _ _)
    have ta := (i5t22 hT).1
    have fb : Fx [22, 25] (c5a22 M) (c5b22 (c5a22 M)) := by
      unfold c5b22
      have in2 : 25 ∈ [22, 25] := by decide
      exact (((((((((Fx.wN _ _ _).tr (Fx.wN _ _ _)).tr (Fx.wR in2 _ _)).tr (Fx.wN _ _ _)).tr (Fx.wR in2 _ _)).tr (Fx.wR List.mem_cons_self _ _)).tr (Fx.wI List.mem_cons_self _ _)).tr (Fx.wI List.mem_cons_self _ _)).tr (Fx.wI List.mem_cons_self _ _)).tr (Fx.wI List.mem_cons_self _ _)
    exact fa.cut fb (fun o ho => by
      simp only [List.mem_cons, List.not_mem_nil, or_false] at ho
      rcases ho with rfl | rfl
      · exact Or.inl List.mem_cons_self
      · exact Or.inr (by omega))
  refine ⟨_, i522 hT hk, ?_, ?_, ff.cut (Fx.wJ (l := [26]) List.mem_cons_self _ _ _) (fun o ho => Or.inr (by rw [List.mem_singleton.mp ho]; omega)), ⟨?_, ?_, ?_, ?_⟩, ?_, ?_, fun i => ?_, fun i => ?_, fun c hc => ?_, fun c => ?_⟩
  · rw [mT_gJ]; exact (i5t22 hT).2
  · rw [mW_gJ]
    unfold c5b22 c5a22
    simp only [mT_sI, mW_sI, mK_sI, mI_sI, mJ_sI, mR_sI, mT_sJ, mW_sJ, mK_sJ, mI_sJ, mJ_sJ, mR_sJ, mT_sR, mW_sR, mK_sR, mI_sR, mJ_sR, mR_sR, mT_gI, mW_gI, mK_gI, mI_gI, mJ_gI, mR_gI, mT_gJ, mW_gJ, mK_gJ, mI_gJ, mJ_gJ, mR_gJ, mT_wR, mW_wR, mK_wR, mI_wR, mJ_wR, mR_wR, mT_sN, mW_sN, mK_sN, mI_sN, mJ_sN, mR_sN]
  all_goals first
    | (rw [mJ_gJ, if_pos ⟨rfl, Nat.zero_le _, hc⟩]; done)
    | (unfold c5b22 c5a22; simp only [mK_gJ, mI_gJ, mJ_gJ, mR_gJ, mT_sI, mW_sI, mK_sI, mI_sI, mJ_sI, mR_sI, mT_sJ, mW_sJ, mK_sJ, mI_sJ, mJ_sJ, mR_sJ, mT_sR, mW_sR, mK_sR, mI_sR, mJ_sR, mR_sR, mT_gI, mW_gI, mK_gI, mI_gI, mJ_gI, mR_gI, mT_gJ, mW_gJ, mK_gJ, mI_gJ, mJ_gJ, mR_gJ, mT_wR, mW_wR, mK_wR, mI_wR, mJ_wR, mR_wR, mT_sN, mW_sN, mK_sN, mI_sN, mJ_sN, mR_sN, hT, hk, zi, zr, Nat.reduceAdd, Nat.reduceEqDiff, ↓reduceIte, and_self, and_true, true_and, false_and, and_false]; done)
    | (unfold c5b22 c5a22; simp only [mK_gJ, mI_gJ, mJ_gJ, mR_gJ, mT_sI, mW_sI, mK_sI, mI_sI, mJ_sI, mR_sI, mT_sJ, mW_sJ, mK_sJ, mI_sJ, mJ_sJ, mR_sJ, mT_sR, mW_sR, mK_sR, mI_sR, mJ_sR, mR_sR, mT_gI, mW_gI, mK_gI, mI_gI, mJ_gI, mR_gI, mT_gJ, mW_gJ, mK_gJ, mI_gJ, mJ_gJ, mR_gJ, mT_wR, mW_wR, mK_wR, mI_wR, mJ_wR, mR_wR, mT_sN, mW_sN, mK_sN, mI_sN, mJ_sN, mR_sN, hT, hk, zi, zr, Nat.reduceAdd, Nat.reduceEqDiff, ↓reduceIte, and_self, and_true, true_and, false_and, and_false]; decide)
theorem s528 {M : Mm} (hT : mT M = 29) (hz : Ze M 28 (6, 0)) : ∃ G, fX5_init 28 M = some G ∧ mT G = 34 ∧ mW G = mW M + 66 ∧ Fx [28] M G ∧ StN 28 G := by
  have hk := hz.1
  have zi := hz.2.1
  have zr := hz.2.2.2
  have ff : Fx [28] M (c5b28 (c5a28 M)) := by
    have fa : Fx [28] M (c5a28 M) := by
      unfold c5a28
      exact (((((((((((Fx.wI List.mem_cons_self _ _).tr (Fx.wI List.mem_cons_self _ _)).tr (Fx.wI List.mem_cons_self _ _)).tr (Fx.wI List.mem_cons_self _ _)).tr (Fx.wI List.mem_cons_self _ _)).tr (Fx.wI List.mem_cons_self _ _)).tr (Fx.wN _ _ _)).tr (Fx.wR List.mem_cons_self _ _)).tr (Fx.wI List.mem_cons_self _ _)).tr (Fx.wN _ _ _)).tr (Fx.wR List.mem_cons_self _ _)).tr (Fx.wI List.mem_cons_self _ _)
    have ta := (i5t28 hT).1
    have fb : Fx [28, 31] (c5a28 M) (c5b28 (c5a28 M)) := by
      unfold c5b28
      have in2 : 31 ∈ [28, 31] := by decide
      exact (((((((((Fx.wN _ _ _).tr (Fx.wN _ _ _)).tr (Fx.wR in2 _ _)).tr (Fx.wN _ _ _)).tr (Fx.wR in2 _ _)).tr (Fx.wR List.mem_cons_self _ _)).tr (Fx.wI List.mem_cons_self _ _)).tr (Fx.wI List.mem_cons_self _ _)).tr (Fx.wI List.mem_cons_self _ _)).tr (Fx.wI List.mem_cons_self _ _)
    exact fa.cut fb (fun o ho => by
      simp only [List.mem_cons, List.not_mem_nil, or_false] at ho
      rcases ho with rfl | rfl
      · exact Or.inl List.mem_cons_self
      · exact Or.inr (by omega))
  refine ⟨_, i528 hT hk, ?_, ?_, ff.cut (Fx.wJ (l := [32]) List.mem_cons_self _ _ _) (fun o ho => Or.inr (by rw [List.mem_singleton.mp ho]; omega)), ⟨?_, ?_, ?_, ?_⟩, ?_, ?_, fun i => ?_, fun i => ?_, fun c hc => ?_, fun c => ?_⟩
  · rw [mT_gJ]; exact (i5t28 hT).2
  · rw [mW_gJ]
    unfold c5b28 c5a28
    simp only [mT_sI, mW_sI, mK_sI, mI_sI, mJ_sI, mR_sI, mT_sJ, mW_sJ, mK_sJ, mI_sJ, mJ_sJ, mR_sJ, mT_sR, mW_sR, mK_sR, mI_sR, mJ_sR, mR_sR, mT_gI, mW_gI, mK_gI, mI_gI, mJ_gI, mR_gI, mT_gJ, mW_gJ, mK_gJ, mI_gJ, mJ_gJ, mR_gJ, mT_wR, mW_wR, mK_wR, mI_wR, mJ_wR, mR_wR, mT_sN, mW_sN, mK_sN, mI_sN, mJ_sN, mR_sN]
  all_goals first
    | (rw [mJ_gJ, if_pos ⟨rfl, Nat.zero_le _, hc⟩]; done)
    | (unfold c5b28 c5a28; simp only [mK_gJ, mI_gJ, mJ_gJ, mR_gJ, mT_sI, mW_sI, mK_sI, mI_sI, mJ_sI, mR_sI, mT_sJ, mW_sJ, mK_sJ, mI_sJ, mJ_sJ, mR_sJ, mT_sR, mW_sR, mK_sR, mI_sR, mJ_sR, mR_sR, mT_gI, mW_gI, mK_gI, mI_gI, mJ_gI, mR_gI, mT_gJ, mW_gJ, mK_gJ, mI_gJ, mJ_gJ, mR_gJ, mT_wR, mW_wR, mK_wR, mI_wR, mJ_wR, mR_wR, mT_sN, mW_sN, mK_sN, mI_sN, mJ_sN, mR_sN, hT, hk, zi, zr, Nat.reduceAdd, Nat.reduceEqDiff, ↓reduceIte, and_self, and_true, true_and, false_and, and_false]; done)
    | (unfold c5b28 c5a28; simp only [mK_gJ, mI_gJ, mJ_gJ, mR_gJ, mT_sI, mW_sI, mK_sI, mI_sI, mJ_sI, mR_sI, mT_sJ, mW_sJ, mK_sJ, mI_sJ, mJ_sJ, mR_sJ, mT_sR, mW_sR, mK_sR, mI_sR, mJ_sR, mR_sR, mT_gI, mW_gI, mK_gI, mI_gI, mJ_gI, mR_gI, mT_gJ, mW_gJ, mK_gJ, mI_gJ, mJ_gJ, mR_gJ, mT_wR, mW_wR, mK_wR, mI_wR, mJ_wR, mR_wR, mT_sN, mW_sN, mK_sN, mI_sN, mJ_sN, mR_sN, hT, hk, zi, zr, Nat.reduceAdd, Nat.reduceEqDiff, ↓reduceIte, and_self, and_true, true_and, false_and, and_false]; decide)
theorem s534 {M : Mm} (hT : mT M = 35) (hz : Ze M 34 (6, 0)) : ∃ G, fX5_init 34 M = some G ∧ mT G = 40 ∧ mW G = mW M + 66 ∧ Fx [34] M G ∧ StN 34 G := by
  have hk := hz.1
  have zi := hz.2.1
  have zr := hz.2.2.2
  have ff : Fx [34] M (c5b34 (c5a34 M)) := by
    have fa : Fx [34] M (c5a34 M) := by
      unfold c5a34
      exact (((((((((((Fx.wI List.mem_cons_self _ _).tr (Fx.wI List.mem_cons_self _ _)).tr (Fx.wI List.mem_cons_self _ _)).tr (Fx.wI List.mem_cons_self _ _)).tr (Fx.wI List.mem_cons_self _ _)).tr (Fx.wI List.mem_cons_self _ _)).tr (Fx.wN _ _ _)).tr (Fx.wR List.mem_cons_self _ _)).tr (Fx.wI List.mem_cons_self _ _)).tr (Fx.wN _ _ _)).tr (Fx.wR List.mem_cons_self _ _)).tr (Fx.wI List.mem_cons_self _ _)
    have ta := (i5t34 hT).1
    have fb : Fx [34, 37] (c5a34 M) (c5b34 (c5a34 M)) := by
      unfold c5b34
      have in2 : 37 ∈ [34, 37] := by decide
      exact (((((((((Fx.wN _ _ _).tr (Fx.wN _ _ _)).tr (Fx.wR in2 _ _)).tr (Fx.wN _ _ _)).tr (Fx.wR in2 _ _)).tr (Fx.wR List.mem_cons_self _ _)).tr (Fx.wI List.mem_cons_self _ _)).tr (Fx.wI List.mem_cons_self _ _)).tr (Fx.wI List.mem_cons_self _ _)).tr (Fx.wI List.mem_cons_self _ _)
    exact fa.cut fb (fun o ho => by
      simp only [List.mem_cons, List.not_mem_nil, or_false] at ho
      rcases ho with rfl | rfl
      · exact Or.inl List.mem_cons_self
      · exact Or.inr (by omega))
  refine ⟨_, i534 hT hk, ?_, ?_, ff.cut (Fx.wJ (l := [38]) List.mem_cons_self _ _ _) (fun o ho => Or.inr (by rw [List.mem_singleton.mp ho]; omega)), ⟨?_, ?_, ?_, ?_⟩, ?_, ?_, fun i => ?_, fun i => ?_, fun c hc => ?_, fun c => ?_⟩
  · rw [mT_gJ]; exact (i5t34 hT).2
  · rw [mW_gJ]
    unfold c5b34 c5a34
    simp only [mT_sI, mW_sI, mK_sI, mI_sI, mJ_sI, mR_sI, mT_sJ, mW_sJ, mK_sJ, mI_sJ, mJ_sJ, mR_sJ, mT_sR, mW_sR, mK_sR, mI_sR, mJ_sR, mR_sR, mT_gI, mW_gI, mK_gI, mI_gI, mJ_gI, mR_gI, mT_gJ, mW_gJ, mK_gJ, mI_gJ, mJ_gJ, mR_gJ, mT_wR, mW_wR, mK_wR, mI_wR, mJ_wR, mR_wR, mT_sN, mW_sN, mK_sN, mI_sN, mJ_sN, mR_sN]
  all_goals first
    | (rw [mJ_gJ, if_pos ⟨rfl, Nat.zero_le _, hc⟩]; done)
    | (unfold c5b34 c5a34; simp only [mK_gJ, mI_gJ, mJ_gJ, mR_gJ, mT_sI, mW_sI, mK_sI, mI_sI, mJ_sI, mR_sI, mT_sJ, mW_sJ, mK_sJ, mI_sJ, mJ_sJ, mR_sJ, mT_sR, mW_sR, mK_sR, mI_sR, mJ_sR, mR_sR, mT_gI, mW_gI, mK_gI, mI_gI, mJ_gI, mR_gI, mT_gJ, mW_gJ, mK_gJ, mI_gJ, mJ_gJ, mR_gJ, mT_wR, mW_wR, mK_wR, mI_wR, mJ_wR, mR_wR, mT_sN, mW_sN, mK_sN, mI_sN, mJ_sN, mR_sN, hT, hk, zi, zr, Nat.reduceAdd, Nat.reduceEqDiff, ↓reduceIte, and_self, and_true, true_and, false_and, and_false]; done)
    | (unfold c5b34 c5a34; simp only [mK_gJ, mI_gJ, mJ_gJ, mR_gJ, mT_sI, mW_sI, mK_sI, mI_sI, mJ_sI, mR_sI, mT_sJ, mW_sJ, mK_sJ, mI_sJ, mJ_sJ, mR_sJ, mT_sR, mW_sR, mK_sR, mI_sR, mJ_sR, mR_sR, mT_gI, mW_gI, mK_gI, mI_gI, mJ_gI, mR_gI, mT_gJ, mW_gJ, mK_gJ, mI_gJ, mJ_gJ, mR_gJ, mT_wR, mW_wR, mK_wR, mI_wR, mJ_wR, mR_wR, mT_sN, mW_sN, mK_sN, mI_sN, mJ_sN, mR_sN, hT, hk, zi, zr, Nat.reduceAdd, Nat.reduceEqDiff, ↓reduceIte, and_self, and_true, true_and, false_and, and_false]; decide)
