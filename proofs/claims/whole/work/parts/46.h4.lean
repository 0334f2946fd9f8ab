theorem St.put0 {s : Nat} {q od : Nat → Nat} {sd : Int32} {M : Mm} (h : St s q od sd M) (hs : s < 107) (hq : q 62 ≤ 8 ∧ q 63 ≤ 8) (t : Nat × Nat) (ht : t ∈ SCL) (h2 : t.2 = 62 ∨ t.2 = 63) : St s (u1 q t.2 0) od sd (sI M s t.1 (nI 0)) := by
  obtain ⟨a, b, c, d, e, g, w⟩ := h
  have hj := (SCL_inj t ht t ht).2
  refine ⟨fun t2 h3 => ?_, ?_, ?_, fun i hi => ?_, fun i hi => ?_, g, w⟩
  · have := (SCL_inj t ht t2 h3).1
    simp only [mI_sI, u1, true_and]
    by_cases z : t2.1 = t.1
    · rw [if_pos z, if_pos (this.mp z)]
    · rw [if_neg z, if_neg (fun y => z (this.mpr y))]
      exact a t2 h3
  · simp only [mI_sI, u1]
    rw [if_neg (by omega), if_neg (by omega)]
    exact b
  · simp only [mI_sI, u1]
    rw [if_neg (by omega)]
    exact c
  · have hi2 : i < q 62 := by
      unfold u1 at hi
      by_cases z : 62 = t.2
      · rw [if_pos z] at hi; omega
      · rw [if_neg z] at hi; exact hi
    obtain ⟨r, hr, x⟩ := d i hi2
    exact ⟨r, hr, x.put hs _ _ _ (by omega) (by omega)⟩
  · have hi2 : i < q 63 := by
      unfold u1 at hi
      by_cases z : 63 = t.2
      · rw [if_pos z] at hi; omega
      · rw [if_neg z] at hi; exact hi
    obtain ⟨r, hr, x⟩ := e i hi2
    exact ⟨r, hr, x.put hs _ _ _ (by omega) (by omega)⟩
/-- a street told anew -/
def anw (q : Nat → Nat) (v : Nat) : Nat → Nat := z45 (u1 (u1 (u1 (u1 q 56 v) 62 0) 63 0) 66 0)
theorem m01 : nI 0 - nI 1 = -nI 1 := by decide
def aX (M : Mm) (s v : Nat) : Mm := sI (sI (gJ (sI (sI (sI (sI M s 0 (nI v)) s 7 (nI 0)) s 9 (nI 0)) s 13 (-nI 1)) (s + 4) 0 24 (fun c => lN (evn v c))) s 12 (nI 0)) s 11 (nI 0)
def aY (M : Mm) (v : Nat) : Mm := sI (sI (gJ (sI (sI (sI (sI (sI M 80 0 (nI v)) 80 29 (nI 1)) 80 6 (nI 0)) 80 7 (nI 0)) 80 10 (-nI 1)) 89 0 24 (fun c => lN (evn v c))) 80 8 (nI 0)) 80 9 (nI 0)
theorem tel8 {s : Nat} (hs : sl s) {M : Mm} (hF : FIX M) {v : Nat} (hv : v ≤ 24) : fX5_tellLength s (nI v) M = some (aX M s v) := by
  have hl := sl_lt hs
  have e := knX0 hs hv (M := sI (sI (sI (sI M s 0 (nI v)) s 7 (nI 0)) s 9 (nI 0)) s 13 (-nI 1)) (by simp only [FIX_sI, FIX_sJ, FIX_gI, FIX_gJ]; exact hF) (by rw [mI_sI, if_neg (by omega), mI_sI, if_neg (by omega), mI_sI, if_neg (by omega), mI_sI, if_pos ⟨rfl, rfl⟩])
  unfold fX5_tellLength aX
  simp (disch := first | assumption | omega | (simp only [FIX_sI, FIX_sJ, FIX_gI, FIX_gJ]; assumption)) only [↓kbS hs, ↓pbS hs, l0, l1, ↓bnd1 e]
theorem alo9 {M : Mm} (hF : FIX M) {v : Nat} (hv : v ≤ 24) : fX9_along 80 (nI v) M = some (aY M v) := by
  have e := evY hv FU 0 (sI (sI (sI (sI (sI M 80 0 (nI v)) 80 29 (nI 1)) 80 6 (nI 0)) 80 7 (nI 0)) 80 10 (-nI 1)) (by simp only [FIX_sI, FIX_sJ, FIX_gI, FIX_gJ]; exact hF) (by simp only [mI_sI, Nat.reduceEqDiff, and_false, and_true, ↓reduceIte]) (by decide) (by decide)
  have p1 : nI 1 &&& nI 1 = nI 1 := by decide
  unfold fX9_along aY
  simp (disch := first | assumption | omega | (simp only [FIX_sI, FIX_sJ, FIX_gI, FIX_gJ]; assumption)) only [↓kb80, ↓pb80, pZ, mK_sI, K80, p1, Nat.reduceAdd, and_self, ↓reduceIte, Option.bind_some, fX9_knows, l0, l1, ↓bnd1 e]
theorem frX (M : Mm) (s v : Nat) : Fr [s + 4] [(s, 0), (s, 7), (s, 9), (s, 13), (s, 12), (s, 11)] M (aX M s v) := by
  unfold aX
  refine ((((((Fr.oI _ _ (Or.inr ?_)).tr (Fr.oI _ _ (Or.inr ?_))).tr (Fr.oI _ _ (Or.inr ?_))).tr (Fr.oI _ _ (Or.inr ?_))).tr (Fr.gJ _ _ _ ?_)).tr (Fr.oI _ _ (Or.inr ?_))).tr (Fr.oI _ _ (Or.inr ?_))
  all_goals simp only [List.mem_cons, true_or, or_true]
theorem frY (M : Mm) (v : Nat) : Fr [89] [(80, 0), (80, 29), (80, 6), (80, 7), (80, 10), (80, 8), (80, 9)] M (aY M v) := by
  unfold aY
  refine (((((((Fr.oI _ _ (Or.inr ?_)).tr (Fr.oI _ _ (Or.inr ?_))).tr (Fr.oI _ _ (Or.inr ?_))).tr (Fr.oI _ _ (Or.inr ?_))).tr (Fr.oI _ _ (Or.inr ?_))).tr (Fr.gJ _ _ _ ?_)).tr (Fr.oI _ _ (Or.inr ?_))).tr (Fr.oI _ _ (Or.inr ?_))
  all_goals simp only [List.mem_cons, true_or, or_true]
theorem St.anew {s : Nat} (hs : sl s) {q od : Nat → Nat} {sd : Int32} {M : Mm} (hF : FIX M) (h : St s q od sd M) (hq : q 62 ≤ 8 ∧ q 63 ≤ 8) (v : Nat) : St s (anw q v) (evn v) sd (aX M s v) := by
  have hl := sl_lt hs
  have h1 := h.put (by omega) hq (0, 56) (by decide) (by decide) v
  have h2 := h1.put0 (by omega) hq (7, 62) (by decide) (by decide)
  have h3 := h2.put0 (by omega) (by simp only [u1, Nat.reduceEqDiff, ↓reduceIte]; omega) (9, 63) (by decide) (by decide)
  have h4 := h3.putT (by omega) (by simp only [u1, Nat.reduceEqDiff, ↓reduceIte]; omega) 0
  rw [m01] at h4
  have h5 := St.od (od1 := evn v) (by simp only [FIX_sI, FIX_sJ, FIX_gI, FIX_gJ]; exact hF) (Fr.gJ (ds := [s + 4]) 0 24 (fun c => lN (evn v c)) List.mem_cons_self) h4 (by omega) (memc (by omega) mem0) (fun c hc => by rw [mJ_gJ, if_pos ⟨rfl, Nat.zero_le _, hc⟩])
  have h6 := h5.put (by omega) (by simp only [u1, Nat.reduceEqDiff, ↓reduceIte]; omega) (12, 64) (by decide) (by decide) 0
  exact h6.put (by omega) (by simp only [u1, Nat.reduceEqDiff, ↓reduceIte]; omega) (11, 65) (by decide) (by decide) 0
