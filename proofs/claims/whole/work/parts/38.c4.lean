/-! steps for a street object s -/
theorem kbS {β : Type} {M : Mm} {s : Nat} (hs : sl s) (h : FIX M) (f : Unit → Option β) : Option.bind (kc M 5 s) f = f () := bnd1 (by unfold kc; rw [kS h hs]; rfl) f
theorem ibS {β : Type} {M : Mm} {s : Nat} (hs : sl s) (h : FIX M) (k : Nat) (f : Int32 → Option β) : Option.bind (fI M 5 s k) f = f (mI M s k) := bnd1 (by unfold fI; rw [kS h hs]; rfl) f
theorem pbS {β : Type} {M : Mm} {s : Nat} (hs : sl s) (h : FIX M) (k : Nat) (v : Int32) (f : Mm → Option β) : Option.bind (pI M 5 s k v) f = f (sI M s k v) := bnd1 (by unfold pI; rw [kS h hs]; rfl) f
theorem rbS6 {β : Type} {M : Mm} {s : Nat} (hs : sl s) (h : FIX M) (f : Nat → Option β) : Option.bind (fR M 5 s 6) f = f (s + 1) := bnd1 (by unfold fR; rw [kS h hs, rS6 h hs]; rfl) f
theorem rbS8 {β : Type} {M : Mm} {s : Nat} (hs : sl s) (h : FIX M) (f : Nat → Option β) : Option.bind (fR M 5 s 8) f = f (s + 2) := bnd1 (by unfold fR; rw [kS h hs, rS8 h hs]; rfl) f
theorem rbS10 {β : Type} {M : Mm} {s : Nat} (hs : sl s) (h : FIX M) (f : Nat → Option β) : Option.bind (fR M 5 s 10) f = f (s + 3) := bnd1 (by unfold fR; rw [kS h hs, rS10 h hs]; rfl) f
theorem kbO {β : Type} {M : Mm} {s : Nat} (hs : sl s) (h : FIX M) (f : Unit → Option β) : Option.bind (kc M 0 (s + 3)) f = f () := bnd1 (by unfold kc; rw [kS3 h hs]; rfl) f
theorem rbO0 {β : Type} {M : Mm} {s : Nat} (hs : sl s) (h : FIX M) (f : Nat → Option β) : Option.bind (fR M 0 (s + 3) 0) f = f (s + 4) := bnd1 (by unfold fR; rw [kS3 h hs, rO0 h hs]; rfl) f
theorem rbO1 {β : Type} {M : Mm} {s : Nat} (hs : sl s) (h : FIX M) (f : Nat → Option β) : Option.bind (fR M 0 (s + 3) 1) f = f (s + 5) := bnd1 (by unfold fR; rw [kS3 h hs, rO1 h hs]; rfl) f
theorem abW {β : Type} {M : Mm} {s : Nat} (hs : sl s) (h : FIX M) {i : Nat} (hi : i < 24) (f : Int64 → Option β) : Option.bind (aJ M (s + 4) (nI i)) f = f (mJ M (s + 4) i) := bnd1 (by have hc := nI_clamp (show i < 2 ^ 31 by omega); unfold aJ; rw [if_pos (by rw [kS4 h hs, hc]; exact ⟨rfl, nI_pos (by omega), hi⟩), hc]) f
theorem tbW {β : Type} {M : Mm} {s : Nat} (hs : sl s) (h : FIX M) {i : Nat} (hi : i < 24) (v : Int64) (f : Mm → Option β) : Option.bind (tJ M (s + 4) (nI i) v) f = f (sJ M (s + 4) i v) := bnd1 (by have hc := nI_clamp (show i < 2 ^ 31 by omega); unfold tJ; rw [if_pos (by rw [kS4 h hs, hc]; exact ⟨rfl, nI_pos (by omega), hi⟩), hc]) f
theorem abM {β : Type} {M : Mm} {s : Nat} (hs : sl s) (h : FIX M) {i : Nat} (hi : i < 24) (f : Int64 → Option β) : Option.bind (aJ M (s + 5) (nI i)) f = f (mJ M (s + 5) i) := bnd1 (by have hc := nI_clamp (show i < 2 ^ 31 by omega); unfold aJ; rw [if_pos (by rw [kS5 h hs, hc]; exact ⟨rfl, nI_pos (by omega), hi⟩), hc]) f
theorem tbM {β : Type} {M : Mm} {s : Nat} (hs : sl s) (h : FIX M) {i : Nat} (hi : i < 24) (v : Int64) (f : Mm → Option β) : Option.bind (tJ M (s + 5) (nI i) v) f = f (sJ M (s + 5) i v) := bnd1 (by have hc := nI_clamp (show i < 2 ^ 31 by omega); unfold tJ; rw [if_pos (by rw [kS5 h hs, hc]; exact ⟨rfl, nI_pos (by omega), hi⟩), hc]) f
theorem sl_lt {s : Nat} (hs : sl s) : 22 ≤ s ∧ s ≤ 34 := by rcases hs with rfl | rfl | rfl <;> decide
/-- new odds in a street -/
theorem St.od {ds : List Nat} {M M1 : Mm} (hF : FIX M) (f : Fr ds [] M M1) {s : Nat} {q od od1 : Nat → Nat} {sd : Int32} (h : St s q od sd M) (hs : s < 100) (hd : ∀ o ∈ ds, o < 107 ∧ o ≠ s ∧ o ≠ s + 1 ∧ o ≠ s + 2 ∧ o ≠ s + 5) (e : ∀ c, c < 24 → mJ M1 (s + 4) c = lN (od1 c)) : St s q od1 sd M1 := by
  have h0 := hF.1
  have hx : ∀ o ∈ ds, o < 107 := fun o ho => (hd o ho).1
  have n0 : ¬ s ∈ ds := fun x => (hd _ x).2.1 rfl
  have n1 : ¬ (s + 1) ∈ ds := fun x => (hd _ x).2.2.1 rfl
  have n2 : ¬ (s + 2) ∈ ds := fun x => (hd _ x).2.2.2.1 rfl
  have n5 : ¬ (s + 5) ∈ ds := fun x => (hd _ x).2.2.2.2 rfl
  have ne : ∀ k, ¬ (s, k) ∈ ([] : List (Nat × Nat)) := fun k => List.not_mem_nil
  obtain ⟨a, b, c, d, e2, g, w⟩ := h
  refine ⟨fun t ht => by rw [f.I (by omega) n0 (ne _)]; exact a t ht, by rw [f.I (by omega) n0 (ne _)]; exact b, by rw [f.I (by omega) n0 (ne _)]; exact c, fun i hi => ?_, fun i hi => ?_, e, Sw.fr hF f hs w n1 n2 n5⟩
  · obtain ⟨r, hr, x⟩ := d i hi
    exact ⟨r, by rw [f.R (by omega) (Or.inl n1)]; exact hr, x.fr f hx mem0⟩
  · obtain ⟨r, hr, x⟩ := e2 i hi
    exact ⟨r, by rw [f.R (by omega) (Or.inl n2)]; exact hr, x.fr f hx mem0⟩
theorem MD.od {ds : List Nat} {M M1 : Mm} (hF : FIX M) (f : Fr ds [] M M1) {q od od1 : Nat → Nat} {sd : Int32} (h : MD q od sd M) (hd : ∀ o ∈ ds, o < 80 ∨ o = 81 ∨ 89 ≤ o) (e : ∀ c, c < 24 → mJ M1 89 c = lN (od1 c)) : MD q od1 sd M1 := by
  have h0 := hF.1
  have n0 : ∀ o, o = 80 ∨ (82 ≤ o ∧ o ≤ 88) → ¬ o ∈ ds := fun o ho x => by have := hd o x; omega
  have ne : ∀ o k, ¬ (o, k) ∈ ([] : List (Nat × Nat)) := fun o k => List.not_mem_nil
  obtain ⟨a, b, c, d, -⟩ := h
  exact ⟨fun k hk => by rw [f.I (by omega) (n0 80 (by omega)) (ne _ _)]; exact a k hk, by rw [f.I (by omega) (n0 80 (by omega)) (ne _ _)]; exact b, by rw [f.I (by omega) (n0 80 (by omega)) (ne _ _)]; exact c, fun x hx i hi => by rw [f.I (by omega) (n0 (82 + x) (by omega)) (ne _ _)]; exact d x hx i hi, e⟩
/-- the odds of one who knows nothing, of one who knows a cell -/
def evn (L : Nat) : Nat → Nat := fun i => if i < L then 1 else 0
def sur (j : Nat) : Nat → Nat := fun i => if i = j then 1 else 0
def z45 (q : Nat → Nat) : Nat → Nat := u1 (u1 q 64 0) 65 0
theorem lN1 : (1 : Int64) = lN 1 := rfl
theorem lN0 : (0 : Int64) = lN 0 := rfl
theorem evX {s L : Nat} (hs : sl s) (hL : L ≤ 24) : ∀ n i (M : Mm), FIX M → i ≤ 24 → 24 - i < n → fX0_becomeEven_b2 n (s + 3) (nI L) (nI i) M = some (gJ M (s + 4) i 24 (fun c => lN (evn L c))) := by
  intro n
  induction n with
  | zero => intro i M _ h1 h2; omega
  | succ n ih =>
    intro i M hF h1 h2
    unfold fX0_becomeEven_b2
    by_cases c : 24 ≤ i
    · have e : i = 24 := by omega
      subst e
      simp (disch := first | assumption | omega | (simp only [FIX_sI, FIX_sJ, FIX_gI, FIX_gJ]; assumption)) only [l0, l1, l2, l3, l4, l5, l6, l7, l8, l9, l10, l11, l12, l13, l14, l15, l16, l17, l18, l19, l20, l21, l22, l23, l24, l25, l26, l27, l28, l29, l30, l31, l32, l33, l34, l35, l36, l37, l38, l39, l40, l41, l42, l43, l44, l45, l46, l48, l50, l57, l59, l60, l63, l70, l71, l80, l97, l99, l100, l101, l103, l104, l105, l108, l110, l111, l114, l115, l116, l117, l119, l160, l200, l255, l1280, l12345, le_nn, lt_nn, eq_nn, cl_nn, ng_le, ng_lt, ng_lt2, ng_le2, ng_eq, mi_eq, mi_ne, mi_ne2, mi_mi, add_nn, mul_nn, sub_nn, refX, refY, not_false_eq_true, not_true_eq_false, Nat.not_lt_zero, Nat.zero_le, Nat.reduceLeDiff, Nat.reduceLT, Nat.reduceMul, Nat.reduceSub, true_or, or_true, or_false, false_or, ↓reduceIte, Nat.le_refl, gJ_end]
    · have ci : i < 24 := by omega
      by_cases c2 : L ≤ i
      · simp (disch := first | assumption | omega | (simp only [FIX_sI, FIX_sJ, FIX_gI, FIX_gJ]; assumption)) only [l1, l24, le_nn, c, c2, ↓reduceIte, ↓rbO0 hs, ↓tbW hs, add_nn]
        rw [ih (i + 1) (sJ M (s + 4) i 0) (by simp only [FIX_sI, FIX_sJ, FIX_gI, FIX_gJ]; exact hF) (by omega) (by omega), gJ_step ci (by rw [evn, if_neg (by omega)]; rfl)]
      · simp (disch := first | assumption | omega | (simp only [FIX_sI, FIX_sJ, FIX_gI, FIX_gJ]; assumption)) only [l1, l24, le_nn, c, c2, ↓reduceIte, ↓rbO0 hs, ↓tbW hs, add_nn]
        rw [ih (i + 1) (sJ M (s + 4) i 1) (by simp only [FIX_sI, FIX_sJ, FIX_gI, FIX_gJ]; exact hF) (by omega) (by omega), gJ_step ci (by rw [evn, if_pos (by omega)]; rfl)]
theorem suX {s j : Nat} (hs : sl s) (hj : j < 2147483648) : ∀ n i (M : Mm), FIX M → i ≤ 24 → 24 - i < n → fX0_becomeSure_b2 n (s + 3) (nI j) (nI i) M = some (gJ M (s + 4) i 24 (fun c => lN (sur j c))) := by
  intro n
  induction n with
  | zero => intro i M _ h1 h2; omega
  | succ n ih =>
    intro i M hF h1 h2
    unfold fX0_becomeSure_b2
    by_cases c : 24 ≤ i
    · have e : i = 24 := by omega
      subst e
      simp (disch := first | assumption | omega | (simp only [FIX_sI, FIX_sJ, FIX_gI, FIX_gJ]; assumption)) only [l0, l1, l2, l3, l4, l5, l6, l7, l8, l9, l10, l11, l12, l13, l14, l15, l16, l17, l18, l19, l20, l21, l22, l23, l24, l25, l26, l27, l28, l29, l30, l31, l32, l33, l34, l35, l36, l37, l38, l39, l40, l41, l42, l43, l44, l45, l46, l48, l50, l57, l59, l60, l63, l70, l71, l80, l97, l99, l100, l101, l103, l104, l105, l108, l110, l111, l114, l115, l116, l117, l119, l160, l200, l255, l1280, l12345, le_nn, lt_nn, eq_nn, cl_nn, ng_le, ng_lt, ng_lt2, ng_le2, ng_eq, mi_eq, mi_ne, mi_ne2, mi_mi, add_nn, mul_nn, sub_nn, refX, refY, not_false_eq_true, not_true_eq_false, Nat.not_lt_zero, Nat.zero_le, Nat.reduceLeDiff, Nat.reduceLT, Nat.reduceMul, Nat.reduceSub, true_or, or_true, or_false, false_or, ↓reduceIte, Nat.le_refl, gJ_end]
    · have ci : i < 24 := by omega
      by_cases c2 : i = j
      · subst c2
        simp (disch := first | assumption | omega | (simp only [FIX_sI, FIX_sJ, FIX_gI, FIX_gJ]; assumption)) only [l1, l24, le_nn, eq_nn, c, ↓reduceIte, ↓rbO0 hs, ↓tbW hs, add_nn]
        rw [ih (i + 1) (sJ M (s + 4) i 1) (by simp only [FIX_sI, FIX_sJ, FIX_gI, FIX_gJ]; exact hF) (by omega) (by omega), gJ_step ci (by rw [sur, if_pos rfl]; rfl)]
      · simp (disch := first | assumption | omega | (simp only [FIX_sI, FIX_sJ, FIX_gI, FIX_gJ]; assumption)) only [l1, l24, le_nn, eq_nn, c, c2, ↓reduceIte, ↓rbO0 hs, ↓tbW hs, add_nn]
        rw [ih (i + 1) (sJ M (s + 4) i 0) (by simp only [FIX_sI, FIX_sJ, FIX_gI, FIX_gJ]; exact hF) (by omega) (by omega), gJ_step ci (by rw [sur, if_neg c2]; rfl)]
theorem knX0 {s L : Nat} (hs : sl s) (hL : L ≤ 24) {M : Mm} (hF : FIX M) (h : mI M s 0 = nI L) : fX5_knowNothing s M = some (sI (sI (gJ M (s + 4) 0 24 (fun c => lN (evn L c))) s 12 (nI 0)) s 11 (nI 0)) := by
  have e := evX hs hL FU 0 M hF (by omega) (by unfold FU; omega)
  have e2 : fX0_becomeEven (s + 3) (nI L) M = some (gJ M (s + 4) 0 24 (fun c => lN (evn L c))) := by
    unfold fX0_becomeEven
    rw [kbO hs hF, ← e]
    rfl
  unfold fX5_knowNothing
  simp (disch := first | assumption | omega | (simp only [FIX_sI, FIX_sJ, FIX_gI, FIX_gJ]; assumption)) only [↓kbS hs, ↓rbS10 hs, ↓ibS hs, h, e2, Option.bind_some, ↓pbS hs, l0]
theorem knXs {s j : Nat} (hs : sl s) (hj : j < 2147483648) {M : Mm} (hF : FIX M) : fX5_knowCell s (nI j) M = some (sI (sI (gJ M (s + 4) 0 24 (fun c => lN (sur j c))) s 12 (nI 0)) s 11 (nI 0)) := by
  have e := suX hs hj FU 0 M hF (by omega) (by unfold FU; omega)
  have e2 : fX0_becomeSure (s + 3) (nI j) M = some (gJ M (s + 4) 0 24 (fun c => lN (sur j c))) := by
    unfold fX0_becomeSure
    rw [kbO hs hF, ← e]
    rfl
  unfold fX5_knowCell
  simp (disch := first | assumption | omega | (simp only [FIX_sI, FIX_sJ, FIX_gI, FIX_gJ]; assumption)) only [↓kbS hs, ↓rbS10 hs, ↓ibS hs, e2, Option.bind_some, ↓pbS hs, l0]
theorem evY {L : Nat} (hL : L ≤ 24) : ∀ n i (M : Mm), FIX M → mI M 80 0 = nI L → i ≤ 24 → 24 - i < n → fX9_knows_b2 n 80 (-nI 1) (nI i) M = some (sI (sI (gJ M 89 i 24 (fun c => lN (evn L c))) 80 8 (nI 0)) 80 9 (nI 0)) := by
  intro n
  induction n with
  | zero => intro i M _ _ h1 h2; omega
  | succ n ih =>
    intro i M hF hm h1 h2
    unfold fX9_knows_b2 fX9_knows_b35
    by_cases c : 24 ≤ i
    · have e : i = 24 := by omega
      subst e
      simp (disch := first | assumption | omega | (simp only [FIX_sI, FIX_sJ, FIX_gI, FIX_gJ]; assumption)) only [l0, l24, le_nn, ↓reduceIte, Nat.le_refl, gJ_end, ↓pb80]
    · have ci : i < 24 := by omega
      by_cases c2 : i < L
      · simp (disch := first | assumption | omega | (simp only [FIX_sI, FIX_sJ, FIX_gI, FIX_gJ]; assumption)) only [l1, l24, le_nn, lt_nn, c, c2, hm, ↓reduceIte, ↓rb80_21, ↓ib80, ↓tb89, add_nn]
        rw [ih (i + 1) (sJ M 89 i 1) (by simp only [FIX_sI, FIX_sJ, FIX_gI, FIX_gJ]; exact hF) (by simp only [mI_sJ]; exact hm) (by omega) (by omega), gJ_step ci (by rw [evn, if_pos (by omega)]; rfl)]
      · simp (disch := first | assumption | omega | (simp only [FIX_sI, FIX_sJ, FIX_gI, FIX_gJ]; assumption)) only [l1, l24, le_nn, lt_nn, c, c2, hm, ↓reduceIte, ↓rb80_21, ↓ib80, ↓tb89, add_nn]
        rw [ih (i + 1) (sJ M 89 i 0) (by simp only [FIX_sI, FIX_sJ, FIX_gI, FIX_gJ]; exact hF) (by simp only [mI_sJ]; exact hm) (by omega) (by omega), gJ_step ci (by rw [evn, if_neg (by omega)]; rfl)]
theorem suY {L j : Nat} (hL : L ≤ 24) (hj : j < L) : ∀ n i (M : Mm), FIX M → mI M 80 0 = nI L → i ≤ 24 → 24 - i < n → fX9_knows_b2 n 80 (nI j) (nI i) M = some (sI (sI (gJ M 89 i 24 (fun c => lN (sur j c))) 80 8 (nI 0)) 80 9 (nI 0)) := by
  intro n
  induction n with
  | zero => intro i M _ _ h1 h2; omega
  | succ n ih =>
    intro i M hF hm h1 h2
    unfold fX9_knows_b2 fX9_knows_b35
    by_cases c : 24 ≤ i
    · have e : i = 24 := by omega
      subst e
      simp (disch := first | assumption | omega | (simp only [FIX_sI, FIX_sJ, FIX_gI, FIX_gJ]; assumption)) only [l0, l24, le_nn, ↓reduceIte, Nat.le_refl, gJ_end, ↓pb80]
    · have ci : i < 24 := by omega
      by_cases c2 : i < L
      · by_cases c3 : j = i
        · subst c3
          simp (disch := first | assumption | omega | (simp only [FIX_sI, FIX_sJ, FIX_gI, FIX_gJ]; assumption)) only [l1, l24, le_nn, lt_nn, eq_nn, mi_ne, c, c2, hm, ↓reduceIte, ↓rb80_21, ↓ib80, ↓tb89, add_nn]
          rw [ih (j + 1) (sJ M 89 j 1) (by simp only [FIX_sI, FIX_sJ, FIX_gI, FIX_gJ]; exact hF) (by simp only [mI_sJ]; exact hm) (by omega) (by omega), gJ_step ci (by rw [sur, if_pos rfl]; rfl)]
        · simp (disch := first | assumption | omega | (simp only [FIX_sI, FIX_sJ, FIX_gI, FIX_gJ]; assumption)) only [l1, l24, le_nn, lt_nn, eq_nn, mi_ne, c, c2, c3, hm, ↓reduceIte, ↓rb80_21, ↓ib80, ↓tb89, add_nn]
          rw [ih (i + 1) (sJ M 89 i 0) (by simp only [FIX_sI, FIX_sJ, FIX_gI, FIX_gJ]; exact hF) (by simp only [mI_sJ]; exact hm) (by omega) (by omega), gJ_step ci (by rw [sur, if_neg (by omega)]; rfl)]
      · simp (disch := first | assumption | omega | (simp only [FIX_sI, FIX_sJ, FIX_gI, FIX_gJ]; assumption)) only [l1, l24, le_nn, lt_nn, c, c2, hm, ↓reduceIte, ↓rb80_21, ↓ib80, ↓tb89, add_nn]
        rw [ih (i + 1) (sJ M 89 i 0) (by simp only [FIX_sI, FIX_sJ, FIX_gI, FIX_gJ]; exact hF) (by simp only [mI_sJ]; exact hm) (by omega) (by omega), gJ_step ci (by rw [sur, if_neg (by omega)]; rfl)]
