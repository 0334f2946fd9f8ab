/-! refusals -/
theorem refX {M : Mm} (hF : FIX M) {k : Nat} (h1 : 1 ≤ k) (h8 : k < 8) : fX8_refused 20 (-(nI k)) M = some (-(nI k), sI M 40 k (mI M 40 k + nI 1)) := by
  have e : -(-(nI k)) = nI k := by simp
  unfold fX8_refused
  simp only [kc, fI, fR, pI, pR, Option.bind_some, ↓reduceIte, Nat.reduceAdd, Nat.reduceEqDiff, and_self, and_true, true_and, false_and, and_false, Option.bind_none, K20 hF, K40 hF, R20_5 hF, aL, aI, tI, e, l1]
  rw [if_neg (nI_nle (by omega) (by omega))]
  have e8 : ¬ (8 : Int32) ≤ nI k := fun z => absurd ((nI_leI (by omega) (by omega)).mp (show nI 8 ≤ nI k from z)) (by omega)
  simp [e8, nI_pos (show k < 2 ^ 31 by omega), nI_clamp (show k < 2 ^ 31 by omega), h8]
theorem refY {M : Mm} (hF : FIX M) {k : Nat} (h1 : 1 ≤ k) (h8 : k < 8) : fX9_no 80 (-(nI k)) M = some (-(nI k), sI M 81 k (mI M 81 k + nI 1)) := by
  have e : -(-(nI k)) = nI k := by simp
  unfold fX9_no
  simp only [kc, fI, fR, pI, pR, Option.bind_some, ↓reduceIte, Nat.reduceAdd, Nat.reduceEqDiff, and_self, and_true, true_and, false_and, and_false, Option.bind_none, K80 hF, K81 hF, R80_13 hF, aL, aI, tI, e, l1]
  simp [nI_pos (show k < 2 ^ 31 by omega), nI_clamp (show k < 2 ^ 31 by omega), h8]

theorem REL.fix {A : Mm} {q od q2 od2 : Nat → Nat} {sd sd2 : Int32} {b : Nat} {M : Mm} (h : REL A q od sd b q2 od2 sd2 M) : FIX M := h.1
/-- cells that are not among what both keep beside the street: the street's own, the trial's, scratch -/
def scr (o : Nat) : Prop := (22 ≤ o ∧ o ≤ 33) ∨ (41 ≤ o ∧ o ≤ 60) ∨ o = 63 ∨ (82 ≤ o ∧ o ≤ 90) ∨ o = 96 ∨ o = 98 ∨ o = 99 ∨ o = 101 ∨ (103 ≤ o ∧ o ≤ 105)
def scf (t : Nat × Nat) : Prop := (t.1 = 80 ∧ (t.2 ≤ 11 ∨ (29 ≤ t.2 ∧ t.2 ≤ 46))) ∨ t.1 = 20 ∧ t.2 = 9 ∨ (22 ≤ t.1 ∧ t.1 ≤ 33)
theorem Sh.mono {s : Nat} {q q' : Nat → Nat} {M : Mm} (h : Sh s q M) (hq : q 62 ≤ q' 62) : Sh s q' M :=
  h.imp id fun z => z.imp id fun y => ⟨y.1, y.2.imp fun g x => ⟨Nat.lt_of_lt_of_le x.1 hq, x.2⟩⟩
/-- a call that changes the street -/
theorem REL.upd {ds : List Nat} {es : List (Nat × Nat)} {A : Mm} {q od q1 od1 q2 od2 : Nat → Nat} {sd sd1 sd2 : Int32} {b : Nat} {M M1 : Mm} (h : REL A q od sd b q2 od2 sd2 M) (f : Fr ds es M M1)
    (hd : ∀ o ∈ ds, scr o) (he : ∀ t ∈ es, scf t) (hI : Inv q1 od1) (hS : St 22 q1 od1 sd1 M1) (hM : MD q1 od1 sd1 M1) (hw : Sw 28 M1) (hs : q 62 ≤ q1 62) : REL A q1 od1 sd1 b q2 od2 sd2 M1 := by
  unfold scr at hd
  unfold scf at he
  obtain ⟨a1, a2, a3, a4, a5, a6, a7, ⟨i1, i2, i3⟩, a9, a10, a11, ⟨n, t1, t2, t3, t4⟩, a13⟩ := h
  have h0 := a1.1
  have n0 : ∀ o, (34 ≤ o ∧ o ≤ 40) ∨ (o = 20 ∨ o = 21 ∨ o = 61 ∨ o = 62) ∨ (64 ≤ o ∧ o ≤ 81) ∨ (91 ≤ o ∧ o ≤ 95) ∨ o = 97 ∨ o = 100 ∨ o = 102 ∨ o = 106 → ¬ o ∈ ds := fun o ho x => by have := hd o x; omega
  have ne : ∀ o k, ((34 ≤ o ∧ o ≤ 40) ∨ (o = 20 ∧ k < 9) ∨ (o = 21 ∨ o = 61 ∨ o = 62) ∨ (64 ≤ o ∧ o < 80) ∨ o = 81 ∨ (o = 80 ∧ 12 ≤ k ∧ (k < 29 ∨ 47 ≤ k)) ∨ (91 ≤ o ∧ o ≤ 95) ∨ o = 97 ∨ o = 100 ∨ o = 102 ∨ o = 106) → ¬ (o, k) ∈ es := fun o k ho x => by
    have := he _ x
    simp only at this
    omega
  have g : ∀ o k, ((34 ≤ o ∧ o ≤ 40) ∨ (o = 20 ∧ k < 9) ∨ (o = 21 ∨ o = 61 ∨ o = 62) ∨ (64 ≤ o ∧ o < 80) ∨ o = 81 ∨ (o = 80 ∧ 12 ≤ k ∧ (k < 29 ∨ 47 ≤ k)) ∨ (91 ≤ o ∧ o ≤ 95) ∨ o = 97 ∨ o = 100 ∨ o = 102 ∨ o = 106) → mI M1 o k = mI M o k := fun o k b => f.I (by omega) (n0 o (by omega)) (ne o k b)
  refine ⟨f.fix a1, a2.fr a1 f (fun o ho => by have := hd o ho; omega) (fun o ho => by have := he o ho; omega), hI, hS, hM, hw, a7.fr a1 f (by omega) (n0 _ (by omega)) (n0 _ (by omega)) (n0 _ (by omega)), ⟨?_, ?_, ?_⟩, fun s hs2 => ((a9 s hs2).fr a1 f hs2 (fun o ho => by have := hd o ho; omega) (fun o ho => by have := he o ho; omega)).mono hs, fun k x y => ?_, ?_, ⟨n, t1, ?_, ?_, fun i x y => ?_⟩, fun k hk => ?_⟩
  · rw [g _ _ (by omega)]; exact i1
  · rw [g _ _ (by omega)]; exact i2
  · refine i3.imp id fun z => ⟨z.1, z.2.1, z.2.2.1.fr a1 f (by omega) (fun o ho => by have := hd o ho; omega) (fun o ho => by have := he o ho; omega), z.2.2.2.fr a1 f (n0 _ (by omega)) (n0 _ (by omega)) (fun o ho => by have := he o ho; omega)⟩
  · rw [g _ _ (by omega), g _ _ (by omega)]; exact a10 k x y
  · rw [g _ _ (by omega), g _ _ (by omega)]; exact a11
  · rw [g _ _ (by omega)]; exact t2
  · rw [g _ _ (by omega)]; exact t3
  · rw [g _ _ (by omega), g _ _ (by omega)]; exact t4 i x y
  · rw [g _ _ (by omega)]; exact a13 k hk
/-- cells aside -/
def sca (o : Nat) : Prop := o = 28 ∨ o = 32 ∨ (41 ≤ o ∧ o ≤ 60) ∨ o = 63 ∨ o = 90 ∨ o = 96 ∨ o = 98 ∨ o = 99 ∨ o = 101 ∨ (103 ≤ o ∧ o ≤ 105)
def sce (t : Nat × Nat) : Prop := (t.1 = 80 ∧ 29 ≤ t.2 ∧ t.2 ≤ 46) ∨ t.1 = 20 ∧ t.2 = 9
/-- a call that neither side's state shows: only cells and places aside changed -/
theorem REL.fr {ds : List Nat} {es : List (Nat × Nat)} {A : Mm} {q od q2 od2 : Nat → Nat} {sd sd2 : Int32} {b : Nat} {M M1 : Mm} (h : REL A q od sd b q2 od2 sd2 M) (f : Fr ds es M M1)
    (hd : ∀ o ∈ ds, sca o) (he : ∀ t ∈ es, sce t) : REL A q od sd b q2 od2 sd2 M1 := by
  have hS := h.2.2.2.1
  have hM := h.2.2.2.2.1
  have hw := h.2.2.2.2.2.1
  have a1 := h.1
  refine h.upd f (fun o ho => ?_) (fun o ho => ?_) h.2.2.1 (hS.fr a1 f (by omega) (fun o ho => ?_) (fun o ho => ?_)) (hM.fr a1 f (fun o ho => ?_) (fun o ho => ?_)) (hw.fr a1 f (by omega) (fun ho => ?_) (fun ho => ?_) (fun ho => ?_)) (Nat.le_refl _)
  · have := hd o ho; unfold sca at this; unfold scr; omega
  · have := he o ho; unfold sce at this; unfold scf; omega
  · have := hd o ho; unfold sca at this; omega
  · have := he o ho; unfold sce at this; omega
  · have := hd o ho; unfold sca at this; omega
  · have := he o ho; unfold sce at this; omega
  · have := hd _ ho; unfold sca at this; omega
  · have := hd _ ho; unfold sca at this; omega
  · have := hd _ ho; unfold sca at this; omega
/-- a refusal, counted on both sides -/
theorem REL.no {A : Mm} {q od q2 od2 : Nat → Nat} {sd sd2 : Int32} {b : Nat} {M : Mm} (h : REL A q od sd b q2 od2 sd2 M) (k : Nat) : REL A q od sd b q2 od2 sd2 (sI (sI M 40 k (mI M 40 k + nI 1)) 81 k (mI M 81 k + nI 1)) := by
  obtain ⟨a1, a2, a3, a4, a5, a6, a7, ⟨i1, i2, i3⟩, a9, a10, a11, ⟨n, t1, t2, t3, t4⟩, a13⟩ := h
  have h0 := a1.1
  have f : Fr [40, 81] [] M (sI (sI M 40 k (mI M 40 k + nI 1)) 81 k (mI M 81 k + nI 1)) := (Fr.oI _ _ (Or.inl (by decide))).tr (Fr.oI _ _ (Or.inl (by decide)))
  have d : ∀ P : Nat → Prop, P 40 → P 81 → ∀ o ∈ [40, 81], P o := fun P a b o ho => by
    simp only [List.mem_cons, List.not_mem_nil, or_false] at ho
    rcases ho with rfl | rfl
    · exact a
    · exact b
  have e : ∀ P : Nat × Nat → Prop, ∀ t ∈ ([] : List (Nat × Nat)), P t := fun P t ht => absurd ht List.not_mem_nil
  refine ⟨f.fix a1, a2.fr a1 f (d _ (by omega) (by omega)) (e _), a3, a4.fr a1 f (by omega) (d _ (by omega) (by omega)) (e _), a5.fr a1 f (d _ (by omega) (by omega)) (e _), a6.fr a1 f (by omega) (by decide) (by decide) (by decide), a7.fr a1 f (by omega) (by decide) (by decide) (by decide), ⟨?_, ?_, ?_⟩, fun s hs => (a9 s hs).fr a1 f hs (d _ (by omega) (by omega)) (e _), fun x y z => ?_, ?_, ⟨n, t1, ?_, ?_, fun i x y => ?_⟩, fun x hx => ?_⟩
  · simpa only [mI_sI, Nat.reduceEqDiff, false_and, ↓reduceIte] using i1
  · simpa only [mI_sI, Nat.reduceEqDiff, false_and, ↓reduceIte] using i2
  · exact i3.imp id fun z => ⟨z.1, z.2.1, z.2.2.1.fr a1 f (by omega) (d _ (by omega) (by omega)) (e _), z.2.2.2.fr a1 f (by decide) (by decide) (e _)⟩
  · have := a10 x y z
    simp only [mI_sI, Nat.reduceEqDiff, false_and, true_and, ↓reduceIte]
    by_cases hx : x = k
    · subst hx; simp [this]
    · simp [hx, this]
  · simpa only [mI_sI, Nat.reduceEqDiff, false_and, ↓reduceIte] using a11
  · simpa only [mI_sI, Nat.reduceEqDiff, false_and, ↓reduceIte] using t2
  · simpa only [mI_sI, Nat.reduceEqDiff, false_and, ↓reduceIte] using t3
  · simpa only [mI_sI, Nat.reduceEqDiff, false_and, ↓reduceIte] using t4 i x y
  · simpa only [mI_sI, Nat.reduceEqDiff, false_and, ↓reduceIte] using a13 x hx

theorem Inv.sg {q od : Nat → Nat} (h : Inv q od) : q 62 ≤ 8 ∧ q 63 ≤ 8 := ⟨h.2.2.2.2.2.1, h.2.2.2.2.2.2.1⟩
/-! scalars written -/
theorem Sg.put {M : Mm} {r i : Nat} {q : Nat → Nat} (h : Sg M r i q) {s : Nat} (hs : s < 107) (f : Nat) (w : Int32) {j : Nat} (v : Nat) (hj : 56 ≤ j) (hi : i < 8) : Sg (sI M s f w) r i (u1 q j v) := by
  obtain ⟨a, b, c, d⟩ := h
  refine ⟨a, b, c, ?_⟩
  simp only [mI_sI, u1]
  rw [if_neg (by omega), if_neg (by omega), if_neg (by omega), if_neg (by omega), if_neg (by omega), if_neg (by omega), if_neg (by omega), if_neg (by omega), if_neg (by omega)]
  exact d
theorem Th.put {M : Mm} {r i : Nat} {q : Nat → Nat} (h : Th M r i q) {s : Nat} (hs : s < 107) (f : Nat) (w : Int32) {j : Nat} (v : Nat) (hj : 56 ≤ j) (hi : i < 8) : Th (sI M s f w) r i (u1 q j v) := by
  obtain ⟨a, b, c, d⟩ := h
  refine ⟨a, b, c, ?_⟩
  simp only [mI_sI, u1]
  rw [if_neg (by omega), if_neg (by omega), if_neg (by omega), if_neg (by omega), if_neg (by omega), if_neg (by omega)]
  exact d
theorem SCL_inj : ∀ t ∈ SCL, ∀ t2 ∈ SCL, (t2.1 = t.1 ↔ t2.2 = t.2) ∧ t.2 ≠ 66 ∧ t.1 ≠ 13 ∧ t.1 ≠ 14 ∧ 56 ≤ t.2 := by decide
theorem St.put {s : Nat} {q od : Nat → Nat} {sd : Int32} {M : Mm} (h : St s q od sd M) (hs : s < 107) (hq : q 62 ≤ 8 ∧ q 63 ≤ 8) (t : Nat × Nat) (ht : t ∈ SCL) (h2 : t.2 ≠ 62 ∧ t.2 ≠ 63) (v : Nat) : St s (u1 q t.2 v) od sd (sI M s t.1 (nI v)) := by
  obtain ⟨a, b, c, d, e, g, w⟩ := h
  have hj := (SCL_inj t ht t ht).2
  refine ⟨fun t2 h3 => ?_, ?_, ?_, fun i hi => ?_, fun i hi => ?_, g, w⟩
  · have := (SCL_inj t ht t2 h3).1
    simp only [mI_sI, u1, true_and]
    by_cases z : t2.1 = t.1
    · rw [if_pos z, if_pos (this.mp z)]
    · rw [if_neg z, if_neg (fun y => z (this.mpr y))]
      exact a t2 h3
  · simp only [mI_sI, u1]
    rw [if_neg (by omega), if_neg (by omega)]
    exact b
  · simp only [mI_sI, u1]
    rw [if_neg (by omega)]
    exact c
  · have e1 : u1 q t.2 v 62 = q 62 := if_neg (by omega)
    rw [e1] at hi
    obtain ⟨r, hr, x⟩ := d i hi
    exact ⟨r, hr, x.put hs _ _ _ (by omega) (by omega)⟩
  · have e1 : u1 q t.2 v 63 = q 63 := if_neg (by omega)
    rw [e1] at hi
    obtain ⟨r, hr, x⟩ := e i hi
    exact ⟨r, hr, x.put hs _ _ _ (by omega) (by omega)⟩
theorem St.putT {s : Nat} {q od : Nat → Nat} {sd : Int32} {M : Mm} (h : St s q od sd M) (hs : s < 107) (hq : q 62 ≤ 8 ∧ q 63 ≤ 8) (v : Nat) : St s (u1 q 66 v) od sd (sI M s 13 (nI v - nI 1)) := by
  obtain ⟨a, b, c, d, e, g, w⟩ := h
  refine ⟨fun t2 h3 => ?_, ?_, ?_, fun i hi => ?_, fun i hi => ?_, g, w⟩
  · have := (SCL_inj t2 h3 t2 h3).2
    simp only [mI_sI, u1]
    rw [if_neg (by omega), if_neg (by omega)]
    exact a t2 h3
  · simp only [mI_sI, u1, and_self, ↓reduceIte]
  · simp only [mI_sI, u1]
    rw [if_neg (by omega)]
    exact c
  · obtain ⟨r, hr, x⟩ := d i (by simpa [u1] using hi)
    exact ⟨r, hr, x.put hs _ _ _ (by omega) (Nat.lt_of_lt_of_le (show i < q 62 by simpa [u1] using hi) hq.1)⟩
  · obtain ⟨r, hr, x⟩ := e i (by simpa [u1] using hi)
    exact ⟨r, hr, x.put hs _ _ _ (by omega) (Nat.lt_of_lt_of_le (show i < q 63 by simpa [u1] using hi) hq.2)⟩
theorem u1_same (q : Nat → Nat) (j : Nat) : u1 q j (q j) = q := by
  funext x
  unfold u1
  split
  · rename_i h; rw [h]
  · rfl
theorem St.putS {s : Nat} {q od : Nat → Nat} {sd : Int32} {M : Mm} (h : St s q od sd M) (hs : s < 107) (hq : q 62 ≤ 8 ∧ q 63 ≤ 8) (v : Int32) : St s q od v (sI M s 14 v) := by
  obtain ⟨a, b, c, d, e, g, w⟩ := h
  refine ⟨fun t2 h3 => ?_, ?_, ?_, fun i hi => ?_, fun i hi => ?_, g, w⟩
  · have := (SCL_inj t2 h3 t2 h3).2
    simp only [mI_sI]
    rw [if_neg (by omega)]
    exact a t2 h3
  · simp only [mI_sI]
    rw [if_neg (by omega)]
    exact b
  · simp only [mI_sI, and_self, ↓reduceIte]
  · obtain ⟨r, hr, x⟩ := d i hi
    exact ⟨r, hr, by have := x.put hs 14 v (q 66) (show 56 ≤ 66 by omega) (by omega); rwa [u1_same] at this⟩
  · obtain ⟨r, hr, x⟩ := e i hi
    exact ⟨r, hr, by have := x.put hs 14 v (q 66) (show 56 ≤ 66 by omega) (by omega); rwa [u1_same] at this⟩
theorem MD.put {q od : Nat → Nat} {sd : Int32} {M : Mm} (h : MD q od sd M) {k : Nat} (hk : k < 10) (v : Nat) : MD (u1 q (56 + k) v) od sd (sI M 80 k (nI v)) := by
  obtain ⟨a, b, c, d, e⟩ := h
  refine ⟨fun j hj => ?_, ?_, ?_, fun x hx i hi => ?_, e⟩
  · simp only [mI_sI, u1, true_and]
    by_cases z : j = k
    · rw [if_pos z, if_pos (by omega)]
    · rw [if_neg z, if_neg (by omega)]; exact a j hj
  · simp only [mI_sI, u1]
    rw [if_neg (by omega), if_neg (by omega)]; exact b
  · simp only [mI_sI]
    rw [if_neg (by omega)]; exact c
  · simp only [mI_sI, u1]
    rw [if_neg (by omega), if_neg (by omega)]; exact d x hx i hi
theorem MD.putT {q od : Nat → Nat} {sd : Int32} {M : Mm} (h : MD q od sd M) (v : Nat) : MD (u1 q 66 v) od sd (sI M 80 10 (nI v - nI 1)) := by
  obtain ⟨a, b, c, d, e⟩ := h
  refine ⟨fun j hj => ?_, ?_, ?_, fun x hx i hi => ?_, e⟩
  · simp only [mI_sI, u1]
    rw [if_neg (by omega), if_neg (by omega)]; exact a j hj
  · simp only [mI_sI, u1, and_self, ↓reduceIte]
  · simp only [mI_sI]
    rw [if_neg (by omega)]; exact c
  · simp only [mI_sI, u1]
    rw [if_neg (by omega), if_neg (by omega)]; exact d x hx i hi
theorem MD.putS {q od : Nat → Nat} {sd : Int32} {M : Mm} (h : MD q od sd M) (v : Int32) : MD q od v (sI M 80 11 v) := by
  obtain ⟨a, b, c, d, e⟩ := h
  refine ⟨fun j hj => ?_, ?_, ?_, fun x hx i hi => ?_, e⟩
  · simp only [mI_sI]
    rw [if_neg (by omega)]; exact a j hj
  · simp only [mI_sI]
    rw [if_neg (by omega)]; exact b
  · simp only [mI_sI, and_self, ↓reduceIte]
  · simp only [mI_sI]
    rw [if_neg (by omega)]; exact d x hx i hi
