theorem fr1 {M : Mm} {ds : List Nat} {es : List (Nat × Nat)} (a k : Nat) (v : Int32) (h : a ∈ ds ∨ (a, k) ∈ es) : Fr ds es M (sI M a k v) := Fr.oI k v h
theorem Gr.rfl {M : Mm} : Gr M M := ⟨Nat.le_add_right _ _, Nat.le_add_right _ _⟩
theorem Gr.same {M M1 : Mm} (h1 : mT M1 = mT M) (h2 : mW M1 = mW M) : Gr M M1 := ⟨by rw [h1]; exact Nat.le_add_right _ _, by rw [h2]; exact Nat.le_add_right _ _⟩
theorem FIX_sI (M : Mm) (a k : Nat) (v : Int32) : FIX (sI M a k v) = FIX M := propext ⟨id, id⟩
theorem FIX_sJ (M : Mm) (a k : Nat) (v : Int64) : FIX (sJ M a k v) = FIX M := propext ⟨id, id⟩
theorem FIX_wI (M : Mm) (a k : Nat) (v : Nat → Int32) : FIX (wI M a k v) = FIX M := propext ⟨id, id⟩
theorem FIX_wJ (M : Mm) (a k : Nat) (v : Nat → Int64) : FIX (wJ M a k v) = FIX M := propext ⟨id, id⟩
theorem ex_no {A : Mm} {q od q2 od2 : Nat → Nat} {sd sd2 : Int32} {b : Nat} {M : Mm} (h : REL A q od sd b q2 od2 sd2 M) (k : Nat) (r : Int32) {f g : Mm → Option (Int32 × Mm)}
    (hf : f M = some (r, sI M 40 k (mI M 40 k + nI 1))) (hg : g (sI M 40 k (mI M 40 k + nI 1)) = some (r, sI (sI M 40 k (mI M 40 k + nI 1)) 81 k (mI M 81 k + nI 1))) : ∃ r M1 M2, f M = some (r, M1) ∧ g M1 = some (r, M2) ∧ Rel A M2 ∧ Gr M M2 :=
  ⟨_, _, _, hf, hg, ⟨q, od, sd, b, q2, od2, sd2, h.no k⟩, Gr.same (Eq.refl _) (Eq.refl _)⟩
theorem ex_upd {A : Mm} {q1 od1 q2 od2 : Nat → Nat} {sd1 sd2 : Int32} {b : Nat} {M M1 M2 : Mm} {r : Int32} {f g : Mm → Option (Int32 × Mm)} (hf : f M = some (r, M1)) (hg : g M1 = some (r, M2)) (hR : REL A q1 od1 sd1 b q2 od2 sd2 M2) (hG : Gr M M2) : ∃ r M1 M2, f M = some (r, M1) ∧ g M1 = some (r, M2) ∧ Rel A M2 ∧ Gr M M2 :=
  ⟨_, _, _, hf, hg, ⟨q1, od1, sd1, b, q2, od2, sd2, hR⟩, hG⟩
theorem St.f56 {s : Nat} {q od : Nat → Nat} {sd : Int32} {M : Mm} (h : St s q od sd M) : mI M s 0 = nI (q 56) := h.1 (0, 56) (by decide)
theorem MD.f56 {q od : Nat → Nat} {sd : Int32} {M : Mm} (h : MD q od sd M) : mI M 80 0 = nI (q 56) := h.1 0 (by decide)
theorem REL.x56 {A : Mm} {q od q2 od2 : Nat → Nat} {sd sd2 : Int32} {b : Nat} {M : Mm} (h : REL A q od sd b q2 od2 sd2 M) : mI M 22 0 = nI (q 56) := h.2.2.2.1.f56
theorem REL.y56 {A : Mm} {q od q2 od2 : Nat → Nat} {sd sd2 : Int32} {b : Nat} {M : Mm} (h : REL A q od sd b q2 od2 sd2 M) : mI M 80 0 = nI (q 56) := h.2.2.2.2.1.f56
theorem St.f57 {s : Nat} {q od : Nat → Nat} {sd : Int32} {M : Mm} (h : St s q od sd M) : mI M s 1 = nI (q 57) := h.1 (1, 57) (by decide)
theorem MD.f57 {q od : Nat → Nat} {sd : Int32} {M : Mm} (h : MD q od sd M) : mI M 80 1 = nI (q 57) := h.1 1 (by decide)
theorem REL.x57 {A : Mm} {q od q2 od2 : Nat → Nat} {sd sd2 : Int32} {b : Nat} {M : Mm} (h : REL A q od sd b q2 od2 sd2 M) : mI M 22 1 = nI (q 57) := h.2.2.2.1.f57
theorem REL.y57 {A : Mm} {q od q2 od2 : Nat → Nat} {sd sd2 : Int32} {b : Nat} {M : Mm} (h : REL A q od sd b q2 od2 sd2 M) : mI M 80 1 = nI (q 57) := h.2.2.2.2.1.f57
theorem St.f58 {s : Nat} {q od : Nat → Nat} {sd : Int32} {M : Mm} (h : St s q od sd M) : mI M s 2 = nI (q 58) := h.1 (2, 58) (by decide)
theorem MD.f58 {q od : Nat → Nat} {sd : Int32} {M : Mm} (h : MD q od sd M) : mI M 80 2 = nI (q 58) := h.1 2 (by decide)
theorem REL.x58 {A : Mm} {q od q2 od2 : Nat → Nat} {sd sd2 : Int32} {b : Nat} {M : Mm} (h : REL A q od sd b q2 od2 sd2 M) : mI M 22 2 = nI (q 58) := h.2.2.2.1.f58
theorem REL.y58 {A : Mm} {q od q2 od2 : Nat → Nat} {sd sd2 : Int32} {b : Nat} {M : Mm} (h : REL A q od sd b q2 od2 sd2 M) : mI M 80 2 = nI (q 58) := h.2.2.2.2.1.f58
theorem St.f59 {s : Nat} {q od : Nat → Nat} {sd : Int32} {M : Mm} (h : St s q od sd M) : mI M s 3 = nI (q 59) := h.1 (3, 59) (by decide)
theorem MD.f59 {q od : Nat → Nat} {sd : Int32} {M : Mm} (h : MD q od sd M) : mI M 80 3 = nI (q 59) := h.1 3 (by decide)
theorem REL.x59 {A : Mm} {q od q2 od2 : Nat → Nat} {sd sd2 : Int32} {b : Nat} {M : Mm} (h : REL A q od sd b q2 od2 sd2 M) : mI M 22 3 = nI (q 59) := h.2.2.2.1.f59
theorem REL.y59 {A : Mm} {q od q2 od2 : Nat → Nat} {sd sd2 : Int32} {b : Nat} {M : Mm} (h : REL A q od sd b q2 od2 sd2 M) : mI M 80 3 = nI (q 59) := h.2.2.2.2.1.f59
theorem St.f60 {s : Nat} {q od : Nat → Nat} {sd : Int32} {M : Mm} (h : St s q od sd M) : mI M s 4 = nI (q 60) := h.1 (4, 60) (by decide)
theorem MD.f60 {q od : Nat → Nat} {sd : Int32} {M : Mm} (h : MD q od sd M) : mI M 80 4 = nI (q 60) := h.1 4 (by decide)
theorem REL.x60 {A : Mm} {q od q2 od2 : Nat → Nat} {sd sd2 : Int32} {b : Nat} {M : Mm} (h : REL A q od sd b q2 od2 sd2 M) : mI M 22 4 = nI (q 60) := h.2.2.2.1.f60
theorem REL.y60 {A : Mm} {q od q2 od2 : Nat → Nat} {sd sd2 : Int32} {b : Nat} {M : Mm} (h : REL A q od sd b q2 od2 sd2 M) : mI M 80 4 = nI (q 60) := h.2.2.2.2.1.f60
theorem St.f61 {s : Nat} {q od : Nat → Nat} {sd : Int32} {M : Mm} (h : St s q od sd M) : mI M s 5 = nI (q 61) := h.1 (5, 61) (by decide)
theorem MD.f61 {q od : Nat → Nat} {sd : Int32} {M : Mm} (h : MD q od sd M) : mI M 80 5 = nI (q 61) := h.1 5 (by decide)
theorem REL.x61 {A : Mm} {q od q2 od2 : Nat → Nat} {sd sd2 : Int32} {b : Nat} {M : Mm} (h : REL A q od sd b q2 od2 sd2 M) : mI M 22 5 = nI (q 61) := h.2.2.2.1.f61
theorem REL.y61 {A : Mm} {q od q2 od2 : Nat → Nat} {sd sd2 : Int32} {b : Nat} {M : Mm} (h : REL A q od sd b q2 od2 sd2 M) : mI M 80 5 = nI (q 61) := h.2.2.2.2.1.f61
theorem St.f62 {s : Nat} {q od : Nat → Nat} {sd : Int32} {M : Mm} (h : St s q od sd M) : mI M s 7 = nI (q 62) := h.1 (7, 62) (by decide)
theorem MD.f62 {q od : Nat → Nat} {sd : Int32} {M : Mm} (h : MD q od sd M) : mI M 80 6 = nI (q 62) := h.1 6 (by decide)
theorem REL.x62 {A : Mm} {q od q2 od2 : Nat → Nat} {sd sd2 : Int32} {b : Nat} {M : Mm} (h : REL A q od sd b q2 od2 sd2 M) : mI M 22 7 = nI (q 62) := h.2.2.2.1.f62
theorem REL.y62 {A : Mm} {q od q2 od2 : Nat → Nat} {sd sd2 : Int32} {b : Nat} {M : Mm} (h : REL A q od sd b q2 od2 sd2 M) : mI M 80 6 = nI (q 62) := h.2.2.2.2.1.f62
theorem St.f63 {s : Nat} {q od : Nat → Nat} {sd : Int32} {M : Mm} (h : St s q od sd M) : mI M s 9 = nI (q 63) := h.1 (9, 63) (by decide)
theorem MD.f63 {q od : Nat → Nat} {sd : Int32} {M : Mm} (h : MD q od sd M) : mI M 80 7 = nI (q 63) := h.1 7 (by decide)
theorem REL.x63 {A : Mm} {q od q2 od2 : Nat → Nat} {sd sd2 : Int32} {b : Nat} {M : Mm} (h : REL A q od sd b q2 od2 sd2 M) : mI M 22 9 = nI (q 63) := h.2.2.2.1.f63
theorem REL.y63 {A : Mm} {q od q2 od2 : Nat → Nat} {sd sd2 : Int32} {b : Nat} {M : Mm} (h : REL A q od sd b q2 od2 sd2 M) : mI M 80 7 = nI (q 63) := h.2.2.2.2.1.f63
theorem St.f65 {s : Nat} {q od : Nat → Nat} {sd : Int32} {M : Mm} (h : St s q od sd M) : mI M s 11 = nI (q 65) := h.1 (11, 65) (by decide)
theorem MD.f65 {q od : Nat → Nat} {sd : Int32} {M : Mm} (h : MD q od sd M) : mI M 80 9 = nI (q 65) := h.1 9 (by decide)
theorem REL.x65 {A : Mm} {q od q2 od2 : Nat → Nat} {sd sd2 : Int32} {b : Nat} {M : Mm} (h : REL A q od sd b q2 od2 sd2 M) : mI M 22 11 = nI (q 65) := h.2.2.2.1.f65
theorem REL.y65 {A : Mm} {q od q2 od2 : Nat → Nat} {sd sd2 : Int32} {b : Nat} {M : Mm} (h : REL A q od sd b q2 od2 sd2 M) : mI M 80 9 = nI (q 65) := h.2.2.2.2.1.f65
theorem St.f64 {s : Nat} {q od : Nat → Nat} {sd : Int32} {M : Mm} (h : St s q od sd M) : mI M s 12 = nI (q 64) := h.1 (12, 64) (by decide)
theorem MD.f64 {q od : Nat → Nat} {sd : Int32} {M : Mm} (h : MD q od sd M) : mI M 80 8 = nI (q 64) := h.1 8 (by decide)
theorem REL.x64 {A : Mm} {q od q2 od2 : Nat → Nat} {sd sd2 : Int32} {b : Nat} {M : Mm} (h : REL A q od sd b q2 od2 sd2 M) : mI M 22 12 = nI (q 64) := h.2.2.2.1.f64
theorem REL.y64 {A : Mm} {q od q2 od2 : Nat → Nat} {sd sd2 : Int32} {b : Nat} {M : Mm} (h : REL A q od sd b q2 od2 sd2 M) : mI M 80 8 = nI (q 64) := h.2.2.2.2.1.f64
theorem REL.x66 {A : Mm} {q od q2 od2 : Nat → Nat} {sd sd2 : Int32} {b : Nat} {M : Mm} (h : REL A q od sd b q2 od2 sd2 M) : mI M 22 13 = nI (q 66) - nI 1 := h.2.2.2.1.2.1
theorem REL.y66 {A : Mm} {q od q2 od2 : Nat → Nat} {sd sd2 : Int32} {b : Nat} {M : Mm} (h : REL A q od sd b q2 od2 sd2 M) : mI M 80 10 = nI (q 66) - nI 1 := h.2.2.2.2.1.2.1
theorem REL.x67 {A : Mm} {q od q2 od2 : Nat → Nat} {sd sd2 : Int32} {b : Nat} {M : Mm} (h : REL A q od sd b q2 od2 sd2 M) : mI M 22 14 = sd := h.2.2.2.1.2.2.1
theorem REL.y67 {A : Mm} {q od q2 od2 : Nat → Nat} {sd sd2 : Int32} {b : Nat} {M : Mm} (h : REL A q od sd b q2 od2 sd2 M) : mI M 80 11 = sd := h.2.2.2.2.1.2.2.1
theorem mem1 {P : Nat → Prop} {a : Nat} (h : P a) : ∀ o ∈ [a], P o := fun o ho => by rw [List.mem_singleton.mp ho]; exact h
theorem mem0 {α : Type} {P : α → Prop} : ∀ o ∈ ([] : List α), P o := fun o ho => absurd ho List.not_mem_nil
theorem memc {α : Type} {P : α → Prop} {a : α} {l : List α} (h : P a) (h2 : ∀ o ∈ l, P o) : ∀ o ∈ a :: l, P o := fun o ho => by
  rcases List.mem_cons.mp ho with e | e
  · rw [e]; exact h
  · exact h2 o e
theorem Inv.sc {q q1 od : Nat → Nat} (h : Inv q od) (e : ∀ i, i < 57 ∨ (62 ≤ i ∧ i ≤ 64) → q1 i = q i) (h1 : q1 57 + q1 58 ≤ 10) (h2 : q1 59 ≤ 7) (h3 : q1 60 ≤ 1) (h4 : 1 ≤ q1 61 ∧ q1 61 ≤ 9) (h5 : q1 65 ≤ q1 64) (h6 : q1 66 ≤ q1 56) : Inv q1 od := by
  obtain ⟨a1, a2, a3, a4, a5, a6, a7, a8, a9, a10, a11, a12, a13, a14, a15⟩ := h
  have e56 := e 56 (by decide)
  have e62 := e 62 (by decide)
  have e63 := e 63 (by decide)
  have e64 := e 64 (by decide)
  refine ⟨by omega, h1, h2, h3, h4, by omega, by omega, by omega, h5, h6, fun i hi => ?_, fun i hi => ?_, fun i hi => ?_, fun c hc => a14 c (by omega), by rw [e64]; exact a15⟩
  · rw [e62] at hi
    rw [e i (by omega), e (8 + i) (by omega), e (16 + i) (by omega), e56]
    exact a11 i hi
  · rw [e63] at hi
    rw [e (32 + i) (by omega), e (40 + i) (by omega), e (48 + i) (by omega), e56]
    exact a12 i hi
  · rw [e i (by omega)]
    exact a13 i hi
theorem REL.put {A : Mm} {q od q2 od2 : Nat → Nat} {sd sd2 : Int32} {b : Nat} {M : Mm} (h : REL A q od sd b q2 od2 sd2 M) (t : Nat × Nat) (ht : t ∈ SCL) (h2 : t.2 ≠ 62 ∧ t.2 ≠ 63) (v : Nat) (hI : Inv (u1 q t.2 v) od) : REL A (u1 q t.2 v) od sd b q2 od2 sd2 (sI (sI M 22 t.1 (nI v)) 80 (t.2 - 56) (nI v)) := by
  have hF := h.1
  have hb : ∀ t ∈ SCL, 56 ≤ t.2 ∧ t.2 - 56 < 10 := by decide
  have hk := hb t ht
  have hq := h.2.2.1.sg
  have hS := h.2.2.2.1.put (by decide) hq t ht h2 v
  have f1 : Fr [] [(22, t.1)] M (sI M 22 t.1 (nI v)) := Fr.oI _ _ (Or.inr (List.mem_singleton.mpr rfl))
  have f2 : Fr [] [(80, t.2 - 56)] (sI M 22 t.1 (nI v)) (sI (sI M 22 t.1 (nI v)) 80 (t.2 - 56) (nI v)) := Fr.oI _ _ (Or.inr (List.mem_singleton.mpr rfl))
  have hM := h.2.2.2.2.1.fr hF f1 mem0 (memc (Or.inl (Or.inl (show 22 < 80 by decide))) mem0)
  have hM2 := hM.put hk.2 v
  rw [show 56 + (t.2 - 56) = t.2 by omega] at hM2
  refine h.upd (f1.trans f2) mem0 (memc ?_ (memc ?_ mem0)) hI (St.fr (f1.fix hF) f2 hS (by decide) mem0 (memc (show 80 < 107 ∧ 80 ≠ 22 by decide) mem0)) hM2 (h.2.2.2.2.2.1.fr hF (f1.trans f2) (by decide) (by decide) (by decide) (by decide)) (Nat.le_of_eq (if_neg (fun z => h2.1 z.symm)).symm)
  · exact Or.inr (Or.inr (show 22 ≤ 22 ∧ 22 ≤ 33 by decide))
  · exact Or.inl ⟨rfl, Or.inl (by show t.2 - 56 ≤ 11; omega)⟩
theorem REL.putT {A : Mm} {q od q2 od2 : Nat → Nat} {sd sd2 : Int32} {b : Nat} {M : Mm} (h : REL A q od sd b q2 od2 sd2 M) (v : Nat) (hI : Inv (u1 q 66 v) od) : REL A (u1 q 66 v) od sd b q2 od2 sd2 (sI (sI M 22 13 (nI v - nI 1)) 80 10 (nI v - nI 1)) := by
  have hF := h.1
  have hq := h.2.2.1.sg
  have hS := h.2.2.2.1.putT (by decide) hq v
  have f1 : Fr [] [(22, 13)] M (sI M 22 13 (nI v - nI 1)) := Fr.oI _ _ (Or.inr (List.mem_singleton.mpr rfl))
  have f2 : Fr [] [(80, 10)] (sI M 22 13 (nI v - nI 1)) (sI (sI M 22 13 (nI v - nI 1)) 80 10 (nI v - nI 1)) := Fr.oI _ _ (Or.inr (List.mem_singleton.mpr rfl))
  have hM := h.2.2.2.2.1.fr hF f1 mem0 (by decide)
  exact h.upd (f1.trans f2) mem0 (by unfold scf; decide) hI (St.fr (f1.fix hF) f2 hS (by decide) mem0 (by decide)) (hM.putT v) (h.2.2.2.2.2.1.fr hF (f1.trans f2) (by decide) (by decide) (by decide) (by decide)) (Nat.le_refl _)
theorem REL.putS {A : Mm} {q od q2 od2 : Nat → Nat} {sd sd2 : Int32} {b : Nat} {M : Mm} (h : REL A q od sd b q2 od2 sd2 M) (v : Int32) : REL A q od v b q2 od2 sd2 (sI (sI M 22 14 v) 80 11 v) := by
  have hF := h.1
  have hq := h.2.2.1.sg
  have hS := h.2.2.2.1.putS (by decide) hq v
  have f1 : Fr [] [(22, 14)] M (sI M 22 14 v) := Fr.oI _ _ (Or.inr (List.mem_singleton.mpr rfl))
  have f2 : Fr [] [(80, 11)] (sI M 22 14 v) (sI (sI M 22 14 v) 80 11 v) := Fr.oI _ _ (Or.inr (List.mem_singleton.mpr rfl))
  have hM := h.2.2.2.2.1.fr hF f1 mem0 (by decide)
  exact h.upd (f1.trans f2) mem0 (by unfold scf; decide) h.2.2.1 (St.fr (f1.fix hF) f2 hS (by decide) mem0 (by decide)) (hM.putS v) (h.2.2.2.2.2.1.fr hF (f1.trans f2) (by decide) (by decide) (by decide) (by decide)) (Nat.le_refl _)
theorem ex_same {A : Mm} {q1 od1 q2 od2 : Nat → Nat} {sd1 sd2 : Int32} {b : Nat} {M : Mm} (h : REL A q1 od1 sd1 b q2 od2 sd2 M) {α : Type} (r : α) {f g : Mm → Option (α × Mm)} (hf : f M = some (r, M)) (hg : g M = some (r, M)) : ∃ r M1 M2, f M = some (r, M1) ∧ g M1 = some (r, M2) ∧ Rel A M2 ∧ Gr M M2 :=
  ⟨r, M, M, hf, hg, ⟨q1, od1, sd1, b, q2, od2, sd2, h⟩, Gr.rfl⟩
theorem Inv.p1 {q od : Nat → Nat} (h : Inv q od) (j v : Nat) (hj : (j = 59 ∧ v ≤ 7) ∨ (j = 60 ∧ v ≤ 1) ∨ (j = 61 ∧ 1 ≤ v ∧ v ≤ 9) ∨ (j = 66 ∧ v ≤ q 56)) : Inv (u1 q j v) od := by
  obtain ⟨a1, a2, a3, a4, a5, a6, a7, a8, a9, a10, -⟩ := h.2
  refine h.sc (fun i hi => if_neg (by omega)) ?_ ?_ ?_ ?_ ?_ ?_
  all_goals rcases hj with ⟨rfl, hj⟩ | ⟨rfl, hj⟩ | ⟨rfl, hj⟩ | ⟨rfl, hj⟩
  all_goals simp only [u1, Nat.reduceEqDiff, ↓reduceIte]
  all_goals omega
theorem REL.after {A : Mm} {q od q2 od2 : Nat → Nat} {sd sd2 : Int32} {b : Nat} {M : Mm} (h : REL A q od sd b q2 od2 sd2 M) (k : Nat) (v : Int32) : MD q od sd (sI M 40 k v) := h.2.2.2.2.1.fr h.1 (Fr.oI (ds := [40]) (es := []) k v (Or.inl (by decide))) (by decide) mem0
theorem REL.L {A : Mm} {q od q2 od2 : Nat → Nat} {sd sd2 : Int32} {b : Nat} {M : Mm} (h : REL A q od sd b q2 od2 sd2 M) : 2 ≤ q 56 ∧ q 56 ≤ 24 := h.2.2.1.1
theorem hasC {s : Nat} (hs : sl s) {q od : Nat → Nat} {sd : Int32} {M : Mm} (hF : FIX M) (h : St s q od sd M) (x : Int32) : fX5_hasCell s x M = some (if x < 0 then 0 else if nI (q 56) ≤ x then 0 else 1, M) := by
  unfold fX5_hasCell
  simp only [kc, fI, fR, pI, pR, Option.bind_some, ↓reduceIte, Nat.reduceAdd, Nat.reduceEqDiff, and_self, and_true, true_and, false_and, and_false, Option.bind_none, kS hF hs, h.f56]
  by_cases c1 : x < 0
  · simp only [c1, ↓reduceIte]
  · by_cases c2 : nI (q 56) ≤ x
    · simp only [c1, c2, ↓reduceIte]
    · simp only [c1, c2, ↓reduceIte]
theorem isC {q od : Nat → Nat} {sd : Int32} {M : Mm} (hF : FIX M) (h : MD q od sd M) (x : Int32) : fX9_isCell 80 x M = some (if x < 0 then 0 else if nI (q 56) ≤ x then 0 else 1, M) := by
  unfold fX9_isCell
  simp only [kc, fI, fR, pI, pR, Option.bind_some, ↓reduceIte, Nat.reduceAdd, Nat.reduceEqDiff, and_self, and_true, true_and, false_and, and_false, Option.bind_none, K80 hF, h.f56]
  by_cases c1 : x < 0
  · simp only [c1, ↓reduceIte]
  · by_cases c2 : nI (q 56) ≤ x
    · simp only [c1, c2, ↓reduceIte]
    · simp only [c1, c2, ↓reduceIte]
