/-! a shelf's state changed -/
theorem REL.shelf {ds : List Nat} {es : List (Nat × Nat)} {A : Mm} {q od q2 od2 : Nat → Nat} {sd sd2 : Int32} {b : Nat} {M M1 : Mm} (h : REL A q od sd b q2 od2 sd2 M) (f : Fr ds es M M1)
    (hd : ∀ o ∈ ds, (64 ≤ o ∧ o < 80) ∨ (91 ≤ o ∧ o ≤ 96)) (he : ∀ t ∈ es, (64 ≤ t.1 ∧ t.1 < 80) ∨ (91 ≤ t.1 ∧ t.1 ≤ 96)) (hs : ∀ s, s < 8 → Sh s q M1) : REL A q od sd b q2 od2 sd2 M1 := by
  obtain ⟨a1, a2, a3, a4, a5, a6, a7, ⟨i1, i2, i3⟩, a9, a10, a11, ⟨n, t1, t2, t3, t4⟩, a13⟩ := h
  have h0 := a1.1
  have n0 : ∀ o, ¬ ((64 ≤ o ∧ o < 80) ∨ (91 ≤ o ∧ o ≤ 96)) → ¬ o ∈ ds := fun o ho x => ho (hd o x)
  have ne : ∀ o k, ¬ ((64 ≤ o ∧ o < 80) ∨ (91 ≤ o ∧ o ≤ 96)) → ¬ (o, k) ∈ es := fun o k ho x => ho (he _ x)
  have g : ∀ o k, o < 107 → ¬ ((64 ≤ o ∧ o < 80) ∨ (91 ≤ o ∧ o ≤ 96)) → mI M1 o k = mI M o k := fun o k a b => f.I (by omega) (n0 o b) (ne o k b)
  refine ⟨f.fix a1, a2.fr a1 f (fun o ho => by have := hd o ho; omega) (fun o ho => by have := he o ho; omega), a3, a4.fr a1 f (by omega) (fun o ho => by have := hd o ho; omega) (fun o ho => by have := he o ho; omega), a5.fr a1 f (fun o ho => by have := hd o ho; omega) (fun o ho => by have := he o ho; omega), a6.fr a1 f (by omega) (n0 _ (by omega)) (n0 _ (by omega)) (n0 _ (by omega)), a7.fr a1 f (by omega) (n0 _ (by omega)) (n0 _ (by omega)) (n0 _ (by omega)), ⟨?_, ?_, ?_⟩, hs, fun k x y => ?_, ?_, ⟨n, t1, ?_, ?_, fun i x y => ?_⟩, fun k hk => ?_⟩
  · rw [g _ _ (by omega) (by omega)]; exact i1
  · rw [g _ _ (by omega) (by omega)]; exact i2
  · refine i3.imp id fun z => ⟨z.1, z.2.1, z.2.2.1.fr a1 f (by omega) (fun o ho => by have := hd o ho; omega) (fun o ho => by have := he o ho; omega), z.2.2.2.fr a1 f (n0 _ (by omega)) (n0 _ (by omega)) (fun o ho => by have := he o ho; omega)⟩
  · rw [g _ _ (by omega) (by omega), g _ _ (by omega) (by omega)]; exact a10 k x y
  · rw [g _ _ (by omega) (by omega), g _ _ (by omega) (by omega)]; exact a11
  · rw [g _ _ (by omega) (by omega)]; exact t2
  · rw [g _ _ (by omega) (by omega)]; exact t3
  · rw [g _ _ (by omega) (by omega), g _ _ (by omega) (by omega)]; exact t4 i x y
  · rw [g _ _ (by omega) (by omega)]; exact a13 k hk
/-- Sh looks at one shelf's cells alone -/
theorem Sh.cong {s : Nat} {q : Nat → Nat} {M M1 : Mm} (h : Sh s q M) (h1 : mI M1 91 s = mI M 91 s) (h2 : mI M1 92 s = mI M 92 s) (h3 : mI M1 93 s = mI M 93 s) (h4 : mI M1 94 s = mI M 94 s) (h5 : mI M1 (64 + 2 * s) 0 = mI M (64 + 2 * s) 0) (h6 : mI M1 (64 + 2 * s) 1 = mI M (64 + 2 * s) 1)
    (h7 : ∀ i, i < 160 → mJ M1 (65 + 2 * s) i = mJ M (65 + 2 * s) i) (h8 : ∀ i, i < 160 → mJ M1 95 (160 * s + i) = mJ M 95 (160 * s + i)) : Sh s q M1 := by
  unfold Sh
  rw [h1, h2, h3, h4, h5, h6]
  refine h.imp id fun z => z.imp (fun y => ⟨y.1, y.2.imp fun o x => x.imp fun n w => ⟨w.1, w.2.1, w.2.2.1, w.2.2.2.1, w.2.2.2.2.1, w.2.2.2.2.2.1, fun i hi => ?_⟩⟩) id
  rw [h7 i hi, h8 i hi]
  exact w.2.2.2.2.2.2 i hi
