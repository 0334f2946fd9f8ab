/-- a call that changes street and shelves -/
theorem REL.upd2 {ds : List Nat} {es : List (Nat × Nat)} {A : Mm} {q od q1 od1 q2 od2 : Nat → Nat} {sd sd1 sd2 : Int32} {b : Nat} {M M1 : Mm} (h : REL A q od sd b q2 od2 sd2 M) (f : Fr ds es M M1)
    (hd : ∀ o ∈ ds, scr o ∨ (64 ≤ o ∧ o < 80) ∨ (91 ≤ o ∧ o ≤ 96)) (he : ∀ t ∈ es, scf t ∨ (64 ≤ t.1 ∧ t.1 < 80) ∨ (91 ≤ t.1 ∧ t.1 ≤ 96)) (hI : Inv q1 od1) (hS : St 22 q1 od1 sd1 M1) (hM : MD q1 od1 sd1 M1) (hw : Sw 28 M1) (hs : ∀ s, s < 8 → Sh s q1 M1) : REL A q1 od1 sd1 b q2 od2 sd2 M1 := by
  unfold scr at hd
  unfold scf at he
  obtain ⟨a1, a2, a3, a4, a5, a6, a7, ⟨i1, i2, i3⟩, a9, a10, a11, ⟨n, t1, t2, t3, t4⟩, a13⟩ := h
  have h0 := a1.1
  have n0 : ∀ o, (34 ≤ o ∧ o ≤ 40) ∨ (o = 20 ∨ o = 21 ∨ o = 61 ∨ o = 62) ∨ (80 ≤ o ∧ o ≤ 81) ∨ o = 97 ∨ o = 100 ∨ o = 102 ∨ o = 106 → ¬ o ∈ ds := fun o ho x => by have := hd o x; omega
  have ne : ∀ o k, ((34 ≤ o ∧ o ≤ 40) ∨ (o = 20 ∧ k < 9) ∨ (o = 21 ∨ o = 61 ∨ o = 62) ∨ o = 81 ∨ (o = 80 ∧ 12 ≤ k ∧ (k < 29 ∨ 47 ≤ k)) ∨ o = 97 ∨ o = 100 ∨ o = 102 ∨ o = 106) → ¬ (o, k) ∈ es := fun o k ho x => by
    have := he _ x
    simp only at this
    omega
  have g : ∀ o k, ((34 ≤ o ∧ o ≤ 40) ∨ (o = 20 ∧ k < 9) ∨ (o = 21 ∨ o = 61 ∨ o = 62) ∨ o = 81 ∨ (o = 80 ∧ 12 ≤ k ∧ (k < 29 ∨ 47 ≤ k)) ∨ o = 97 ∨ o = 100 ∨ o = 102 ∨ o = 106) → mI M1 o k = mI M o k := fun o k b => f.I (by omega) (n0 o (by omega)) (ne o k b)
  refine ⟨f.fix a1, a2.fr a1 f (fun o ho => by have := hd o ho; omega) (fun o ho => by have := he o ho; omega), hI, hS, hM, hw, a7.fr a1 f (by omega) (n0 _ (by omega)) (n0 _ (by omega)) (n0 _ (by omega)), ⟨?_, ?_, ?_⟩, hs, fun k x y => ?_, ?_, ⟨n, t1, ?_, ?_, fun i x y => ?_⟩, fun k hk => ?_⟩
  · rw [g _ _ (by omega)]; exact i1
  · rw [g _ _ (by omega)]; exact i2
  · refine i3.imp id fun z => ⟨z.1, z.2.1, z.2.2.1.fr a1 f (by omega) (fun o ho => by have := hd o ho; omega) (fun o ho => by have := he o ho; omega), z.2.2.2.fr a1 f (n0 _ (by omega)) (n0 _ (by omega)) (fun o ho => by have := he o ho; omega)⟩
  · rw [g _ _ (by omega), g _ _ (by omega)]; exact a10 k x y
  · rw [g _ _ (by omega), g _ _ (by omega)]; exact a11
  · rw [g _ _ (by omega)]; exact t2
  · rw [g _ _ (by omega)]; exact t3
  · rw [g _ _ (by omega), g _ _ (by omega)]; exact t4 i x y
  · rw [g _ _ (by omega)]; exact a13 k hk
theorem MD.anew {q od : Nat → Nat} {sd : Int32} {M : Mm} (hF : FIX M) (h : MD q od sd M) (v : Nat) : MD (anw q v) (evn v) sd (aY M v) := by
  have h1 := h.put (show 0 < 10 by decide) v
  have h1b : MD (u1 q 56 v) od sd (sI (sI M 80 0 (nI v)) 80 29 (nI 1)) := MD.fr (by simp only [FIX_sI, FIX_sJ, FIX_gI, FIX_gJ]; exact hF) (Fr.oI (ds := []) (es := [(80, 29)]) 29 (nI 1) (Or.inr (by decide))) h1 mem0 (by decide)
  have h2 := h1b.put (show 6 < 10 by decide) 0
  have h3 := h2.put (show 7 < 10 by decide) 0
  have h4 := h3.putT 0
  rw [m01] at h4
  have h5 := MD.od (od1 := evn v) (by simp only [FIX_sI, FIX_sJ, FIX_gI, FIX_gJ]; exact hF) (Fr.gJ (ds := [89]) 0 24 (fun c => lN (evn v c)) List.mem_cons_self) h4 (by decide) (fun c hc => by rw [mJ_gJ, if_pos ⟨rfl, Nat.zero_le _, hc⟩])
  exact (h5.put (show 8 < 10 by decide) 0).put (show 9 < 10 by decide) 0
theorem anw_o {q : Nat → Nat} {v i : Nat} (h : i < 56 ∨ (57 ≤ i ∧ i ≤ 61) ∨ 67 ≤ i) : anw q v i = q i := by
  unfold anw z45 u1
  rw [if_neg (by omega), if_neg (by omega), if_neg (by omega), if_neg (by omega), if_neg (by omega), if_neg (by omega)]
theorem anw_56 {q : Nat → Nat} {v : Nat} : anw q v 56 = v := rfl
theorem anw_0 {q : Nat → Nat} {v i : Nat} (h : 62 ≤ i ∧ i ≤ 66) : anw q v i = 0 := by
  have : i = 62 ∨ i = 63 ∨ i = 64 ∨ i = 65 ∨ i = 66 := by omega
  rcases this with rfl | rfl | rfl | rfl | rfl <;> rfl
theorem Inv.anew {q od : Nat → Nat} (h : Inv q od) {v : Nat} (hv : 2 ≤ v ∧ v ≤ 24) : Inv (anw q v) (evn v) := by
  obtain ⟨a1, a2, a3, a4, a5, a6, a7, a8, a9, a10, a11, a12, a13, a14, a15⟩ := h
  have s := sm_evn v 24
  refine ⟨hv, by rw [anw_o (by decide), anw_o (by decide)]; exact a2, by rw [anw_o (by decide)]; exact a3, by rw [anw_o (by decide)]; exact a4, by rw [anw_o (by decide)]; exact a5, by rw [anw_0 (by decide)]; exact Nat.zero_le _, by rw [anw_0 (by decide)]; exact Nat.zero_le _, by rw [anw_0 (by decide)]; exact Nat.zero_le _, by rw [anw_0 (by decide)]; exact Nat.zero_le _, by rw [anw_0 (by decide)]; exact Nat.zero_le _, fun i hi => ?_, fun i hi => ?_, fun i hi => by rw [anw_o (Or.inl hi)]; exact a13 i hi, fun c hc => if_neg (by rw [anw_56] at hc; omega), by rw [anw_0 (by decide)]; omega⟩
  · rw [anw_0 (by decide)] at hi; omega
  · rw [anw_0 (by decide)] at hi; omega
