/-! both made: what they keep holds (written by p8.py) -/
theorem X8F.fx {M A : Mm} (h : X8F M) (f : Fx [] M A) (hT : mT M = 80) : X8F A := by
  obtain ⟨⟨a1, a2⟩, ⟨b1, b2, b3⟩, c1, ⟨d1, d2, d3, d4, d5, d6, d7⟩, ⟨e1, e2, e3, e4⟩, g1, g2, ⟨r0, r1, r2, r3, r4, r5, r6, r7⟩, i1, i2⟩ := h
  have n : ∀ o, ¬ o ∈ ([] : List Nat) := fun o => List.not_mem_nil
  refine ⟨⟨by rw [f.K (by omega)]; exact a1, by rw [f.K (by omega)]; exact a2⟩, ⟨b1.fx f mem0 (by omega), b2.fx f mem0 (by omega), b3.fx f mem0 (by omega)⟩, c1.fx f (by omega) (n _), ⟨by rw [f.K (by omega)]; exact d1, by rw [f.K (by omega)]; exact d2, by rw [f.K (by omega)]; exact d3, by rw [f.R (by omega) (n _)]; exact d4, by rw [f.R (by omega) (n _)]; exact d5, fun j hj => ⟨by rw [f.R (by omega) (n _)]; exact (d6 j hj).1, by rw [f.K (by omega)]; exact (d6 j hj).2⟩, fun j hj => ⟨by rw [f.R (by omega) (n _)]; exact (d7 j hj).1, by rw [f.K (by omega)]; exact (d7 j hj).2⟩⟩, ⟨by rw [f.K (by omega)]; exact e1, e2.fx f (by omega) (n _), by rw [f.R (by omega) (n _)]; exact e3, by rw [f.I (by omega) (n _)]; exact e4⟩, g1.fx f (by omega) (n _), fun j hj => ?_, ⟨by rw [f.R (by omega) (n _)]; exact r0, by rw [f.R (by omega) (n _)]; exact r1, by rw [f.R (by omega) (n _)]; exact r2, by rw [f.R (by omega) (n _)]; exact r3, by rw [f.R (by omega) (n _)]; exact r4, by rw [f.R (by omega) (n _)]; exact r5, by rw [f.R (by omega) (n _)]; exact r6, by rw [f.R (by omega) (n _)]; exact r7⟩, by rw [f.I (by omega) (n _)]; exact i1, by rw [f.I (by omega) (n _)]; exact i2⟩
  obtain ⟨⟨x1, x2, x3, x4⟩, x5, x6⟩ := g2 j hj
  exact ⟨⟨by rw [f.K (by omega)]; exact x1, by rw [f.I (by omega) (n _)]; exact x2, by rw [f.I (by omega) (n _)]; exact x3, by rw [f.R (by omega) (n _)]; exact x4⟩, x5.fx f (by omega) (n _), by rw [f.R (by omega) (n _)]; exact x6⟩
theorem kkA : (∀ j, j < 8 → KK (43 + j) = (20, 24)) ∧ (∀ j, j < 9 → KK (52 + j) = (21, 24)) ∧ ∀ j, j < 8 → KK (64 + 2 * j) = (4, 0) ∧ KK (65 + 2 * j) = (21, 160) := by decide
theorem fix0 {A : Mm} (hT : mT A = 107) (h8 : X8F A) (h9 : X9F A) : FIX A := by
  obtain ⟨⟨h20, h21⟩, ⟨hs22, hs28, hs34⟩, h40, ⟨h41, h42k, h51k, h41a, h41b, h42, h51⟩, h61, h63, hsh, hr, -, -⟩ := h8
  obtain ⟨⟨h80, h97, -⟩, hz, hr9, -⟩ := h9
  have h41r : mR A 41 0 = some 42 ∧ mR A 41 1 = some 51 := ⟨h41a, h41b⟩
  obtain ⟨ka, kb, kc2⟩ := kkA
  refine ⟨by omega, fun o h1 h2 => ?_, ?_⟩
  · by_cases c1 : o < 43
    · have : o = 20 ∨ o = 21 ∨ o = 22 ∨ o = 23 ∨ o = 24 ∨ o = 25 ∨ o = 26 ∨ o = 27 ∨ o = 28 ∨ o = 29 ∨ o = 30 ∨ o = 31 ∨ o = 32 ∨ o = 33 ∨ o = 34 ∨ o = 35 ∨ o = 36 ∨ o = 37 ∨ o = 38 ∨ o = 39 ∨ o = 40 ∨ o = 41 ∨ o = 42 := by omega
      rcases this with rfl | rfl | rfl | rfl | rfl | rfl | rfl | rfl | rfl | rfl | rfl | rfl | rfl | rfl | rfl | rfl | rfl | rfl | rfl | rfl | rfl | rfl | rfl
      · exact h20
      · exact h21
      · exact hs22.1.1
      · exact hs22.1.2.1
      · exact hs22.1.2.2.1
      · exact hs22.1.2.2.2.1
      · exact hs22.1.2.2.2.2.1
      · exact hs22.1.2.2.2.2.2
      · exact hs28.1.1
      · exact hs28.1.2.1
      · exact hs28.1.2.2.1
      · exact hs28.1.2.2.2.1
      · exact hs28.1.2.2.2.2.1
      · exact hs28.1.2.2.2.2.2
      · exact hs34.1.1
      · exact hs34.1.2.1
      · exact hs34.1.2.2.1
      · exact hs34.1.2.2.2.1
      · exact hs34.1.2.2.2.2.1
      · exact hs34.1.2.2.2.2.2
      · exact h40.1
      · exact h41
      · exact h42k
    · by_cases c2 : o < 51
      · obtain ⟨j, rfl⟩ : ∃ j, o = 43 + j := ⟨o - 43, by omega⟩
        rw [ka j (by omega)]; exact (h42 j (by omega)).2
      · by_cases c3 : o < 61
        · by_cases c4 : o = 51
          · rw [c4]; exact h51k
          · obtain ⟨j, rfl⟩ : ∃ j, o = 52 + j := ⟨o - 52, by omega⟩
            rw [kb j (by omega)]; exact (h51 j (by omega)).2
        · by_cases c5 : o < 64
          · have : o = 61 ∨ o = 62 ∨ o = 63 := by omega
            rcases this with rfl | rfl | rfl
            · exact h61.1
            · exact h61.2.1.1
            · exact h63.1
          · by_cases c6 : o < 80
            · have : ∃ j, j < 8 ∧ (o = 64 + 2 * j ∨ o = 65 + 2 * j) := ⟨(o - 64) / 2, by omega, by omega⟩
              obtain ⟨j, hj, rfl | rfl⟩ := this
              · rw [(kc2 j hj).1]; exact (hsh j hj).1.1
              · rw [(kc2 j hj).2]; exact (hsh j hj).2.1.1
            · have : o = 80 ∨ o = 81 ∨ o = 82 ∨ o = 83 ∨ o = 84 ∨ o = 85 ∨ o = 86 ∨ o = 87 ∨ o = 88 ∨ o = 89 ∨ o = 90 ∨ o = 91 ∨ o = 92 ∨ o = 93 ∨ o = 94 ∨ o = 95 ∨ o = 96 ∨ o = 97 ∨ o = 98 ∨ o = 99 ∨ o = 100 ∨ o = 101 ∨ o = 102 ∨ o = 103 ∨ o = 104 ∨ o = 105 ∨ o = 106 := by omega
              rcases this with rfl | rfl | rfl | rfl | rfl | rfl | rfl | rfl | rfl | rfl | rfl | rfl | rfl | rfl | rfl | rfl | rfl | rfl | rfl | rfl | rfl | rfl | rfl | rfl | rfl | rfl | rfl
              · exact h80
              · exact hz.1.1
              · exact hz.2.1.1
              · exact hz.2.2.1.1
              · exact hz.2.2.2.1.1
              · exact hz.2.2.2.2.1.1
              · exact hz.2.2.2.2.2.1.1
              · exact hz.2.2.2.2.2.2.1.1
              · exact hz.2.2.2.2.2.2.2.1.1
              · exact hz.2.2.2.2.2.2.2.2.1.1
              · exact hz.2.2.2.2.2.2.2.2.2.1.1
              · exact hz.2.2.2.2.2.2.2.2.2.2.1.1
              · exact hz.2.2.2.2.2.2.2.2.2.2.2.1.1
              · exact hz.2.2.2.2.2.2.2.2.2.2.2.2.1.1
              · exact hz.2.2.2.2.2.2.2.2.2.2.2.2.2.1.1
              · exact hz.2.2.2.2.2.2.2.2.2.2.2.2.2.2.1.1
              · exact hz.2.2.2.2.2.2.2.2.2.2.2.2.2.2.2.1.1
              · exact h97
              · exact hz.2.2.2.2.2.2.2.2.2.2.2.2.2.2.2.2.1.1
              · exact hz.2.2.2.2.2.2.2.2.2.2.2.2.2.2.2.2.2.1.1
              · exact hz.2.2.2.2.2.2.2.2.2.2.2.2.2.2.2.2.2.2.1.1
              · exact hz.2.2.2.2.2.2.2.2.2.2.2.2.2.2.2.2.2.2.2.1.1
              · exact hz.2.2.2.2.2.2.2.2.2.2.2.2.2.2.2.2.2.2.2.2.1.1
              · exact hz.2.2.2.2.2.2.2.2.2.2.2.2.2.2.2.2.2.2.2.2.2.1.1
              · exact hz.2.2.2.2.2.2.2.2.2.2.2.2.2.2.2.2.2.2.2.2.2.2.1.1
              · exact hz.2.2.2.2.2.2.2.2.2.2.2.2.2.2.2.2.2.2.2.2.2.2.2.1.1
              · exact hz.2.2.2.2.2.2.2.2.2.2.2.2.2.2.2.2.2.2.2.2.2.2.2.2.1
  · unfold RT
    exact List.forall_mem_cons.mpr ⟨hr.1, List.forall_mem_cons.mpr ⟨hr.2.1, List.forall_mem_cons.mpr ⟨hr.2.2.1, List.forall_mem_cons.mpr ⟨hr.2.2.2.1, List.forall_mem_cons.mpr ⟨hr.2.2.2.2.1, List.forall_mem_cons.mpr ⟨hr.2.2.2.2.2.1, List.forall_mem_cons.mpr ⟨hr.2.2.2.2.2.2.1, List.forall_mem_cons.mpr ⟨hr.2.2.2.2.2.2.2, List.forall_mem_cons.mpr ⟨(hsh 0 (by decide)).2.2, List.forall_mem_cons.mpr ⟨(hsh 1 (by decide)).2.2, List.forall_mem_cons.mpr ⟨(hsh 2 (by decide)).2.2, List.forall_mem_cons.mpr ⟨(hsh 3 (by decide)).2.2, List.forall_mem_cons.mpr ⟨(hsh 4 (by decide)).2.2, List.forall_mem_cons.mpr ⟨(hsh 5 (by decide)).2.2, List.forall_mem_cons.mpr ⟨(hsh 6 (by decide)).2.2, List.forall_mem_cons.mpr ⟨(hsh 7 (by decide)).2.2, List.forall_mem_cons.mpr ⟨hs22.2.1.1, List.forall_mem_cons.mpr ⟨hs22.2.1.2.1, List.forall_mem_cons.mpr ⟨hs22.2.1.2.2.1, List.forall_mem_cons.mpr ⟨hs22.2.1.2.2.2.1, List.forall_mem_cons.mpr ⟨hs22.2.1.2.2.2.2, List.forall_mem_cons.mpr ⟨hs28.2.1.1, List.forall_mem_cons.mpr ⟨hs28.2.1.2.1, List.forall_mem_cons.mpr ⟨hs28.2.1.2.2.1, List.forall_mem_cons.mpr ⟨hs28.2.1.2.2.2.1, List.forall_mem_cons.mpr ⟨hs28.2.1.2.2.2.2, List.forall_mem_cons.mpr ⟨hs34.2.1.1, List.forall_mem_cons.mpr ⟨hs34.2.1.2.1, List.forall_mem_cons.mpr ⟨hs34.2.1.2.2.1, List.forall_mem_cons.mpr ⟨hs34.2.1.2.2.2.1, List.forall_mem_cons.mpr ⟨hs34.2.1.2.2.2.2, List.forall_mem_cons.mpr ⟨h41r.1, List.forall_mem_cons.mpr ⟨h41r.2, List.forall_mem_cons.mpr ⟨(h42 0 (by decide)).1, List.forall_mem_cons.mpr ⟨(h42 1 (by decide)).1, List.forall_mem_cons.mpr ⟨(h42 2 (by decide)).1, List.forall_mem_cons.mpr ⟨(h42 3 (by decide)).1, List.forall_mem_cons.mpr ⟨(h42 4 (by decide)).1, List.forall_mem_cons.mpr ⟨(h42 5 (by decide)).1, List.forall_mem_cons.mpr ⟨(h42 6 (by decide)).1, List.forall_mem_cons.mpr ⟨(h42 7 (by decide)).1, List.forall_mem_cons.mpr ⟨(h51 0 (by decide)).1, List.forall_mem_cons.mpr ⟨(h51 1 (by decide)).1, List.forall_mem_cons.mpr ⟨(h51 2 (by decide)).1, List.forall_mem_cons.mpr ⟨(h51 3 (by decide)).1, List.forall_mem_cons.mpr ⟨(h51 4 (by decide)).1, List.forall_mem_cons.mpr ⟨(h51 5 (by decide)).1, List.forall_mem_cons.mpr ⟨(h51 6 (by decide)).1, List.forall_mem_cons.mpr ⟨(h51 7 (by decide)).1, List.forall_mem_cons.mpr ⟨(h51 8 (by decide)).1, List.forall_mem_cons.mpr ⟨h61.2.2.1, List.forall_mem_cons.mpr ⟨(hsh 0 (by decide)).1.2.2.2, List.forall_mem_cons.mpr ⟨(hsh 1 (by decide)).1.2.2.2, List.forall_mem_cons.mpr ⟨(hsh 2 (by decide)).1.2.2.2, List.forall_mem_cons.mpr ⟨(hsh 3 (by decide)).1.2.2.2, List.forall_mem_cons.mpr ⟨(hsh 4 (by decide)).1.2.2.2, List.forall_mem_cons.mpr ⟨(hsh 5 (by decide)).1.2.2.2, List.forall_mem_cons.mpr ⟨(hsh 6 (by decide)).1.2.2.2, List.forall_mem_cons.mpr ⟨(hsh 7 (by decide)).1.2.2.2, List.forall_mem_cons.mpr ⟨hr9.1, List.forall_mem_cons.mpr ⟨hr9.2.1, List.forall_mem_cons.mpr ⟨hr9.2.2.1, List.forall_mem_cons.mpr ⟨hr9.2.2.2.1, List.forall_mem_cons.mpr ⟨hr9.2.2.2.2.1, List.forall_mem_cons.mpr ⟨hr9.2.2.2.2.2.1, List.forall_mem_cons.mpr ⟨hr9.2.2.2.2.2.2.1, List.forall_mem_cons.mpr ⟨hr9.2.2.2.2.2.2.2.1, List.forall_mem_cons.mpr ⟨hr9.2.2.2.2.2.2.2.2.1, List.forall_mem_cons.mpr ⟨hr9.2.2.2.2.2.2.2.2.2.1, List.forall_mem_cons.mpr ⟨hr9.2.2.2.2.2.2.2.2.2.2.1, List.forall_mem_cons.mpr ⟨hr9.2.2.2.2.2.2.2.2.2.2.2.1, List.forall_mem_cons.mpr ⟨hr9.2.2.2.2.2.2.2.2.2.2.2.2.1, List.forall_mem_cons.mpr ⟨hr9.2.2.2.2.2.2.2.2.2.2.2.2.2.1, List.forall_mem_cons.mpr ⟨hr9.2.2.2.2.2.2.2.2.2.2.2.2.2.2.1, List.forall_mem_cons.mpr ⟨hr9.2.2.2.2.2.2.2.2.2.2.2.2.2.2.2.1, List.forall_mem_cons.mpr ⟨hr9.2.2.2.2.2.2.2.2.2.2.2.2.2.2.2.2.1, List.forall_mem_cons.mpr ⟨hr9.2.2.2.2.2.2.2.2.2.2.2.2.2.2.2.2.2.1, List.forall_mem_cons.mpr ⟨hr9.2.2.2.2.2.2.2.2.2.2.2.2.2.2.2.2.2.2.1, List.forall_mem_cons.mpr ⟨hr9.2.2.2.2.2.2.2.2.2.2.2.2.2.2.2.2.2.2.2.1, List.forall_mem_cons.mpr ⟨hr9.2.2.2.2.2.2.2.2.2.2.2.2.2.2.2.2.2.2.2.2.1, List.forall_mem_cons.mpr ⟨hr9.2.2.2.2.2.2.2.2.2.2.2.2.2.2.2.2.2.2.2.2.2.1, List.forall_mem_cons.mpr ⟨hr9.2.2.2.2.2.2.2.2.2.2.2.2.2.2.2.2.2.2.2.2.2.2.1, List.forall_mem_cons.mpr ⟨hr9.2.2.2.2.2.2.2.2.2.2.2.2.2.2.2.2.2.2.2.2.2.2.2.1, List.forall_mem_cons.mpr ⟨hr9.2.2.2.2.2.2.2.2.2.2.2.2.2.2.2.2.2.2.2.2.2.2.2.2.1, List.forall_mem_cons.mpr ⟨hr9.2.2.2.2.2.2.2.2.2.2.2.2.2.2.2.2.2.2.2.2.2.2.2.2.2, mem0⟩⟩⟩⟩⟩⟩⟩⟩⟩⟩⟩⟩⟩⟩⟩⟩⟩⟩⟩⟩⟩⟩⟩⟩⟩⟩⟩⟩⟩⟩⟩⟩⟩⟩⟩⟩⟩⟩⟩⟩⟩⟩⟩⟩⟩⟩⟩⟩⟩⟩⟩⟩⟩⟩⟩⟩⟩⟩⟩⟩⟩⟩⟩⟩⟩⟩⟩⟩⟩⟩⟩⟩⟩⟩⟩⟩⟩⟩⟩⟩⟩⟩⟩⟩⟩
def q00 : Nat → Nat := fun i => if i = 56 then 12 else if i = 57 then 1 else if i = 58 then 1 else if i = 61 then 5 else 0
theorem inv0 : Inv q00 (evn 12) := by
  refine ⟨by decide, by decide, by decide, by decide, by decide, by decide, by decide, by decide, by decide, by decide, fun i hi => absurd hi (by show ¬ i < 0; omega), fun i hi => absurd hi (by show ¬ i < 0; omega), fun i hi => ?_, fun c hc => if_neg (by have : 12 ≤ c := hc; omega), ?_⟩
  · unfold q00
    rw [if_neg (by omega), if_neg (by omega), if_neg (by omega), if_neg (by omega)]
    omega
  · have := sm_evn 12 24
    have e : 24 * 10 ^ q00 64 = 24 := rfl
    omega
theorem StN.sw {a : Nat} {M : Mm} (h : StN a M) : Sw a M := by
  obtain ⟨-, -, -, h1, h2, -, h5⟩ := h
  exact ⟨fun i _ r hr => (by rw [h1] at hr; cases hr), fun i _ r hr => (by rw [h2] at hr; cases hr), fun c _ => h5 c⟩
theorem StN.st {a : Nat} {M : Mm} (h : StN a M) : St a q00 (evn 12) (nI 1) M := by
  have hw := h.sw
  obtain ⟨-, -, ⟨i0, i1, i2, i3, i4, i5, i7, i9, i11, i12, i13, i14⟩, -, -, h4, -⟩ := h
  refine ⟨fun t ht => ?_, by rw [i13]; decide, i14, fun i hi => absurd hi (by show ¬ i < 0; omega), fun i hi => absurd hi (by show ¬ i < 0; omega), h4, hw⟩
  simp only [SCL, List.mem_cons, List.not_mem_nil, or_false] at ht
  rcases ht with rfl | rfl | rfl | rfl | rfl | rfl | rfl | rfl | rfl | rfl
  · exact i0
  · exact i1
  · exact i2
  · exact i3
  · exact i4
  · exact i5
  · exact i7
  · exact i9
  · exact i11
  · exact i12
theorem mk0 {M0 : Mm} (hT : mT M0 = 20) : ∃ M8 N, fX8_init 20 (sN M0 9 0 10) = some M8 ∧ mT M8 = 80 ∧ fX9_init 80 (sN M8 10 0 49) = some N ∧ Rel M0 N ∧ mT N = 107 ∧ mW N ≤ mW M0 + 6000 := by
  obtain ⟨M8, e8, t8, w8, f8, x8⟩ := i8 hT
  obtain ⟨A, e9, t9, w9, f9, x9⟩ := i9 t8
  have x8A := x8.fx f9 t8
  have hF := fix0 t9 x8A x9
  have fA : Fx [] M0 A := f8.cut f9 mem0
  obtain ⟨⟨h20, h21⟩, ⟨hs22, hs28, hs34⟩, h40, -, h61, h63, hsh, hr, i204, i206⟩ := x8A
  obtain ⟨⟨h80, h97, hW⟩, hz, hr9, hi⟩ := x9
  have i0 : mI A 80 0 = nI 12 := by rw [hi]; rfl
  have ev := evY (L := 12) (by decide) FU 0 A hF i0 (by decide) (by decide)
  obtain ⟨N, hN⟩ : ∃ N, N = sI (sI (gJ A 89 0 24 (fun c => lN (evn 12 c))) 80 8 (nI 0)) 80 9 (nI 0) := ⟨_, rfl⟩
  rw [← hN] at ev
  have f1a : Fr [89] [] A (gJ A 89 0 24 (fun c => lN (evn 12 c))) := Fr.gJ _ _ _ (by decide)
  have f1b : Fr [] [(80, 8), (80, 9)] (gJ A 89 0 24 (fun c => lN (evn 12 c))) N := by rw [hN]; exact (Fr.oI _ _ (Or.inr (by decide))).tr (Fr.oI _ _ (Or.inr (by decide)))
  have f : Fr [89] [(80, 8), (80, 9)] A N := (f1a.wk (fun _ z => z) mem0).tr (f1b.wk mem0 (fun _ z => z))
  have hFN := f.fix hF
  have kn : fX9_knows 80 (-1) A = some N := by
    unfold fX9_knows
    rw [kb80 hF]
    exact ev
  have tN : mT N = 107 := by rw [hN, mT_sI, mT_sI, mT_gJ]; exact t9
  have I : ∀ o k, o < 107 → o ≠ 80 → o ≠ 89 → mI N o k = mI A o k := fun o k h1 h2 h3 => f.I (by omega) (fun z => h3 (List.mem_singleton.mp z)) (fun z => by simp only [List.mem_cons, Prod.mk.injEq, List.not_mem_nil, or_false] at z; omega)
  have I80 : ∀ k, k ≠ 8 → k ≠ 9 → mI N 80 k = mI A 80 k := fun k h1 h2 => f.I (by omega) (by decide) (fun z => by simp only [List.mem_cons, Prod.mk.injEq, List.not_mem_nil, or_false] at z; omega)
  have z40 := h40
  have z81 := hz.1
  have z82 := hz.2.1
  have z83 := hz.2.2.1
  have z84 := hz.2.2.2.1
  have z85 := hz.2.2.2.2.1
  have z86 := hz.2.2.2.2.2.1
  have z87 := hz.2.2.2.2.2.2.1
  have z88 := hz.2.2.2.2.2.2.2.1
  have z91 := hz.2.2.2.2.2.2.2.2.2.2.1
  have hRO : RO M0 N := fun o ho => by
    have k1 : mK N o = mK M0 o := by rw [f.2.1 o (by omega), fA.K (by omega)]
    refine ⟨k1, funext fun k => ?_, funext fun k => ?_⟩
    · rw [I o k (by omega) (by omega) (by omega), fA.I (by omega) List.not_mem_nil]
    · rw [f.R (by omega) (Or.inl (fun z => by have := List.mem_singleton.mp z; omega)), fA.R (by omega) List.not_mem_nil]
  have hM : MD q00 (evn 12) (nI 1) N := by
    refine ⟨fun k hk => ?_, ?_, ?_, fun a ha i hi => ?_, fun c hc => ?_⟩
    · have hk2 : k = 0 ∨ k = 1 ∨ k = 2 ∨ k = 3 ∨ k = 4 ∨ k = 5 ∨ k = 6 ∨ k = 7 ∨ k = 8 ∨ k = 9 := by omega
      rcases hk2 with rfl | rfl | rfl | rfl | rfl | rfl | rfl | rfl | rfl | rfl
      · rw [I80 _ (by decide) (by decide), hi]; rfl
      · rw [I80 _ (by decide) (by decide), hi]; rfl
      · rw [I80 _ (by decide) (by decide), hi]; rfl
      · rw [I80 _ (by decide) (by decide), hi]; rfl
      · rw [I80 _ (by decide) (by decide), hi]; rfl
      · rw [I80 _ (by decide) (by decide), hi]; rfl
      · rw [I80 _ (by decide) (by decide), hi]; rfl
      · rw [I80 _ (by decide) (by decide), hi]; rfl
      · rw [hN, mI_ne (by decide), mI_at]; rfl
      · rw [hN, mI_at]; rfl
    · rw [I80 _ (by decide) (by decide), hi]; decide
    · rw [I80 _ (by decide) (by decide), hi]; decide
    · rw [I _ _ (by omega) (by omega) (by omega)]
      have e0 : q00 (8 * a + i) = 0 := by
        unfold q00
        rw [if_neg (by omega), if_neg (by omega), if_neg (by omega), if_neg (by omega)]
      rw [e0]
      have ha2 : a = 0 ∨ a = 1 ∨ a = 2 ∨ a = 3 ∨ a = 4 ∨ a = 5 ∨ a = 6 := by omega
      rcases ha2 with rfl | rfl | rfl | rfl | rfl | rfl | rfl
      · exact z82.2.1 i
      · exact z83.2.1 i
      · exact z84.2.1 i
      · exact z85.2.1 i
      · exact z86.2.1 i
      · exact z87.2.1 i
      · exact z88.2.1 i
    · rw [hN, mJ_sI, mJ_sI, mJ_gJ, if_pos ⟨rfl, Nat.zero_le _, hc⟩]
  refine ⟨M8, N, e8, t8, by rw [e9, bnd1 kn], ⟨q00, evn 12, nI 1, 0, q00, evn 12, nI 1, hFN, hRO, inv0, hs22.st.fr hF f (by decide) (by decide) (by decide), hM, hs28.sw.fr hF f (by decide) (by decide) (by decide) (by decide), hs34.sw.fr hF f (by decide) (by decide) (by decide) (by decide), ⟨?_, ?_, Or.inl rfl⟩, fun s hs => Or.inl ⟨?_, ?_, ?_⟩, fun k _ _ => ?_, ?_, ⟨0, by decide, ?_, ?_, fun i _ h => absurd h (by omega)⟩, fun k hk => ?_⟩, tN, ?_⟩
  · rw [I _ _ (by omega) (by omega) (by omega), i204]; rfl
  · rw [I80 _ (by decide) (by decide), hi]; rfl
  · rw [I _ _ (by omega) (by omega) (by omega), z91.2.1]; rfl
  · rw [I _ _ (by omega) (by omega) (by omega)]; exact (hsh s hs).1.2.1
  · rw [I _ _ (by omega) (by omega) (by omega)]; exact (hsh s hs).1.2.2.1
  · rw [I _ _ (by omega) (by omega) (by omega), I _ _ (by omega) (by omega) (by omega), z40.2.1, z81.2.1]
  · rw [I _ _ (by omega) (by omega) (by omega), i206, I80 _ (by decide) (by decide), hi]; decide
  · rw [I _ _ (by omega) (by omega) (by omega), h61.2.2.2]; rfl
  · rw [I80 _ (by decide) (by decide), hi]; rfl
  · rw [I _ _ (by omega) (by omega) (by omega)]; exact hW k hk
  · have : mW N = mW A := by rw [hN, mW_sI, mW_sI, mW_gJ]
    omega
/-- the law, run on the memory -/
theorem lawL {M0 : Mm} {L : Nat} (hT : mT M0 = 20) (hS : SCR M0 L) : ∃ M1, fL_law 0 M0 = some (1, M1) ∧ mT M1 ≤ 20 + 300000 ∧ mW M1 ≤ mW M0 + 3000000 := by
  obtain ⟨M8, N, e8, t8, e9, hR, tN, wN⟩ := mk0 hT
  have hL := hS.2.2.2.2.2
  obtain ⟨M1, e, t, w⟩ := loopL hS (FU - 513 - 1) 513 0 N hR (by omega) (by decide)
  rw [show FU - 513 - 1 + 513 + 1 = FU by unfold FU; omega] at e
  refine ⟨M1, ?_, by omega, by omega⟩
  unfold fL_law
  rw [bnO]
  dsimp only
  rw [hT, bnd1 e8, bnO]
  dsimp only
  rw [t8, bnd1 e9]
  exact e
