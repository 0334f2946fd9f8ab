/-! the class's other parts made -/
theorem Fx.new {l : List Nat} {M M1 : Mm} (h : Fx l M M1) {a : Nat} (ha : mT M ≤ a) : (∀ k v, Fx l M (sI M1 a k v)) ∧ (∀ k v, Fx l M (sR M1 a k v)) := by
  refine ⟨fun k v => h.cut (Fx.wI (l := [a]) List.mem_cons_self k v) (fun o ho => ?_), fun k v => h.cut (Fx.wR (l := [a]) List.mem_cons_self k v) (fun o ho => ?_)⟩
  · rw [List.mem_singleton.mp ho]; exact Or.inr ha
  · rw [List.mem_singleton.mp ho]; exact Or.inr ha
theorem sRow {kd m : Nat} : ∀ i (M : Mm), mT (sRows kd m i M) = mT M + i ∧ mW (sRows kd m i M) = mW M + i * m ∧ Fx [] M (sRows kd m i M) ∧ ∀ j, j < i → Ze (sRows kd m i M) (mT M + j) (kd, m) := by
  intro i
  induction i with
  | zero => intro M; exact ⟨rfl, by show mW M = mW M + 0 * m; omega, Fx.rf, fun j hj => by omega⟩
  | succ i ih =>
    intro M
    obtain ⟨a, b, c, d⟩ := ih M
    have f : Fx [] (sRows kd m i M) (sRows kd m (i + 1) M) := Fx.wN kd m m
    refine ⟨?_, ?_, c.tr f, fun j hj => ?_⟩
    · show mT (sN (sRows kd m i M) kd m m) = _
      rw [mT_sN, a]; omega
    · show mW (sN (sRows kd m i M) kd m m) = _
      rw [mW_sN, b, Nat.succ_mul]; omega
    · by_cases e : j = i
      · have := Ze.new (sRows kd m i M) kd m m
        rw [a] at this
        rw [e]
        exact this
      · exact (d j (by omega)).fx f (by omega) List.not_mem_nil
theorem nGs (M : Mm) (ko ki n m : Nat) (hn : n ≤ 64) (hm : m ≤ 64) : ∃ M1, nG M ko ki (nI n) (nI m) = some (mT M, M1) ∧ mT M1 = mT M + 1 + n ∧ mW M1 = mW M + n + n * m ∧ Fx [] M M1 ∧ mK M1 (mT M) = (ko, n) ∧ (∀ j, j < n → mR M1 (mT M) j = some (mT M + 1 + j)) ∧ ∀ j, j < n → Ze M1 (mT M + 1 + j) (ki, m) := by
  have c1 := nI_clamp (show n < 2 ^ 31 by omega)
  have c2 := nI_clamp (show m < 2 ^ 31 by omega)
  obtain ⟨a, b, c, d⟩ := sRow (kd := ki) (m := m) n (sN M ko n n)
  rw [mT_sN] at a d
  rw [mW_sN] at b
  have f0 : Fx [] M (sN M ko n n) := Fx.wN ko n n
  have z0 := Ze.new M ko n n
  refine ⟨(mT (sRows ki m n (sN M ko n n)), mW (sRows ki m n (sN M ko n n)), mK (sRows ki m n (sN M ko n n)), mI (sRows ki m n (sN M ko n n)), mJ (sRows ki m n (sN M ko n n)), u1 (mR (sRows ki m n (sN M ko n n))) (mT M) (fun j => if j < n then some (mT M + 1 + j) else none)), ?_, a, b, ?_, ?_, fun j hj => ?_, fun j hj => ?_⟩
  · unfold nG
    rw [if_pos ⟨nI_pos (by omega), nI_pos (by omega), by rw [c1]; exact hn, by rw [c2]; exact hm⟩]
    dsimp only
    rw [c1, c2]
  · have f1 := f0.tr c
    refine ⟨f1.1, fun o ho => ⟨(f1.2 o ho).1, fun hn2 => ⟨((f1.2 o ho).2 hn2).1, ((f1.2 o ho).2 hn2).2.1, fun k => ?_⟩⟩⟩
    show (if o = mT M then _ else mR (sRows ki m n (sN M ko n n)) o) k = _
    rw [if_neg (by omega)]
    exact ((f1.2 o ho).2 hn2).2.2 k
  · show mK (sRows ki m n (sN M ko n n)) (mT M) = _
    rw [(c.2 (mT M) (by rw [mT_sN]; omega)).1]
    exact z0.1
  · show (if mT M = mT M then (fun j => if j < n then some (mT M + 1 + j) else none) else mR (sRows ki m n (sN M ko n n)) (mT M)) j = _
    rw [if_pos rfl]
    exact if_pos hj
  · obtain ⟨p1, p2, p3, p4⟩ := d j hj
    refine ⟨p1, p2, p3, fun k => ?_⟩
    show (if mT M + 1 + j = mT M then _ else mR (sRows ki m n (sN M ko n n)) (mT M + 1 + j)) k = _
    rw [if_neg (by omega)]
    exact p4 k
theorem i1 {M : Mm} (hT : mT M = 42) (hk : mK M 41 = (2, 0)) : ∃ M1, fX1_init 41 M = some M1 ∧ mT M1 = 61 ∧ mW M1 = mW M + 425 ∧ Fx [41] M M1 ∧ mK M1 41 = (2, 0) ∧ mK M1 42 = (25, 8) ∧ mK M1 51 = (26, 9) ∧ mR M1 41 0 = some 42 ∧ mR M1 41 1 = some 51 ∧ (∀ j, j < 8 → mR M1 42 j = some (43 + j) ∧ mK M1 (43 + j) = (20, 24)) ∧ (∀ j, j < 9 → mR M1 51 j = some (52 + j) ∧ mK M1 (52 + j) = (21, 24)) := by
  obtain ⟨B, e1, t1, w1, f1, k1, r1, z1⟩ := nGs M 25 20 8 24 (by decide) (by decide)
  rw [hT] at e1 t1 k1 r1 z1
  have kB : mK B 41 = (2, 0) := by rw [(f1.2 41 (by omega)).1]; exact hk
  obtain ⟨B2, hB2⟩ : ∃ B2, B2 = sR B 41 0 (some 42) := ⟨_, rfl⟩
  have f2 : Fx [41] B B2 := by rw [hB2]; exact Fx.wR List.mem_cons_self _ _
  have t2 : mT B2 = 51 := by rw [hB2, mT_sR]; exact t1
  obtain ⟨B3, e3, t3, w3, f3, k3, r3, z3⟩ := nGs B2 26 21 9 24 (by decide) (by decide)
  rw [t2] at e3 t3 k3 r3 z3
  have kB3 : mK B3 41 = (2, 0) := by rw [(f3.2 41 (by omega)).1, (f2.2 41 (by omega)).1]; exact kB
  obtain ⟨B4, hB4⟩ : ∃ B4, B4 = sI (sI (sR B3 41 1 (some 51)) 41 2 0) 41 3 0 := ⟨_, rfl⟩
  have f4 : Fx [41] B3 B4 := by rw [hB4]; exact ((Fx.wR List.mem_cons_self _ _).tr (Fx.wI List.mem_cons_self _ _)).tr (Fx.wI List.mem_cons_self _ _)
  have n41 : ∀ o, 42 ≤ o → ¬ o ∈ [41] := fun o ho z => by have := List.mem_singleton.mp z; omega
  have f24 : Fx [41] B B4 := (f2.cut f3 (fun o ho => absurd ho List.not_mem_nil)).tr f4
  have f14 : Fx [41] M B4 := (Fx.rf.cut f1 (fun o ho => absurd ho List.not_mem_nil)).tr f24
  have t4 : mT B4 = 61 := by rw [hB4, mT_sI, mT_sI, mT_sR]; exact t3
  refine ⟨B4, ?_, t4, ?_, f14, ?_, ?_, ?_, ?_, ?_, fun j hj => ⟨?_, ?_⟩, fun j hj => ⟨?_, ?_⟩⟩
  · unfold fX1_init
    rw [bkc (by rw [hk]), bnd1 (show nG M 25 20 (8 : Int32) (24 : Int32) = some (42, B) from e1)]
    dsimp only
    rw [bpR (by rw [kB]), ← hB2, bnd1 (show nG B2 26 21 (9 : Int32) (24 : Int32) = some (51, B3) from e3)]
    dsimp only
    rw [bpR (by rw [kB3]), bpI (by rw [mK_sR, kB3]), bpI (by rw [mK_sI, mK_sR, kB3]), ← hB4]
  · rw [hB4, mW_sI, mW_sI, mW_sR, w3, hB2, mW_sR, w1]
  · rw [(f24.2 41 (by omega)).1]; exact kB
  · rw [(f24.2 42 (by omega)).1]; exact k1
  · rw [(f4.2 51 (by omega)).1]; exact k3
  · rw [hB4, mR_sI, mR_sI, mR_sR, if_neg (by decide), ((f3.2 41 (by omega)).2 List.not_mem_nil).2.2, hB2, mR_sR, if_pos ⟨rfl, rfl⟩]
  · rw [hB4, mR_sI, mR_sI, mR_sR, if_pos ⟨rfl, rfl⟩]
  · rw [((f24.2 42 (by omega)).2 (n41 42 (by omega))).2.2]; exact r1 j hj
  · rw [(f24.2 (43 + j) (by omega)).1]; exact (z1 j hj).1
  · rw [((f4.2 51 (by omega)).2 (n41 51 (by omega))).2.2]; exact r3 j hj
  · rw [(f4.2 (52 + j) (by omega)).1]; exact (z3 j hj).1
theorem i7 {M : Mm} (hT : mT M = 62) (hk : mK M 61 = (8, 0)) : ∃ M1, fX7_init 61 M = some M1 ∧ mT M1 = 63 ∧ mW M1 = mW M + 20 ∧ Fx [61] M M1 ∧ mK M1 61 = (8, 0) ∧ Ze M1 62 (20, 20) ∧ mR M1 61 0 = some 62 ∧ mI M1 61 1 = 0 := by
  obtain ⟨B, hB⟩ : ∃ B, B = sN M 20 20 20 := ⟨_, rfl⟩
  have f1 : Fx [61] M B := by rw [hB]; exact Fx.wN _ _ _
  have t1 : mT B = 63 := by rw [hB, mT_sN, hT]
  have kB : mK B 61 = (8, 0) := by rw [(f1.2 61 (by omega)).1]; exact hk
  have z1 : Ze B 62 (20, 20) := by
    have := Ze.new M 20 20 20
    rw [hT, ← hB] at this
    exact this
  obtain ⟨B4, hB4⟩ : ∃ B4, B4 = sI (sR B 61 0 (some 62)) 61 1 0 := ⟨_, rfl⟩
  have f4 : Fx [61] B B4 := by rw [hB4]; exact (Fx.wR List.mem_cons_self _ _).tr (Fx.wI List.mem_cons_self _ _)
  refine ⟨B4, ?_, by rw [hB4, mT_sI, mT_sR]; exact t1, by rw [hB4, mW_sI, mW_sR, hB, mW_sN], f1.tr f4, by rw [(f4.2 61 (by omega)).1]; exact kB, z1.fx f4 (by omega) (by decide), by rw [hB4, mR_sI, mR_sR, if_pos ⟨rfl, rfl⟩], by rw [hB4, mI_at]⟩
  unfold fX7_init
  rw [bkc (by rw [hk]), bnA20]
  dsimp only
  rw [← hB, hT, bpR (by rw [kB]), bpI (by rw [mK_sR, kB]), ← hB4]
/-- the eight shelves -/
def Shv (i : Nat) (M : Mm) : Prop := mT M = 64 + 2 * i ∧ (mK M 20 = (9, 0) ∧ mR M 20 0 = some 21 ∧ mK M 21 = (22, 8)) ∧ ∀ j, j < i → (mK M (64 + 2 * j) = (4, 0) ∧ mI M (64 + 2 * j) 0 = -nI 1 ∧ mI M (64 + 2 * j) 1 = nI 0 ∧ mR M (64 + 2 * j) 2 = some (65 + 2 * j)) ∧ Ze M (65 + 2 * j) (21, 160) ∧ mR M 21 j = some (64 + 2 * j)
theorem i96 : ∀ d m i (M : Mm), Shv i M → i + d = 8 → ∃ M1, fX8_init_b96 (m + d + 1) 20 (nI i) M = some M1 ∧ Shv 8 M1 ∧ Fx [21] M M1 ∧ mW M1 = mW M + 163 * d := by
  intro d
  induction d with
  | zero =>
    intro m i M h hi
    have : i = 8 := by omega
    subst this
    exact ⟨M, by rw [fX8_init_b96, if_pos (by decide)], h, Fx.rf, by omega⟩
  | succ d ih =>
    intro m i M h hi
    obtain ⟨hT, ⟨h1, h2, h3⟩, h4⟩ := h
    obtain ⟨B, hB⟩ : ∃ B, B = sN M 4 0 3 := ⟨_, rfl⟩
    have fB : Fx [21] M B := by rw [hB]; exact Fx.wN _ _ _
    have tB : mT B = 65 + 2 * i := by rw [hB, mT_sN, hT]; omega
    have zB : Ze B (64 + 2 * i) (4, 0) := by
      have := Ze.new M 4 0 3
      rw [hT, ← hB] at this
      exact this
    obtain ⟨C, hC⟩ : ∃ C, C = sN (sI (sI B (64 + 2 * i) 0 (-1)) (64 + 2 * i) 1 0) 21 160 160 := ⟨_, rfl⟩
    have fC : Fx [64 + 2 * i] B C := by rw [hC]; exact ((Fx.wI List.mem_cons_self _ _).tr (Fx.wI List.mem_cons_self _ _)).tr (Fx.wN _ _ _)
    have tC : mT C = 66 + 2 * i := by rw [hC, mT_sN, mT_sI, mT_sI, tB]; omega
    have zC : Ze C (65 + 2 * i) (21, 160) := by
      have := Ze.new (sI (sI B (64 + 2 * i) 0 (-1)) (64 + 2 * i) 1 0) 21 160 160
      rw [mT_sI, mT_sI, tB, ← hC] at this
      exact this
    have kC : mK C (64 + 2 * i) = (4, 0) := by rw [(fC.2 _ (by omega)).1]; exact zB.1
    obtain ⟨D, hD⟩ : ∃ D, D = sR C (64 + 2 * i) 2 (some (65 + 2 * i)) := ⟨_, rfl⟩
    have fD : Fx [64 + 2 * i] C D := by rw [hD]; exact Fx.wR List.mem_cons_self _ _
    obtain ⟨E, hE⟩ : ∃ E, E = sR D 21 i (some (64 + 2 * i)) := ⟨_, rfl⟩
    have fE : Fx [21] D E := by rw [hE]; exact Fx.wR List.mem_cons_self _ _
    have fBD : Fx [64 + 2 * i] B D := fC.tr fD
    have fMD : Fx [21] M D := fB.cut fBD (fun o ho => Or.inr (by rw [List.mem_singleton.mp ho]; omega))
    have fME := fMD.tr fE
    have tD : mT D = 66 + 2 * i := by rw [hD, mT_sR]; exact tC
    have tE : mT E = 64 + 2 * (i + 1) := by rw [hE, mT_sR, tD]; omega
    have n21 : ∀ o, o ≠ 21 → ¬ o ∈ [21] := fun o ho z => ho (List.mem_singleton.mp z)
    have k21 : mK D 21 = (22, 8) := by rw [(fMD.2 21 (by omega)).1]; exact h3
    have kD : mK D (64 + 2 * i) = (4, 0) := by rw [(fD.2 _ (by omega)).1]; exact kC
    have hc := nI_clamp (show i < 2 ^ 31 by omega)
    have et : tR D 22 3 21 (nI i) (some (64 + 2 * i)) = some E := by
      unfold tR
      rw [k21, hc, if_pos ⟨rfl, nI_pos (by omega), by show i < 8; omega, fun a ha => by cases ha; rw [kD]⟩, hE]
    have eI : fX3_init (64 + 2 * i) B = some D := by
      unfold fX3_init
      rw [bkc (by rw [zB.1]), bpI (by rw [zB.1]), bpI (by rw [mK_sI, zB.1]), bnA160]
      dsimp only
      rw [← hC, mT_sI, mT_sI, tB, bpR (by rw [kC]), ← hD]
    have r20 : mR M 20 0 = some 21 := h2
    have key : fX8_init_b96 (m + (d + 1) + 1) 20 (nI i) M = fX8_init_b96 (m + d + 1) 20 (nI (i + 1)) E := by
      rw [show m + (d + 1) + 1 = (m + d + 1) + 1 by omega, fX8_init_b96, if_neg (by rw [l8, le_nn (by decide) (by omega)]; omega), bnd1 (show fR M 8 20 0 = some 21 by unfold fR; rw [h1, h2]; rfl), bnO]
      dsimp only
      rw [← hB, hT, bnd1 eI, bnd1 et, l1, add_nn]
    have sE : Shv (i + 1) E := by
      refine ⟨tE, ⟨by rw [(fME.2 20 (by omega)).1]; exact h1, by rw [((fME.2 20 (by omega)).2 (by decide)).2.2]; exact h2, by rw [(fME.2 21 (by omega)).1]; exact h3⟩, fun j hj => ?_⟩
      by_cases e : j = i
      · subst e
        have q := (fE.2 (64 + 2 * j) (by omega))
        obtain ⟨q1, q2, q3⟩ := q.2 (n21 _ (by omega))
        refine ⟨⟨by rw [q.1]; exact kD, ?_, ?_, ?_⟩, ?_, by rw [hE, mR_sR, if_pos ⟨rfl, rfl⟩]⟩
        · rw [q1, hD, mI_sR, hC, mI_sN, if_neg (by rw [mT_sI, mT_sI, tB]; omega), mI_ne (by omega), mI_at]; rfl
        · rw [q1, hD, mI_sR, hC, mI_sN, if_neg (by rw [mT_sI, mT_sI, tB]; omega), mI_at]; rfl
        · rw [q3, hD, mR_sR, if_pos ⟨rfl, rfl⟩]
        · exact (zC.fx fD (by omega) (fun z => by have := List.mem_singleton.mp z; omega)).fx fE (by omega) (n21 _ (by omega))
      · obtain ⟨⟨a1, a2, a3, a4⟩, a5, a6⟩ := h4 j (by omega)
        have q := (fME.2 (64 + 2 * j) (by omega))
        obtain ⟨q1, q2, q3⟩ := q.2 (n21 _ (by omega))
        refine ⟨⟨by rw [q.1]; exact a1, by rw [q1]; exact a2, by rw [q1]; exact a3, by rw [q3]; exact a4⟩, a5.fx fME (by omega) (n21 _ (by omega)), ?_⟩
        rw [hE, mR_sR, if_neg (by omega), ((fBD.2 21 (by omega)).2 (fun z => by have := List.mem_singleton.mp z; omega)).2.2, hB, mR_sN, if_neg (by omega)]
        exact a6
    obtain ⟨M1, e1, e2, e3, e4⟩ := ih m (i + 1) E sE (by omega)
    exact ⟨M1, key.trans e1, e2, fME.tr e3, by rw [e4, hE, mW_sR, hD, mW_sR, hC, mW_sN, mW_sI, mW_sI, hB, mW_sN]; omega⟩
