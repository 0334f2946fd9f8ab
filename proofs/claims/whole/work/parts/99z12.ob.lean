/-! all items -/
theorem b71e {N : Mm} (hF : FIX N) (m : Nat) (x : Int32) : fX9_town_b71 (m + 1) 80 x (nI 0) N = fX9_town_b142 80 x (nI 0) N := by
  rw [fX9_town_b71, if_pos (show nI 0 = 0 from rfl)]
theorem b71n {s n p : Nat} {R : Nat → Int32} {N : Mm} (h : YK s n R N) (e : mI N 80 33 = nI p) (hp : p ≤ 200) (m : Nat) (x : Int32) :
    (¬ p < n → fX9_town_b71 (m + 1) 80 x (nI 1) N = fX9_town_b142 80 x (nI 1) N) ∧ (p < n → R p = nI 59 → fX9_town_b71 (m + 1) 80 x (nI 1) N = Option.bind (fX9_item 80 (sI N 80 33 (nI (p + 1)))) fun q9_ => fX9_town_b71 m 80 (x + (1 : Int32)) q9_.1 q9_.2) ∧
    (p < n → ¬ R p = nI 59 → fX9_town_b71 (m + 1) 80 x (nI 1) N = fX9_town_b71 m 80 x (nI 0) (sI N 80 36 (nI p))) := by
  have hF := h.2.1
  have hn := h.1.2
  refine ⟨fun c => ?_, fun c d => ?_, fun c d => ?_⟩
  · rw [fX9_town_b71, if_neg (show ¬ nI 1 = 0 by decide), ib80 hF, ib80 hF, e, h.2.2.2.1, if_pos (by rw [le_nn (by omega) (by omega)]; omega)]
  · rw [fX9_town_b71, if_neg (show ¬ nI 1 = 0 by decide), ib80 hF, ib80 hF, e, h.2.2.2.1, if_neg (by rw [le_nn (by omega) (by omega)]; omega), rb80_27 hF, ib80 hF, ib80 hF, h.2.2.1, e, leY h c, h.2.2.2.2.1 p (by omega), if_pos (show R p = 59 from d), ib80 hF, e, pb80 hF, l1, add_nn]
  · rw [fX9_town_b71, if_neg (show ¬ nI 1 = 0 by decide), ib80 hF, ib80 hF, e, h.2.2.2.1, if_neg (by rw [le_nn (by omega) (by omega)]; omega), rb80_27 hF, ib80 hF, ib80 hF, h.2.2.1, e, leY h c, h.2.2.2.2.1 p (by omega), if_neg (show ¬ R p = 59 from d), ib80 hF, e, bnd1 (wrY hF _)]
theorem b4e {s n r f : Nat} {R : Nat → Int32} {M0 M : Mm} (h : FBr s n R r M0 f M) (m : Nat) (x y : Int32) : fX2_readItems_b4 (m + 1) r x y M = some (x, M) := by
  rw [fX2_readItems_b4]
  by_cases c : 160 < y
  · rw [if_pos c]
  · rw [if_neg c, ibR h.2.1, if_neg h.f3]
theorem lpJ {s n r : Nat} {R : Nat → Int32} {M0 : Mm} {sd : Int32} (mc : Nat) : ∀ d c p t (q od : Nat → Nat) (M : Mm), CIr s n R r M0 q od sd p t M → n < p + d → c ≤ p →
    (∃ c1 p1 t1 q1 od1 M1, fX2_readItems_b4 (mc + d + 1) r (nI c) (nI c) M = some (nI c1, M1) ∧ CIr s n R r M0 q1 od1 sd p1 t1 M1 ∧ (t1 = 0 → t = 0 ∧ q 62 ≤ q1 62) ∧ (mT M1 ≤ mT M + d ∧ mW M1 ≤ mW M + 5 * d) ∧ ∀ m N, YIr s n R q od sd p t N → ∃ N1, (Option.bind (fX9_item 80 N) fun q9_ => fX9_town_b71 (m + d + 1) 80 (nI c + (1 : Int32)) q9_.1 q9_.2) = fX9_town_b142 80 (nI c1) (nI 1) N1 ∧ YIr s n R q1 od1 sd p1 t1 N1 ∧ Fr YD YE N N1 ∧ (mT N1 = mT N ∧ mW N1 = mW N)) ∨
    (∃ x f M1, fX2_readItems_b4 (mc + d + 1) r (nI c) (nI c) M = some (x, M1) ∧ FBr s n R r M0 f M1 ∧ (mT M1 ≤ mT M + d ∧ mW M1 ≤ mW M + 5 * d) ∧ ∀ m N, YIr s n R q od sd p t N → ∃ y N1, (Option.bind (fX9_item 80 N) fun q9_ => fX9_town_b71 (m + d + 1) 80 (nI c + (1 : Int32)) q9_.1 q9_.2) = fX9_town_b142 80 y (nI 0) N1 ∧ mI N1 80 36 = nI f ∧ Fr YD YE N N1 ∧ (mT N1 = mT N ∧ mW N1 = mW N)) := by
  intro d
  induction d with
  | zero => intro c p t q od M h h1 _; have := h.2.2.2.2.2.2.2; omega
  | succ d ih =>
    intro c p t q od M h h1 h2
    have hn := h.2.2.1.1.2.2
    have hpn := h.2.2.2.2.2.2.2
    have c16 : ¬ (160 : Int32) < nI c := by rw [l160, lt_nn (by omega) (by omega)]; omega
    rw [show mc + (d + 1) + 1 = (mc + d + 1) + 1 by omega, fX2_readItems_b4, if_neg c16, ibR h.2.2.1, if_pos h.f3]
    rcases itJ h with ⟨p1, q1, od1, t1, M1, a1, a2, a3, a4, a5, a6⟩ | ⟨f, M1, a1, a2, a3, a4⟩
    rotate_left
    · refine Or.inr ⟨nI c, f, M1, ?_, a2, ⟨by omega, by omega⟩, fun m N hN => ?_⟩
      · rw [bnd1 a1, ibR a2.2.1, if_neg a2.f3, show mc + d + 1 = (mc + d) + 1 from rfl, b4e a2]
      · obtain ⟨N1, b1, b2, b3, b4⟩ := a4 N hN
        have hF1 := b3.fix hN.1.2.1
        exact ⟨_, N1, by rw [bnd1 b1]; dsimp only; exact b71e hF1 (m + (d + 1)) _, b2, b3, b4⟩
    have hp1n := a2.2.2.2.2.2.2.2
    have f1i : mI M1 r 2 = nI p1 := a2.2.2.2.2.1.1
    have hln : mI M1 (64 + 2 * s) 1 = nI n := a2.2.2.1.2.2.1
    rw [bnd1 a1, ibR a2.2.2.1, if_pos a2.f3, ibR a2.2.2.1, rbR0 a2.2.2.1, ibH a2.1 a2.2.2.1.1.2.1, hln, f1i]
    by_cases e1 : p1 < n
    rotate_left
    · refine Or.inl ⟨c + 1, p1, t1, q1, od1, M1, ?_, a2, a4, ⟨by omega, by omega⟩, fun m N hN => ?_⟩
      · rw [if_neg (by rw [lt_nn (by omega) (by omega)]; exact e1), l1, add_nn]
      · obtain ⟨N1, b1, b2, b3, b4⟩ := a6 N hN
        refine ⟨N1, ?_, b2, b3, b4⟩
        rw [bnd1 b1, l1, add_nn]
        dsimp only
        exact (b71n b2.1 b2.2.1 (by omega) (m + (d + 1)) _).1 e1
    rw [if_pos (by rw [lt_nn (by omega) (by omega)]; exact e1)]
    have ps := pas8 a2.1 a2.2.2.1 (show p1 < 2147483648 by omega) f1i (k := 59) (by decide)
    by_cases e2 : R p1 = nI 59
    rotate_left
    · rw [if_neg (fun z => e2 z.2)] at ps
      have b := a2.bad (nI p1) (f := p1) (by omega)
      rw [sI_self f1i] at b
      refine Or.inr ⟨nI c + 1, p1, sI M1 r 3 (nI p1), ?_, b, ⟨by rw [mT_sI]; omega, by rw [mW_sI]; omega⟩, fun m N hN => ?_⟩
      · rw [l59, bnd1 ps, show mc + d + 1 = (mc + d) + 1 from rfl, b4e b]
      · obtain ⟨N1, b1, b2, b3, b4⟩ := a6 N hN
        have f2 : Fr YD YE N1 (sI N1 80 36 (nI p1)) := Fr.oI _ _ (Or.inr (by unfold YE; decide))
        refine ⟨nI c + 1, sI N1 80 36 (nI p1), ?_, mI_at _ _ _ _, b3.tr f2, b4⟩
        rw [bnd1 b1]
        dsimp only
        have z := (b71n b2.1 b2.2.1 (by omega) (m + d + 1) (nI c + 1)).2.2 e1 e2
        rw [show m + (d + 1) + 1 = m + d + 1 + 1 by omega, z]
        exact b71e (f2.fix b2.1.2.1) (m + d) _
    · rw [if_pos ⟨e1, e2⟩] at ps
      have a7 := a2.at (p1 := p1 + 1) (by omega)
      have key : ∀ m N1, YIr s n R q1 od1 sd p1 t1 N1 → YIr s n R q1 od1 sd (p1 + 1) t1 (sI N1 80 33 (nI (p1 + 1))) ∧ fX9_town_b71 (m + (d + 1) + 1) 80 (nI c + (1 : Int32)) (nI 1) N1 = (Option.bind (fX9_item 80 (sI N1 80 33 (nI (p1 + 1)))) fun q9_ => fX9_town_b71 (m + d + 1) 80 (nI (c + 1) + (1 : Int32)) q9_.1 q9_.2) ∧ Fr YD YE N1 (sI N1 80 33 (nI (p1 + 1))) := fun m N1 hN1 => by
        have f2 : Fr YD YE N1 (sI N1 80 33 (nI (p1 + 1))) := Fr.oI _ _ (Or.inr (by unfold YE; decide))
        have f3 : Fr [] [(80, 33)] N1 (sI N1 80 33 (nI (p1 + 1))) := Fr.oI _ _ (Or.inr (by decide))
        refine ⟨⟨hN1.1.mv f2, mI_at _ _ _ _, by rw [mI_ne (by decide)]; exact hN1.2.2.1, hN1.2.2.2.fr hN1.1.2.1 f3 mem0 (by decide)⟩, ?_, f2⟩
        have := (b71n hN1.1 hN1.2.1 (by omega) (m + d + 1) (nI c + (1 : Int32))).2.1 e1 e2
        rw [show m + (d + 1) + 1 = m + d + 1 + 1 by omega, this]
        rw [show nI c + (1 : Int32) = nI (c + 1) from add_nn c 1]
      rw [l59, bnd1 ps, l1, add_nn]
      rcases ih (c + 1) (p1 + 1) t1 q1 od1 _ a7 (by omega) (by omega) with ⟨c1, p2, t2, q2, od2, M2, b1, b2, b3, b4, b5⟩ | ⟨x, f, M2, b1, b2, b3, b4⟩
      · refine Or.inl ⟨c1, p2, t2, q2, od2, M2, b1, b2, fun z => ?_, ⟨?_, ?_⟩, fun m N hN => ?_⟩
        · obtain ⟨z1, z2⟩ := b3 z
          obtain ⟨z3, z4⟩ := a4 z1
          exact ⟨z3, Nat.le_trans z4 z2⟩
        · have := b4.1
          rw [mT_sI] at this
          omega
        · have := b4.2
          rw [mW_sI] at this
          omega
        · obtain ⟨N1, g1, g2, g3, g4⟩ := a6 N hN
          obtain ⟨k1, k2, k3⟩ := key m N1 g2
          obtain ⟨N2, j1, j2, j3, j4⟩ := b5 m _ k1
          refine ⟨N2, ?_, j2, (g3.tr k3).tr j3, ⟨by rw [j4.1, mT_sI]; exact g4.1, by rw [j4.2, mW_sI]; exact g4.2⟩⟩
          rw [bnd1 g1]
          dsimp only
          rw [show nI c + (1 : Int32) = nI (c + 1) from add_nn c 1] at k2
          rw [k2]
          exact j1
      · refine Or.inr ⟨x, f, M2, b1, b2, ⟨?_, ?_⟩, fun m N hN => ?_⟩
        · have := b3.1
          rw [mT_sI] at this
          omega
        · have := b3.2
          rw [mW_sI] at this
          omega
        · obtain ⟨N1, g1, g2, g3, g4⟩ := a6 N hN
          obtain ⟨k1, k2, k3⟩ := key m N1 g2
          obtain ⟨y, N2, j1, j2, j3, j4⟩ := b4 m _ k1
          refine ⟨y, N2, ?_, j2, (g3.tr k3).tr j3, ⟨by rw [j4.1, mT_sI]; exact g4.1, by rw [j4.2, mW_sI]; exact g4.2⟩⟩
          rw [bnd1 g1]
          dsimp only
          rw [show nI c + (1 : Int32) = nI (c + 1) from add_nn c 1] at k2
          rw [k2]
          exact j1
