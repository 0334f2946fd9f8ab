/-! a sign -/
theorem oK1 {s n r p t : Nat} {R : Nat → Int32} {M0 M M4 : Mm} {q od : Nat → Nat} {sd : Int32} (hI : Inv q od) (hpn : p ≤ n) (hx : ∀ x, x < wln 1 → mtc R n (wst 1 + x) (p + x)) (hf : ¬ q 62 = 8) (h4 : CIr s n R r M0 q od sd (p + wln 1) t M4) (hT : mT M4 = mT M ∧ mW M4 = mW M) (x1 : Int32) : OutI s n R r M0 q od sd p t M (fX2_readSign r x1 M4) := by
  have hL := hI.1
  have hq := hI.sg
  have hf2 : ¬ full (q 62) (q 63) 1 := by omega
  have s28 : sl 28 := Or.inr (Or.inl rfl)
  have h7 := hrS s28 h4.1 h4.2.2.2.2.2.1 hq.1
  rw [if_neg hf] at h7
  have e0 : fX2_readSign r x1 M4 = fX2_readSign_b15 r M4 := by
    unfold fX2_readSign
    rw [kbR h4.2.2.1, rbR1 h4.2.2.1, bnd1 h7]
    dsimp only
    rw [if_neg (by decide)]
  rw [e0]
  unfold fX2_readSign_b15
  rw [show (0 : Int32) = nI 0 from rfl, show (6 : Int32) = nI 6 from rfl, show (10 : Int32) = nI 10 from rfl, show (1 : Int32) = nI 1 from rfl, show (255 : Int32) = nI 255 from rfl]
  by_cases g : goo R n (p + wln 1) (q 56) 1 0
  rotate_left
  · obtain ⟨v, M5, e1, b5, t5⟩ := cB (i := 0) h4 hL.2 g (lo := 0) (hi := 6) rfl rfl
    refine OutI.bad hI hpn (k := 1) (by decide) hx hf2 (i := 0) (by decide) (fun x hx => by omega) g (M1 := M5) ?_ b5 ⟨t5.1.trans hT.1, t5.2.trans hT.2⟩
    rw [bnd1 e1]
    dsimp only
    rw [rbR1 b5.2.1, ibS s28 b5.1, bnd1 (b5.rn _ _)]
    dsimp only
    rw [bnd1 (b5.rn _ _)]
    dsimp only
    rw [bnd1 (b5.rn _ _)]
    dsimp only
    rw [ibR b5.2.1, if_neg b5.g3]
  obtain ⟨e1, c5⟩ := cG (i := 0) h4 hL.2 g (lo := 0) (hi := 6) rfl rfl
  have hv : wz R n (p + wln 1) 0 ≤ 6 := (goo_w g).2
  obtain ⟨M5, hM5⟩ : ∃ M5, M5 = sI M4 r 2 (nI (pz R n (p + wln 1) (0 + 1))) := ⟨_, rfl⟩
  rw [← hM5] at e1 c5
  rw [bnd1 e1]
  dsimp only
  rw [rbR1 c5.2.2.1, ibS s28 c5.1, c5.2.2.2.2.2.1.f56, sub_nn (show 1 ≤ q 56 by omega)]
  by_cases g1 : goo R n (p + wln 1) (q 56) 1 1
  rotate_left
  · obtain ⟨v, M6, e2, b6, t6⟩ := cB (i := 1) c5 hL.2 g1 (lo := 0) (hi := q 56 - 1) rfl rfl
    refine OutI.bad hI hpn (k := 1) (by decide) hx hf2 (i := 1) (by decide) (fun x hx => by rw [show x = 0 by omega]; exact g) g1 (M1 := M6) ?_ b6 ⟨by rw [t6.1, hM5, mT_sI]; exact hT.1, by rw [t6.2, hM5, mW_sI]; exact hT.2⟩
    rw [bnd1 e2]
    dsimp only
    rw [bnd1 (b6.rn _ _)]
    dsimp only
    rw [bnd1 (b6.rn _ _)]
    dsimp only
    rw [ibR b6.2.1, if_neg b6.g3]
  obtain ⟨e2, c6⟩ := cG (i := 1) c5 hL.2 g1 (lo := 0) (hi := q 56 - 1) rfl rfl
  have hw : wz R n (p + wln 1) 1 ≤ q 56 - 1 := (goo_w g1).2
  obtain ⟨M6, hM6⟩ : ∃ M6, M6 = sI M5 r 2 (nI (pz R n (p + wln 1) (1 + 1))) := ⟨_, rfl⟩
  rw [← hM6] at e2 c6
  rw [bnd1 e2]
  dsimp only
  by_cases g2 : goo R n (p + wln 1) (q 56) 1 2
  rotate_left
  · obtain ⟨v, M7, e3, b7, t7⟩ := cB (i := 2) c6 hL.2 g2 (lo := 1) (hi := 10) rfl rfl
    refine OutI.bad hI hpn (k := 1) (by decide) hx hf2 (i := 2) (by decide) (fun x hx => by
      by_cases z : x = 0
      · rw [z]; exact g
      · rw [show x = 1 by omega]; exact g1) g2 (M1 := M7) ?_ b7 ⟨by rw [t7.1, hM6, mT_sI, hM5, mT_sI]; exact hT.1, by rw [t7.2, hM6, mW_sI, hM5, mW_sI]; exact hT.2⟩
    rw [bnd1 e3]
    dsimp only
    rw [bnd1 (b7.rn _ _)]
    dsimp only
    rw [ibR b7.2.1, if_neg b7.g3]
  obtain ⟨e3, c7⟩ := cG (i := 2) c6 hL.2 g2 (lo := 1) (hi := 10) rfl rfl
  have hu : 1 ≤ wz R n (p + wln 1) 2 ∧ wz R n (p + wln 1) 2 ≤ 10 := goo_w g2
  obtain ⟨M7, hM7⟩ : ∃ M7, M7 = sI M6 r 2 (nI (pz R n (p + wln 1) (2 + 1))) := ⟨_, rfl⟩
  rw [← hM7] at e3 c7
  rw [bnd1 e3]
  dsimp only
  by_cases g3 : goo R n (p + wln 1) (q 56) 1 3
  rotate_left
  · obtain ⟨v, M8, e4, b8, t8⟩ := cB (i := 3) c7 hL.2 g3 (lo := 0) (hi := 255) rfl rfl
    refine OutI.bad hI hpn (k := 1) (by decide) hx hf2 (i := 3) (by decide) (fun x hx => by
      by_cases z : x = 0
      · rw [z]; exact g
      · by_cases z2 : x = 1
        · rw [z2]; exact g1
        · rw [show x = 2 by omega]; exact g2) g3 (M1 := M8) ?_ b8 ⟨by rw [t8.1, hM7, mT_sI, hM6, mT_sI, hM5, mT_sI]; exact hT.1, by rw [t8.2, hM7, mW_sI, hM6, mW_sI, hM5, mW_sI]; exact hT.2⟩
    rw [bnd1 e4]
    dsimp only
    rw [ibR b8.2.1, if_neg b8.g3]
  obtain ⟨e4, c8⟩ := cG (i := 3) c7 hL.2 g3 (lo := 0) (hi := 255) rfl rfl
  have hu3 : wz R n (p + wln 1) 3 ≤ 255 := (goo_w g3).2
  obtain ⟨M8, hM8⟩ : ∃ M8, M8 = sI M7 r 2 (nI (pz R n (p + wln 1) (3 + 1))) := ⟨_, rfl⟩
  rw [← hM8] at e4 c8
  obtain ⟨a, ha⟩ : ∃ a, a = wz R n (p + wln 1) 0 := ⟨_, rfl⟩
  obtain ⟨b, hb⟩ : ∃ b, b = wz R n (p + wln 1) 1 := ⟨_, rfl⟩
  obtain ⟨d, hd⟩ : ∃ d, d = wz R n (p + wln 1) 2 := ⟨_, rfl⟩
  obtain ⟨e, he⟩ : ∃ e, e = wz R n (p + wln 1) 3 := ⟨_, rfl⟩
  rw [← ha] at hv
  rw [← hb] at hw
  rw [← hd] at hu
  rw [← he] at hu3
  rw [bnd1 e4, ← ha, ← hb, ← hd, ← he]
  dsimp only
  have hn62 : q 62 < 8 := by omega
  have e5 := add8 s28 c8.1 (k := a) (c := b) (a := d) (e := e) hn62 c8.2.2.2.2.2.1.f62
  have f1 := fr_ns M8 28 (q 62) a b d e (by decide)
  have c9 := c8.mv (f1.mv (by unfold D8; decide) (by unfold D8; decide)) (St.ns s28 c8.1 c8.2.2.2.2.2.1 rfl hq.2 hn62) (hI.ns (k := a) (c := b) (a := d) (e := e) rfl hn62 hv (by omega) hu hu3)
  refine OutI.good hI hpn (k := 1) (by decide) hx hf2 (fun x hx => by
    have hx3 : x < 4 := hx
    by_cases z : x = 0
    · rw [z]; exact g
    · by_cases z2 : x = 1
      · rw [z2]; exact g1
      · by_cases z3 : x = 2
        · rw [z3]; exact g2
        · rw [show x = 3 by omega]; exact g3) (M1 := nsM M8 28 (q 62) a b d e) ?_ c9 rfl (fun z => ⟨z, by rw [(qsg_n hn62).2.2.2.2]; omega⟩) ?_ ?_
  · rw [ibR c8.2.2.1, if_pos c8.g3, rbR1 c8.2.2.1, bnd1 e5]
  · unfold nsM
    rw [hM8, hM7, hM6, hM5]
    simp only [mT_sI, mW_sI, mK_sI, mI_sI, mJ_sI, mR_sI, mT_sJ, mW_sJ, mK_sJ, mI_sJ, mJ_sJ, mR_sJ, mT_sR, mW_sR, mK_sR, mI_sR, mJ_sR, mR_sR, mT_gI, mW_gI, mK_gI, mI_gI, mJ_gI, mR_gI, mT_gJ, mW_gJ, mK_gJ, mI_gJ, mJ_gJ, mR_gJ, mT_wR, mW_wR, mK_wR, mI_wR, mJ_wR, mR_wR, mT_sN, mW_sN, mK_sN, mI_sN, mJ_sN, mR_sN]
    omega
  · intro N0 N hN
    have hF := hN.1.2.1
    have h0 := hF.1
    have f2 : Fr [82, 83, 84, 85] [(80, 6)] N (nsY N (q 62) a b d e) := by
      unfold nsY
      exact ((((Fr.oI _ _ (Or.inl (by decide))).tr (Fr.oI _ _ (Or.inl (by decide)))).tr (Fr.oI _ _ (Or.inl (by decide)))).tr (Fr.oI _ _ (Or.inl (by decide)))).tr (Fr.oI _ _ (Or.inr (by decide)))
    have e9 := add9 hF (k := a) (c := b) (a := d) (e := e) hn62 hN.2.2.2.2.2.1.f62
    refine ⟨nsY N (q 62) a b d e, ?_, f2.wk (by unfold YD; decide) (by unfold YE; decide), ?_, ?_, ?_, hN.2.2.2.2.2.1.ns hn62⟩
    · rw [show 2000 - cnt 1 = 1995 + 1 from rfl, yEnd (k := 1) (by decide), if_neg (by decide), if_pos rfl, rb80_31 hF, ab98 hF (by decide), rb80_31 hF, ab98 hF (by decide), rb80_31 hF, ab98 hF (by decide), rb80_31 hF, ab98 hF (by decide), hN.2.2.1 0 (by decide), hN.2.2.1 1 (by decide), hN.2.2.1 2 (by decide), hN.2.2.1 3 (by decide), ← ha, ← hb, ← hd, ← he, bnd1 e9]
    · unfold nsY
      exact ⟨by simp only [mT_sI, mW_sI, mK_sI, mI_sI, mJ_sI, mR_sI, mT_sJ, mW_sJ, mK_sJ, mI_sJ, mJ_sJ, mR_sJ, mT_sR, mW_sR, mK_sR, mI_sR, mJ_sR, mR_sR, mT_gI, mW_gI, mK_gI, mI_gI, mJ_gI, mR_gI, mT_gJ, mW_gJ, mK_gJ, mI_gJ, mJ_gJ, mR_gJ, mT_wR, mW_wR, mK_wR, mI_wR, mJ_wR, mR_wR], by simp only [mT_sI, mW_sI, mK_sI, mI_sI, mJ_sI, mR_sI, mT_sJ, mW_sJ, mK_sJ, mI_sJ, mJ_sJ, mR_sJ, mT_sR, mW_sR, mK_sR, mI_sR, mJ_sR, mR_sR, mT_gI, mW_gI, mK_gI, mI_gI, mJ_gI, mR_gI, mT_gJ, mW_gJ, mK_gJ, mI_gJ, mJ_gJ, mR_gJ, mT_wR, mW_wR, mK_wR, mI_wR, mJ_wR, mR_wR]⟩
    · rw [f2.I (by omega) (by decide) (by decide)]
    · rw [f2.I (by omega) (by decide) (by decide)]; exact hN.2.2.2.2.2.2
theorem OutI.of {s n r p t : Nat} {R : Nat → Int32} {M0 M : Mm} {q od : Nat → Nat} {sd : Int32} {X X2 : Option Mm} (h : OutI s n R r M0 q od sd p t M X) (e : ∀ M1, X = some M1 → X2 = some M1) : OutI s n R r M0 q od sd p t M X2 :=
  h.elim (fun ⟨p1, q1, od1, t1, M1, a, b⟩ => Or.inl ⟨p1, q1, od1, t1, M1, e _ a, b⟩) (fun ⟨f, M1, a, b⟩ => Or.inr ⟨f, M1, e _ a, b⟩)
/-- an item -/
theorem itJ {s n r p t : Nat} {R : Nat → Int32} {M0 M : Mm} {q od : Nat → Nat} {sd : Int32} (h : CIr s n R r M0 q od sd p t M) : OutI s n R r M0 q od sd p t M (fX2_readItem r M) := by
  have hF := h.1
  have hB := h.2.1
  have hK := h.2.2.1
  have hI := h.2.2.2.2.2.2.1
  have hpn := h.2.2.2.2.2.2.2
  have hn := hK.1.2.2
  have hq := hI.sg
  have e2 := h.2.2.2.2.1.1
  have e3 := h.2.2.2.2.1.2.1
  have eL := let8 hF hK (show p < 2147483648 by omega) e2
  have s28 : sl 28 := Or.inr (Or.inl rfl)
  by_cases w : ∀ j, j < 6 → ¬ mtc R n (wst j) p
  · have e4 := rw0 hB hK e2
    have b := h.bad (nI p) (f := p) (by omega)
    rw [sI_self e2] at b
    have hw : fX2_wordWith (ltr R n p) M = some (9, M) := ww0 (fun k hk z => w k hk ((ltr_eq (by have := wc128 (wst k) (by have := wfc k hk; omega); omega)).mp z)) M
    refine Or.inr ⟨p, sI M r 3 (nI p), ?_, b, ⟨by simp only [mT_sI, mW_sI, mK_sI, mI_sI, mJ_sI, mR_sI, mT_sJ, mW_sJ, mK_sJ, mI_sJ, mJ_sJ, mR_sJ, mT_sR, mW_sR, mK_sR, mI_sR, mJ_sR, mR_sR, mT_gI, mW_gI, mK_gI, mI_gI, mJ_gI, mR_gI, mT_gJ, mW_gJ, mK_gJ, mI_gJ, mJ_gJ, mR_gJ, mT_wR, mW_wR, mK_wR, mI_wR, mJ_wR, mR_wR], by simp only [mT_sI, mW_sI, mK_sI, mI_sI, mJ_sI, mR_sI, mT_sJ, mW_sJ, mK_sJ, mI_sJ, mJ_sJ, mR_sJ, mT_sR, mW_sR, mK_sR, mI_sR, mJ_sR, mR_sR, mT_gI, mW_gI, mK_gI, mI_gI, mJ_gI, mR_gI, mT_gJ, mW_gJ, mK_gJ, mI_gJ, mJ_gJ, mR_gJ, mT_wR, mW_wR, mK_wR, mI_wR, mJ_wR, mR_wR]⟩, fun N hN => ⟨sI N 80 36 (nI p), itmN (a := 0) (b := 0) hN.1 hN.2.1 (by omega) w, mI_at _ _ _ _, Fr.oI _ _ (Or.inr (by decide)), by simp only [mT_sI, mW_sI, mK_sI, mI_sI, mJ_sI, mR_sI, mT_sJ, mW_sJ, mK_sJ, mI_sJ, mJ_sJ, mR_sJ, mT_sR, mW_sR, mK_sR, mI_sR, mJ_sR, mR_sR, mT_gI, mW_gI, mK_gI, mI_gI, mJ_gI, mR_gI, mT_gJ, mW_gJ, mK_gJ, mI_gJ, mJ_gJ, mR_gJ, mT_wR, mW_wR, mK_wR, mI_wR, mJ_wR, mR_wR], by simp only [mT_sI, mW_sI, mK_sI, mI_sI, mJ_sI, mR_sI, mT_sJ, mW_sJ, mK_sJ, mI_sJ, mJ_sJ, mR_sJ, mT_sR, mW_sR, mK_sR, mI_sR, mJ_sR, mR_sR, mT_gI, mW_gI, mK_gI, mI_gI, mJ_gI, mR_gI, mT_gJ, mW_gJ, mK_gJ, mI_gJ, mJ_gJ, mR_gJ, mT_wR, mW_wR, mK_wR, mI_wR, mJ_wR, mR_wR]⟩⟩
    unfold fX2_readItem
    rw [kbR hK, ibR hK, bnd1 eL]
    dsimp only
    rw [bnd1 hw]
    dsimp only
    rw [bnd1 e4, ibR b.2.1, if_neg b.f3]
  obtain ⟨k, hk, hm⟩ : ∃ k, k < 6 ∧ mtc R n (wst k) p := by
    by_cases z : ∃ k, k < 6 ∧ mtc R n (wst k) p
    · exact z
    · exact absurd (fun j hj y => z ⟨j, hj, y⟩) w
  have wl := wfc k hk
  have w7 := wc128 (wst k) (by omega)
  have el : ltr R n p = nI (wc (wst k)) := (ltr_eq (by omega)).mpr hm
  have hw : fX2_wordWith (ltr R n p) M = some (3 + k, M) := by rw [el]; exact ww1 hk M
  rcases ffail (fun x => mtc R n (wst k + x) (p + x)) (wln k) with hx | ⟨j, hj, hx, hnx⟩
  rotate_left
  · have e4 := rwX hk hF hB hK e2 e3 (by omega) hj hx hnx
    have j0 : 0 < j := by
      by_cases z : j = 0
      · subst z; exact absurd hm hnx
      · omega
    have b := h.bad (nI (p + j)) (f := p + j) (by omega)
    refine Or.inr ⟨p + j, _, ?_, b, ⟨by simp only [mT_sI, mW_sI, mK_sI, mI_sI, mJ_sI, mR_sI, mT_sJ, mW_sJ, mK_sJ, mI_sJ, mJ_sJ, mR_sJ, mT_sR, mW_sR, mK_sR, mI_sR, mJ_sR, mR_sR, mT_gI, mW_gI, mK_gI, mI_gI, mJ_gI, mR_gI, mT_gJ, mW_gJ, mK_gJ, mI_gJ, mJ_gJ, mR_gJ, mT_wR, mW_wR, mK_wR, mI_wR, mJ_wR, mR_wR], by simp only [mT_sI, mW_sI, mK_sI, mI_sI, mJ_sI, mR_sI, mT_sJ, mW_sJ, mK_sJ, mI_sJ, mJ_sJ, mR_sJ, mT_sR, mW_sR, mK_sR, mI_sR, mJ_sR, mR_sR, mT_gI, mW_gI, mK_gI, mI_gI, mJ_gI, mR_gI, mT_gJ, mW_gJ, mK_gJ, mI_gJ, mJ_gJ, mR_gJ, mT_wR, mW_wR, mK_wR, mI_wR, mJ_wR, mR_wR]⟩, fun N hN => ⟨sI N 80 36 (nI (p + j)), itmF hN.1 hN.2.1 (by omega) hq.1 hq.2 hN.2.2.2.f62 hN.2.2.2.f63 hk j0 (by omega) hx hnx (Or.inl hj), mI_at _ _ _ _, Fr.oI _ _ (Or.inr (by decide)), by simp only [mT_sI, mW_sI, mK_sI, mI_sI, mJ_sI, mR_sI, mT_sJ, mW_sJ, mK_sJ, mI_sJ, mJ_sJ, mR_sJ, mT_sR, mW_sR, mK_sR, mI_sR, mJ_sR, mR_sR, mT_gI, mW_gI, mK_gI, mI_gI, mJ_gI, mR_gI, mT_gJ, mW_gJ, mK_gJ, mI_gJ, mJ_gJ, mR_gJ, mT_wR, mW_wR, mK_wR, mI_wR, mJ_wR, mR_wR], by simp only [mT_sI, mW_sI, mK_sI, mI_sI, mJ_sI, mR_sI, mT_sJ, mW_sJ, mK_sJ, mI_sJ, mJ_sJ, mR_sJ, mT_sR, mW_sR, mK_sR, mI_sR, mJ_sR, mR_sR, mT_gI, mW_gI, mK_gI, mI_gI, mJ_gI, mR_gI, mT_gJ, mW_gJ, mK_gJ, mI_gJ, mJ_gJ, mR_gJ, mT_wR, mW_wR, mK_wR, mI_wR, mJ_wR, mR_wR]⟩⟩
    unfold fX2_readItem
    rw [kbR hK, ibR hK, bnd1 eL]
    dsimp only
    rw [bnd1 hw]
    dsimp only
    rw [bnd1 e4, ibR b.2.1, if_neg b.f3]
  have e4 := rwO hk hF hB hK e2 e3 (by omega) hx
  have hpl : p + wln k ≤ n := by
    have := (hx (wln k - 1) (by omega)).1
    omega
  have h4 := h.at hpl
  obtain ⟨M4, hM4⟩ : ∃ M4, M4 = sI M r 2 (nI (p + wln k)) := ⟨_, rfl⟩
  rw [← hM4] at e4 h4
  have hT : mT M4 = mT M ∧ mW M4 = mW M := by rw [hM4]; exact ⟨by simp only [mT_sI, mW_sI, mK_sI, mI_sI, mJ_sI, mR_sI, mT_sJ, mW_sJ, mK_sJ, mI_sJ, mJ_sJ, mR_sJ, mT_sR, mW_sR, mK_sR, mI_sR, mJ_sR, mR_sR, mT_gI, mW_gI, mK_gI, mI_gI, mJ_gI, mR_gI, mT_gJ, mW_gJ, mK_gJ, mI_gJ, mJ_gJ, mR_gJ, mT_wR, mW_wR, mK_wR, mI_wR, mJ_wR, mR_wR], by simp only [mT_sI, mW_sI, mK_sI, mI_sI, mJ_sI, mR_sI, mT_sJ, mW_sJ, mK_sJ, mI_sJ, mJ_sJ, mR_sJ, mT_sR, mW_sR, mK_sR, mI_sR, mJ_sR, mR_sR, mT_gI, mW_gI, mK_gI, mI_gI, mJ_gI, mR_gI, mT_gJ, mW_gJ, mK_gJ, mI_gJ, mJ_gJ, mR_gJ, mT_wR, mW_wR, mK_wR, mI_wR, mJ_wR, mR_wR]⟩
  have E : fX2_readItem r M = if nI (wc (wst k)) = (97 : Int32) then Option.bind (fR M4 2 r 1) fun o6_ => Option.bind (fX2_readNumber r ((1 : Int32)) ((9 : Int32)) M4) fun q7_ => Option.bind (pI q7_.2 5 o6_ 5 q7_.1) fun M8_ => some M8_
      else if nI (wc (wst k)) = (108 : Int32) then Option.bind (fX2_readLength r M4) fun M9_ => some M9_
      else if nI (wc (wst k)) = (115 : Int32) then Option.bind (fX2_readSign r (nI p) M4) fun M10_ => some M10_
      else if nI (wc (wst k)) = (116 : Int32) then Option.bind (fX2_readThing r (nI p) M4) fun M11_ => some M11_
      else if nI (wc (wst k)) = (119 : Int32) then Option.bind (fX2_readWander r M4) fun M12_ => some M12_
      else Option.bind (fR M4 2 r 1) fun o13_ => Option.bind (fX2_readNumber r ((0 : Int32)) ((7 : Int32)) M4) fun q14_ => Option.bind (pI q14_.2 5 o13_ 3 q14_.1) fun M15_ => some M15_ := by
    unfold fX2_readItem
    rw [kbR hK, ibR hK, e2, bnd1 eL]
    dsimp only
    rw [bnd1 hw]
    dsimp only
    rw [bnd1 e4, ibR h4.2.2.1, if_pos h4.f3, el]
  have hk6 : k = 0 ∨ k = 1 ∨ k = 2 ∨ k = 3 ∨ k = 4 ∨ k = 5 := by omega
  rcases hk6 with rfl | rfl | rfl | rfl | rfl | rfl
  · rw [if_neg (by decide), if_pos (by decide)] at E
    exact (oK0 hI hpn hx h4 hT).of (fun M1 z => E.trans (bnd1 z _))
  · rw [if_neg (by decide), if_neg (by decide), if_pos (by decide)] at E
    by_cases hf : q 62 = 8
    rotate_left
    · exact (oK1 hI hpn hx hf h4 hT (nI p)).of (fun M1 z => E.trans (bnd1 z _))
    have b := h4.bad (nI (p + wln 1)) (f := p) (by omega)
    rw [sI_self h4.2.2.2.2.1.1] at b
    have h7 := hrS s28 h4.1 h4.2.2.2.2.2.1 hq.1
    rw [if_pos hf] at h7
    refine Or.inr ⟨p, _, E.trans (bnd1 ?_ _), b, ⟨by rw [mT_sI]; exact hT.1, by rw [mW_sI]; exact hT.2⟩, fun N hN => ⟨sI N 80 36 (nI p), itmU hN.1 hN.2.1 (by omega) hq.1 hq.2 hN.2.2.2.f62 hN.2.2.2.f63 hk hx (Or.inl ⟨rfl, hf⟩), mI_at _ _ _ _, Fr.oI _ _ (Or.inr (by decide)), by simp only [mT_sI, mW_sI, mK_sI, mI_sI, mJ_sI, mR_sI, mT_sJ, mW_sJ, mK_sJ, mI_sJ, mJ_sJ, mR_sJ, mT_sR, mW_sR, mK_sR, mI_sR, mJ_sR, mR_sR, mT_gI, mW_gI, mK_gI, mI_gI, mJ_gI, mR_gI, mT_gJ, mW_gJ, mK_gJ, mI_gJ, mJ_gJ, mR_gJ, mT_wR, mW_wR, mK_wR, mI_wR, mJ_wR, mR_wR], by simp only [mT_sI, mW_sI, mK_sI, mI_sI, mJ_sI, mR_sI, mT_sJ, mW_sJ, mK_sJ, mI_sJ, mJ_sJ, mR_sJ, mT_sR, mW_sR, mK_sR, mI_sR, mJ_sR, mR_sR, mT_gI, mW_gI, mK_gI, mI_gI, mJ_gI, mR_gI, mT_gJ, mW_gJ, mK_gJ, mI_gJ, mJ_gJ, mR_gJ, mT_wR, mW_wR, mK_wR, mI_wR, mJ_wR, mR_wR]⟩⟩
    unfold fX2_readSign
    rw [kbR h4.2.2.1, rbR1 h4.2.2.1, bnd1 h7]
    dsimp only
    rw [if_pos rfl, pbR h4.2.2.1]
    unfold fX2_readSign_b15
    rw [bnd1 (b.rn _ _)]
    dsimp only
    rw [rbR1 b.2.1, ibS s28 b.1, bnd1 (b.rn _ _)]
    dsimp only
    rw [bnd1 (b.rn _ _)]
    dsimp only
    rw [bnd1 (b.rn _ _)]
    dsimp only
    rw [ibR b.2.1, if_neg b.f3]
  · rw [if_neg (by decide), if_neg (by decide), if_neg (by decide), if_pos (by decide)] at E
    by_cases hf : q 63 = 8
    rotate_left
    · exact (oK2 hI hpn hx hf h4 hT (nI p)).of (fun M1 z => E.trans (bnd1 z _))
    have b := h4.bad (nI (p + wln 2)) (f := p) (by omega)
    rw [sI_self h4.2.2.2.2.1.1] at b
    have h7 := hrT s28 h4.1 h4.2.2.2.2.2.1 hq.2
    rw [if_pos hf] at h7
    refine Or.inr ⟨p, _, E.trans (bnd1 ?_ _), b, ⟨by rw [mT_sI]; exact hT.1, by rw [mW_sI]; exact hT.2⟩, fun N hN => ⟨sI N 80 36 (nI p), itmU hN.1 hN.2.1 (by omega) hq.1 hq.2 hN.2.2.2.f62 hN.2.2.2.f63 hk hx (Or.inr ⟨rfl, hf⟩), mI_at _ _ _ _, Fr.oI _ _ (Or.inr (by decide)), by simp only [mT_sI, mW_sI, mK_sI, mI_sI, mJ_sI, mR_sI, mT_sJ, mW_sJ, mK_sJ, mI_sJ, mJ_sJ, mR_sJ, mT_sR, mW_sR, mK_sR, mI_sR, mJ_sR, mR_sR, mT_gI, mW_gI, mK_gI, mI_gI, mJ_gI, mR_gI, mT_gJ, mW_gJ, mK_gJ, mI_gJ, mJ_gJ, mR_gJ, mT_wR, mW_wR, mK_wR, mI_wR, mJ_wR, mR_wR], by simp only [mT_sI, mW_sI, mK_sI, mI_sI, mJ_sI, mR_sI, mT_sJ, mW_sJ, mK_sJ, mI_sJ, mJ_sJ, mR_sJ, mT_sR, mW_sR, mK_sR, mI_sR, mJ_sR, mR_sR, mT_gI, mW_gI, mK_gI, mI_gI, mJ_gI, mR_gI, mT_gJ, mW_gJ, mK_gJ, mI_gJ, mJ_gJ, mR_gJ, mT_wR, mW_wR, mK_wR, mI_wR, mJ_wR, mR_wR]⟩⟩
    unfold fX2_readThing
    rw [kbR h4.2.2.1, rbR1 h4.2.2.1, bnd1 h7]
    dsimp only
    rw [if_pos rfl, pbR h4.2.2.1]
    unfold fX2_readThing_b15
    rw [rbR1 b.2.1, ibS s28 b.1, bnd1 (b.rn _ _)]
    dsimp only
    rw [bnd1 (b.rn _ _)]
    dsimp only
    rw [bnd1 (b.rn _ _)]
    dsimp only
    rw [ibR b.2.1, if_neg b.f3]
  · rw [if_neg (by decide), if_neg (by decide), if_neg (by decide), if_neg (by decide), if_pos (by decide)] at E
    exact (oK3 hI hpn hx h4 hT).of (fun M1 z => E.trans (bnd1 z _))
  · rw [if_pos (by decide), rbR1 h4.2.2.1] at E
    exact (oK4 hI hpn (Or.inl rfl) hx h4 hT).of (fun M1 z => E.trans z)
  · rw [if_neg (by decide), if_neg (by decide), if_neg (by decide), if_neg (by decide), if_neg (by decide), rbR1 h4.2.2.1] at E
    exact (oK4 hI hpn (Or.inr rfl) hx h4 hT).of (fun M1 z => E.trans z)
