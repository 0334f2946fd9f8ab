/-! a wander item -/
theorem oK3 {s n r p t : Nat} {R : Nat → Int32} {M0 M M4 : Mm} {q od : Nat → Nat} {sd : Int32} (hI : Inv q od) (hpn : p ≤ n) (hx : ∀ x, x < wln 3 → mtc R n (wst 3 + x) (p + x)) (h4 : CIr s n R r M0 q od sd (p + wln 3) t M4) (hT : mT M4 = mT M ∧ mW M4 = mW M) : OutI s n R r M0 q od sd p t M (fX2_readWander r M4) := by
  have hL := hI.1
  have hf : ¬ full (q 62) (q 63) 3 := by omega
  have s28 : sl 28 := Or.inr (Or.inl rfl)
  by_cases g : goo R n (p + wln 3) (q 56) 3 0
  rotate_left
  · obtain ⟨v, M5, e1, b5, t5⟩ := cB (i := 0) h4 hL.2 g (lo := 0) (hi := 10) rfl rfl
    refine OutI.bad hI hpn (k := 3) (by decide) hx hf (i := 0) (by decide) (fun x hx => by omega) g (M1 := sI (sI M5 28 1 v) 28 2 0) ?_ ((b5.at28 _ _).at28 _ _) ⟨by simp only [mT_sI, mW_sI, mK_sI, mI_sI, mJ_sI, mR_sI, mT_sJ, mW_sJ, mK_sJ, mI_sJ, mJ_sJ, mR_sJ, mT_sR, mW_sR, mK_sR, mI_sR, mJ_sR, mR_sR, mT_gI, mW_gI, mK_gI, mI_gI, mJ_gI, mR_gI, mT_gJ, mW_gJ, mK_gJ, mI_gJ, mJ_gJ, mR_gJ, mT_wR, mW_wR, mK_wR, mI_wR, mJ_wR, mR_wR]; exact t5.1.trans hT.1, by simp only [mT_sI, mW_sI, mK_sI, mI_sI, mJ_sI, mR_sI, mT_sJ, mW_sJ, mK_sJ, mI_sJ, mJ_sJ, mR_sJ, mT_sR, mW_sR, mK_sR, mI_sR, mJ_sR, mR_sR, mT_gI, mW_gI, mK_gI, mI_gI, mJ_gI, mR_gI, mT_gJ, mW_gJ, mK_gJ, mI_gJ, mJ_gJ, mR_gJ, mT_wR, mW_wR, mK_wR, mI_wR, mJ_wR, mR_wR]; exact t5.2.trans hT.2⟩
    unfold fX2_readWander
    rw [kbR h4.2.2.1, show (0 : Int32) = nI 0 from rfl, show (10 : Int32) = nI 10 from rfl, bnd1 e1]
    dsimp only
    rw [bnd1 (b5.rn _ _)]
    dsimp only
    rw [rbR1 b5.2.1, pbS s28 b5.1, rbR1 (b5.at28 1 v).2.1, pbS s28 (b5.at28 1 v).1]
  obtain ⟨e1, c5⟩ := cG (i := 0) h4 hL.2 g (lo := 0) (hi := 10) rfl rfl
  have hv : wz R n (p + wln 3) 0 ≤ 10 := (goo_w g).2
  obtain ⟨M5, hM5⟩ : ∃ M5, M5 = sI M4 r 2 (nI (pz R n (p + wln 3) (0 + 1))) := ⟨_, rfl⟩
  rw [← hM5] at e1 c5
  by_cases g1 : goo R n (p + wln 3) (q 56) 3 1
  rotate_left
  · obtain ⟨v, M6, e2, b6, t6⟩ := cB (i := 1) c5 hL.2 g1 (lo := 0) (hi := 10 - wz R n (p + wln 3) 0) rfl rfl
    refine OutI.bad hI hpn (k := 3) (by decide) hx hf (i := 1) (by decide) (fun x hx => by rw [show x = 0 by omega]; exact g) g1 (M1 := sI (sI M6 28 1 (nI (wz R n (p + wln 3) 0))) 28 2 v) ?_ ((b6.at28 _ _).at28 _ _) ⟨by simp only [mT_sI, mW_sI, mK_sI, mI_sI, mJ_sI, mR_sI, mT_sJ, mW_sJ, mK_sJ, mI_sJ, mJ_sJ, mR_sJ, mT_sR, mW_sR, mK_sR, mI_sR, mJ_sR, mR_sR, mT_gI, mW_gI, mK_gI, mI_gI, mJ_gI, mR_gI, mT_gJ, mW_gJ, mK_gJ, mI_gJ, mJ_gJ, mR_gJ, mT_wR, mW_wR, mK_wR, mI_wR, mJ_wR, mR_wR]; rw [t6.1, hM5, mT_sI]; exact hT.1, by simp only [mT_sI, mW_sI, mK_sI, mI_sI, mJ_sI, mR_sI, mT_sJ, mW_sJ, mK_sJ, mI_sJ, mJ_sJ, mR_sJ, mT_sR, mW_sR, mK_sR, mI_sR, mJ_sR, mR_sR, mT_gI, mW_gI, mK_gI, mI_gI, mJ_gI, mR_gI, mT_gJ, mW_gJ, mK_gJ, mI_gJ, mJ_gJ, mR_gJ, mT_wR, mW_wR, mK_wR, mI_wR, mJ_wR, mR_wR]; rw [t6.2, hM5, mW_sI]; exact hT.2⟩
    unfold fX2_readWander
    rw [kbR h4.2.2.1, show (0 : Int32) = nI 0 from rfl, show (10 : Int32) = nI 10 from rfl, bnd1 e1]
    dsimp only
    rw [sub_nn hv, bnd1 e2]
    dsimp only
    rw [rbR1 b6.2.1, pbS s28 b6.1, rbR1 (b6.at28 1 _).2.1, pbS s28 (b6.at28 1 _).1]
  obtain ⟨e2, c6⟩ := cG (i := 1) c5 hL.2 g1 (lo := 0) (hi := 10 - wz R n (p + wln 3) 0) rfl rfl
  have hw : wz R n (p + wln 3) 1 ≤ 10 - wz R n (p + wln 3) 0 := (goo_w g1).2
  obtain ⟨M6, hM6⟩ : ∃ M6, M6 = sI M5 r 2 (nI (pz R n (p + wln 3) (1 + 1))) := ⟨_, rfl⟩
  rw [← hM6] at e2 c6
  obtain ⟨a, ha⟩ : ∃ a, a = wz R n (p + wln 3) 0 := ⟨_, rfl⟩
  obtain ⟨b, hb⟩ : ∃ b, b = wz R n (p + wln 3) 1 := ⟨_, rfl⟩
  rw [← ha] at hv hw e1 e2
  rw [← hb] at hw e2
  have hS := (c6.2.2.2.2.2.1.put (by decide) hI.sg (1, 57) (by decide) (by decide) a).put (by decide) hI.sg (2, 58) (by decide) (by decide) b
  have f1 : Fr D8 [] M6 (sI (sI M6 28 1 (nI a)) 28 2 (nI b)) := (Fr.oI _ _ (Or.inl (by unfold D8; decide))).tr (Fr.oI _ _ (Or.inl (by unfold D8; decide)))
  have hI1 : Inv (u1 (u1 q 57 a) 58 b) od := by
    have hI0 := hI
    obtain ⟨a1, a2, a3, a4, a5, a6, a7, a8, a9, a10, -⟩ := hI
    refine hI0.sc (fun i hi => ?_) ?_ ?_ ?_ ?_ ?_ ?_
    · simp only [u1]
      rw [if_neg (by omega), if_neg (by omega)]
    all_goals simp only [u1, Nat.reduceAdd, Nat.reduceEqDiff, ↓reduceIte]
    all_goals omega
  have c7 := c6.mv f1 hS hI1
  refine OutI.good hI hpn (k := 3) (by decide) hx hf (fun x hx => by
    have hx2 : x < 2 := hx
    by_cases z : x = 0
    · rw [z]; exact g
    · rw [show x = 1 by omega]; exact g1) (M1 := sI (sI M6 28 1 (nI a)) 28 2 (nI b)) ?_ c7 rfl (fun z => ⟨z, Nat.le_refl _⟩) (by rw [hM6, hM5]; simp only [mT_sI, mW_sI, mK_sI, mI_sI, mJ_sI, mR_sI, mT_sJ, mW_sJ, mK_sJ, mI_sJ, mJ_sJ, mR_sJ, mT_sR, mW_sR, mK_sR, mI_sR, mJ_sR, mR_sR, mT_gI, mW_gI, mK_gI, mI_gI, mJ_gI, mR_gI, mT_gJ, mW_gJ, mK_gJ, mI_gJ, mJ_gJ, mR_gJ, mT_wR, mW_wR, mK_wR, mI_wR, mJ_wR, mR_wR]; omega) ?_
  · have c6b := c6.2.2.1
    unfold fX2_readWander
    rw [kbR h4.2.2.1, show (0 : Int32) = nI 0 from rfl, show (10 : Int32) = nI 10 from rfl, bnd1 e1]
    dsimp only
    rw [sub_nn hv, bnd1 e2]
    dsimp only
    have c6d : RdK r s n R (sI M6 28 1 (nI a)) := by
      obtain ⟨⟨x0, x1, x2⟩, x3, x6, x7⟩ := c6b
      exact ⟨⟨x0, x1, x2⟩, x3, by rw [mI_ne (by omega)]; exact x6, x7⟩
    rw [rbR1 c6b, pbS s28 c6.1, rbR1 c6d, pbS s28 (FIXr c6.1 _ _ _)]
  · intro N0 N hN
    have hF := hN.1.2.1
    have hF1 := FIXr hF 80 1 (nI a)
    have f2 : Fr [] [(80, 1), (80, 2)] N (sI (sI N 80 1 (nI a)) 80 2 (nI b)) := (Fr.oI _ _ (Or.inr (by decide))).tr (Fr.oI _ _ (Or.inr (by decide)))
    refine ⟨sI (sI N 80 1 (nI a)) 80 2 (nI b), ?_, f2.wk mem0 (by unfold YE; decide), ⟨by simp only [mT_sI, mW_sI, mK_sI, mI_sI, mJ_sI, mR_sI, mT_sJ, mW_sJ, mK_sJ, mI_sJ, mJ_sJ, mR_sJ, mT_sR, mW_sR, mK_sR, mI_sR, mJ_sR, mR_sR, mT_gI, mW_gI, mK_gI, mI_gI, mJ_gI, mR_gI, mT_gJ, mW_gJ, mK_gJ, mI_gJ, mJ_gJ, mR_gJ, mT_wR, mW_wR, mK_wR, mI_wR, mJ_wR, mR_wR], by simp only [mT_sI, mW_sI, mK_sI, mI_sI, mJ_sI, mR_sI, mT_sJ, mW_sJ, mK_sJ, mI_sJ, mJ_sJ, mR_sJ, mT_sR, mW_sR, mK_sR, mI_sR, mJ_sR, mR_sR, mT_gI, mW_gI, mK_gI, mI_gI, mJ_gI, mR_gI, mT_gJ, mW_gJ, mK_gJ, mI_gJ, mJ_gJ, mR_gJ, mT_wR, mW_wR, mK_wR, mI_wR, mJ_wR, mR_wR]⟩, ?_, ?_, (hN.2.2.2.2.2.1.put (show 1 < 10 by decide) a).put (show 2 < 10 by decide) b⟩
    · have w0 := hN.2.2.1 0 (by decide)
      have w1 := hN.2.2.1 1 (by decide)
      rw [← ha] at w0
      rw [← hb] at w1
      rw [show 2000 - cnt 3 = 1997 + 1 from rfl, yEnd (k := 3) (by decide), if_neg (by decide), if_neg (by decide), if_neg (by decide), if_pos rfl, rb80_31 hF, ab98 hF (by decide), w0, pb80 hF, rb80_31 hF1, ab98 hF1 (by decide), mI_ne (by decide), w1, pb80 hF1]
    · rw [mI_ne (by decide), mI_ne (by decide)]
    · rw [mI_ne (by decide), mI_ne (by decide)]; exact hN.2.2.2.2.2.2
theorem FBr.g3 {s n r f : Nat} {R : Nat → Int32} {M0 M : Mm} (h : FBr s n R r M0 f M) : ¬ mI M r 3 = -nI 1 := by
  rw [h.2.2.2.1.1, mi_ne (by have := h.2.2.2.1.2; omega) (by decide) (by decide)]
  exact id
theorem CIr.g3 {s n r p t : Nat} {R : Nat → Int32} {M0 M : Mm} {q od : Nat → Nat} {sd : Int32} (h : CIr s n R r M0 q od sd p t M) : mI M r 3 = -nI 1 := h.2.2.2.2.1.2.1
/-! a thing -/
theorem hrS {s : Nat} (hs : sl s) {M : Mm} (hF : FIX M) {q od : Nat → Nat} {sd : Int32} (h : St s q od sd M) (hq : q 62 ≤ 8) : fX5_hasRoomForSign s M = some (if q 62 = 8 then 0 else 1, M) := by
  unfold fX5_hasRoomForSign
  rw [kbS hs hF, ibS hs hF, h.f62]
  by_cases z : q 62 = 8
  · rw [if_pos (by rw [l8, le_nn (by decide) (by omega)]; omega), if_pos z]
  · rw [if_neg (by rw [l8, le_nn (by decide) (by omega)]; omega), if_neg z]
theorem hrT {s : Nat} (hs : sl s) {M : Mm} (hF : FIX M) {q od : Nat → Nat} {sd : Int32} (h : St s q od sd M) (hq : q 63 ≤ 8) : fX5_hasRoomForThing s M = some (if q 63 = 8 then 0 else 1, M) := by
  unfold fX5_hasRoomForThing
  rw [kbS hs hF, ibS hs hF, h.f63]
  by_cases z : q 63 = 8
  · rw [if_pos (by rw [l8, le_nn (by decide) (by omega)]; omega), if_pos z]
  · rw [if_neg (by rw [l8, le_nn (by decide) (by omega)]; omega), if_neg z]
theorem oK2 {s n r p t : Nat} {R : Nat → Int32} {M0 M M4 : Mm} {q od : Nat → Nat} {sd : Int32} (hI : Inv q od) (hpn : p ≤ n) (hx : ∀ x, x < wln 2 → mtc R n (wst 2 + x) (p + x)) (hf : ¬ q 63 = 8) (h4 : CIr s n R r M0 q od sd (p + wln 2) t M4) (hT : mT M4 = mT M ∧ mW M4 = mW M) (x1 : Int32) : OutI s n R r M0 q od sd p t M (fX2_readThing r x1 M4) := by
  have hL := hI.1
  have hq := hI.sg
  have hf2 : ¬ full (q 62) (q 63) 2 := by omega
  have s28 : sl 28 := Or.inr (Or.inl rfl)
  have h7 := hrT s28 h4.1 h4.2.2.2.2.2.1 hq.2
  rw [if_neg hf] at h7
  have e0 : fX2_readThing r x1 M4 = fX2_readThing_b15 r M4 := by
    unfold fX2_readThing
    rw [kbR h4.2.2.1, rbR1 h4.2.2.1, bnd1 h7]
    dsimp only
    rw [if_neg (by decide)]
  have e00 : ∀ f : Int32 × Mm → Option Mm, (Option.bind (fX2_readNumber r (nI 0) (nI (q 56 - 1)) M4) f) = Option.bind (fX2_readNumber r ((0 : Int32)) (mI M4 28 0 - ((1 : Int32))) M4) f := fun f => by
    rw [h4.2.2.2.2.2.1.f56, show nI (q 56) - (1 : Int32) = nI (q 56 - 1) from sub_nn (show 1 ≤ q 56 by omega)]
    rfl
  rw [e0]
  unfold fX2_readThing_b15
  rw [rbR1 h4.2.2.1, ibS s28 h4.1, ← e00, show (0 : Int32) = nI 0 from rfl, show (10 : Int32) = nI 10 from rfl, show (1 : Int32) = nI 1 from rfl]
  by_cases g : goo R n (p + wln 2) (q 56) 2 0
  rotate_left
  · obtain ⟨v, M5, e1, b5, t5⟩ := cB (i := 0) h4 hL.2 g (lo := 0) (hi := q 56 - 1) rfl rfl
    refine OutI.bad hI hpn (k := 2) (by decide) hx hf2 (i := 0) (by decide) (fun x hx => by omega) g (M1 := M5) ?_ b5 ⟨t5.1.trans hT.1, t5.2.trans hT.2⟩
    rw [bnd1 e1]
    dsimp only
    rw [bnd1 (b5.rn _ _)]
    dsimp only
    rw [bnd1 (b5.rn _ _)]
    dsimp only
    rw [ibR b5.2.1, if_neg b5.g3]
  obtain ⟨e1, c5⟩ := cG (i := 0) h4 hL.2 g (lo := 0) (hi := q 56 - 1) rfl rfl
  have hv : wz R n (p + wln 2) 0 ≤ q 56 - 1 := (goo_w g).2
  obtain ⟨M5, hM5⟩ : ∃ M5, M5 = sI M4 r 2 (nI (pz R n (p + wln 2) (0 + 1))) := ⟨_, rfl⟩
  rw [← hM5] at e1 c5
  rw [bnd1 e1]
  dsimp only
  by_cases g1 : goo R n (p + wln 2) (q 56) 2 1
  rotate_left
  · obtain ⟨v, M6, e2, b6, t6⟩ := cB (i := 1) c5 hL.2 g1 (lo := 0) (hi := 1) rfl rfl
    refine OutI.bad hI hpn (k := 2) (by decide) hx hf2 (i := 1) (by decide) (fun x hx => by rw [show x = 0 by omega]; exact g) g1 (M1 := M6) ?_ b6 ⟨by rw [t6.1, hM5, mT_sI]; exact hT.1, by rw [t6.2, hM5, mW_sI]; exact hT.2⟩
    rw [bnd1 e2]
    dsimp only
    rw [bnd1 (b6.rn _ _)]
    dsimp only
    rw [ibR b6.2.1, if_neg b6.g3]
  obtain ⟨e2, c6⟩ := cG (i := 1) c5 hL.2 g1 (lo := 0) (hi := 1) rfl rfl
  have hw : wz R n (p + wln 2) 1 ≤ 1 := (goo_w g1).2
  obtain ⟨M6, hM6⟩ : ∃ M6, M6 = sI M5 r 2 (nI (pz R n (p + wln 2) (1 + 1))) := ⟨_, rfl⟩
  rw [← hM6] at e2 c6
  rw [bnd1 e2]
  dsimp only
  by_cases g2 : goo R n (p + wln 2) (q 56) 2 2
  rotate_left
  · obtain ⟨v, M7, e3, b7, t7⟩ := cB (i := 2) c6 hL.2 g2 (lo := 1) (hi := 10) rfl rfl
    refine OutI.bad hI hpn (k := 2) (by decide) hx hf2 (i := 2) (by decide) (fun x hx => by
      by_cases z : x = 0
      · rw [z]; exact g
      · rw [show x = 1 by omega]; exact g1) g2 (M1 := M7) ?_ b7 ⟨by rw [t7.1, hM6, mT_sI, hM5, mT_sI]; exact hT.1, by rw [t7.2, hM6, mW_sI, hM5, mW_sI]; exact hT.2⟩
    rw [bnd1 e3]
    dsimp only
    rw [ibR b7.2.1, if_neg b7.g3]
  obtain ⟨e3, c7⟩ := cG (i := 2) c6 hL.2 g2 (lo := 1) (hi := 10) rfl rfl
  have hu : 1 ≤ wz R n (p + wln 2) 2 ∧ wz R n (p + wln 2) 2 ≤ 10 := goo_w g2
  obtain ⟨M7, hM7⟩ : ∃ M7, M7 = sI M6 r 2 (nI (pz R n (p + wln 2) (2 + 1))) := ⟨_, rfl⟩
  rw [← hM7] at e3 c7
  obtain ⟨a, ha⟩ : ∃ a, a = wz R n (p + wln 2) 0 := ⟨_, rfl⟩
  obtain ⟨b, hb⟩ : ∃ b, b = wz R n (p + wln 2) 1 := ⟨_, rfl⟩
  obtain ⟨d, hd⟩ : ∃ d, d = wz R n (p + wln 2) 2 := ⟨_, rfl⟩
  rw [← ha] at hv
  rw [← hb] at hw
  rw [← hd] at hu
  rw [bnd1 e3, ← ha, ← hb, ← hd]
  dsimp only
  have hn63 : q 63 < 8 := by omega
  have e4 := addt8 s28 c7.1 (k := a) (c := b) (a := d) hn63 hw c7.2.2.2.2.2.1.f63
  have f1 := fr_nt M7 28 (q 63) a b d (by decide)
  have c8 := c7.mv (f1.mv (by unfold D8; decide) (by unfold D8; decide)) (St.nt s28 c7.1 c7.2.2.2.2.2.1 rfl hq.1 hn63) (hI.nt (k := a) (c := b) (a := d) rfl hn63 (by omega) hw hu)
  refine OutI.good hI hpn (k := 2) (by decide) hx hf2 (fun x hx => by
    have hx3 : x < 3 := hx
    by_cases z : x = 0
    · rw [z]; exact g
    · by_cases z2 : x = 1
      · rw [z2]; exact g1
      · rw [show x = 2 by omega]; exact g2) (M1 := ntM M7 28 (q 63) a b d) ?_ c8 rfl (fun z => ⟨z, Nat.le_of_eq (qth_o (by omega)).symm⟩) ?_ ?_
  · rw [ibR c7.2.2.1, if_pos c7.g3, rbR1 c7.2.2.1]
    by_cases z : b = 1
    · rw [z] at e4 ⊢
      rw [if_pos rfl, bnd1 e4]
    · have zb : b = 0 := by omega
      rw [zb] at e4 ⊢
      rw [if_neg (by decide), bnd1 e4]
  · unfold ntM
    rw [hM7, hM6, hM5]
    simp only [mT_sI, mW_sI, mK_sI, mI_sI, mJ_sI, mR_sI, mT_sJ, mW_sJ, mK_sJ, mI_sJ, mJ_sJ, mR_sJ, mT_sR, mW_sR, mK_sR, mI_sR, mJ_sR, mR_sR, mT_gI, mW_gI, mK_gI, mI_gI, mJ_gI, mR_gI, mT_gJ, mW_gJ, mK_gJ, mI_gJ, mJ_gJ, mR_gJ, mT_wR, mW_wR, mK_wR, mI_wR, mJ_wR, mR_wR, mT_sN, mW_sN, mK_sN, mI_sN, mJ_sN, mR_sN]
    omega
  · intro N0 N hN
    have hF := hN.1.2.1
    have h0 := hF.1
    have f2 : Fr [86, 87, 88] [(80, 7)] N (ntY N (q 63) a b d) := by
      unfold ntY
      exact (((Fr.oI _ _ (Or.inl (by decide))).tr (Fr.oI _ _ (Or.inl (by decide)))).tr (Fr.oI _ _ (Or.inl (by decide)))).tr (Fr.oI _ _ (Or.inr (by decide)))
    have e9 := addt9 hF (k := a) (c := b) (a := d) hn63 hN.2.2.2.2.2.1.f63
    refine ⟨ntY N (q 63) a b d, ?_, f2.wk (by unfold YD; decide) (by unfold YE; decide), ?_, ?_, ?_, hN.2.2.2.2.2.1.nt hn63⟩
    · rw [show 2000 - cnt 2 = 1996 + 1 from rfl, yEnd (k := 2) (by decide), if_neg (by decide), if_neg (by decide), if_pos rfl, rb80_31 hF, ab98 hF (by decide), rb80_31 hF, ab98 hF (by decide), rb80_31 hF, ab98 hF (by decide), hN.2.2.1 0 (by decide), hN.2.2.1 1 (by decide), hN.2.2.1 2 (by decide), ← ha, ← hb, ← hd, bnd1 e9]
    · unfold ntY
      exact ⟨by simp only [mT_sI, mW_sI, mK_sI, mI_sI, mJ_sI, mR_sI, mT_sJ, mW_sJ, mK_sJ, mI_sJ, mJ_sJ, mR_sJ, mT_sR, mW_sR, mK_sR, mI_sR, mJ_sR, mR_sR, mT_gI, mW_gI, mK_gI, mI_gI, mJ_gI, mR_gI, mT_gJ, mW_gJ, mK_gJ, mI_gJ, mJ_gJ, mR_gJ, mT_wR, mW_wR, mK_wR, mI_wR, mJ_wR, mR_wR], by simp only [mT_sI, mW_sI, mK_sI, mI_sI, mJ_sI, mR_sI, mT_sJ, mW_sJ, mK_sJ, mI_sJ, mJ_sJ, mR_sJ, mT_sR, mW_sR, mK_sR, mI_sR, mJ_sR, mR_sR, mT_gI, mW_gI, mK_gI, mI_gI, mJ_gI, mR_gI, mT_gJ, mW_gJ, mK_gJ, mI_gJ, mJ_gJ, mR_gJ, mT_wR, mW_wR, mK_wR, mI_wR, mJ_wR, mR_wR]⟩
    · rw [f2.I (by omega) (by decide) (by decide)]
    · rw [f2.I (by omega) (by decide) (by decide)]; exact hN.2.2.2.2.2.2
