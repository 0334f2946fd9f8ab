/-! each kind of item -/
theorem OutI.good {s n r p t p1 t1 : Nat} {R : Nat → Int32} {M0 M M1 : Mm} {q od q1 od1 : Nat → Nat} {sd : Int32} {X : Option Mm} (hI : Inv q od) (hpn : p ≤ n) {k : Nat} (hk : k < 6) (hx : ∀ x, x < wln k → mtc R n (wst k + x) (p + x)) (hf : ¬ full (q 62) (q 63) k) (hg : ∀ x, x < cnt k → goo R n (p + wln k) (q 56) k x)
    (e : X = some M1) (hC : CIr s n R r M0 q1 od1 sd p1 t1 M1) (hp1 : p1 = pz R n (p + wln k) (cnt k)) (hQ : t1 = 0 → t = 0 ∧ q 62 ≤ q1 62) (hT : mT M1 ≤ mT M + 1 ∧ mW M1 ≤ mW M + 5)
    (fin : ∀ N0 N, YPr s n R q od sd t (p + wln k) N0 (cnt k) N → ∃ N1, fX9_item_b122 (2000 - cnt k) 80 (nI k) (nI (cnt k)) (nI (cnt k)) N = some (nI 1, N1) ∧ Fr YD YE N N1 ∧ (mT N1 = mT N ∧ mW N1 = mW N) ∧ mI N1 80 33 = mI N 80 33 ∧ mI N1 80 29 = nI t1 ∧ MD q1 od1 sd N1) : OutI s n R r M0 q od sd p t M X := by
  have wl := wfc k hk
  have hpl : p + wln k ≤ n := by
    have := (hx (wln k - 1) (by omega)).1
    omega
  have pb := pz_n (L := q 56) (k := k) hpl (cnt k) hg
  refine Or.inl ⟨p1, q1, od1, t1, M1, e, hC, by omega, hQ, hT, fun N hN => ?_⟩
  obtain ⟨N1, a1, a2⟩ := yP hN hI hpn hk hx hf (cnt k) (cnt_b hk).1 (Nat.le_refl _) hg
  obtain ⟨N2, b1, b2, b3, b4, b5, b6⟩ := fin N N1 a2
  exact ⟨N2, a1.trans b1, ⟨a2.1.mv b2, by rw [b4, a2.2.1, hp1], b5, b6⟩, (NE_YE a2.2.2.2.1).tr b2, ⟨b3.1.trans a2.2.2.2.2.1.1, b3.2.trans a2.2.2.2.2.1.2⟩⟩
theorem pzR {β : Type} {r s n : Nat} {R : Nat → Int32} {M : Mm} (h : RdK r s n R M) (k : Nat) (f : Mm → Option β) : Option.bind (pZ M 2 r k 1) f = f (sI M r k (nI 1)) := bnd1 (by unfold pZ; rw [if_pos ⟨by rw [h.2.1.1], by decide⟩]; rfl) f
theorem yEnd {N : Mm} {k m : Nat} (hk : k < 6) : fX9_item_b122 (m + 1) 80 (nI k) (nI (cnt k)) (nI (cnt k)) N = if k = 0 then Option.bind (fR N 9 80 31) fun o1_ => Option.bind (aI N o1_ (nI 0)) fun v2_ => Option.bind (fX9_along 80 v2_ N) fun M3_ => some (nI 1, M3_)
    else if k = 1 then Option.bind (fR N 9 80 31) fun o4_ => Option.bind (aI N o4_ (nI 0)) fun v5_ => Option.bind (fR N 9 80 31) fun o6_ => Option.bind (aI N o6_ (nI 1)) fun v7_ => Option.bind (fR N 9 80 31) fun o8_ => Option.bind (aI N o8_ (nI 2)) fun v9_ => Option.bind (fR N 9 80 31) fun o10_ => Option.bind (aI N o10_ (nI 3)) fun v11_ => Option.bind (fX9_signs 80 v5_ v7_ v9_ v11_ N) fun q12_ => some (nI 1, q12_.2)
    else if k = 2 then Option.bind (fR N 9 80 31) fun o13_ => Option.bind (aI N o13_ (nI 0)) fun v14_ => Option.bind (fR N 9 80 31) fun o15_ => Option.bind (aI N o15_ (nI 1)) fun v16_ => Option.bind (fR N 9 80 31) fun o17_ => Option.bind (aI N o17_ (nI 2)) fun v18_ => Option.bind (fX9_stands 80 v14_ v16_ v18_ N) fun q19_ => some (nI 1, q19_.2)
    else if k = 3 then Option.bind (fR N 9 80 31) fun o20_ => Option.bind (aI N o20_ (nI 0)) fun v21_ => Option.bind (pI N 9 80 1 v21_) fun M22_ => Option.bind (fR M22_ 9 80 31) fun o23_ => Option.bind (aI M22_ o23_ (nI 1)) fun v24_ => Option.bind (pI M22_ 9 80 2 v24_) fun M25_ => some (nI 1, M25_)
    else if k = 4 then Option.bind (fR N 9 80 31) fun o26_ => Option.bind (aI N o26_ (nI 0)) fun v27_ => Option.bind (pI N 9 80 5 v27_) fun M28_ => some (nI 1, M28_)
    else Option.bind (fR N 9 80 31) fun o29_ => Option.bind (aI N o29_ (nI 0)) fun v30_ => Option.bind (pI N 9 80 3 v30_) fun M31_ => some (nI 1, M31_) := by
  have h1 : k = 0 ∨ k = 1 ∨ k = 2 ∨ k = 3 ∨ k = 4 ∨ k = 5 := by omega
  rw [fX9_item_b122, if_pos (by rw [le_nn (by have := cnt_b hk; omega) (by have := cnt_b hk; omega)]; exact Nat.le_refl _)]
  rcases h1 with rfl | rfl | rfl | rfl | rfl | rfl
  · rw [if_pos (show nI 0 = 0 from rfl), if_pos rfl]; rfl
  · rw [if_neg (by decide), if_pos (by decide), if_neg (by decide), if_pos rfl]; rfl
  · rw [if_neg (by decide), if_neg (by decide), if_pos (by decide), if_neg (by decide), if_neg (by decide), if_pos rfl]; rfl
  · rw [if_neg (by decide), if_neg (by decide), if_neg (by decide), if_pos (by decide), if_neg (by decide), if_neg (by decide), if_neg (by decide), if_pos rfl]; rfl
  · rw [if_neg (by decide), if_neg (by decide), if_neg (by decide), if_neg (by decide), if_pos (by decide), if_neg (by decide), if_neg (by decide), if_neg (by decide), if_neg (by decide), if_pos rfl]; rfl
  · rw [if_neg (by decide), if_neg (by decide), if_neg (by decide), if_neg (by decide), if_neg (by decide), if_neg (by decide), if_neg (by decide), if_neg (by decide), if_neg (by decide), if_neg (by decide)]; rfl
theorem oK0 {s n r p t : Nat} {R : Nat → Int32} {M0 M M4 : Mm} {q od : Nat → Nat} {sd : Int32} (hI : Inv q od) (hpn : p ≤ n) (hx : ∀ x, x < wln 0 → mtc R n (wst 0 + x) (p + x)) (h4 : CIr s n R r M0 q od sd (p + wln 0) t M4) (hT : mT M4 = mT M ∧ mW M4 = mW M) : OutI s n R r M0 q od sd p t M (fX2_readLength r M4) := by
  have hL := hI.1
  have hf : ¬ full (q 62) (q 63) 0 := by omega
  by_cases g : goo R n (p + wln 0) (q 56) 0 0
  · obtain ⟨e1, c5⟩ := cG (i := 0) h4 hL.2 g (lo := 2) (hi := 24) rfl rfl
    have hv : 2 ≤ wz R n (p + wln 0) 0 ∧ wz R n (p + wln 0) 0 ≤ 24 := goo_w g
    obtain ⟨M5, hM5⟩ : ∃ M5, M5 = sI M4 r 2 (nI (pz R n (p + wln 0) (0 + 1))) := ⟨_, rfl⟩
    rw [← hM5] at e1 c5
    have fa := frX M5 28 (wz R n (p + wln 0) 0)
    have c6 := c5.mv (fa.mv (by unfold D8; decide) (by unfold D8; decide)) (St.anew (Or.inr (Or.inl rfl)) c5.1 c5.2.2.2.2.2.1 hI.sg _) (hI.anew hv)
    refine OutI.good hI hpn (k := 0) (by decide) hx hf (fun x hx => by rw [show x = 0 by have : x < 1 := hx; omega]; exact g) (M1 := sI (aX M5 28 (wz R n (p + wln 0) 0)) r 4 (nI 1)) ?_ (c6.told (t1 := 1) (by decide)) rfl (fun z => absurd z (by decide)) ?_ ?_
    · have e2 := tel8 (Or.inr (Or.inl rfl)) c5.1 hv.2 (s := 28)
      unfold fX2_readLength
      rw [kbR h4.2.2.1, show (2 : Int32) = nI 2 from rfl, show (24 : Int32) = nI 24 from rfl, bnd1 e1]
      dsimp only
      rw [ibR c5.2.2.1, if_pos c5.f3, rbR1 c5.2.2.1, bnd1 e2, pzR c6.2.2.1]
    · unfold aX
      rw [hM5]
      simp only [mT_sI, mW_sI, mK_sI, mI_sI, mJ_sI, mR_sI, mT_sJ, mW_sJ, mK_sJ, mI_sJ, mJ_sJ, mR_sJ, mT_sR, mW_sR, mK_sR, mI_sR, mJ_sR, mR_sR, mT_gI, mW_gI, mK_gI, mI_gI, mJ_gI, mR_gI, mT_gJ, mW_gJ, mK_gJ, mI_gJ, mJ_gJ, mR_gJ, mT_wR, mW_wR, mK_wR, mI_wR, mJ_wR, mR_wR]
      omega
    · intro N0 N hN
      have hF := hN.1.2.1
      have fb := frY N (wz R n (p + wln 0) 0)
      have h0 := hF.1
      refine ⟨aY N (wz R n (p + wln 0) 0), ?_, fb.wk (by unfold YD; decide) (by unfold YE; decide), ?_, ?_, ?_, hN.2.2.2.2.2.1.anew hF _⟩
      · rw [show 2000 - cnt 0 = 1998 + 1 from rfl, yEnd (k := 0) (by decide), if_pos rfl, rb80_31 hF, ab98 hF (by decide), hN.2.2.1 0 (by decide), bnd1 (alo9 hF hv.2)]
      · unfold aY
        exact ⟨by simp only [mT_sI, mW_sI, mK_sI, mI_sI, mJ_sI, mR_sI, mT_sJ, mW_sJ, mK_sJ, mI_sJ, mJ_sJ, mR_sJ, mT_sR, mW_sR, mK_sR, mI_sR, mJ_sR, mR_sR, mT_gI, mW_gI, mK_gI, mI_gI, mJ_gI, mR_gI, mT_gJ, mW_gJ, mK_gJ, mI_gJ, mJ_gJ, mR_gJ, mT_wR, mW_wR, mK_wR, mI_wR, mJ_wR, mR_wR], by simp only [mT_sI, mW_sI, mK_sI, mI_sI, mJ_sI, mR_sI, mT_sJ, mW_sJ, mK_sJ, mI_sJ, mJ_sJ, mR_sJ, mT_sR, mW_sR, mK_sR, mI_sR, mJ_sR, mR_sR, mT_gI, mW_gI, mK_gI, mI_gI, mJ_gI, mR_gI, mT_gJ, mW_gJ, mK_gJ, mI_gJ, mJ_gJ, mR_gJ, mT_wR, mW_wR, mK_wR, mI_wR, mJ_wR, mR_wR]⟩
      · rw [fb.I (by omega) (by decide) (by decide)]
      · unfold aY
        simp only [mT_sI, mW_sI, mK_sI, mI_sI, mJ_sI, mR_sI, mT_sJ, mW_sJ, mK_sJ, mI_sJ, mJ_sJ, mR_sJ, mT_sR, mW_sR, mK_sR, mI_sR, mJ_sR, mR_sR, mT_gI, mW_gI, mK_gI, mI_gI, mJ_gI, mR_gI, mT_gJ, mW_gJ, mK_gJ, mI_gJ, mJ_gJ, mR_gJ, mT_wR, mW_wR, mK_wR, mI_wR, mJ_wR, mR_wR, Nat.reduceEqDiff, and_false, and_true, ↓reduceIte]
  · obtain ⟨v, M5, e1, b5, t5⟩ := cB (i := 0) h4 hL.2 g (lo := 2) (hi := 24) rfl rfl
    refine OutI.bad hI hpn (k := 0) (by decide) hx hf (i := 0) (by decide) (fun x hx => by omega) g (M1 := M5) ?_ b5 ⟨t5.1.trans hT.1, t5.2.trans hT.2⟩
    unfold fX2_readLength
    rw [kbR h4.2.2.1, show (2 : Int32) = nI 2 from rfl, show (24 : Int32) = nI 24 from rfl, bnd1 e1]
    dsimp only
    rw [ibR b5.2.1, if_neg b5.f3]
/-- the item's numbers alone: arc, hour -/
theorem oK4 {s n r p t : Nat} {R : Nat → Int32} {M0 M M4 : Mm} {q od : Nat → Nat} {sd : Int32} (hI : Inv q od) (hpn : p ≤ n) {k : Nat} (hk : k = 4 ∨ k = 5) (hx : ∀ x, x < wln k → mtc R n (wst k + x) (p + x)) (h4 : CIr s n R r M0 q od sd (p + wln k) t M4) (hT : mT M4 = mT M ∧ mW M4 = mW M) :
    OutI s n R r M0 q od sd p t M (Option.bind (fX2_readNumber r (nI (lwv k 0)) (nI (tpv (q 56) 0 k 0)) M4) fun q7_ => Option.bind (pI q7_.2 5 28 (if k = 4 then 5 else 3) q7_.1) fun M8_ => some M8_) := by
  have hL := hI.1
  have hf : ¬ full (q 62) (q 63) k := by omega
  have hk6 : k < 6 := by omega
  have ct : cnt k = 1 := by rcases hk with rfl | rfl <;> rfl
  have tp : tpv (q 56) 0 k 0 = tpv (q 56) (wz R n (p + wln k) 0) k 0 := by rcases hk with rfl | rfl <;> rfl
  by_cases g : goo R n (p + wln k) (q 56) k 0
  · obtain ⟨e1, c5⟩ := cG (i := 0) h4 hL.2 g rfl tp
    have hv := goo_w g
    obtain ⟨M5, hM5⟩ : ∃ M5, M5 = sI M4 r 2 (nI (pz R n (p + wln k) (0 + 1))) := ⟨_, rfl⟩
    rw [← hM5] at e1 c5
    have f1 : Fr D8 [] M5 (sI M5 28 (if k = 4 then 5 else 3) (nI (wz R n (p + wln k) 0))) := Fr.oI _ _ (Or.inl (by unfold D8; decide))
    have hS : St 28 (u1 q (if k = 4 then 61 else 59) (wz R n (p + wln k) 0)) od sd (sI M5 28 (if k = 4 then 5 else 3) (nI (wz R n (p + wln k) 0))) := by
      rcases hk with rfl | rfl
      · exact c5.2.2.2.2.2.1.put (by decide) hI.sg (5, 61) (by decide) (by decide) _
      · exact c5.2.2.2.2.2.1.put (by decide) hI.sg (3, 59) (by decide) (by decide) _
    have hI1 : Inv (u1 q (if k = 4 then 61 else 59) (wz R n (p + wln k) 0)) od := by
      refine hI.p1 _ _ ?_
      rcases hk with rfl | rfl
      · exact Or.inr (Or.inr (Or.inl ⟨rfl, hv⟩))
      · exact Or.inl ⟨rfl, hv.2⟩
    refine OutI.good hI hpn hk6 hx hf (fun x hx => by rw [show x = 0 by omega]; exact g) (M1 := sI M5 28 (if k = 4 then 5 else 3) (nI (wz R n (p + wln k) 0))) ?_ (c5.mv f1 hS hI1) (by rw [ct]) (fun z => ⟨z, Nat.le_of_eq (by rcases hk with rfl | rfl <;> rfl)⟩) (by rw [hM5]; simp only [mT_sI, mW_sI, mK_sI, mI_sI, mJ_sI, mR_sI, mT_sJ, mW_sJ, mK_sJ, mI_sJ, mJ_sJ, mR_sJ, mT_sR, mW_sR, mK_sR, mI_sR, mJ_sR, mR_sR, mT_gI, mW_gI, mK_gI, mI_gI, mJ_gI, mR_gI, mT_gJ, mW_gJ, mK_gJ, mI_gJ, mJ_gJ, mR_gJ, mT_wR, mW_wR, mK_wR, mI_wR, mJ_wR, mR_wR]; omega) ?_
    · rw [bnd1 e1]
      dsimp only
      rw [pbS (Or.inr (Or.inl rfl)) c5.1]
    · intro N0 N hN
      have hF := hN.1.2.1
      have h0 := hF.1
      have f2 : Fr [] [(80, if k = 4 then 5 else 3)] N (sI N 80 (if k = 4 then 5 else 3) (nI (wz R n (p + wln k) 0))) := Fr.oI _ _ (Or.inr List.mem_cons_self)
      refine ⟨sI N 80 (if k = 4 then 5 else 3) (nI (wz R n (p + wln k) 0)), ?_, f2.wk mem0 (by rcases hk with rfl | rfl <;> decide), ⟨by simp only [mT_sI, mW_sI, mK_sI, mI_sI, mJ_sI, mR_sI, mT_sJ, mW_sJ, mK_sJ, mI_sJ, mJ_sJ, mR_sJ, mT_sR, mW_sR, mK_sR, mI_sR, mJ_sR, mR_sR, mT_gI, mW_gI, mK_gI, mI_gI, mJ_gI, mR_gI, mT_gJ, mW_gJ, mK_gJ, mI_gJ, mJ_gJ, mR_gJ, mT_wR, mW_wR, mK_wR, mI_wR, mJ_wR, mR_wR], by simp only [mT_sI, mW_sI, mK_sI, mI_sI, mJ_sI, mR_sI, mT_sJ, mW_sJ, mK_sJ, mI_sJ, mJ_sJ, mR_sJ, mT_sR, mW_sR, mK_sR, mI_sR, mJ_sR, mR_sR, mT_gI, mW_gI, mK_gI, mI_gI, mJ_gI, mR_gI, mT_gJ, mW_gJ, mK_gJ, mI_gJ, mJ_gJ, mR_gJ, mT_wR, mW_wR, mK_wR, mI_wR, mJ_wR, mR_wR]⟩, ?_, ?_, ?_⟩
      · rw [show 2000 - cnt k = 1998 + 1 by omega, yEnd hk6, if_neg (by omega), if_neg (by omega), if_neg (by omega), if_neg (by omega)]
        rcases hk with rfl | rfl
        · rw [if_pos rfl, rb80_31 hF, ab98 hF (by decide), hN.2.2.1 0 (by decide), pb80 hF]
          rfl
        · rw [if_neg (by decide), rb80_31 hF, ab98 hF (by decide), hN.2.2.1 0 (by decide), pb80 hF]
          rfl
      · rw [mI_ne (Or.inr (by rcases hk with rfl | rfl <;> decide))]
      · rw [mI_ne (Or.inr (by rcases hk with rfl | rfl <;> decide))]; exact hN.2.2.2.2.2.2
      · rcases hk with rfl | rfl
        · exact hN.2.2.2.2.2.1.put (show 5 < 10 by decide) _
        · exact hN.2.2.2.2.2.1.put (show 3 < 10 by decide) _
  · obtain ⟨v, M5, e1, b5, t5⟩ := cB (i := 0) h4 hL.2 g rfl tp
    refine OutI.bad hI hpn hk6 hx hf (i := 0) (by omega) (fun x hx => by omega) g (M1 := sI M5 28 (if k = 4 then 5 else 3) v) ?_ (b5.at28 _ _) ⟨by rw [mT_sI]; exact t5.1.trans hT.1, by rw [mW_sI]; exact t5.2.trans hT.2⟩
    rw [bnd1 e1]
    dsimp only
    rw [pbS (Or.inr (Or.inl rfl)) b5.1]
