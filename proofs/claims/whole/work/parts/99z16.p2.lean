/-! the loop of the law (written by lp.py) -/
def SCR (A : Mm) (L : Nat) : Prop := HA A ∧ AB A ∧ BB A ∧ SB A ∧ mK A 0 = (30, L) ∧ L ≤ 3072
theorem Rel.pa {A M : Mm} (h : Rel A M) : PA A M := by
  obtain ⟨q, od, sd, b, q2, od2, sd2, h⟩ := h
  have h0 := h.1.1
  exact ⟨by omega, fun o ho => ⟨(h.2.1 o ho).1, (h.2.1 o ho).2.1⟩⟩
theorem rdA {A M : Mm} {L : Nat} (hS : SCR A L) (h : PA A M) {i : Nat} (hi : i < L) : aI M 0 (nI i) = some (mI A 0 i) := by
  obtain ⟨-, -, -, -, hk, hL⟩ := hS
  have hc := nI_clamp (show i < 2 ^ 31 by omega)
  unfold aI
  rw [(h.2 0 (by decide)).1, hk, hc, if_pos ⟨Or.inr rfl, nI_pos (by omega), hi⟩, (h.2 0 (by decide)).2]
theorem rd1 {β : Type} {A M : Mm} {L : Nat} (hS : SCR A L) (h : PA A M) {x : Nat} (hx : x + 6 ≤ L) (f : Int32 → Option β) : Option.bind (aI M 0 (nI x + (1 : Int32))) f = f (mI A 0 (x + 1)) := bnd1 (by rw [l1, add_nn]; exact rdA hS h (by omega)) f
theorem rd2 {β : Type} {A M : Mm} {L : Nat} (hS : SCR A L) (h : PA A M) {x : Nat} (hx : x + 6 ≤ L) (f : Int32 → Option β) : Option.bind (aI M 0 (nI x + (2 : Int32))) f = f (mI A 0 (x + 2)) := bnd1 (by rw [l2, add_nn]; exact rdA hS h (by omega)) f
theorem rd3 {β : Type} {A M : Mm} {L : Nat} (hS : SCR A L) (h : PA A M) {x : Nat} (hx : x + 6 ≤ L) (f : Int32 → Option β) : Option.bind (aI M 0 (nI x + (3 : Int32))) f = f (mI A 0 (x + 3)) := bnd1 (by rw [l3, add_nn]; exact rdA hS h (by omega)) f
theorem rd4 {β : Type} {A M : Mm} {L : Nat} (hS : SCR A L) (h : PA A M) {x : Nat} (hx : x + 6 ≤ L) (f : Int32 → Option β) : Option.bind (aI M 0 (nI x + (4 : Int32))) f = f (mI A 0 (x + 4)) := bnd1 (by rw [l4, add_nn]; exact rdA hS h (by omega)) f
theorem rd5 {β : Type} {A M : Mm} {L : Nat} (hS : SCR A L) (h : PA A M) {x : Nat} (hx : x + 6 ≤ L) (f : Int32 → Option β) : Option.bind (aI M 0 (nI x + (5 : Int32))) f = f (mI A 0 (x + 5)) := bnd1 (by rw [l5, add_nn]; exact rdA hS h (by omega)) f
def CSl (A M : Mm) (x : Nat) (K : Nat → Nat → Nat → Int32 → Mm → Option (Int32 × Mm)) (X : Option (Int32 × Mm)) : Prop := ∃ M2, X = K 0 20 80 (nI (x + 6)) M2 ∧ Rel A M2 ∧ Gr M M2
theorem CSli {A M : Mm} {x : Nat} {K : Nat → Nat → Nat → Int32 → Mm → Option (Int32 × Mm)} {c : Prop} [Decidable c] {a b : Option (Int32 × Mm)} (h1 : CSl A M x K a) (h2 : CSl A M x K b) : CSl A M x K (if c then a else b) := by split <;> assumption
theorem CSle {A M : Mm} {x : Nat} {K : Nat → Nat → Nat → Int32 → Mm → Option (Int32 × Mm)} (h : Rel A M) : CSl A M x K (K 0 20 80 (nI x + (6 : Int32)) M) := ⟨M, by rw [l6, add_nn], h, Gr.rfl⟩
theorem bI01 (v : Int32) : (v = 0 ∧ bI false = 0) ∨ (¬ v = 0 ∧ bI true = 1) := by
  by_cases z : v = 0
  · exact Or.inl ⟨z, rfl⟩
  · exact Or.inr ⟨z, rfl⟩
theorem cs_fL_law_b236 {A M : Mm} {L : Nat} (hS : SCR A L) (h : Rel A M) {x : Nat} (hx : x + 6 ≤ L) {K : Nat → Nat → Nat → Int32 → Mm → Option (Int32 × Mm)} : CSl A M x K (fL_law_b236 K 0 20 80 (nI x) M) := by
  have hP := h.pa
  obtain ⟨r, M1, M2, e1, e2, hR, hG⟩ := op_row A (mI A 0 (x + 1)) (mI A 0 (x + 2)) (mI A 0 (x + 3)) M h
  have hP1 : PA A M1 := k_fX8_row hS.1 hP _ e1
  refine ⟨M2, ?_, hR, hG⟩
  unfold fL_law_b236
  rw [rd1 hS hP hx, rd2 hS hP hx, rd3 hS hP hx, bnd1 e1]
  dsimp only
  rw [rd1 hS hP1 hx, rd2 hS hP1 hx, rd3 hS hP1 hx, bnd1 e2]
  dsimp only
  rw [if_pos rfl, l6, add_nn]
theorem cs_fL_law_b279 {A M : Mm} {L : Nat} (hS : SCR A L) (h : Rel A M) {x : Nat} (hx : x + 6 ≤ L) {K : Nat → Nat → Nat → Int32 → Mm → Option (Int32 × Mm)} : CSl A M x K (fL_law_b279 K 0 20 80 (nI x) M) := by
  have hP := h.pa
  obtain ⟨r, M1, M2, e1, e2, hR, hG⟩ := op_set A (mI A 0 (x + 1)) (mI A 0 (x + 2)) (((mI A 0 (x + 3)).toInt64 <<< ((32 : Int32).toInt64 &&& 63)) ||| ((mI A 0 (x + 4)).toInt64 &&& (4294967295 : Int64))) M h
  have hP1 : PA A M1 := k_fX8_set hS.1 hP _ e1
  refine ⟨M2, ?_, hR, hG⟩
  unfold fL_law_b279
  rw [rd1 hS hP hx, rd2 hS hP hx, rd3 hS hP hx, rd4 hS hP hx, bnd1 e1]
  dsimp only
  rw [rd1 hS hP1 hx, rd2 hS hP1 hx, rd3 hS hP1 hx, rd4 hS hP1 hx, bnd1 e2]
  dsimp only
  rw [if_pos rfl, l6, add_nn]
theorem cs_fL_law_b352 {A M : Mm} {L : Nat} (hS : SCR A L) (h : Rel A M) {x : Nat} (hx : x + 6 ≤ L) {K : Nat → Nat → Nat → Int32 → Mm → Option (Int32 × Mm)} : CSl A M x K (fL_law_b352 K 0 20 80 (nI x) M) := by
  have hP := h.pa
  obtain ⟨r, M1, M2, e1, e2, hR, hG⟩ := op_copy A (mI A 0 (x + 1)) (mI A 0 (x + 2)) (mI A 0 (x + 3)) (mI A 0 (x + 4)) (mI A 0 (x + 5)) M h
  have hP1 : PA A M1 := k_fX8_copy hS.1 hP _ e1
  refine ⟨M2, ?_, hR, hG⟩
  unfold fL_law_b352
  rw [rd1 hS hP hx, rd2 hS hP hx, rd3 hS hP hx, rd4 hS hP hx, rd5 hS hP hx, bnd1 e1]
  dsimp only
  rw [rd1 hS hP1 hx, rd2 hS hP1 hx, rd3 hS hP1 hx, rd4 hS hP1 hx, rd5 hS hP1 hx, bnd1 e2]
  dsimp only
  rw [if_pos rfl, l6, add_nn]
theorem cs_fL_law_b415 {A M : Mm} {L : Nat} (hS : SCR A L) (h : Rel A M) {x : Nat} (hx : x + 6 ≤ L) {K : Nat → Nat → Nat → Int32 → Mm → Option (Int32 × Mm)} : CSl A M x K (fL_law_b415 K 0 20 80 (nI x) M) := by
  have hP := h.pa
  obtain ⟨r, M1, M2, e1, e2, hR, hG⟩ := op_element A (mI A 0 (x + 1)) (mI A 0 (x + 2)) M h
  have hP1 : PA A M1 := k_fX8_element hS.1 hP _ e1
  refine ⟨M2, ?_, hR, hG⟩
  unfold fL_law_b415
  rw [rd1 hS hP hx, rd2 hS hP hx, bnd1 e1]
  dsimp only
  rw [rd1 hS hP1 hx, rd2 hS hP1 hx, bnd1 e2]
  dsimp only
  rw [if_pos rfl, l6, add_nn]
theorem cs_fL_law_b449 {A M : Mm} {L : Nat} (hS : SCR A L) (h : Rel A M) {x : Nat} (hx : x + 6 ≤ L) {K : Nat → Nat → Nat → Int32 → Mm → Option (Int32 × Mm)} : CSl A M x K (fL_law_b449 K 0 20 80 (nI x) M) := by
  have hP := h.pa
  obtain ⟨r, M1, M2, e1, e2, hR, hG⟩ := op_show A (mI A 0 (x + 1)) (mI A 0 (x + 2)) M h
  have hP1 : PA A M1 := k_fX8_show hS.1 hP _ e1
  refine ⟨M2, ?_, hR, hG⟩
  unfold fL_law_b449
  rw [rd1 hS hP hx, rd2 hS hP hx, bnd1 e1]
  dsimp only
  rw [rd1 hS hP1 hx, rd2 hS hP1 hx, bnd1 e2]
  dsimp only
  rw [if_pos rfl, l6, add_nn]
theorem cs_fL_law_b482 {A M : Mm} {L : Nat} (hS : SCR A L) (h : Rel A M) {x : Nat} (hx : x + 6 ≤ L) {K : Nat → Nat → Nat → Int32 → Mm → Option (Int32 × Mm)} : CSl A M x K (fL_law_b482 K 0 20 80 (nI x) M) := by
  have hP := h.pa
  obtain ⟨r, M1, M2, e1, e2, hR, hG⟩ := op_holds A (mI A 0 (x + 1)) M h
  have hP1 : PA A M1 := k_fX8_holds hS.1 hP _ e1
  refine ⟨M2, ?_, hR, hG⟩
  unfold fL_law_b482
  rw [rd1 hS hP hx, bnd1 e1]
  dsimp only
  rw [rd1 hS hP1 hx, bnd1 e2]
  dsimp only
  rw [if_pos rfl, l6, add_nn]
theorem cs_fL_law_b505 {A M : Mm} {L : Nat} (hS : SCR A L) (h : Rel A M) {x : Nat} (hx : x + 6 ≤ L) {K : Nat → Nat → Nat → Int32 → Mm → Option (Int32 × Mm)} : CSl A M x K (fL_law_b505 K 0 20 80 (nI x) M) := by
  have hP := h.pa
  obtain ⟨r, M1, M2, e1, e2, hR, hG⟩ := op_says hS.2.1 (mI A 0 (x + 1)) (mI A 0 (x + 2)) M h
  have hP1 : PA A M1 := k_fX8_says hS.1 hP _ e1
  refine ⟨M2, ?_, hR, hG⟩
  unfold fL_law_b505
  rw [rd1 hS hP hx, rd2 hS hP hx, bnd1 e1]
  dsimp only
  rw [rd1 hS hP1 hx, rd2 hS hP1 hx, bnd1 e2]
  dsimp only
  rw [if_pos rfl, l6, add_nn]
theorem cs_fL_law_b538 {A M : Mm} {L : Nat} (hS : SCR A L) (h : Rel A M) {x : Nat} (hx : x + 6 ≤ L) {K : Nat → Nat → Nat → Int32 → Mm → Option (Int32 × Mm)} : CSl A M x K (fL_law_b538 K 0 20 80 (nI x) M) := by
  have hP := h.pa
  obtain ⟨r, M1, M2, e1, e2, hR, hG⟩ := op_street A (mI A 0 (x + 1)) M h
  have hP1 : PA A M1 := k_fX8_street hS.1 hP _ e1
  refine ⟨M2, ?_, hR, hG⟩
  unfold fL_law_b538
  rw [rd1 hS hP hx, bnd1 e1]
  dsimp only
  rw [rd1 hS hP1 hx, bnd1 e2]
  dsimp only
  rw [if_pos rfl, l6, add_nn]
theorem cs_fL_law_b561 {A M : Mm} {L : Nat} (hS : SCR A L) (h : Rel A M) {x : Nat} (hx : x + 6 ≤ L) {K : Nat → Nat → Nat → Int32 → Mm → Option (Int32 × Mm)} : CSl A M x K (fL_law_b561 K 0 20 80 (nI x) M) := by
  have hP := h.pa
  obtain ⟨r, M1, M2, e1, e2, hR, hG⟩ := op_sign A (mI A 0 (x + 1)) (mI A 0 (x + 2)) (mI A 0 (x + 3)) (mI A 0 (x + 4)) M h
  have hP1 : PA A M1 := k_fX8_sign hS.1 hP _ e1
  refine ⟨M2, ?_, hR, hG⟩
  unfold fL_law_b561
  rw [rd1 hS hP hx, rd2 hS hP hx, rd3 hS hP hx, rd4 hS hP hx, bnd1 e1]
  dsimp only
  rw [rd1 hS hP1 hx, rd2 hS hP1 hx, rd3 hS hP1 hx, rd4 hS hP1 hx, bnd1 e2]
  dsimp only
  rw [if_pos rfl, l6, add_nn]
theorem cs_fL_law_b614 {A M : Mm} {L : Nat} (hS : SCR A L) (h : Rel A M) {x : Nat} (hx : x + 6 ≤ L) {K : Nat → Nat → Nat → Int32 → Mm → Option (Int32 × Mm)} : CSl A M x K (fL_law_b614 K 0 20 80 (nI x) M) := by
  have hP := h.pa
  rcases bI01 (mI A 0 (x + 2)) with ⟨z, zb⟩ | ⟨z, zb⟩
  · obtain ⟨r, M1, M2, e1, e2, hR, hG⟩ := op_thing A (mI A 0 (x + 1)) (nI 0) (mI A 0 (x + 3)) (Or.inl rfl) M h
    have hP1 : PA A M1 := k_fX8_thing hS.1 hP _ e1
    refine ⟨M2, ?_, hR, hG⟩
    unfold fL_law_b614
    rw [rd1 hS hP hx, rd2 hS hP hx, if_pos z]
    unfold fL_law_b633
    rw [rd3 hS hP hx, bnd1 (show fX8_thing 20 (mI A 0 (x + 1)) (0 : Int32) (mI A 0 (x + 3)) M = some (r, M1) from e1)]
    dsimp only
    rw [rd1 hS hP1 hx, rd2 hS hP1 hx, if_pos z]
    unfold fL_law_b660
    rw [rd3 hS hP1 hx, bnd1 (show fX9_thing 80 (mI A 0 (x + 1)) (0 : Int32) (mI A 0 (x + 3)) M1 = some (r, M2) from e2)]
    dsimp only
    rw [if_pos rfl, l6, add_nn]
  · obtain ⟨r, M1, M2, e1, e2, hR, hG⟩ := op_thing A (mI A 0 (x + 1)) (nI 1) (mI A 0 (x + 3)) (Or.inr rfl) M h
    have hP1 : PA A M1 := k_fX8_thing hS.1 hP _ e1
    refine ⟨M2, ?_, hR, hG⟩
    unfold fL_law_b614
    rw [rd1 hS hP hx, rd2 hS hP hx, if_neg z]
    unfold fL_law_b633
    rw [rd3 hS hP hx, bnd1 (show fX8_thing 20 (mI A 0 (x + 1)) (1 : Int32) (mI A 0 (x + 3)) M = some (r, M1) from e1)]
    dsimp only
    rw [rd1 hS hP1 hx, rd2 hS hP1 hx, if_neg z]
    unfold fL_law_b660
    rw [rd3 hS hP1 hx, bnd1 (show fX9_thing 80 (mI A 0 (x + 1)) (1 : Int32) (mI A 0 (x + 3)) M1 = some (r, M2) from e2)]
    dsimp only
    rw [if_pos rfl, l6, add_nn]
theorem cs_fL_law_b673 {A M : Mm} {L : Nat} (hS : SCR A L) (h : Rel A M) {x : Nat} (hx : x + 6 ≤ L) {K : Nat → Nat → Nat → Int32 → Mm → Option (Int32 × Mm)} : CSl A M x K (fL_law_b673 K 0 20 80 (nI x) M) := by
  have hP := h.pa
  obtain ⟨r, M1, M2, e1, e2, hR, hG⟩ := op_things A (mI A 0 (x + 1)) (mI A 0 (x + 2)) (mI A 0 (x + 3)) M h
  have hP1 : PA A M1 := k_fX8_things hS.1 hP _ e1
  refine ⟨M2, ?_, hR, hG⟩
  unfold fL_law_b673
  rw [rd1 hS hP hx, rd2 hS hP hx, rd3 hS hP hx, bnd1 e1]
  dsimp only
  rw [rd1 hS hP1 hx, rd2 hS hP1 hx, rd3 hS hP1 hx, bnd1 e2]
  dsimp only
  rw [if_pos rfl, l6, add_nn]
theorem cs_fL_law_b716 {A M : Mm} {L : Nat} (hS : SCR A L) (h : Rel A M) {x : Nat} (hx : x + 6 ≤ L) {K : Nat → Nat → Nat → Int32 → Mm → Option (Int32 × Mm)} : CSl A M x K (fL_law_b716 K 0 20 80 (nI x) M) := by
  have hP := h.pa
  obtain ⟨r, M1, M2, e1, e2, hR, hG⟩ := op_wander A (mI A 0 (x + 1)) (mI A 0 (x + 2)) M h
  have hP1 : PA A M1 := k_fX8_wander hS.1 hP _ e1
  refine ⟨M2, ?_, hR, hG⟩
  unfold fL_law_b716
  rw [rd1 hS hP hx, rd2 hS hP hx, bnd1 e1]
  dsimp only
  rw [rd1 hS hP1 hx, rd2 hS hP1 hx, bnd1 e2]
  dsimp only
  rw [if_pos rfl, l6, add_nn]
theorem cs_fL_law_b749 {A M : Mm} {L : Nat} (hS : SCR A L) (h : Rel A M) {x : Nat} (hx : x + 6 ≤ L) {K : Nat → Nat → Nat → Int32 → Mm → Option (Int32 × Mm)} : CSl A M x K (fL_law_b749 K 0 20 80 (nI x) M) := by
  have hP := h.pa
  obtain ⟨r, M1, M2, e1, e2, hR, hG⟩ := op_ask A (mI A 0 (x + 1)) (mI A 0 (x + 2)) M h
  have hP1 : PA A M1 := k_fX8_ask hS.1 hP _ e1
  refine ⟨M2, ?_, hR, hG⟩
  unfold fL_law_b749
  rw [rd1 hS hP hx, rd2 hS hP hx, bnd1 e1]
  dsimp only
  rw [rd1 hS hP1 hx, rd2 hS hP1 hx, bnd1 e2]
  dsimp only
  rw [if_pos rfl, l6, add_nn]
theorem cs_fL_law_b782 {A M : Mm} {L : Nat} (hS : SCR A L) (h : Rel A M) {x : Nat} (hx : x + 6 ≤ L) {K : Nat → Nat → Nat → Int32 → Mm → Option (Int32 × Mm)} : CSl A M x K (fL_law_b782 K 0 20 80 (nI x) M) := by
  have hP := h.pa
  obtain ⟨r, M1, M2, e1, e2, hR, hG⟩ := op_signOf A (mI A 0 (x + 1)) (mI A 0 (x + 2)) M h
  have hP1 : PA A M1 := k_fX8_signOf hS.1 hP _ e1
  refine ⟨M2, ?_, hR, hG⟩
  unfold fL_law_b782
  rw [rd1 hS hP hx, rd2 hS hP hx, bnd1 e1]
  dsimp only
  rw [rd1 hS hP1 hx, rd2 hS hP1 hx, bnd1 e2]
  dsimp only
  rw [if_pos rfl, l6, add_nn]
theorem cs_fL_law_b815 {A M : Mm} {L : Nat} (hS : SCR A L) (h : Rel A M) {x : Nat} (hx : x + 6 ≤ L) {K : Nat → Nat → Nat → Int32 → Mm → Option (Int32 × Mm)} : CSl A M x K (fL_law_b815 K 0 20 80 (nI x) M) := by
  have hP := h.pa
  obtain ⟨r, M1, M2, e1, e2, hR, hG⟩ := op_thingOf A (mI A 0 (x + 1)) (mI A 0 (x + 2)) M h
  have hP1 : PA A M1 := k_fX8_thingOf hS.1 hP _ e1
  refine ⟨M2, ?_, hR, hG⟩
  unfold fL_law_b815
  rw [rd1 hS hP hx, rd2 hS hP hx, bnd1 e1]
  dsimp only
  rw [rd1 hS hP1 hx, rd2 hS hP1 hx, bnd1 e2]
  dsimp only
  rw [if_pos rfl, l6, add_nn]
theorem cs_fL_law_b848 {A M : Mm} {L : Nat} (hS : SCR A L) (h : Rel A M) {x : Nat} (hx : x + 6 ≤ L) {K : Nat → Nat → Nat → Int32 → Mm → Option (Int32 × Mm)} : CSl A M x K (fL_law_b848 K 0 20 80 (nI x) M) := by
  have hP := h.pa
  obtain ⟨r, M1, M2, e1, e2, hR, hG⟩ := op_clear A (mI A 0 (x + 1)) M h
  have hP1 : PA A M1 := k_fX8_clear hS.1 hP _ e1
  refine ⟨M2, ?_, hR, hG⟩
  unfold fL_law_b848
  rw [rd1 hS hP hx, bnd1 e1]
  dsimp only
  rw [rd1 hS hP1 hx, bnd1 e2]
  dsimp only
  rw [if_pos rfl, l6, add_nn]
theorem cs_fL_law_b871 {A M : Mm} {L : Nat} (hS : SCR A L) (h : Rel A M) {x : Nat} (hx : x + 6 ≤ L) {K : Nat → Nat → Nat → Int32 → Mm → Option (Int32 × Mm)} : CSl A M x K (fL_law_b871 K 0 20 80 (nI x) M) := by
  have hP := h.pa
  obtain ⟨r, M1, M2, e1, e2, hR, hG⟩ := op_town A hS.2.2.2.1 (mI A 0 (x + 1)) M h
  have hP1 : PA A M1 := k_fX8_town hS.1 hP _ e1
  refine ⟨M2, ?_, hR, hG⟩
  unfold fL_law_b871
  rw [rd1 hS hP hx, bnd1 e1]
  dsimp only
  rw [rd1 hS hP1 hx, bnd1 e2]
  dsimp only
  rw [if_pos rfl, l6, add_nn]
theorem cs_fL_law_b894 {A M : Mm} {L : Nat} (hS : SCR A L) (h : Rel A M) {x : Nat} (hx : x + 6 ≤ L) {K : Nat → Nat → Nat → Int32 → Mm → Option (Int32 × Mm)} : CSl A M x K (fL_law_b894 K 0 20 80 (nI x) M) := by
  have hP := h.pa
  obtain ⟨r, M1, M2, e1, e2, hR, hG⟩ := op_fault A  M h
  have hP1 : PA A M1 := k_fX8_fault hS.1 hP _ e1
  refine ⟨M2, ?_, hR, hG⟩
  unfold fL_law_b894
  rw [bnd1 e1]
  dsimp only
  rw [bnd1 e2]
  dsimp only
  rw [if_pos rfl, l6, add_nn]
theorem cs_fL_law_b907 {A M : Mm} {L : Nat} (hS : SCR A L) (h : Rel A M) {x : Nat} (hx : x + 6 ≤ L) {K : Nat → Nat → Nat → Int32 → Mm → Option (Int32 × Mm)} : CSl A M x K (fL_law_b907 K 0 20 80 (nI x) M) := by
  have hP := h.pa
  obtain ⟨r, M1, M2, e1, e2, hR, hG⟩ := op_lost A (mI A 0 (x + 1)) M h
  have hP1 : PA A M1 := k_fX8_lost hS.1 hP _ e1
  refine ⟨M2, ?_, hR, hG⟩
  unfold fL_law_b907
  rw [rd1 hS hP hx, bnd1 e1]
  dsimp only
  rw [rd1 hS hP1 hx, bnd1 e2]
  dsimp only
  rw [if_pos rfl, l6, add_nn]
theorem cs_fL_law_b930 {A M : Mm} {L : Nat} (hS : SCR A L) (h : Rel A M) {x : Nat} (hx : x + 6 ≤ L) {K : Nat → Nat → Nat → Int32 → Mm → Option (Int32 × Mm)} : CSl A M x K (fL_law_b930 K 0 20 80 (nI x) M) := by
  have hP := h.pa
  obtain ⟨r, M1, M2, e1, e2, hR, hG⟩ := op_odds A (mI A 0 (x + 1)) M h
  have hP1 : PA A M1 := k_fX8_odds hS.1 hP _ e1
  refine ⟨M2, ?_, hR, hG⟩
  unfold fL_law_b930
  rw [rd1 hS hP hx, bnd1 e1]
  dsimp only
  rw [rd1 hS hP1 hx, bnd1 e2]
  dsimp only
  rw [if_pos rfl, l6, add_nn]
theorem cs_fL_law_b954 {A M : Mm} {L : Nat} (hS : SCR A L) (h : Rel A M) {x : Nat} (hx : x + 6 ≤ L) {K : Nat → Nat → Nat → Int32 → Mm → Option (Int32 × Mm)} : CSl A M x K (fL_law_b954 K 0 20 80 (nI x) M) := by
  have hP := h.pa
  obtain ⟨r, M1, M2, e1, e2, hR, hG⟩ := op_strength A (mI A 0 (x + 1)) (mI A 0 (x + 2)) M h
  have hP1 : PA A M1 := k_fX8_strength hS.1 hP _ e1
  refine ⟨M2, ?_, hR, hG⟩
  unfold fL_law_b954
  rw [rd1 hS hP hx, rd2 hS hP hx, bnd1 e1]
  dsimp only
  rw [rd1 hS hP1 hx, rd2 hS hP1 hx, bnd1 e2]
  dsimp only
  rw [if_pos rfl, l6, add_nn]
theorem cs_fL_law_b987 {A M : Mm} {L : Nat} (hS : SCR A L) (h : Rel A M) {x : Nat} (hx : x + 6 ≤ L) {K : Nat → Nat → Nat → Int32 → Mm → Option (Int32 × Mm)} : CSl A M x K (fL_law_b987 K 0 20 80 (nI x) M) := by
  have hP := h.pa
  rcases bI01 (mI A 0 (x + 1)) with ⟨z, zb⟩ | ⟨z, zb⟩
  · obtain ⟨r, M1, M2, e1, e2, hR, hG⟩ := op_step A false M h
    have hP1 : PA A M1 := k_fX8_step hS.1 hP _ e1
    refine ⟨M2, ?_, hR, hG⟩
    rw [zb] at e1 e2
    unfold fL_law_b987
    rw [rd1 hS hP hx, if_pos z]
    unfold fL_law_b1001
    rw [bnd1 e1]
    dsimp only
    rw [rd1 hS hP1 hx, if_pos z]
    unfold fL_law_b1018
    rw [bnd1 e2]
    dsimp only
    rw [if_pos rfl, l6, add_nn]
  · obtain ⟨r, M1, M2, e1, e2, hR, hG⟩ := op_step A true M h
    have hP1 : PA A M1 := k_fX8_step hS.1 hP _ e1
    refine ⟨M2, ?_, hR, hG⟩
    rw [zb] at e1 e2
    unfold fL_law_b987
    rw [rd1 hS hP hx, if_neg z]
    unfold fL_law_b1001
    rw [bnd1 e1]
    dsimp only
    rw [rd1 hS hP1 hx, if_neg z]
    unfold fL_law_b1018
    rw [bnd1 e2]
    dsimp only
    rw [if_pos rfl, l6, add_nn]
theorem cs_fL_law_b1026 {A M : Mm} {L : Nat} (hS : SCR A L) (h : Rel A M) {x : Nat} (hx : x + 6 ≤ L) {K : Nat → Nat → Nat → Int32 → Mm → Option (Int32 × Mm)} : CSl A M x K (fL_law_b1026 K 0 20 80 (nI x) M) := by
  have hP := h.pa
  rcases bI01 (mI A 0 (x + 2)) with ⟨z, zb⟩ | ⟨z, zb⟩
  · obtain ⟨r, M1, M2, e1, e2, hR, hG⟩ := op_feel A (mI A 0 (x + 1)) false M h
    have hP1 : PA A M1 := k_fX8_feel hS.1 hP _ e1
    refine ⟨M2, ?_, hR, hG⟩
    rw [zb] at e1 e2
    unfold fL_law_b1026
    rw [rd1 hS hP hx, rd2 hS hP hx, if_pos z]
    unfold fL_law_b1045
    rw [bnd1 e1]
    dsimp only
    rw [rd1 hS hP1 hx, rd2 hS hP1 hx, if_pos z]
    unfold fL_law_b1067
    rw [bnd1 e2]
    dsimp only
    rw [if_pos rfl, l6, add_nn]
  · obtain ⟨r, M1, M2, e1, e2, hR, hG⟩ := op_feel A (mI A 0 (x + 1)) true M h
    have hP1 : PA A M1 := k_fX8_feel hS.1 hP _ e1
    refine ⟨M2, ?_, hR, hG⟩
    rw [zb] at e1 e2
    unfold fL_law_b1026
    rw [rd1 hS hP hx, rd2 hS hP hx, if_neg z]
    unfold fL_law_b1045
    rw [bnd1 e1]
    dsimp only
    rw [rd1 hS hP1 hx, rd2 hS hP1 hx, if_neg z]
    unfold fL_law_b1067
    rw [bnd1 e2]
    dsimp only
    rw [if_pos rfl, l6, add_nn]
theorem cs_fL_law_b1075 {A M : Mm} {L : Nat} (hS : SCR A L) (h : Rel A M) {x : Nat} (hx : x + 6 ≤ L) {K : Nat → Nat → Nat → Int32 → Mm → Option (Int32 × Mm)} : CSl A M x K (fL_law_b1075 K 0 20 80 (nI x) M) := by
  have hP := h.pa
  obtain ⟨r, M1, M2, e1, e2, hR, hG⟩ := op_where A  M h
  have hP1 : PA A M1 := k_fX8_where hS.1 hP _ e1
  refine ⟨M2, ?_, hR, hG⟩
  unfold fL_law_b1075
  rw [bnd1 e1]
  dsimp only
  rw [bnd1 e2]
  dsimp only
  rw [if_pos rfl, l6, add_nn]
theorem cs_fL_law_b1088 {A M : Mm} {L : Nat} (hS : SCR A L) (h : Rel A M) {x : Nat} (hx : x + 6 ≤ L) {K : Nat → Nat → Nat → Int32 → Mm → Option (Int32 × Mm)} : CSl A M x K (fL_law_b1088 K 0 20 80 (nI x) M) := by
  have hP := h.pa
  obtain ⟨r, M1, M2, e1, e2, hR, hG⟩ := op_isLost A  M h
  have hP1 : PA A M1 := k_fX8_isLost hS.1 hP _ e1
  refine ⟨M2, ?_, hR, hG⟩
  unfold fL_law_b1088
  rw [bnd1 e1]
  dsimp only
  rw [bnd1 e2]
  dsimp only
  rw [if_pos rfl, l6, add_nn]
theorem cs_fL_law_b1101 {A M : Mm} {L : Nat} (hS : SCR A L) (h : Rel A M) {x : Nat} (hx : x + 6 ≤ L) {K : Nat → Nat → Nat → Int32 → Mm → Option (Int32 × Mm)} : CSl A M x K (fL_law_b1101 K 0 20 80 (nI x) M) := by
  have hP := h.pa
  obtain ⟨r, M1, M2, e1, e2, hR, hG⟩ := op_judge A (mI A 0 (x + 1)) (mI A 0 (x + 2)) M h
  have hP1 : PA A M1 := k_fX8_judge hS.1 hP _ e1
  refine ⟨M2, ?_, hR, hG⟩
  unfold fL_law_b1101
  rw [rd1 hS hP hx, rd2 hS hP hx, bnd1 e1]
  dsimp only
  rw [rd1 hS hP1 hx, rd2 hS hP1 hx, bnd1 e2]
  dsimp only
  rw [if_pos rfl, l6, add_nn]
theorem cs_fL_law_b1134 {A M : Mm} {L : Nat} (hS : SCR A L) (h : Rel A M) {x : Nat} (hx : x + 6 ≤ L) {K : Nat → Nat → Nat → Int32 → Mm → Option (Int32 × Mm)} : CSl A M x K (fL_law_b1134 K 0 20 80 (nI x) M) := by
  have hP := h.pa
  obtain ⟨r, M1, M2, e1, e2, hR, hG⟩ := op_told A (mI A 0 (x + 1)) (mI A 0 (x + 2)) M h
  have hP1 : PA A M1 := k_fX8_told hS.1 hP _ e1
  refine ⟨M2, ?_, hR, hG⟩
  unfold fL_law_b1134
  rw [rd1 hS hP hx, rd2 hS hP hx, bnd1 e1]
  dsimp only
  rw [rd1 hS hP1 hx, rd2 hS hP1 hx, bnd1 e2]
  dsimp only
  rw [if_pos rfl, l6, add_nn]
theorem cs_fL_law_b1167 {A M : Mm} {L : Nat} (hS : SCR A L) (h : Rel A M) {x : Nat} (hx : x + 6 ≤ L) {K : Nat → Nat → Nat → Int32 → Mm → Option (Int32 × Mm)} : CSl A M x K (fL_law_b1167 K 0 20 80 (nI x) M) := by
  have hP := h.pa
  obtain ⟨r, M1, M2, e1, e2, hR, hG⟩ := op_worth A (mI A 0 (x + 1)) M h
  have hP1 : PA A M1 := k_fX8_worth hS.1 hP _ e1
  refine ⟨M2, ?_, hR, hG⟩
  unfold fL_law_b1167
  rw [rd1 hS hP hx, bnd1 e1]
  dsimp only
  rw [rd1 hS hP1 hx, bnd1 e2]
  dsimp only
  rw [if_pos rfl, l6, add_nn]
theorem cs_fL_law_b1191 {A M : Mm} {L : Nat} (hS : SCR A L) (h : Rel A M) {x : Nat} (hx : x + 6 ≤ L) {K : Nat → Nat → Nat → Int32 → Mm → Option (Int32 × Mm)} : CSl A M x K (fL_law_b1191 K 0 20 80 (nI x) M) := by
  have hP := h.pa
  obtain ⟨r, M1, M2, e1, e2, hR, hG⟩ := op_next A  M h
  have hP1 : PA A M1 := k_fX8_next hS.1 hP _ e1
  refine ⟨M2, ?_, hR, hG⟩
  unfold fL_law_b1191
  rw [bnd1 e1]
  dsimp only
  rw [bnd1 e2]
  dsimp only
  rw [if_pos rfl, l6, add_nn]
theorem cs_fL_law_b1204 {A M : Mm} {L : Nat} (hS : SCR A L) (h : Rel A M) {x : Nat} (hx : x + 6 ≤ L) {K : Nat → Nat → Nat → Int32 → Mm → Option (Int32 × Mm)} : CSl A M x K (fL_law_b1204 K 0 20 80 (nI x) M) := by
  have hP := h.pa
  obtain ⟨r, M1, M2, e1, e2, hR, hG⟩ := op_ahead A  M h
  have hP1 : PA A M1 := k_fX8_ahead hS.1 hP _ e1
  refine ⟨M2, ?_, hR, hG⟩
  unfold fL_law_b1204
  rw [bnd1 e1]
  dsimp only
  rw [bnd1 e2]
  dsimp only
  rw [if_pos rfl, l6, add_nn]
theorem cs_fL_law_b1217 {A M : Mm} {L : Nat} (hS : SCR A L) (h : Rel A M) {x : Nat} (hx : x + 6 ≤ L) {K : Nat → Nat → Nat → Int32 → Mm → Option (Int32 × Mm)} : CSl A M x K (fL_law_b1217 K 0 20 80 (nI x) M) := by
  have hP := h.pa
  obtain ⟨r, M1, M2, e1, e2, hR, hG⟩ := op_least A (mI A 0 (x + 1)) M h
  have hP1 : PA A M1 := k_fX8_least hS.1 hP _ e1
  refine ⟨M2, ?_, hR, hG⟩
  unfold fL_law_b1217
  rw [rd1 hS hP hx, bnd1 e1]
  dsimp only
  rw [rd1 hS hP1 hx, bnd1 e2]
  dsimp only
  rw [if_pos rfl, l6, add_nn]
theorem cs_fL_law_b1240 {A M : Mm} {L : Nat} (hS : SCR A L) (h : Rel A M) {x : Nat} (hx : x + 6 ≤ L) {K : Nat → Nat → Nat → Int32 → Mm → Option (Int32 × Mm)} : CSl A M x K (fL_law_b1240 K 0 20 80 (nI x) M) := by
  have hP := h.pa
  obtain ⟨r, M1, M2, e1, e2, hR, hG⟩ := op_safe A (mI A 0 (x + 1)) (mI A 0 (x + 2)) M h
  have hP1 : PA A M1 := k_fX8_safe hS.1 hP _ e1
  refine ⟨M2, ?_, hR, hG⟩
  unfold fL_law_b1240
  rw [rd1 hS hP hx, rd2 hS hP hx, bnd1 e1]
  dsimp only
  rw [rd1 hS hP1 hx, rd2 hS hP1 hx, bnd1 e2]
  dsimp only
  rw [if_pos rfl, l6, add_nn]
theorem cs_fL_law_b1274 {A M : Mm} {L : Nat} (hS : SCR A L) (h : Rel A M) {x : Nat} (hx : x + 6 ≤ L) {K : Nat → Nat → Nat → Int32 → Mm → Option (Int32 × Mm)} : CSl A M x K (fL_law_b1274 K 0 20 80 (nI x) M) := by
  have hP := h.pa
  obtain ⟨r, M1, M2, e1, e2, hR, hG⟩ := op_first A (mI A 0 (x + 1)) (mI A 0 (x + 2)) M h
  have hP1 : PA A M1 := k_fX8_first hS.1 hP _ e1
  refine ⟨M2, ?_, hR, hG⟩
  unfold fL_law_b1274
  rw [rd1 hS hP hx, rd2 hS hP hx, bnd1 e1]
  dsimp only
  rw [rd1 hS hP1 hx, rd2 hS hP1 hx, bnd1 e2]
  dsimp only
  rw [if_pos rfl, l6, add_nn]
theorem cs_fL_law_b1307 {A M : Mm} {L : Nat} (hS : SCR A L) (h : Rel A M) {x : Nat} (hx : x + 6 ≤ L) {K : Nat → Nat → Nat → Int32 → Mm → Option (Int32 × Mm)} : CSl A M x K (fL_law_b1307 K 0 20 80 (nI x) M) := by
  have hP := h.pa
  obtain ⟨r, M1, M2, e1, e2, hR, hG⟩ := op_order A (mI A 0 (x + 1)) (mI A 0 (x + 2)) (mI A 0 (x + 3)) M h
  have hP1 : PA A M1 := k_fX8_order hS.1 hP _ e1
  refine ⟨M2, ?_, hR, hG⟩
  unfold fL_law_b1307
  rw [rd1 hS hP hx, rd2 hS hP hx, rd3 hS hP hx, bnd1 e1]
  dsimp only
  rw [rd1 hS hP1 hx, rd2 hS hP1 hx, rd3 hS hP1 hx, bnd1 e2]
  dsimp only
  rw [if_pos rfl, l6, add_nn]
theorem cs_fL_law_b1350 {A M : Mm} {L : Nat} (hS : SCR A L) (h : Rel A M) {x : Nat} (hx : x + 6 ≤ L) {K : Nat → Nat → Nat → Int32 → Mm → Option (Int32 × Mm)} : CSl A M x K (fL_law_b1350 K 0 20 80 (nI x) M) := by
  have hP := h.pa
  obtain ⟨r, M1, M2, e1, e2, hR, hG⟩ := op_over A (mI A 0 (x + 1)) (mI A 0 (x + 2)) (mI A 0 (x + 3)) (mI A 0 (x + 4)) M h
  have hP1 : PA A M1 := k_fX8_over hS.1 hP _ e1
  refine ⟨M2, ?_, hR, hG⟩
  unfold fL_law_b1350
  rw [rd1 hS hP hx, rd2 hS hP hx, rd3 hS hP hx, rd4 hS hP hx, bnd1 e1]
  dsimp only
  rw [rd1 hS hP1 hx, rd2 hS hP1 hx, rd3 hS hP1 hx, rd4 hS hP1 hx, bnd1 e2]
  dsimp only
  rw [if_pos rfl, l6, add_nn]
theorem cs_fL_law_b1403 {A M : Mm} {L : Nat} (hS : SCR A L) (h : Rel A M) {x : Nat} (hx : x + 6 ≤ L) {K : Nat → Nat → Nat → Int32 → Mm → Option (Int32 × Mm)} : CSl A M x K (fL_law_b1403 K 0 20 80 (nI x) M) := by
  have hP := h.pa
  obtain ⟨r, M1, M2, e1, e2, hR, hG⟩ := op_learnt A (mI A 0 (x + 1)) (mI A 0 (x + 2)) M h
  have hP1 : PA A M1 := k_fX8_learnt hS.1 hP _ e1
  refine ⟨M2, ?_, hR, hG⟩
  unfold fL_law_b1403
  rw [rd1 hS hP hx, rd2 hS hP hx, bnd1 e1]
  dsimp only
  rw [rd1 hS hP1 hx, rd2 hS hP1 hx, bnd1 e2]
  dsimp only
  rw [if_pos rfl, l6, add_nn]
theorem cs_fL_law_b1436 {A M : Mm} {L : Nat} (hS : SCR A L) (h : Rel A M) {x : Nat} (hx : x + 6 ≤ L) {K : Nat → Nat → Nat → Int32 → Mm → Option (Int32 × Mm)} : CSl A M x K (fL_law_b1436 K 0 20 80 (nI x) M) := by
  have hP := h.pa
  obtain ⟨r, M1, M2, e1, e2, hR, hG⟩ := op_goings A (mI A 0 (x + 1)) (mI A 0 (x + 2)) M h
  have hP1 : PA A M1 := k_fX8_goings hS.1 hP _ e1
  refine ⟨M2, ?_, hR, hG⟩
  unfold fL_law_b1436
  rw [rd1 hS hP hx, rd2 hS hP hx, bnd1 e1]
  dsimp only
  rw [rd1 hS hP1 hx, rd2 hS hP1 hx, bnd1 e2]
  dsimp only
  rw [if_pos rfl, l6, add_nn]
theorem cs_fL_law_b1469 {A M : Mm} {L : Nat} (hS : SCR A L) (h : Rel A M) {x : Nat} (hx : x + 6 ≤ L) {K : Nat → Nat → Nat → Int32 → Mm → Option (Int32 × Mm)} : CSl A M x K (fL_law_b1469 K 0 20 80 (nI x) M) := by
  have hP := h.pa
  obtain ⟨r, M1, M2, e1, e2, hR, hG⟩ := op_begin A (mI A 0 (x + 1)) M h
  have hP1 : PA A M1 := k_fX8_begin hS.1 hP _ e1
  refine ⟨M2, ?_, hR, hG⟩
  unfold fL_law_b1469
  rw [rd1 hS hP hx, bnd1 e1]
  dsimp only
  rw [rd1 hS hP1 hx, bnd1 e2]
  dsimp only
  rw [if_pos rfl, l6, add_nn]
theorem cs_fL_law_b1492 {A M : Mm} {L : Nat} (hS : SCR A L) (h : Rel A M) {x : Nat} (hx : x + 6 ≤ L) {K : Nat → Nat → Nat → Int32 → Mm → Option (Int32 × Mm)} : CSl A M x K (fL_law_b1492 K 0 20 80 (nI x) M) := by
  have hP := h.pa
  rcases bI01 (mI A 0 (x + 1)) with ⟨z, zb⟩ | ⟨z, zb⟩
  · obtain ⟨r, M1, M2, e1, e2, hR, hG⟩ := op_goes A false M h
    have hP1 : PA A M1 := k_fX8_goes hS.1 hP _ e1
    refine ⟨M2, ?_, hR, hG⟩
    rw [zb] at e1 e2
    unfold fL_law_b1492
    rw [rd1 hS hP hx, if_pos z]
    unfold fL_law_b1506
    rw [bnd1 e1]
    dsimp only
    rw [rd1 hS hP1 hx, if_pos z]
    unfold fL_law_b1523
    rw [bnd1 e2]
    dsimp only
    rw [if_pos rfl, l6, add_nn]
  · obtain ⟨r, M1, M2, e1, e2, hR, hG⟩ := op_goes A true M h
    have hP1 : PA A M1 := k_fX8_goes hS.1 hP _ e1
    refine ⟨M2, ?_, hR, hG⟩
    rw [zb] at e1 e2
    unfold fL_law_b1492
    rw [rd1 hS hP hx, if_neg z]
    unfold fL_law_b1506
    rw [bnd1 e1]
    dsimp only
    rw [rd1 hS hP1 hx, if_neg z]
    unfold fL_law_b1523
    rw [bnd1 e2]
    dsimp only
    rw [if_pos rfl, l6, add_nn]
theorem cs_fL_law_b1531 {A M : Mm} {L : Nat} (hS : SCR A L) (h : Rel A M) {x : Nat} (hx : x + 6 ≤ L) {K : Nat → Nat → Nat → Int32 → Mm → Option (Int32 × Mm)} : CSl A M x K (fL_law_b1531 K 0 20 80 (nI x) M) := by
  have hP := h.pa
  obtain ⟨r, M1, M2, e1, e2, hR, hG⟩ := op_looks A (mI A 0 (x + 1)) M h
  have hP1 : PA A M1 := k_fX8_looks hS.1 hP _ e1
  refine ⟨M2, ?_, hR, hG⟩
  unfold fL_law_b1531
  rw [rd1 hS hP hx, bnd1 e1]
  dsimp only
  rw [rd1 hS hP1 hx, bnd1 e2]
  dsimp only
  rw [if_pos rfl, l6, add_nn]
theorem cs_fL_law_b1554 {A M : Mm} {L : Nat} (hS : SCR A L) (h : Rel A M) {x : Nat} (hx : x + 6 ≤ L) {K : Nat → Nat → Nat → Int32 → Mm → Option (Int32 × Mm)} : CSl A M x K (fL_law_b1554 K 0 20 80 (nI x) M) := by
  have hP := h.pa
  obtain ⟨r, M1, M2, e1, e2, hR, hG⟩ := op_right A  M h
  have hP1 : PA A M1 := k_fX8_right hS.1 hP _ e1
  refine ⟨M2, ?_, hR, hG⟩
  unfold fL_law_b1554
  rw [bnd1 e1]
  dsimp only
  rw [bnd1 e2]
  dsimp only
  rw [if_pos rfl, l6, add_nn]
theorem cs_fL_law_b1567 {A M : Mm} {L : Nat} (hS : SCR A L) (h : Rel A M) {x : Nat} (hx : x + 6 ≤ L) {K : Nat → Nat → Nat → Int32 → Mm → Option (Int32 × Mm)} : CSl A M x K (fL_law_b1567 K 0 20 80 (nI x) M) := by
  have hP := h.pa
  obtain ⟨r, M1, M2, e1, e2, hR, hG⟩ := op_seed A (mI A 0 (x + 1)) M h
  have hP1 : PA A M1 := k_fX8_seed hS.1 hP _ e1
  refine ⟨M2, ?_, hR, hG⟩
  unfold fL_law_b1567
  rw [rd1 hS hP hx, bnd1 e1]
  dsimp only
  rw [rd1 hS hP1 hx, bnd1 e2]
  dsimp only
  rw [if_pos rfl, l6, add_nn]
theorem cs_fL_law_b1590 {A M : Mm} {L : Nat} (hS : SCR A L) (h : Rel A M) {x : Nat} (hx : x + 6 ≤ L) {K : Nat → Nat → Nat → Int32 → Mm → Option (Int32 × Mm)} : CSl A M x K (fL_law_b1590 K 0 20 80 (nI x) M) := by
  have hP := h.pa
  obtain ⟨r, M1, M2, e1, e2, hR, hG⟩ := op_act hS.2.1 hS.2.2.1 (mI A 0 (x + 1)) (mI A 0 (x + 2)) (mI A 0 (x + 3)) M h
  have hP1 : PA A M1 := k_fX8_act hS.1 hP _ e1
  refine ⟨M2, ?_, hR, hG⟩
  unfold fL_law_b1590
  rw [rd1 hS hP hx, rd2 hS hP hx, rd3 hS hP hx, bnd1 e1]
  dsimp only
  rw [rd1 hS hP1 hx, rd2 hS hP1 hx, rd3 hS hP1 hx, bnd1 e2]
  dsimp only
  rw [if_pos rfl, l6, add_nn]
theorem cs_fL_law_b1633 {A M : Mm} {L : Nat} (hS : SCR A L) (h : Rel A M) {x : Nat} (hx : x + 6 ≤ L) {K : Nat → Nat → Nat → Int32 → Mm → Option (Int32 × Mm)} : CSl A M x K (fL_law_b1633 K 0 20 80 (nI x) M) := by
  have hP := h.pa
  obtain ⟨r, M1, M2, e1, e2, hR, hG⟩ := op_trace A (mI A 0 (x + 1)) M h
  have hP1 : PA A M1 := k_fX8_trace hS.1 hP _ e1
  refine ⟨M2, ?_, hR, hG⟩
  unfold fL_law_b1633
  rw [rd1 hS hP hx, bnd1 e1]
  dsimp only
  rw [rd1 hS hP1 hx, bnd1 e2]
  dsimp only
  rw [if_pos rfl, l6, add_nn]
theorem cs_fL_law_b1656 {A M : Mm} {L : Nat} (hS : SCR A L) (h : Rel A M) {x : Nat} (hx : x + 6 ≤ L) {K : Nat → Nat → Nat → Int32 → Mm → Option (Int32 × Mm)} : CSl A M x K (fL_law_b1656 K 0 20 80 (nI x) M) := by
  have hP := h.pa
  obtain ⟨r, M1, M2, e1, e2, hR, hG⟩ := op_image A  M h
  have hP1 : PA A M1 := k_fX8_image hS.1 hP _ e1
  refine ⟨M2, ?_, hR, hG⟩
  unfold fL_law_b1656
  rw [bnd1 e1]
  dsimp only
  rw [bnd1 e2]
  dsimp only
  rw [if_pos rfl, l6, add_nn]
theorem cs_fL_law_b1669 {A M : Mm} {L : Nat} (hS : SCR A L) (h : Rel A M) {x : Nat} (hx : x + 6 ≤ L) {K : Nat → Nat → Nat → Int32 → Mm → Option (Int32 × Mm)} : CSl A M x K (fL_law_b1669 K 0 20 80 (nI x) M) := by
  have hP := h.pa
  obtain ⟨r, M1, M2, e1, e2, hR, hG⟩ := op_restore A  M h
  have hP1 : PA A M1 := k_fX8_restore hS.1 hP _ e1
  refine ⟨M2, ?_, hR, hG⟩
  unfold fL_law_b1669
  rw [bnd1 e1]
  dsimp only
  rw [bnd1 e2]
  dsimp only
  rw [if_pos rfl, l6, add_nn]
theorem cs_fL_law_b1682 {A M : Mm} {L : Nat} (hS : SCR A L) (h : Rel A M) {x : Nat} (hx : x + 6 ≤ L) {K : Nat → Nat → Nat → Int32 → Mm → Option (Int32 × Mm)} : CSl A M x K (fL_law_b1682 K 0 20 80 (nI x) M) := by
  have hP := h.pa
  obtain ⟨r, M1, M2, e1, e2, hR, hG⟩ := op_status A (mI A 0 (x + 1)) M h
  have hP1 : PA A M1 := k_fX8_status hS.1 hP _ e1
  refine ⟨M2, ?_, hR, hG⟩
  unfold fL_law_b1682
  rw [rd1 hS hP hx, bnd1 e1]
  dsimp only
  rw [rd1 hS hP1 hx, bnd1 e2]
  dsimp only
  rw [if_pos rfl, l6, add_nn]
theorem CSl.fin {A M : Mm} {x n : Nat} {K : Nat → Nat → Nat → Int32 → Mm → Option (Int32 × Mm)} {X : Option (Int32 × Mm)} (h : CSl A M x K X) (g : ∀ M2, Rel A M2 → Gr M M2 → ∃ M1, K 0 20 80 (nI (x + 6)) M2 = some (nI 1, M1) ∧ mT M1 ≤ mT M + 400 * (n + 1) ∧ mW M1 ≤ mW M + 4000 * (n + 1)) : ∃ M1, X = some (nI 1, M1) ∧ mT M1 ≤ mT M + 400 * (n + 1) ∧ mW M1 ≤ mW M + 4000 * (n + 1) := by
  obtain ⟨M2, e, hR, hG⟩ := h
  rw [e]
  exact g M2 hR hG
theorem sub6 {L x : Nat} (hL : L ≤ 3072) (hx : x ≤ 4000) : (nI L - (6 : Int32) < nI x) = (L < x + 6) := by
  by_cases h6 : 6 ≤ L
  · rw [show nI L - (6 : Int32) = nI (L - 6) from sub_nn h6, lt_nn (by omega) (by omega)]
    exact propext ⟨fun _ => by omega, fun _ => by omega⟩
  · have n : nI L - (6 : Int32) < nI 0 := by
      have : L = 0 ∨ L = 1 ∨ L = 2 ∨ L = 3 ∨ L = 4 ∨ L = 5 := by omega
      rcases this with rfl | rfl | rfl | rfl | rfl | rfl <;> decide
    rw [ng_lt2 n (by omega)]
    exact propext ⟨fun _ => by omega, fun _ => trivial⟩
theorem loopL {A : Mm} {L : Nat} (hS : SCR A L) (m : Nat) : ∀ d x (M : Mm), Rel A M → L < x + 6 * d + 6 → x ≤ 4000 →
    ∃ M1, fL_law_b18 (m + d + 1) 0 20 80 (nI x) M = some (nI 1, M1) ∧ mT M1 ≤ mT M + 400 * d ∧ mW M1 ≤ mW M + 4000 * d := by
  have hL := hS.2.2.2.2.2
  have hk := hS.2.2.2.2.1
  intro d
  induction d with
  | zero =>
    intro x M h h1 h2
    have eL : aL M 0 = some (nI L) := by
      unfold aL
      rw [(h.pa.2 0 (by decide)).1, hk, if_pos (Or.inr (Or.inl rfl))]
      rfl
    exact ⟨M, by rw [fL_law_b18, bnd1 eL, if_pos (by rw [sub6 hL h2]; omega)]; rfl, by omega, by omega⟩
  | succ d ih =>
    intro x M h h1 h2
    have eL : aL M 0 = some (nI L) := by
      unfold aL
      rw [(h.pa.2 0 (by decide)).1, hk, if_pos (Or.inr (Or.inl rfl))]
      rfl
    rw [show m + (d + 1) + 1 = (m + d + 1) + 1 by omega, fL_law_b18, bnd1 eL]
    by_cases c : L < x + 6
    · exact ⟨M, by rw [if_pos (by rw [sub6 hL h2]; exact c)]; rfl, by omega, by omega⟩
    · have hx : x + 6 ≤ L := by omega
      rw [if_neg (by rw [sub6 hL h2]; exact c), bnd1 (rdA hS h.pa (show x < L by omega))]
      refine CSl.fin (x := x) (K := fL_law_b18 (m + d + 1)) (n := d) ((CSli (cs_fL_law_b236 hS h hx) (CSli (cs_fL_law_b279 hS h hx) (CSli (cs_fL_law_b352 hS h hx) (CSli (cs_fL_law_b415 hS h hx) (CSli (cs_fL_law_b449 hS h hx) (CSli (cs_fL_law_b482 hS h hx) (CSli (cs_fL_law_b505 hS h hx) (CSli (cs_fL_law_b538 hS h hx) (CSli (cs_fL_law_b561 hS h hx) (CSli (cs_fL_law_b614 hS h hx) (CSli (cs_fL_law_b673 hS h hx) (CSli (cs_fL_law_b716 hS h hx) (CSli (cs_fL_law_b749 hS h hx) (CSli (cs_fL_law_b782 hS h hx) (CSli (cs_fL_law_b815 hS h hx) (CSli (cs_fL_law_b848 hS h hx) (CSli (cs_fL_law_b871 hS h hx) (CSli (cs_fL_law_b894 hS h hx) (CSli (cs_fL_law_b907 hS h hx) (CSli (cs_fL_law_b930 hS h hx) (CSli (cs_fL_law_b954 hS h hx) (CSli (cs_fL_law_b987 hS h hx) (CSli (cs_fL_law_b1026 hS h hx) (CSli (cs_fL_law_b1075 hS h hx) (CSli (cs_fL_law_b1088 hS h hx) (CSli (cs_fL_law_b1101 hS h hx) (CSli (cs_fL_law_b1134 hS h hx) (CSli (cs_fL_law_b1167 hS h hx) (CSli (cs_fL_law_b1191 hS h hx) (CSli (cs_fL_law_b1204 hS h hx) (CSli (cs_fL_law_b1217 hS h hx) (CSli (cs_fL_law_b1240 hS h hx) (CSli (cs_fL_law_b1274 hS h hx) (CSli (cs_fL_law_b1307 hS h hx) (CSli (cs_fL_law_b1350 hS h hx) (CSli (cs_fL_law_b1403 hS h hx) (CSli (cs_fL_law_b1436 hS h hx) (CSli (cs_fL_law_b1469 hS h hx) (CSli (cs_fL_law_b1492 hS h hx) (CSli (cs_fL_law_b1531 hS h hx) (CSli (cs_fL_law_b1554 hS h hx) (CSli (cs_fL_law_b1567 hS h hx) (CSli (cs_fL_law_b1590 hS h hx) (CSli (cs_fL_law_b1633 hS h hx) (CSli (cs_fL_law_b1656 hS h hx) (CSli (cs_fL_law_b1669 hS h hx) (CSli (cs_fL_law_b1682 hS h hx) (CSle h))))))))))))))))))))))))))))))))))))))))))))))))) (fun M2 hR hG => ?_)
      obtain ⟨M1, e1, e2, e3⟩ := ih (x + 6) M2 hR (by omega) (by omega)
      have g1 := hG.1
      have g2 := hG.2
      exact ⟨M1, e1, by omega, by omega⟩
