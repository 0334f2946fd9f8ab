/-! the constructors (written by ct.py) -/
def Fx (l : List Nat) (M M1 : Mm) : Prop := mT M ≤ mT M1 ∧ ∀ o, o < mT M → mK M1 o = mK M o ∧ (¬ o ∈ l → (∀ k, mI M1 o k = mI M o k) ∧ (∀ k, mJ M1 o k = mJ M o k) ∧ ∀ k, mR M1 o k = mR M o k)
theorem Fx.rf {l : List Nat} {M : Mm} : Fx l M M := ⟨Nat.le_refl _, fun _ _ => ⟨rfl, fun _ => ⟨fun _ => rfl, fun _ => rfl, fun _ => rfl⟩⟩⟩
theorem Fx.tr {l : List Nat} {M M1 M2 : Mm} (h : Fx l M M1) (h2 : Fx l M1 M2) : Fx l M M2 := by
  have a := h.1
  refine ⟨Nat.le_trans h.1 h2.1, fun o ho => ⟨by rw [(h2.2 o (by omega)).1, (h.2 o ho).1], fun hn => ?_⟩⟩
  obtain ⟨p1, p2, p3⟩ := (h.2 o ho).2 hn
  obtain ⟨q1, q2, q3⟩ := (h2.2 o (by omega)).2 hn
  exact ⟨fun k => by rw [q1, p1], fun k => by rw [q2, p2], fun k => by rw [q3, p3]⟩
theorem Fx.cut {l l2 : List Nat} {M M1 M2 : Mm} (h : Fx l M M1) (h2 : Fx l2 M1 M2) (hl : ∀ o ∈ l2, o ∈ l ∨ mT M ≤ o) : Fx l M M2 := by
  have a := h.1
  refine ⟨Nat.le_trans h.1 h2.1, fun o ho => ⟨by rw [(h2.2 o (by omega)).1, (h.2 o ho).1], fun hn => ?_⟩⟩
  obtain ⟨p1, p2, p3⟩ := (h.2 o ho).2 hn
  obtain ⟨q1, q2, q3⟩ := (h2.2 o (by omega)).2 (fun z => (hl o z).elim hn (fun y => by omega))
  exact ⟨fun k => by rw [q1, p1], fun k => by rw [q2, p2], fun k => by rw [q3, p3]⟩
theorem Fx.wI {l : List Nat} {M : Mm} {a : Nat} (h : a ∈ l) (k : Nat) (v : Int32) : Fx l M (sI M a k v) := ⟨Nat.le_refl _, fun o _ => ⟨rfl, fun hn => ⟨fun j => by rw [mI_ne (Or.inl (show o ≠ a from fun z => hn (by rw [z]; exact h)))], fun _ => rfl, fun _ => rfl⟩⟩⟩
theorem Fx.wR {l : List Nat} {M : Mm} {a : Nat} (h : a ∈ l) (k : Nat) (v : Option Nat) : Fx l M (sR M a k v) := ⟨Nat.le_refl _, fun o _ => ⟨rfl, fun hn => ⟨fun _ => rfl, fun _ => rfl, fun j => by rw [mR_sR, if_neg (by rintro ⟨rfl, -⟩; exact hn h)]⟩⟩⟩
theorem Fx.wJ {l : List Nat} {M : Mm} {a : Nat} (h : a ∈ l) (i n : Nat) (g : Nat → Int64) : Fx l M (gJ M a i n g) := ⟨Nat.le_refl _, fun o _ => ⟨rfl, fun hn => ⟨fun _ => rfl, fun j => by rw [mJ_gJ, if_neg (by rintro ⟨rfl, -⟩; exact hn h)], fun _ => rfl⟩⟩⟩
theorem Fx.wN {l : List Nat} {M : Mm} (kd n w : Nat) : Fx l M (sN M kd n w) := ⟨by rw [mT_sN]; omega, fun o ho => ⟨by rw [mK_sN, if_neg (by omega)], fun _ => ⟨fun j => by rw [mI_sN, if_neg (by omega)], fun j => by rw [mJ_sN, if_neg (by omega)], fun j => by rw [mR_sN, if_neg (by omega)]⟩⟩⟩
/-- a new cell, all zero -/
def Ze (M : Mm) (o : Nat) (kd : Nat × Nat) : Prop := mK M o = kd ∧ (∀ k, mI M o k = 0) ∧ (∀ k, mJ M o k = 0) ∧ ∀ k, mR M o k = none
theorem Ze.new (M : Mm) (kd n w : Nat) : Ze (sN M kd n w) (mT M) (kd, n) := ⟨by rw [mK_sN, if_pos rfl], fun k => by rw [mI_sN, if_pos rfl], fun k => by rw [mJ_sN, if_pos rfl], fun k => by rw [mR_sN, if_pos rfl]⟩
theorem Ze.fx {l : List Nat} {M M1 : Mm} {o : Nat} {kd : Nat × Nat} (h : Ze M o kd) (f : Fx l M M1) (ho : o < mT M) (hn : ¬ o ∈ l) : Ze M1 o kd := by
  obtain ⟨a, b, c, d⟩ := h
  obtain ⟨x, y⟩ := f.2 o ho
  obtain ⟨y1, y2, y3⟩ := y hn
  exact ⟨by rw [x]; exact a, fun k => by rw [y1]; exact b k, fun k => by rw [y2]; exact c k, fun k => by rw [y3]; exact d k⟩
theorem bpI {β : Type} {M : Mm} {c o k : Nat} {v : Int32} (h : (mK M o).1 = c + 1) (f : Mm → Option β) : Option.bind (pI M c o k v) f = f (sI M o k v) := bnd1 (by unfold pI; rw [if_pos h]) f
theorem bpZ {β : Type} {M : Mm} {c o k : Nat} (h : (mK M o).1 = c + 1) (f : Mm → Option β) : Option.bind (pZ M c o k 0) f = f (sI M o k 0) := bnd1 (by unfold pZ; rw [if_pos ⟨h, by decide⟩]) f
theorem bpR {β : Type} {M : Mm} {c o k v : Nat} (h : (mK M o).1 = c + 1) (f : Mm → Option β) : Option.bind (pR M c o k v) f = f (sR M o k (some v)) := bnd1 (by unfold pR; rw [if_pos h]) f
theorem bkc {β : Type} {M : Mm} {c o : Nat} (h : (mK M o).1 = c + 1) (f : Unit → Option β) : Option.bind (kc M c o) f = f () := bnd1 (by unfold kc; rw [if_pos h]) f
theorem bnO {β : Type} {M : Mm} {c w : Nat} (f : Nat × Mm → Option β) : Option.bind (nO M c w) f = f (mT M, sN M (c + 1) 0 w) := rfl
theorem bnA8 {β : Type} {M : Mm} {kd : Nat} (f : Nat × Mm → Option β) : Option.bind (nA M kd (8 : Int32)) f = f (mT M, sN M kd 8 8) := bnd1 (by unfold nA; rw [if_pos (by decide)]; rfl) f
theorem bnA24 {β : Type} {M : Mm} {kd : Nat} (f : Nat × Mm → Option β) : Option.bind (nA M kd (24 : Int32)) f = f (mT M, sN M kd 24 24) := bnd1 (by unfold nA; rw [if_pos (by decide)]; rfl) f
theorem bnA160 {β : Type} {M : Mm} {kd : Nat} (f : Nat × Mm → Option β) : Option.bind (nA M kd (160 : Int32)) f = f (mT M, sN M kd 160 160) := bnd1 (by unfold nA; rw [if_pos (by decide)]; rfl) f
theorem bnA19 {β : Type} {M : Mm} {kd : Nat} (f : Nat × Mm → Option β) : Option.bind (nA M kd (19 : Int32)) f = f (mT M, sN M kd 19 19) := bnd1 (by unfold nA; rw [if_pos (by decide)]; rfl) f
theorem bnA20 {β : Type} {M : Mm} {kd : Nat} (f : Nat × Mm → Option β) : Option.bind (nA M kd (20 : Int32)) f = f (mT M, sN M kd 20 20) := bnd1 (by unfold nA; rw [if_pos (by decide)]; rfl) f
theorem bnA1280 {β : Type} {M : Mm} {kd : Nat} (f : Nat × Mm → Option β) : Option.bind (nA M kd (1280 : Int32)) f = f (mT M, sN M kd 1280 1280) := bnd1 (by unfold nA; rw [if_pos (by decide)]; rfl) f
theorem bnA38 {β : Type} {M : Mm} {kd : Nat} (f : Nat × Mm → Option β) : Option.bind (nA M kd (38 : Int32)) f = f (mT M, sN M kd 38 38) := bnd1 (by unfold nA; rw [if_pos (by decide)]; rfl) f
theorem bnA4 {β : Type} {M : Mm} {kd : Nat} (f : Nat × Mm → Option β) : Option.bind (nA M kd (4 : Int32)) f = f (mT M, sN M kd 4 4) := bnd1 (by unfold nA; rw [if_pos (by decide)]; rfl) f
theorem bnA80 {β : Type} {M : Mm} {kd : Nat} (f : Nat × Mm → Option β) : Option.bind (nA M kd (80 : Int32)) f = f (mT M, sN M kd 80 80) := bnd1 (by unfold nA; rw [if_pos (by decide)]; rfl) f
theorem bnA21 {β : Type} {M : Mm} {kd : Nat} (f : Nat × Mm → Option β) : Option.bind (nA M kd (21 : Int32)) f = f (mT M, sN M kd 21 21) := bnd1 (by unfold nA; rw [if_pos (by decide)]; rfl) f
theorem evZ {a : Nat} : ∀ m n i (M : Mm), mK M a = (1, 0) → mR M a 0 = some (a + 1) → mK M (a + 1) = (21, 24) → m + i = 24 → fX0_becomeEven_b2 (n + m + 1) a (nI 12) (nI i) M = some (gJ M (a + 1) i 24 (fun c => lN (evn 12 c))) := by
  intro m
  induction m with
  | zero =>
    intro n i M h1 h2 h3 hi
    rw [show i = 24 by omega, fX0_becomeEven_b2, if_pos (by decide), gJ_end]
  | succ m ih =>
    intro n i M h1 h2 h3 hi
    have hc := nI_clamp (show i < 2 ^ 31 by omega)
    have et : ∀ v : Int64, tJ M (a + 1) (nI i) v = some (sJ M (a + 1) i v) := fun v => by
      unfold tJ
      rw [h3, hc, if_pos ⟨rfl, nI_pos (by omega), by show i < 24; omega⟩]
    have ih2 : ∀ v : Int64, v = lN (evn 12 i) → fX0_becomeEven_b2 (n + m + 1) a (nI 12) (nI (i + 1)) (sJ M (a + 1) i v) = some (gJ M (a + 1) i 24 (fun c => lN (evn 12 c))) := fun v hv => by
      rw [ih n (i + 1) (sJ M (a + 1) i v) h1 h2 h3 (by omega), gJ_step (g := fun c => lN (evn 12 c)) (by omega) hv]
    rw [show n + (m + 1) + 1 = (n + m + 1) + 1 by omega, fX0_becomeEven_b2, if_neg (by rw [l24, le_nn (by decide) (by omega)]; omega), bnd1 (show fR M 0 a 0 = some (a + 1) by unfold fR; rw [h1, h2]; rfl)]
    by_cases c : 12 ≤ i
    · rw [if_pos (by rw [le_nn (by decide) (by omega)]; exact c), bnd1 (et 0), l1, add_nn]
      exact ih2 0 (by unfold evn; rw [if_neg (by omega)]; rfl)
    · rw [if_neg (by rw [le_nn (by decide) (by omega)]; exact c), bnd1 (et 1), l1, add_nn]
      exact ih2 1 (by unfold evn; rw [if_pos (by omega)]; rfl)
def c5a22 (M : Mm) : Mm := sI (sR (sN (sI (sR (sN (sI (sI (sI (sI (sI (sI M 22 0 12) 22 1 1) 22 2 1) 22 3 0) 22 4 0) 22 5 5) 23 8 8) 22 6 (some 23)) 22 7 0) 24 8 8) 22 8 (some 24)) 22 9 0
def c5b22 (M : Mm) : Mm := sI (sI (sI (sI (sR (sR (sN (sR (sN (sN M 1 0 2) 21 24 24) 25 0 (some 26)) 21 24 24) 25 1 (some 27)) 22 10 (some 25)) 22 11 0) 22 12 0) 22 13 (-1)) 22 14 1
theorem i5t22 {M : Mm} (hT : mT M = 23) : mT (c5a22 M) = 25 ∧ mT (c5b22 (c5a22 M)) = 28 := by
  unfold c5b22 c5a22
  simp only [mT_sI, mW_sI, mK_sI, mI_sI, mJ_sI, mR_sI, mT_sJ, mW_sJ, mK_sJ, mI_sJ, mJ_sJ, mR_sJ, mT_sR, mW_sR, mK_sR, mI_sR, mJ_sR, mR_sR, mT_gI, mW_gI, mK_gI, mI_gI, mJ_gI, mR_gI, mT_gJ, mW_gJ, mK_gJ, mI_gJ, mJ_gJ, mR_gJ, mT_wR, mW_wR, mK_wR, mI_wR, mJ_wR, mR_wR, mT_sN, mW_sN, mK_sN, mI_sN, mJ_sN, mR_sN, hT, Nat.reduceAdd, and_self]
theorem i522 {M : Mm} (hT : mT M = 23) (hk : mK M 22 = (6, 0)) : fX5_init 22 M = some (gJ (c5b22 (c5a22 M)) 26 0 24 (fun c => lN (evn 12 c))) := by
  have k3 : mK (c5b22 (c5a22 M)) 25 = (1, 0) := by
    unfold c5b22 c5a22
    simp only [mT_sI, mW_sI, mK_sI, mI_sI, mJ_sI, mR_sI, mT_sJ, mW_sJ, mK_sJ, mI_sJ, mJ_sJ, mR_sJ, mT_sR, mW_sR, mK_sR, mI_sR, mJ_sR, mR_sR, mT_gI, mW_gI, mK_gI, mI_gI, mJ_gI, mR_gI, mT_gJ, mW_gJ, mK_gJ, mI_gJ, mJ_gJ, mR_gJ, mT_wR, mW_wR, mK_wR, mI_wR, mJ_wR, mR_wR, mT_sN, mW_sN, mK_sN, mI_sN, mJ_sN, mR_sN, hT, Nat.reduceAdd, Nat.reduceEqDiff, ↓reduceIte]
  have k4 : mK (c5b22 (c5a22 M)) 26 = (21, 24) := by
    unfold c5b22 c5a22
    simp only [mT_sI, mW_sI, mK_sI, mI_sI, mJ_sI, mR_sI, mT_sJ, mW_sJ, mK_sJ, mI_sJ, mJ_sJ, mR_sJ, mT_sR, mW_sR, mK_sR, mI_sR, mJ_sR, mR_sR, mT_gI, mW_gI, mK_gI, mI_gI, mJ_gI, mR_gI, mT_gJ, mW_gJ, mK_gJ, mI_gJ, mJ_gJ, mR_gJ, mT_wR, mW_wR, mK_wR, mI_wR, mJ_wR, mR_wR, mT_sN, mW_sN, mK_sN, mI_sN, mJ_sN, mR_sN, hT, Nat.reduceAdd, Nat.reduceEqDiff, ↓reduceIte]
  have r3 : mR (c5b22 (c5a22 M)) 25 0 = some 26 := by
    unfold c5b22 c5a22
    simp only [mT_sI, mW_sI, mK_sI, mI_sI, mJ_sI, mR_sI, mT_sJ, mW_sJ, mK_sJ, mI_sJ, mJ_sJ, mR_sJ, mT_sR, mW_sR, mK_sR, mI_sR, mJ_sR, mR_sR, mT_gI, mW_gI, mK_gI, mI_gI, mJ_gI, mR_gI, mT_gJ, mW_gJ, mK_gJ, mI_gJ, mJ_gJ, mR_gJ, mT_wR, mW_wR, mK_wR, mI_wR, mJ_wR, mR_wR, mT_sN, mW_sN, mK_sN, mI_sN, mJ_sN, mR_sN, hT, Nat.reduceAdd, Nat.reduceEqDiff, ↓reduceIte, and_self, and_true, true_and, false_and, and_false]
  have k0 : mK (c5b22 (c5a22 M)) 22 = (6, 0) := by
    unfold c5b22 c5a22
    simp only [mT_sI, mW_sI, mK_sI, mI_sI, mJ_sI, mR_sI, mT_sJ, mW_sJ, mK_sJ, mI_sJ, mJ_sJ, mR_sJ, mT_sR, mW_sR, mK_sR, mI_sR, mJ_sR, mR_sR, mT_gI, mW_gI, mK_gI, mI_gI, mJ_gI, mR_gI, mT_gJ, mW_gJ, mK_gJ, mI_gJ, mJ_gJ, mR_gJ, mT_wR, mW_wR, mK_wR, mI_wR, mJ_wR, mR_wR, mT_sN, mW_sN, mK_sN, mI_sN, mJ_sN, mR_sN, hT, hk, Nat.reduceAdd, Nat.reduceEqDiff, ↓reduceIte]
  have r0 : mR (c5b22 (c5a22 M)) 22 10 = some 25 := by
    unfold c5b22 c5a22
    simp only [mT_sI, mW_sI, mK_sI, mI_sI, mJ_sI, mR_sI, mT_sJ, mW_sJ, mK_sJ, mI_sJ, mJ_sJ, mR_sJ, mT_sR, mW_sR, mK_sR, mI_sR, mJ_sR, mR_sR, mT_gI, mW_gI, mK_gI, mI_gI, mJ_gI, mR_gI, mT_gJ, mW_gJ, mK_gJ, mI_gJ, mJ_gJ, mR_gJ, mT_wR, mW_wR, mK_wR, mI_wR, mJ_wR, mR_wR, mT_sN, mW_sN, mK_sN, mI_sN, mJ_sN, mR_sN, hT, Nat.reduceAdd, Nat.reduceEqDiff, ↓reduceIte, and_self, and_true, true_and, false_and, and_false]
  have i0 : mI (c5b22 (c5a22 M)) 22 0 = nI 12 := by
    unfold c5b22 c5a22
    simp only [mT_sI, mW_sI, mK_sI, mI_sI, mJ_sI, mR_sI, mT_sJ, mW_sJ, mK_sJ, mI_sJ, mJ_sJ, mR_sJ, mT_sR, mW_sR, mK_sR, mI_sR, mJ_sR, mR_sR, mT_gI, mW_gI, mK_gI, mI_gI, mJ_gI, mR_gI, mT_gJ, mW_gJ, mK_gJ, mI_gJ, mJ_gJ, mR_gJ, mT_wR, mW_wR, mK_wR, mI_wR, mJ_wR, mR_wR, mT_sN, mW_sN, mK_sN, mI_sN, mJ_sN, mR_sN, hT, Nat.reduceAdd, Nat.reduceEqDiff, ↓reduceIte, and_self, and_true, true_and, false_and, and_false]
    rfl
  have ev := evZ (a := 25) 24 1975 0 _ k3 r3 k4 (by decide)
  have e2 : fX0_becomeEven 25 (nI 12) (c5b22 (c5a22 M)) = some (gJ (c5b22 (c5a22 M)) 26 0 24 (fun c => lN (evn 12 c))) := by
    unfold fX0_becomeEven
    rw [bkc (by rw [k3])]
    exact ev
  have E : fX5_init 22 M = Option.bind (fR (c5b22 (c5a22 M)) 5 22 10) fun o20_ => Option.bind (fI (c5b22 (c5a22 M)) 5 22 0) fun v21_ => Option.bind (fX0_becomeEven o20_ v21_ (c5b22 (c5a22 M))) fun M22_ => some M22_ := by
    unfold fX5_init fX0_init c5b22 c5a22
    simp (disch := simp only [mT_sI, mW_sI, mK_sI, mI_sI, mJ_sI, mR_sI, mT_sJ, mW_sJ, mK_sJ, mI_sJ, mJ_sJ, mR_sJ, mT_sR, mW_sR, mK_sR, mI_sR, mJ_sR, mR_sR, mT_gI, mW_gI, mK_gI, mI_gI, mJ_gI, mR_gI, mT_gJ, mW_gJ, mK_gJ, mI_gJ, mJ_gJ, mR_gJ, mT_wR, mW_wR, mK_wR, mI_wR, mJ_wR, mR_wR, mT_sN, mW_sN, mK_sN, mI_sN, mJ_sN, mR_sN, hT, hk, Nat.reduceAdd, Nat.reduceEqDiff, ↓reduceIte]) only [↓bkc, ↓bpI, ↓bpZ, ↓bpR, ↓bnO, ↓bnA8, ↓bnA24, ↓Option.bind_some, mT_sI, mW_sI, mK_sI, mI_sI, mJ_sI, mR_sI, mT_sJ, mW_sJ, mK_sJ, mI_sJ, mJ_sJ, mR_sJ, mT_sR, mW_sR, mK_sR, mI_sR, mJ_sR, mR_sR, mT_gI, mW_gI, mK_gI, mI_gI, mJ_gI, mR_gI, mT_gJ, mW_gJ, mK_gJ, mI_gJ, mJ_gJ, mR_gJ, mT_wR, mW_wR, mK_wR, mI_wR, mJ_wR, mR_wR, mT_sN, mW_sN, mK_sN, mI_sN, mJ_sN, mR_sN, hT, Nat.reduceAdd]
  rw [E, bnd1 (show fR (c5b22 (c5a22 M)) 5 22 10 = some 25 by unfold fR; rw [k0, r0]; rfl), bnd1 (show fI (c5b22 (c5a22 M)) 5 22 0 = some (nI 12) by unfold fI; rw [k0, i0]; rfl), bnd1 e2]
def c5a28 (M : Mm) : Mm := sI (sR (sN (sI (sR (sN (sI (sI (sI (sI (sI (sI M 28 0 12) 28 1 1) 28 2 1) 28 3 0) 28 4 0) 28 5 5) 23 8 8) 28 6 (some 29)) 28 7 0) 24 8 8) 28 8 (some 30)) 28 9 0
def c5b28 (M : Mm) : Mm := sI (sI (sI (sI (sR (sR (sN (sR (sN (sN M 1 0 2) 21 24 24) 31 0 (some 32)) 21 24 24) 31 1 (some 33)) 28 10 (some 31)) 28 11 0) 28 12 0) 28 13 (-1)) 28 14 1
theorem i5t28 {M : Mm} (hT : mT M = 29) : mT (c5a28 M) = 31 ∧ mT (c5b28 (c5a28 M)) = 34 := by
  unfold c5b28 c5a28
  simp only [mT_sI, mW_sI, mK_sI, mI_sI, mJ_sI, mR_sI, mT_sJ, mW_sJ, mK_sJ, mI_sJ, mJ_sJ, mR_sJ, mT_sR, mW_sR, mK_sR, mI_sR, mJ_sR, mR_sR, mT_gI, mW_gI, mK_gI, mI_gI, mJ_gI, mR_gI, mT_gJ, mW_gJ, mK_gJ, mI_gJ, mJ_gJ, mR_gJ, mT_wR, mW_wR, mK_wR, mI_wR, mJ_wR, mR_wR, mT_sN, mW_sN, mK_sN, mI_sN, mJ_sN, mR_sN, hT, Nat.reduceAdd, and_self]
theorem i528 {M : Mm} (hT : mT M = 29) (hk : mK M 28 = (6, 0)) : fX5_init 28 M = some (gJ (c5b28 (c5a28 M)) 32 0 24 (fun c => lN (evn 12 c))) := by
  have k3 : mK (c5b28 (c5a28 M)) 31 = (1, 0) := by
    unfold c5b28 c5a28
    simp only [mT_sI, mW_sI, mK_sI, mI_sI, mJ_sI, mR_sI, mT_sJ, mW_sJ, mK_sJ, mI_sJ, mJ_sJ, mR_sJ, mT_sR, mW_sR, mK_sR, mI_sR, mJ_sR, mR_sR, mT_gI, mW_gI, mK_gI, mI_gI, mJ_gI, mR_gI, mT_gJ, mW_gJ, mK_gJ, mI_gJ, mJ_gJ, mR_gJ, mT_wR, mW_wR, mK_wR, mI_wR, mJ_wR, mR_wR, mT_sN, mW_sN, mK_sN, mI_sN, mJ_sN, mR_sN, hT, Nat.reduceAdd, Nat.reduceEqDiff, ↓reduceIte]
  have k4 : mK (c5b28 (c5a28 M)) 32 = (21, 24) := by
    unfold c5b28 c5a28
    simp only [mT_sI, mW_sI, mK_sI, mI_sI, mJ_sI, mR_sI, mT_sJ, mW_sJ, mK_sJ, mI_sJ, mJ_sJ, mR_sJ, mT_sR, mW_sR, mK_sR, mI_sR, mJ_sR, mR_sR, mT_gI, mW_gI, mK_gI, mI_gI, mJ_gI, mR_gI, mT_gJ, mW_gJ, mK_gJ, mI_gJ, mJ_gJ, mR_gJ, mT_wR, mW_wR, mK_wR, mI_wR, mJ_wR, mR_wR, mT_sN, mW_sN, mK_sN, mI_sN, mJ_sN, mR_sN, hT, Nat.reduceAdd, Nat.reduceEqDiff, ↓reduceIte]
  have r3 : mR (c5b28 (c5a28 M)) 31 0 = some 32 := by
    unfold c5b28 c5a28
    simp only [mT_sI, mW_sI, mK_sI, mI_sI, mJ_sI, mR_sI, mT_sJ, mW_sJ, mK_sJ, mI_sJ, mJ_sJ, mR_sJ, mT_sR, mW_sR, mK_sR, mI_sR, mJ_sR, mR_sR, mT_gI, mW_gI, mK_gI, mI_gI, mJ_gI, mR_gI, mT_gJ, mW_gJ, mK_gJ, mI_gJ, mJ_gJ, mR_gJ, mT_wR, mW_wR, mK_wR, mI_wR, mJ_wR, mR_wR, mT_sN, mW_sN, mK_sN, mI_sN, mJ_sN, mR_sN, hT, Nat.reduceAdd, Nat.reduceEqDiff, ↓reduceIte, and_self, and_true, true_and, false_and, and_false]
  have k0 : mK (c5b28 (c5a28 M)) 28 = (6, 0) := by
    unfold c5b28 c5a28
    simp only [mT_sI, mW_sI, mK_sI, mI_sI, mJ_sI, mR_sI, mT_sJ, mW_sJ, mK_sJ, mI_sJ, mJ_sJ, mR_sJ, mT_sR, mW_sR, mK_sR, mI_sR, mJ_sR, mR_sR, mT_gI, mW_gI, mK_gI, mI_gI, mJ_gI, mR_gI, mT_gJ, mW_gJ, mK_gJ, mI_gJ, mJ_gJ, mR_gJ, mT_wR, mW_wR, mK_wR, mI_wR, mJ_wR, mR_wR, mT_sN, mW_sN, mK_sN, mI_sN, mJ_sN, mR_sN, hT, hk, Nat.reduceAdd, Nat.reduceEqDiff, ↓reduceIte]
  have r0 : mR (c5b28 (c5a28 M)) 28 10 = some 31 := by
    unfold c5b28 c5a28
    simp only [mT_sI, mW_sI, mK_sI, mI_sI, mJ_sI, mR_sI, mT_sJ, mW_sJ, mK_sJ, mI_sJ, mJ_sJ, mR_sJ, mT_sR, mW_sR, mK_sR, mI_sR, mJ_sR, mR_sR, mT_gI, mW_gI, mK_gI, mI_gI, mJ_gI, mR_gI, mT_gJ, mW_gJ, mK_gJ, mI_gJ, mJ_gJ, mR_gJ, mT_wR, mW_wR, mK_wR, mI_wR, mJ_wR, mR_wR, mT_sN, mW_sN, mK_sN, mI_sN, mJ_sN, mR_sN, hT, Nat.reduceAdd, Nat.reduceEqDiff, ↓reduceIte, and_self, and_true, true_and, false_and, and_false]
  have i0 : mI (c5b28 (c5a28 M)) 28 0 = nI 12 := by
    unfold c5b28 c5a28
    simp only [mT_sI, mW_sI, mK_sI, mI_sI, mJ_sI, mR_sI, mT_sJ, mW_sJ, mK_sJ, mI_sJ, mJ_sJ, mR_sJ, mT_sR, mW_sR, mK_sR, mI_sR, mJ_sR, mR_sR, mT_gI, mW_gI, mK_gI, mI_gI, mJ_gI, mR_gI, mT_gJ, mW_gJ, mK_gJ, mI_gJ, mJ_gJ, mR_gJ, mT_wR, mW_wR, mK_wR, mI_wR, mJ_wR, mR_wR, mT_sN, mW_sN, mK_sN, mI_sN, mJ_sN, mR_sN, hT, Nat.reduceAdd, Nat.reduceEqDiff, ↓reduceIte, and_self, and_true, true_and, false_and, and_false]
    rfl
  have ev := evZ (a := 31) 24 1975 0 _ k3 r3 k4 (by decide)
  have e2 : fX0_becomeEven 31 (nI 12) (c5b28 (c5a28 M)) = some (gJ (c5b28 (c5a28 M)) 32 0 24 (fun c => lN (evn 12 c))) := by
    unfold fX0_becomeEven
    rw [bkc (by rw [k3])]
    exact ev
  have E : fX5_init 28 M = Option.bind (fR (c5b28 (c5a28 M)) 5 28 10) fun o20_ => Option.bind (fI (c5b28 (c5a28 M)) 5 28 0) fun v21_ => Option.bind (fX0_becomeEven o20_ v21_ (c5b28 (c5a28 M))) fun M22_ => some M22_ := by
    unfold fX5_init fX0_init c5b28 c5a28
    simp (disch := simp only [mT_sI, mW_sI, mK_sI, mI_sI, mJ_sI, mR_sI, mT_sJ, mW_sJ, mK_sJ, mI_sJ, mJ_sJ, mR_sJ, mT_sR, mW_sR, mK_sR, mI_sR, mJ_sR, mR_sR, mT_gI, mW_gI, mK_gI, mI_gI, mJ_gI, mR_gI, mT_gJ, mW_gJ, mK_gJ, mI_gJ, mJ_gJ, mR_gJ, mT_wR, mW_wR, mK_wR, mI_wR, mJ_wR, mR_wR, mT_sN, mW_sN, mK_sN, mI_sN, mJ_sN, mR_sN, hT, hk, Nat.reduceAdd, Nat.reduceEqDiff, ↓reduceIte]) only [↓bkc, ↓bpI, ↓bpZ, ↓bpR, ↓bnO, ↓bnA8, ↓bnA24, ↓Option.bind_some, mT_sI, mW_sI, mK_sI, mI_sI, mJ_sI, mR_sI, mT_sJ, mW_sJ, mK_sJ, mI_sJ, mJ_sJ, mR_sJ, mT_sR, mW_sR, mK_sR, mI_sR, mJ_sR, mR_sR, mT_gI, mW_gI, mK_gI, mI_gI, mJ_gI, mR_gI, mT_gJ, mW_gJ, mK_gJ, mI_gJ, mJ_gJ, mR_gJ, mT_wR, mW_wR, mK_wR, mI_wR, mJ_wR, mR_wR, mT_sN, mW_sN, mK_sN, mI_sN, mJ_sN, mR_sN, hT, Nat.reduceAdd]
  rw [E, bnd1 (show fR (c5b28 (c5a28 M)) 5 28 10 = some 31 by unfold fR; rw [k0, r0]; rfl), bnd1 (show fI (c5b28 (c5a28 M)) 5 28 0 = some (nI 12) by unfold fI; rw [k0, i0]; rfl), bnd1 e2]
def c5a34 (M : Mm) : Mm := sI (sR (sN (sI (sR (sN (sI (sI (sI (sI (sI (sI M 34 0 12) 34 1 1) 34 2 1) 34 3 0) 34 4 0) 34 5 5) 23 8 8) 34 6 (some 35)) 34 7 0) 24 8 8) 34 8 (some 36)) 34 9 0
def c5b34 (M : Mm) : Mm := sI (sI (sI (sI (sR (sR (sN (sR (sN (sN M 1 0 2) 21 24 24) 37 0 (some 38)) 21 24 24) 37 1 (some 39)) 34 10 (some 37)) 34 11 0) 34 12 0) 34 13 (-1)) 34 14 1
theorem i5t34 {M : Mm} (hT : mT M = 35) : mT (c5a34 M) = 37 ∧ mT (c5b34 (c5a34 M)) = 40 := by
  unfold c5b34 c5a34
  simp only [mT_sI, mW_sI, mK_sI, mI_sI, mJ_sI, mR_sI, mT_sJ, mW_sJ, mK_sJ, mI_sJ, mJ_sJ, mR_sJ, mT_sR, mW_sR, mK_sR, mI_sR, mJ_sR, mR_sR, mT_gI, mW_gI, mK_gI, mI_gI, mJ_gI, mR_gI, mT_gJ, mW_gJ, mK_gJ, mI_gJ, mJ_gJ, mR_gJ, mT_wR, mW_wR, mK_wR, mI_wR, mJ_wR, mR_wR, mT_sN, mW_sN, mK_sN, mI_sN, mJ_sN, mR_sN, hT, Nat.reduceAdd, and_self]
theorem i534 {M : Mm} (hT : mT M = 35) (hk : mK M 34 = (6, 0)) : fX5_init 34 M = some (gJ (c5b34 (c5a34 M)) 38 0 24 (fun c => lN (evn 12 c))) := by
  have k3 : mK (c5b34 (c5a34 M)) 37 = (1, 0) := by
    unfold c5b34 c5a34
    simp only [mT_sI, mW_sI, mK_sI, mI_sI, mJ_sI, mR_sI, mT_sJ, mW_sJ, mK_sJ, mI_sJ, mJ_sJ, mR_sJ, mT_sR, mW_sR, mK_sR, mI_sR, mJ_sR, mR_sR, mT_gI, mW_gI, mK_gI, mI_gI, mJ_gI, mR_gI, mT_gJ, mW_gJ, mK_gJ, mI_gJ, mJ_gJ, mR_gJ, mT_wR, mW_wR, mK_wR, mI_wR, mJ_wR, mR_wR, mT_sN, mW_sN, mK_sN, mI_sN, mJ_sN, mR_sN, hT, Nat.reduceAdd, Nat.reduceEqDiff, ↓reduceIte]
  have k4 : mK (c5b34 (c5a34 M)) 38 = (21, 24) := by
    unfold c5b34 c5a34
    simp only [mT_sI, mW_sI, mK_sI, mI_sI, mJ_sI, mR_sI, mT_sJ, mW_sJ, mK_sJ, mI_sJ, mJ_sJ, mR_sJ, mT_sR, mW_sR, mK_sR, mI_sR, mJ_sR, mR_sR, mT_gI, mW_gI, mK_gI, mI_gI, mJ_gI, mR_gI, mT_gJ, mW_gJ, mK_gJ, mI_gJ, mJ_gJ, mR_gJ, mT_wR, mW_wR, mK_wR, mI_wR, mJ_wR, mR_wR, mT_sN, mW_sN, mK_sN, mI_sN, mJ_sN, mR_sN, hT, Nat.reduceAdd, Nat.reduceEqDiff, ↓reduceIte]
  have r3 : mR (c5b34 (c5a34 M)) 37 0 = some 38 := by
    unfold c5b34 c5a34
    simp only [mT_sI, mW_sI, mK_sI, mI_sI, mJ_sI, mR_sI, mT_sJ, mW_sJ, mK_sJ, mI_sJ, mJ_sJ, mR_sJ, mT_sR, mW_sR, mK_sR, mI_sR, mJ_sR, mR_sR, mT_gI, mW_gI, mK_gI, mI_gI, mJ_gI, mR_gI, mT_gJ, mW_gJ, mK_gJ, mI_gJ, mJ_gJ, mR_gJ, mT_wR, mW_wR, mK_wR, mI_wR, mJ_wR, mR_wR, mT_sN, mW_sN, mK_sN, mI_sN, mJ_sN, mR_sN, hT, Nat.reduceAdd, Nat.reduceEqDiff, ↓reduceIte, and_self, and_true, true_and, false_and, and_false]
  have k0 : mK (c5b34 (c5a34 M)) 34 = (6, 0) := by
    unfold c5b34 c5a34
    simp only [mT_sI, mW_sI, mK_sI, mI_sI, mJ_sI, mR_sI, mT_sJ, mW_sJ, mK_sJ, mI_sJ, mJ_sJ, mR_sJ, mT_sR, mW_sR, mK_sR, mI_sR, mJ_sR, mR_sR, mT_gI, mW_gI, mK_gI, mI_gI, mJ_gI, mR_gI, mT_gJ, mW_gJ, mK_gJ, mI_gJ, mJ_gJ, mR_gJ, mT_wR, mW_wR, mK_wR, mI_wR, mJ_wR, mR_wR, mT_sN, mW_sN, mK_sN, mI_sN, mJ_sN, mR_sN, hT, hk, Nat.reduceAdd, Nat.reduceEqDiff, ↓reduceIte]
  have r0 : mR (c5b34 (c5a34 M)) 34 10 = some 37 := by
    unfold c5b34 c5a34
    simp only [mT_sI, mW_sI, mK_sI, mI_sI, mJ_sI, mR_sI, mT_sJ, mW_sJ, mK_sJ, mI_sJ, mJ_sJ, mR_sJ, mT_sR, mW_sR, mK_sR, mI_sR, mJ_sR, mR_sR, mT_gI, mW_gI, mK_gI, mI_gI, mJ_gI, mR_gI, mT_gJ, mW_gJ, mK_gJ, mI_gJ, mJ_gJ, mR_gJ, mT_wR, mW_wR, mK_wR, mI_wR, mJ_wR, mR_wR, mT_sN, mW_sN, mK_sN, mI_sN, mJ_sN, mR_sN, hT, Nat.reduceAdd, Nat.reduceEqDiff, ↓reduceIte, and_self, and_true, true_and, false_and, and_false]
  have i0 : mI (c5b34 (c5a34 M)) 34 0 = nI 12 := by
    unfold c5b34 c5a34
    simp only [mT_sI, mW_sI, mK_sI, mI_sI, mJ_sI, mR_sI, mT_sJ, mW_sJ, mK_sJ, mI_sJ, mJ_sJ, mR_sJ, mT_sR, mW_sR, mK_sR, mI_sR, mJ_sR, mR_sR, mT_gI, mW_gI, mK_gI, mI_gI, mJ_gI, mR_gI, mT_gJ, mW_gJ, mK_gJ, mI_gJ, mJ_gJ, mR_gJ, mT_wR, mW_wR, mK_wR, mI_wR, mJ_wR, mR_wR, mT_sN, mW_sN, mK_sN, mI_sN, mJ_sN, mR_sN, hT, Nat.reduceAdd, Nat.reduceEqDiff, ↓reduceIte, and_self, and_true, true_and, false_and, and_false]
    rfl
  have ev := evZ (a := 37) 24 1975 0 _ k3 r3 k4 (by decide)
  have e2 : fX0_becomeEven 37 (nI 12) (c5b34 (c5a34 M)) = some (gJ (c5b34 (c5a34 M)) 38 0 24 (fun c => lN (evn 12 c))) := by
    unfold fX0_becomeEven
    rw [bkc (by rw [k3])]
    exact ev
  have E : fX5_init 34 M = Option.bind (fR (c5b34 (c5a34 M)) 5 34 10) fun o20_ => Option.bind (fI (c5b34 (c5a34 M)) 5 34 0) fun v21_ => Option.bind (fX0_becomeEven o20_ v21_ (c5b34 (c5a34 M))) fun M22_ => some M22_ := by
    unfold fX5_init fX0_init c5b34 c5a34
    simp (disch := simp only [mT_sI, mW_sI, mK_sI, mI_sI, mJ_sI, mR_sI, mT_sJ, mW_sJ, mK_sJ, mI_sJ, mJ_sJ, mR_sJ, mT_sR, mW_sR, mK_sR, mI_sR, mJ_sR, mR_sR, mT_gI, mW_gI, mK_gI, mI_gI, mJ_gI, mR_gI, mT_gJ, mW_gJ, mK_gJ, mI_gJ, mJ_gJ, mR_gJ, mT_wR, mW_wR, mK_wR, mI_wR, mJ_wR, mR_wR, mT_sN, mW_sN, mK_sN, mI_sN, mJ_sN, mR_sN, hT, hk, Nat.reduceAdd, Nat.reduceEqDiff, ↓reduceIte]) only [↓bkc, ↓bpI, ↓bpZ, ↓bpR, ↓bnO, ↓bnA8, ↓bnA24, ↓Option.bind_some, mT_sI, mW_sI, mK_sI, mI_sI, mJ_sI, mR_sI, mT_sJ, mW_sJ, mK_sJ, mI_sJ, mJ_sJ, mR_sJ, mT_sR, mW_sR, mK_sR, mI_sR, mJ_sR, mR_sR, mT_gI, mW_gI, mK_gI, mI_gI, mJ_gI, mR_gI, mT_gJ, mW_gJ, mK_gJ, mI_gJ, mJ_gJ, mR_gJ, mT_wR, mW_wR, mK_wR, mI_wR, mJ_wR, mR_wR, mT_sN, mW_sN, mK_sN, mI_sN, mJ_sN, mR_sN, hT, Nat.reduceAdd]
  rw [E, bnd1 (show fR (c5b34 (c5a34 M)) 5 34 10 = some 37 by unfold fR; rw [k0, r0]; rfl), bnd1 (show fI (c5b34 (c5a34 M)) 5 34 0 = some (nI 12) by unfold fI; rw [k0, i0]; rfl), bnd1 e2]
