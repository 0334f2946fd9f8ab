/-! a street read from a row: the letters, the numbers -/
theorem mI_at (M : Mm) (a k : Nat) (v : Int32) : mI (sI M a k v) a k = v := by rw [mI_sI, if_pos ⟨rfl, rfl⟩]
theorem sI_self {M : Mm} {a k : Nat} {v : Int32} (h : mI M a k = v) : sI M a k v = M := Ieta (funext fun x => funext fun j => by
  unfold u2
  by_cases e : x = a ∧ j = k
  · rw [if_pos e, e.1, e.2, h]
  · rw [if_neg e])
theorem sI_sI (M : Mm) (a k : Nat) (v w : Int32) : sI (sI M a k v) a k w = sI M a k w := by
  have : u2 (mI (sI M a k v)) a k w = u2 (mI M) a k w := by
    funext x j
    unfold u2
    rw [mI_sI]
    by_cases e : x = a ∧ j = k
    · rw [if_pos e, if_pos e]
    · rw [if_neg e, if_neg e, if_neg e]
  unfold sI at this ⊢
  rw [this]
  rfl
theorem sI_comm {M : Mm} {a i b j : Nat} (h : ¬ (a = b ∧ i = j)) (v w : Int32) : sI (sI M a i v) b j w = sI (sI M b j w) a i v := by
  have : u2 (mI (sI M a i v)) b j w = u2 (mI (sI M b j w)) a i v := by
    funext x y
    unfold u2
    rw [mI_sI, mI_sI]
    by_cases e : x = b ∧ y = j
    · rw [if_pos e, if_neg (by omega), if_pos e]
    · rw [if_neg e, if_neg e]
  show (mT (sI M a i v), mW (sI M a i v), mK (sI M a i v), u2 (mI (sI M a i v)) b j w, mJ (sI M a i v), mR (sI M a i v)) = (mT (sI M b j w), mW (sI M b j w), mK (sI M b j w), u2 (mI (sI M b j w)) a i v, mJ (sI M b j w), mR (sI M b j w))
  rw [this]
  simp only [mT_sI, mW_sI, mK_sI, mI_sI, mJ_sI, mR_sI, mT_sJ, mW_sJ, mK_sJ, mI_sJ, mJ_sJ, mR_sJ, mT_sR, mW_sR, mK_sR, mI_sR, mJ_sR, mR_sR, mT_gI, mW_gI, mK_gI, mI_gI, mJ_gI, mR_gI, mT_gJ, mW_gJ, mK_gJ, mI_gJ, mJ_gJ, mR_gJ, mT_wR, mW_wR, mK_wR, mI_wR, mJ_wR, mR_wR]
theorem sI_four {M : Mm} {a i j : Nat} (h : i ≠ j) (v w x y : Int32) : sI (sI (sI (sI M a i v) a j w) a i x) a j y = sI (sI M a i x) a j y := by
  rw [sI_comm (a := a) (i := j) (b := a) (j := i) (by omega), sI_sI, sI_sI]
/-- a digit at p -/
abbrev dgt (R : Nat → Int32) (n p : Nat) : Prop := p < n ∧ ¬ R p < nI 48 ∧ ¬ nI 57 < R p
def dvl (R : Nat → Int32) (p : Nat) : Nat := (R p).toNatClampNeg - 48
theorem dgt_v {R : Nat → Int32} {n p : Nat} (h : dgt R n p) : dvl R p ≤ 9 ∧ R p = nI (48 + dvl R p) := by
  obtain ⟨-, h1, h2⟩ := h
  rcases n_cases (R p) with c | ⟨j, hj, e⟩
  · exact absurd (by rw [ng_lt2 c (by decide)]; trivial) h1
  · rw [e, lt_nn hj (by decide)] at h1
    rw [e, lt_nn (by decide) hj] at h2
    unfold dvl
    rw [e, nI_clamp hj]
    refine ⟨by omega, ?_⟩
    rw [show 48 + (j - 48) = j by omega]
def nme (R : Nat → Int32) (n : Nat) : Nat → Nat → Nat → Nat × Nat
  | 0, p, v => (p, v)
  | k + 1, p, v => if dgt R n p then nme R n k (p + 1) (10 * v + dvl R p) else (p, v)
theorem nme_b (R : Nat → Int32) (n : Nat) : ∀ k p v, p ≤ (nme R n k p v).1 ∧ (nme R n k p v).1 ≤ p + k ∧ (p ≤ n → (nme R n k p v).1 ≤ n) ∧ (nme R n k p v).2 < (v + 1) * 10 ^ k := by
  intro k
  induction k with
  | zero => intro p v; exact ⟨Nat.le_refl _, Nat.le_refl _, id, by show v < (v + 1) * 1; omega⟩
  | succ k ih =>
    intro p v
    unfold nme
    by_cases c : dgt R n p
    · rw [if_pos c]
      have := ih (p + 1) (10 * v + dvl R p)
      have hd := (dgt_v c).1
      have hp := c.1
      obtain ⟨a, b, d, e⟩ := this
      refine ⟨by omega, by omega, fun _ => d (by omega), Nat.lt_of_lt_of_le e ?_⟩
      calc (10 * v + dvl R p + 1) * 10 ^ k ≤ ((v + 1) * 10) * 10 ^ k := Nat.mul_le_mul_right _ (by omega)
        _ = (v + 1) * 10 ^ (k + 1) := by rw [Nat.pow_succ, Nat.mul_assoc, Nat.mul_comm 10]
    · rw [if_neg c]
      refine ⟨Nat.le_refl _, by show p ≤ _; omega, id, ?_⟩
      show v < (v + 1) * 10 ^ (k + 1)
      exact Nat.lt_of_lt_of_le (Nat.lt_succ_self v) (Nat.le_mul_of_pos_right _ (Nat.pow_pos (by decide)))
theorem nme_ne {R : Nat → Int32} {n p : Nat} (h : dgt R n p) : p < (nme R n 3 p 0).1 := by
  show p < (if dgt R n p then nme R n 2 (p + 1) (10 * 0 + dvl R p) else (p, 0)).1
  rw [if_pos h]
  exact (nme_b R n 2 (p + 1) _).1
theorem nme_eq {R : Nat → Int32} {n p : Nat} (h : ¬ dgt R n p) : nme R n 3 p 0 = (p, 0) := by
  show (if dgt R n p then nme R n 2 (p + 1) (10 * 0 + dvl R p) else (p, 0)) = _
  rw [if_neg h]
/-- a number in lo..hi at p -/
def nOk (R : Nat → Int32) (n p lo hi : Nat) : Prop := dgt R n p ∧ lo ≤ (nme R n 3 p 0).2 ∧ (nme R n 3 p 0).2 ≤ hi
def nP (R : Nat → Int32) (n p : Nat) : Nat := (nme R n 3 p 0).1
def nV (R : Nat → Int32) (n p : Nat) : Nat := (nme R n 3 p 0).2
abbrev sp (R : Nat → Int32) (n p : Nat) : Prop := p < n ∧ R p = nI 32
theorem nV_lt (R : Nat → Int32) (n p : Nat) : nV R n p < 1000 := (nme_b R n 3 p 0).2.2.2
theorem nP_b (R : Nat → Int32) (n p : Nat) : p ≤ nP R n p ∧ nP R n p ≤ p + 3 ∧ (p ≤ n → nP R n p ≤ n) := ⟨(nme_b R n 3 p 0).1, (nme_b R n 3 p 0).2.1, (nme_b R n 3 p 0).2.2.1⟩
/-! the class's reader, cell r -/
def ltr (R : Nat → Int32) (n p : Nat) : Int32 := if p < n then R p else -nI 1
def RdK (r s n : Nat) (R : Nat → Int32) (M : Mm) : Prop := (107 ≤ r ∧ s < 8 ∧ n ≤ 160) ∧ (mK M r = (3, 0) ∧ mR M r 0 = some (64 + 2 * s) ∧ mR M r 1 = some 28) ∧ mI M (64 + 2 * s) 1 = nI n ∧ ∀ y, y < 160 → (mJ M (65 + 2 * s) y).toInt32 = R y
theorem RdK.sI {r s n : Nat} {R : Nat → Int32} {M : Mm} (h : RdK r s n R M) (k : Nat) (v : Int32) : RdK r s n R (sI M r k v) := by
  obtain ⟨⟨a, b, c⟩, d, e, f⟩ := h
  exact ⟨⟨a, b, c⟩, d, by rw [mI_sI, if_neg (by omega)]; exact e, f⟩
theorem kbR {β : Type} {r s n : Nat} {R : Nat → Int32} {M : Mm} (h : RdK r s n R M) (f : Unit → Option β) : Option.bind (kc M 2 r) f = f () := bnd1 (by unfold kc; rw [h.2.1.1]; rfl) f
theorem ibR {β : Type} {r s n : Nat} {R : Nat → Int32} {M : Mm} (h : RdK r s n R M) (k : Nat) (f : Int32 → Option β) : Option.bind (fI M 2 r k) f = f (mI M r k) := bnd1 (by unfold fI; rw [h.2.1.1]; rfl) f
theorem pbR {β : Type} {r s n : Nat} {R : Nat → Int32} {M : Mm} (h : RdK r s n R M) (k : Nat) (v : Int32) (f : Mm → Option β) : Option.bind (pI M 2 r k v) f = f (sI M r k v) := bnd1 (by unfold pI; rw [h.2.1.1]; rfl) f
theorem rbR0 {β : Type} {r s n : Nat} {R : Nat → Int32} {M : Mm} (h : RdK r s n R M) (f : Nat → Option β) : Option.bind (fR M 2 r 0) f = f (64 + 2 * s) := bnd1 (by unfold fR; rw [h.2.1.1, h.2.1.2.1]; rfl) f
theorem rbR1 {β : Type} {r s n : Nat} {R : Nat → Int32} {M : Mm} (h : RdK r s n R M) (f : Nat → Option β) : Option.bind (fR M 2 r 1) f = f 28 := bnd1 (by unfold fR; rw [h.2.1.1, h.2.1.2.2]; rfl) f
theorem let8 {r s n p : Nat} {R : Nat → Int32} {M : Mm} (hF : FIX M) (h : RdK r s n R M) (hp : p < 2147483648) (e : mI M r 2 = nI p) : fX2_letter r M = some (ltr R n p, M) := by
  obtain ⟨h1, h2, h3⟩ := h.1
  unfold fX2_letter ltr
  rw [kbR h, ibR h, rbR0 h, ibH hF h2, e, h.2.2.1]
  by_cases c : p < n
  · rw [if_neg (by rw [le_nn (by omega) (by omega)]; omega), ibR h, e, if_neg (by rw [l160, le_nn (by omega) (by omega)]; omega), rbR0 h, rbH hF h2, ibR h, e, abH hF h2 (show p < 160 by omega), h.2.2.2 p (by omega), if_pos c]
  · rw [if_pos (by rw [le_nn (by omega) (by omega)]; omega), if_neg c]
    rfl
theorem ltr_eq {R : Nat → Int32} {n p k : Nat} (hk : k < 2147483648) : ltr R n p = nI k ↔ p < n ∧ R p = nI k := by
  unfold ltr
  by_cases c : p < n
  · rw [if_pos c]; exact ⟨fun z => ⟨c, z⟩, fun z => z.2⟩
  · rw [if_neg c]
    exact ⟨fun z => by rw [mi_ne2 hk (by decide) (by decide)] at z; exact z.elim, fun z => absurd z.1 c⟩
theorem ltr_dg (R : Nat → Int32) (n p : Nat) : dgt R n p ↔ ¬ ltr R n p < nI 48 ∧ ¬ nI 57 < ltr R n p := by
  unfold ltr
  by_cases c : p < n
  · rw [if_pos c]; exact ⟨fun z => z.2, fun z => ⟨c, z⟩⟩
  · rw [if_neg c]
    exact ⟨fun z => absurd z.1 c, fun z => absurd (show -nI 1 < nI 48 by decide) z.1⟩
theorem pas8 {r s n p k : Nat} {R : Nat → Int32} {M : Mm} (hF : FIX M) (h : RdK r s n R M) (hp : p < 2147483648) (e : mI M r 2 = nI p) (hk : k < 2147483648) : fX2_pass r (nI k) M = some (if p < n ∧ R p = nI k then sI M r 2 (nI (p + 1)) else sI M r 3 (nI p)) := by
  unfold fX2_pass
  rw [kbR h, bnd1 (let8 hF h hp e)]
  dsimp only
  by_cases c : p < n ∧ R p = nI k
  · rw [if_pos ((ltr_eq hk).mpr c), ibR h, pbR h, if_pos c, e, l1, add_nn]
  · rw [if_neg (fun z => c ((ltr_eq hk).mp z)), ibR h, pbR h, if_neg c, e]
theorem FIXr {M : Mm} (h : FIX M) (a k : Nat) (v : Int32) : FIX (sI M a k v) := by rw [FIX_sI]; exact h
theorem rnL {r s n : Nat} {R : Nat → Int32} (x1 x2 x3 : Int32) : ∀ k m c p v (M : Mm), FIX M → RdK r s n R M → mI M r 2 = nI p → c + k = 3 → p < 2000 →
    fX2_readNumber_b35 (m + k + 1) r x1 x2 x3 (nI v) (nI c) M = fX2_readNumber_b90 r x1 x2 x3 (nI (nme R n k p v).2) (sI M r 2 (nI (nme R n k p v).1)) := by
  intro k
  induction k with
  | zero =>
    intro m c p v M hF h e hc hp
    rw [fX2_readNumber_b35, if_pos (by rw [l3, le_nn (by decide) (by omega)]; omega), sI_self (show mI M r 2 = nI (nme R n 0 p v).1 from e)]
    rfl
  | succ k ih =>
    intro m c p v M hF h e hc hp
    have e1 := let8 hF h (show p < 2147483648 by omega) e
    rw [show m + (k + 1) + 1 = (m + k + 1) + 1 by omega, fX2_readNumber_b35, if_neg (by rw [l3, le_nn (by decide) (by omega)]; omega), bnd1 e1]
    dsimp only
    have E : nme R n (k + 1) p v = if dgt R n p then nme R n k (p + 1) (10 * v + dvl R p) else (p, v) := rfl
    by_cases d : dgt R n p
    · have hn := h.1.2.2
      have hpn := d.1
      have d2 := (ltr_dg R n p).mp d
      have dv := dgt_v d
      have dl : ltr R n p = nI (48 + dvl R p) := by unfold ltr; rw [if_pos d.1]; exact dv.2
      rw [E, if_pos d, if_neg (show ¬ ltr R n p < 48 from d2.1), bnd1 e1]
      dsimp only
      rw [if_neg (show ¬ 57 < ltr R n p from d2.2), bnd1 e1]
      dsimp only
      rw [ibR h, pbR h, e, l1, add_nn, dl, l10, l48, mul_nn, add_nn, sub_nn (by omega), add_nn, show 10 * v + (48 + dvl R p) - 48 = 10 * v + dvl R p by omega,
        ih m (c + 1) (p + 1) (10 * v + dvl R p) (sI M r 2 (nI (p + 1))) (FIXr hF _ _ _) (h.sI _ _) (by rw [mI_sI, if_pos ⟨rfl, rfl⟩]) (by omega) (by omega), sI_sI]
    · rw [E, if_neg d, sI_self e]
      by_cases d1 : ltr R n p < 48
      · rw [if_pos d1]
      · rw [if_neg d1, bnd1 e1]
        dsimp only
        have d2 : 57 < ltr R n p := by
          by_cases z : 57 < ltr R n p
          · exact z
          · exact absurd ((ltr_dg R n p).mpr ⟨d1, z⟩) d
        rw [if_pos d2]
/-- a number read -/
theorem rnO {r s n p lo hi : Nat} {R : Nat → Int32} {M : Mm} (hF : FIX M) (h : RdK r s n R M) (e : mI M r 2 = nI p) (e3 : mI M r 3 = -nI 1) (hp : p ≤ 200) (hs : sp R n p) (hl : lo < 1000) (hh : hi < 1000) (ok : nOk R n (p + 1) lo hi) :
    fX2_readNumber r (nI lo) (nI hi) M = some (nI (nV R n (p + 1)), sI M r 2 (nI (nP R n (p + 1)))) := by
  have hF1 := FIXr hF r 2 (nI (p + 1))
  have h1 := h.sI 2 (nI (p + 1))
  have b := nme_b R n 3 (p + 1) 0
  have v3 : (nme R n 3 (p + 1) 0).2 < 1000 := nV_lt R n (p + 1)
  have E2 : mI (sI M r 2 (nI (p + 1))) r 2 = nI (p + 1) := by rw [mI_sI, if_pos ⟨rfl, rfl⟩]
  have E3 : mI (sI M r 2 (nI (p + 1))) r 3 = -nI 1 := by rw [mI_sI, if_neg (by omega)]; exact e3
  have L := rnL (r := r) (s := s) (n := n) (R := R) (nI lo) (nI hi) (nI (p + 1)) 3 1996 0 (p + 1) 0 _ hF1 h1 E2 (by decide) (by omega)
  unfold fX2_readNumber
  rw [kbR h, ibR h, e3, if_pos (show -nI 1 = (-1 : Int32) by decide), l32, bnd1 (pas8 hF h (show p < 2147483648 by omega) e (by decide)), if_pos hs]
  unfold fX2_readNumber_b14
  rw [ibR h1, E3, if_pos (show -nI 1 = (-1 : Int32) by decide), ibR h1, E2]
  refine Eq.trans L ?_
  unfold fX2_readNumber_b90
  have h2 := h1.sI 2 (nI (nme R n 3 (p + 1) 0).1)
  have n1 := nme_ne ok.1
  rw [ibR h2, mI_at, if_neg (by rw [eq_nn (by omega) (by omega)]; omega), if_neg (by rw [lt_nn (by omega) (by omega)]; have := ok.2.1; omega), if_pos (by rw [le_nn (by omega) (by omega)]; exact ok.2.2), sI_sI]
  rfl
def ft (R : Nat → Int32) (n p : Nat) : Nat := if p < n ∧ R p = nI 32 then p + 1 else p
theorem rnX {r s n p lo hi : Nat} {R : Nat → Int32} {M : Mm} (hF : FIX M) (h : RdK r s n R M) (e : mI M r 2 = nI p) (e3 : mI M r 3 = -nI 1) (hp : p ≤ 200) (hl : lo < 1000) (hh : hi < 1000) (bad : ¬ (sp R n p ∧ nOk R n (p + 1) lo hi)) :
    ∃ v x, fX2_readNumber r (nI lo) (nI hi) M = some (v, sI (sI M r 2 x) r 3 (nI (ft R n p))) := by
  by_cases hs : sp R n p
  rotate_left
  · refine ⟨nI lo, nI p, ?_⟩
    have h1 := h.sI 3 (nI p)
    unfold fX2_readNumber
    rw [kbR h, ibR h, e3, if_pos (show -nI 1 = (-1 : Int32) by decide), l32, bnd1 (pas8 hF h (show p < 2147483648 by omega) e (by decide)), if_neg hs]
    unfold fX2_readNumber_b14
    rw [ibR h1, mI_at, if_neg (show ¬ nI p = (-1 : Int32) by rw [show (-1 : Int32) = -nI 1 from by decide]; rw [mi_ne (by omega) (by decide) (by decide)]; exact id), sI_self e]
    unfold ft
    rw [if_neg hs]
  have hF1 := FIXr hF r 2 (nI (p + 1))
  have h1 := h.sI 2 (nI (p + 1))
  have b := nme_b R n 3 (p + 1) 0
  have v3 : (nme R n 3 (p + 1) 0).2 < 1000 := nV_lt R n (p + 1)
  have E2 : mI (sI M r 2 (nI (p + 1))) r 2 = nI (p + 1) := by rw [mI_sI, if_pos ⟨rfl, rfl⟩]
  have E3 : mI (sI M r 2 (nI (p + 1))) r 3 = -nI 1 := by rw [mI_sI, if_neg (by omega)]; exact e3
  have L := rnL (r := r) (s := s) (n := n) (R := R) (nI lo) (nI hi) (nI (p + 1)) 3 1996 0 (p + 1) 0 _ hF1 h1 E2 (by decide) (by omega)
  refine ⟨nI (nme R n 3 (p + 1) 0).2, nI (nme R n 3 (p + 1) 0).1, ?_⟩
  unfold fX2_readNumber
  rw [kbR h, ibR h, e3, if_pos (show -nI 1 = (-1 : Int32) by decide), l32, bnd1 (pas8 hF h (show p < 2147483648 by omega) e (by decide)), if_pos hs]
  unfold fX2_readNumber_b14
  rw [ibR h1, E3, if_pos (show -nI 1 = (-1 : Int32) by decide), ibR h1, E2]
  refine Eq.trans L ?_
  unfold fX2_readNumber_b90
  have h2 := h1.sI 2 (nI (nme R n 3 (p + 1) 0).1)
  have ef : ft R n p = p + 1 := if_pos hs
  rw [ibR h2, mI_at, ef, pbR h2, sI_sI]
  by_cases d : dgt R n (p + 1)
  · have n1 := nme_ne d
    rw [if_neg (by rw [eq_nn (by omega) (by omega)]; omega)]
    by_cases c1 : (nme R n 3 (p + 1) 0).2 < lo
    · rw [if_pos (by rw [lt_nn (by omega) (by omega)]; exact c1)]
    · rw [if_neg (by rw [lt_nn (by omega) (by omega)]; exact c1), if_neg (by rw [le_nn (by omega) (by omega)]; intro z; exact bad ⟨hs, d, by omega, z⟩)]
  · rw [if_pos (by rw [nme_eq d])]
theorem rnF {r s n f : Nat} {R : Nat → Int32} {M : Mm} (h : RdK r s n R M) (e3 : mI M r 3 = nI f) (hf : f < 2147483648) (x1 x2 : Int32) : fX2_readNumber r x1 x2 M = some (x1, M) := by
  have nf : ¬ nI f = (-1 : Int32) := show ¬ nI f = -nI 1 by rw [mi_ne hf (by decide) (by decide)]; exact id
  unfold fX2_readNumber
  rw [kbR h, ibR h, e3, if_neg nf]
  unfold fX2_readNumber_b14
  rw [ibR h, e3, if_neg nf]
