/-! the table of kinds above, as it stood before -/
def AB (A : Mm) : Prop := mK A 1 = (30, 7) ∧ mI A 1 0 = -nI 1 ∧ mI A 1 1 = nI 0 ∧ mI A 1 2 = nI 0 ∧ mI A 1 3 = nI 2 ∧ mI A 1 4 = nI 1 ∧ mI A 1 5 = nI 0 ∧ mI A 1 6 = nI 1
theorem AB.ro {A M : Mm} (h : AB A) (r : RO A M) : AB M := by
  obtain ⟨a, b, -⟩ := r 1 (by decide)
  unfold AB
  rw [a, b]
  exact h
theorem ab1 {β : Type} {M : Mm} (h : AB M) {i : Nat} (hi : i < 7) (f : Int32 → Option β) : Option.bind (aI M 1 (nI i)) f = f (mI M 1 i) := by
  have hc := nI_clamp (show i < 2 ^ 31 by omega)
  refine bnd1 ?_ f
  unfold aI
  rw [if_pos (by rw [h.1, hc]; exact ⟨Or.inr rfl, nI_pos (by omega), hi⟩), hc]
/-- what a kind is of -/
def iso (k w : Nat) : Bool := k == w || w == 0 || (w == 1 && (k == 4 || k == 6)) || (w == 2 && k == 3)
theorem iso_st {M : Mm} (hB : AB M) (n : Nat) {w k l : Nat} (hw : w ≤ 6) (hk : k < 7) (hl : l < 7) : fX4_isOf_b7 (n + 1) (nI w) (nI k) (nI l) M = if k = w then some (nI 1, M) else fX4_isOf_b7 n (nI w) (mI M 1 k) (nI (l + 1)) M := by
  rw [fX4_isOf_b7]
  simp (disch := first | assumption | omega | (simp only [FIX_sI, FIX_sJ, FIX_gI, FIX_gJ]; assumption)) only [l0, l1, l7, le_nn, lt_nn, eq_nn, add_nn, show ¬ 7 ≤ l by omega, show ¬ 7 ≤ k by omega, Nat.not_lt_zero, ↓reduceIte, ↓ab1 hB]
theorem iso_en {M : Mm} (n : Nat) {w l : Nat} (hl : l < 7) : fX4_isOf_b7 (n + 1) (nI w) (-nI 1) (nI l) M = some (nI 0, M) := by
  have hm : -nI 1 < nI 0 := mi_lt (by decide) (by decide)
  rw [fX4_isOf_b7]
  simp (disch := first | assumption | omega | (simp only [FIX_sI, FIX_sJ, FIX_gI, FIX_gJ]; assumption)) only [l0, l7, le_nn, show ¬ 7 ≤ l by omega, hm, ↓reduceIte]
theorem isOf8 {M : Mm} (h : AB M) {r i : Nat} {q : Nat → Nat} (g : Sg M r i q) {k w : Nat} (hk : q i = k) (k6 : k ≤ 6) (w6 : w ≤ 6) : fX4_isOf r (nI w) M = some (if iso k w = true then nI 1 else nI 0, M) := by
  obtain ⟨g1, g2, g3, g4, g5, g6, g7, g9⟩ := g
  rw [hk] at g5
  have hB := h
  obtain ⟨a, a0, a1, a2, a3, a4, a5, a6⟩ := h
  have kb : ∀ {β : Type} (f : Unit → Option β), Option.bind (kc M 4 r) f = f () := fun f => bnd1 (by unfold kc; rw [g3]; rfl) f
  have e0 : ∀ n l, l < 6 → fX4_isOf_b7 (n + 2) (nI w) (nI 0) (nI l) M = if 0 = w then some (nI 1, M) else some (nI 0, M) := fun n l hl => by
    rw [iso_st hB (n + 1) w6 (by omega) (by omega), a0, iso_en n (by omega)]
  have e1 : ∀ n l, l < 5 → fX4_isOf_b7 (n + 3) (nI w) (nI 1) (nI l) M = if 1 = w then some (nI 1, M) else if 0 = w then some (nI 1, M) else some (nI 0, M) := fun n l hl => by
    rw [iso_st hB (n + 2) w6 (by omega) (by omega), a1, e0 n _ (by omega)]
  have e2 : ∀ n l, l < 5 → fX4_isOf_b7 (n + 3) (nI w) (nI 2) (nI l) M = if 2 = w then some (nI 1, M) else if 0 = w then some (nI 1, M) else some (nI 0, M) := fun n l hl => by
    rw [iso_st hB (n + 2) w6 (by omega) (by omega), a2, e0 n _ (by omega)]
  unfold fX4_isOf
  rw [kb, ibG g3, g5, FUv, show (0 : Int32) = nI 0 from rfl]
  have hk : k = 0 ∨ k = 1 ∨ k = 2 ∨ k = 3 ∨ k = 4 ∨ k = 5 ∨ k = 6 := by omega
  have hw : w = 0 ∨ w = 1 ∨ w = 2 ∨ w = 3 ∨ w = 4 ∨ w = 5 ∨ w = 6 := by omega
  have fin : fX4_isOf_b7 2000 (nI w) (nI k) (nI 0) M = if k = w then some (nI 1, M) else if w = 0 ∨ (w = 1 ∧ (k = 4 ∨ k = 6)) ∨ (w = 2 ∧ k = 3) then some (nI 1, M) else some (nI 0, M) := by
    rcases hk with rfl | rfl | rfl | rfl | rfl | rfl | rfl
    · rw [e0 1998 0 (by decide)]
      by_cases z : 0 = w
      · rw [if_pos z, if_pos z]
      · rw [if_neg z, if_neg z, if_neg (by omega)]
    · rw [e1 1997 0 (by decide)]
      by_cases z : 1 = w
      · rw [if_pos z, if_pos z]
      · rw [if_neg z, if_neg z]
        by_cases y : 0 = w
        · rw [if_pos y, if_pos (by omega)]
        · rw [if_neg y, if_neg (by omega)]
    · rw [e2 1997 0 (by decide)]
      by_cases z : 2 = w
      · rw [if_pos z, if_pos z]
      · rw [if_neg z, if_neg z]
        by_cases y : 0 = w
        · rw [if_pos y, if_pos (by omega)]
        · rw [if_neg y, if_neg (by omega)]
    · rw [iso_st hB 1999 w6 (by omega) (by omega), a3, e2 1996 _ (by omega)]
      by_cases z : 3 = w
      · rw [if_pos z, if_pos z]
      · rw [if_neg z, if_neg z]
        by_cases y : 2 = w
        · rw [if_pos y, if_pos (by omega)]
        · rw [if_neg y]
          by_cases x : 0 = w
          · rw [if_pos x, if_pos (by omega)]
          · rw [if_neg x, if_neg (by omega)]
    · rw [iso_st hB 1999 w6 (by omega) (by omega), a4, e1 1996 _ (by omega)]
      by_cases z : 4 = w
      · rw [if_pos z, if_pos z]
      · rw [if_neg z, if_neg z]
        by_cases y : 1 = w
        · rw [if_pos y, if_pos (by omega)]
        · rw [if_neg y]
          by_cases x : 0 = w
          · rw [if_pos x, if_pos (by omega)]
          · rw [if_neg x, if_neg (by omega)]
    · rw [iso_st hB 1999 w6 (by omega) (by omega), a5, e0 1997 _ (by omega)]
      by_cases z : 5 = w
      · rw [if_pos z, if_pos z]
      · rw [if_neg z, if_neg z]
        by_cases y : 0 = w
        · rw [if_pos y, if_pos (by omega)]
        · rw [if_neg y, if_neg (by omega)]
    · rw [iso_st hB 1999 w6 (by omega) (by omega), a6, e1 1996 _ (by omega)]
      by_cases z : 6 = w
      · rw [if_pos z, if_pos z]
      · rw [if_neg z, if_neg z]
        by_cases y : 1 = w
        · rw [if_pos y, if_pos (by omega)]
        · rw [if_neg y]
          by_cases x : 0 = w
          · rw [if_pos x, if_pos (by omega)]
          · rw [if_neg x, if_neg (by omega)]
  rw [fin]
  rcases hk with rfl | rfl | rfl | rfl | rfl | rfl | rfl
  all_goals rcases hw with rfl | rfl | rfl | rfl | rfl | rfl | rfl
  all_goals rfl
/-- bits of a byte -/
def pc (b : Nat) : Nat := b % 2 + b / 2 % 2 + b / 4 % 2 + b / 8 % 2 + b / 16 % 2 + b / 32 % 2 + b / 64 % 2 + b / 128 % 2
def bcv (x0 : Int32) : Int32 :=
  let v1 := x0 - (((x0.toUInt32 >>> (((1 : Int32)).toUInt32 &&& Int32.toUInt32 31)).toInt32) &&& ((1431655765 : Int32)))
  let v2 := (v1 &&& ((858993459 : Int32))) + (((v1.toUInt32 >>> (((2 : Int32)).toUInt32 &&& Int32.toUInt32 31)).toInt32) &&& ((858993459 : Int32)))
  let v3 := (v2 + ((v2.toUInt32 >>> (((4 : Int32)).toUInt32 &&& Int32.toUInt32 31)).toInt32)) &&& ((252645135 : Int32))
  let v4 := (v3 + ((v3.toUInt32 >>> (((8 : Int32)).toUInt32 &&& Int32.toUInt32 31)).toInt32)) + (((v3 + ((v3.toUInt32 >>> (((8 : Int32)).toUInt32 &&& Int32.toUInt32 31)).toInt32)).toUInt32 >>> (((16 : Int32)).toUInt32 &&& Int32.toUInt32 31)).toInt32)
  v4 &&& ((63 : Int32))
theorem bc8 (x : Int32) (M : Mm) : fJ6_bitCount_0f7a4 x M = some (bcv x, M) := rfl
theorem bc_n {b : Nat} (h : b < 256) : bcv (nI b) = nI (pc b) := by
  have : ∀ b : Fin 256, bcv (nI b.val) = nI (pc b.val) := by decide +kernel
  exact this ⟨b, h⟩
