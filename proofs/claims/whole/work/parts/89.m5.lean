/-! over -/
def dv (l s r : Nat) : Nat → Nat → Nat
  | 0, a => if a = 0 then 1 else 0
  | n + 1, a => l * dv l s r n a + s * (if 1 ≤ a then dv l s r n (a - 1) else 0) + r * (if 2 ≤ a then dv l s r n (a - 2) else 0)
theorem dv_0 {l s r : Nat} : ∀ n a, 2 * n < a → dv l s r n a = 0 := by
  intro n
  induction n with
  | zero => intro a h; exact if_neg (by omega)
  | succ n ih =>
    intro a h
    show l * dv l s r n a + s * (if 1 ≤ a then dv l s r n (a - 1) else 0) + r * (if 2 ≤ a then dv l s r n (a - 2) else 0) = 0
    rw [ih a (by omega), if_pos (by omega), ih (a - 1) (by omega), if_pos (by omega), ih (a - 2) (by omega)]
    rfl
/-- the same as the reference has it: about ten -/
def dr9 (l s r n i : Nat) : Nat := if 10 ≤ i + n then dv l s r n (i + n - 10) else 0
theorem dr9_s {l s r n i : Nat} (hi : 1 ≤ i) : dr9 l s r (n + 1) i = dr9 l s r n i * s + dr9 l s r n (i + 1) * l + dr9 l s r n (i - 1) * r := by
  unfold dr9
  by_cases a : 10 ≤ i + (n + 1)
  · rw [if_pos a, if_pos (show 10 ≤ i + 1 + n by omega)]
    show l * dv l s r n (i + (n + 1) - 10) + s * (if 1 ≤ i + (n + 1) - 10 then dv l s r n (i + (n + 1) - 10 - 1) else 0) + r * (if 2 ≤ i + (n + 1) - 10 then dv l s r n (i + (n + 1) - 10 - 2) else 0) = _
    rw [show i + 1 + n - 10 = i + (n + 1) - 10 by omega]
    by_cases b : 10 ≤ i + n
    · rw [if_pos b, if_pos (show 1 ≤ i + (n + 1) - 10 by omega), show i + (n + 1) - 10 - 1 = i + n - 10 by omega]
      by_cases c : 10 ≤ i - 1 + n
      · rw [if_pos c, if_pos (show 2 ≤ i + (n + 1) - 10 by omega), show i + (n + 1) - 10 - 2 = i - 1 + n - 10 by omega, Nat.mul_comm l, Nat.mul_comm s, Nat.mul_comm r]
        omega
      · rw [if_neg c, if_neg (show ¬ 2 ≤ i + (n + 1) - 10 by omega), Nat.mul_comm l, Nat.mul_comm s]
        omega
    · rw [if_neg b, if_neg (show ¬ 1 ≤ i + (n + 1) - 10 by omega), if_neg (show ¬ 10 ≤ i - 1 + n by omega), if_neg (show ¬ 2 ≤ i + (n + 1) - 10 by omega), Nat.mul_comm l]
      omega
  · rw [if_neg a, if_neg (show ¬ 10 ≤ i + n by omega), if_neg (show ¬ 10 ≤ i + 1 + n by omega), if_neg (show ¬ 10 ≤ i - 1 + n by omega)]
    omega
theorem dA8 {M : Mm} (hF : FIX M) {i : Nat} (hi : i < 19) : fX8_driftAt 20 (nI i) M = some (mJ M 63 i, M) := by
  have e : aL M 63 = some (nI 19) := by unfold aL; rw [K63 hF]; rfl
  unfold fX8_driftAt
  rw [kb20 hF, if_neg (nI_pos (by omega)), rb20_9 hF, bnd1 e, if_pos (by rw [lt_nn (by omega) (by decide)]; exact hi), rb20_9 hF, ab63 hF hi]
theorem dA8n {M : Mm} (hF : FIX M) {x : Int32} (hx : x < nI 0) : fX8_driftAt 20 x M = some (lN 0, M) := by
  unfold fX8_driftAt
  rw [kb20 hF, if_pos (show x < 0 from hx)]
  rfl
theorem dr41 (K : Nat → Int32 → Int32 → Int32 → Int32 → Int32 → Int32 → Mm → Option (Int64 × Mm)) {l s r n : Nat} (hl : l ≤ 10) (hs : s ≤ 10) (hr : r ≤ 10) (x1 x4 : Int32) (x6 : Int32) : ∀ i m (N : Mm), FIX N → i < 19 → (∀ y, y < 19 → mJ N 63 y = lN (if i < y then dv l s r (n + 1) y else dv l s r n y)) →
    ∃ N', fX8_driftedBy_b41 K (m + i + 2) 20 x1 (nI l) (nI r) x4 (nI s) x6 (nI i) N = K 20 x1 (nI l) (nI r) x4 (nI s) (x6 + 1) N' ∧ Fr [63] [] N N' ∧ (mT N' = mT N ∧ mW N' = mW N) ∧ ∀ y, y < 19 → mJ N' 63 y = lN (dv l s r (n + 1) y) := by
  have stp : ∀ i (N : Mm), FIX N → i < 19 → (∀ y, y < 19 → mJ N 63 y = lN (if i < y then dv l s r (n + 1) y else dv l s r n y)) → ∀ m, fX8_driftedBy_b41 K (m + 1) 20 x1 (nI l) (nI r) x4 (nI s) x6 (nI i) N = fX8_driftedBy_b41 K m 20 x1 (nI l) (nI r) x4 (nI s) x6 (nI i + -1) (sJ N 63 i (lN (dv l s r (n + 1) i))) := fun i N hF hi g m => by
    have e0 := dA8 hF hi
    rw [g i hi, if_neg (Nat.lt_irrefl _)] at e0
    have e1 : fX8_driftAt 20 (nI i - 1) N = some (lN (if 1 ≤ i then dv l s r n (i - 1) else 0), N) := by
      by_cases z : 1 ≤ i
      · rw [l1, sub_nn z, dA8 hF (by omega), g (i - 1) (by omega), if_neg (by omega), if_pos z]
      · rw [l1, sub_mi (by omega), dA8n hF (mi_lt (by omega) (by omega)), if_neg z]
    have e2 : fX8_driftAt 20 (nI i - 2) N = some (lN (if 2 ≤ i then dv l s r n (i - 2) else 0), N) := by
      by_cases z : 2 ≤ i
      · rw [l2, sub_nn z, dA8 hF (by omega), g (i - 2) (by omega), if_neg (by omega), if_pos z]
      · rw [l2, sub_mi (by omega), dA8n hF (mi_lt (by omega) (by omega)), if_neg z]
    rw [fX8_driftedBy_b41, if_neg (nI_pos (by omega)), rb20_9 hF, bnd1 e0]
    dsimp only
    rw [bnd1 e1]
    dsimp only
    rw [bnd1 e2]
    dsimp only
    rw [nI_l (show l < 2 ^ 31 by omega), nI_l (show s < 2 ^ 31 by omega), nI_l (show r < 2 ^ 31 by omega), lN_mul, lN_mul, lN_mul, lN_add, lN_add, tb63 hF hi]
    rfl
  intro i
  induction i with
  | zero =>
    intro m N hF hi g
    refine ⟨sJ N 63 0 (lN (dv l s r (n + 1) 0)), ?_, Fr.oJ _ _ List.mem_cons_self, ⟨mT_sJ _ _ _ _, mW_sJ _ _ _ _⟩, fun y hy => ?_⟩
    · rw [show m + 0 + 2 = (m + 1) + 1 by omega, stp 0 N hF hi g, fX8_driftedBy_b41, if_pos (by decide)]
    · rw [mJ_sJ]
      by_cases z : y = 0
      · rw [if_pos ⟨rfl, z⟩, z]
      · rw [if_neg (fun w => z w.2), g y hy, if_pos (by omega)]
  | succ i ih =>
    intro m N hF hi g
    obtain ⟨N', a1, a2, a3, a4⟩ := ih m (sJ N 63 (i + 1) (lN (dv l s r (n + 1) (i + 1)))) (by simp only [FIX_sI, FIX_sJ, FIX_gI, FIX_gJ]; exact hF) (by omega) (fun y hy => by
      rw [mJ_sJ]
      by_cases z : y = i + 1
      · rw [if_pos ⟨rfl, z⟩, z, if_pos (by omega)]
      · rw [if_neg (fun w => z w.2), g y hy]
        by_cases w : i + 1 < y
        · rw [if_pos w, if_pos (by omega)]
        · rw [if_neg w, if_neg (by omega)])
    refine ⟨N', ?_, (Fr.oJ _ _ List.mem_cons_self).tr a2, ⟨by rw [a3.1, mT_sJ], by rw [a3.2, mW_sJ]⟩, a4⟩
    rw [show m + (i + 1) + 2 = (m + i + 2) + 1 by omega, stp (i + 1) N hF hi g, show nI (i + 1) + -1 = nI i from by rw [← add_nn i 1]; show nI i + nI 1 + -nI 1 = nI i; rw [Int32.add_assoc, show nI 1 + -nI 1 = nI 0 by decide, add_nn]; rfl]
    exact a1
theorem dr26 {l s r w : Nat} (hl : l ≤ 10) (hs : s ≤ 10) (hr : r ≤ 10) (hw : w ≤ 9) {x4 : Int32} {j : Nat} (hj : j ≤ 2 * w) (hx : nI w + x4 = nI j) : ∀ d m n (N : Mm), FIX N → (∀ y, y < 19 → mJ N 63 y = lN (dv l s r n y)) → d + n = w →
    ∃ N', fX8_driftedBy_b26 (m + d + 1) 20 (nI w) (nI l) (nI r) x4 (nI s) (nI n) N = some (lN (dv l s r w j), N') ∧ Fr [63] [] N N' ∧ (mT N' = mT N ∧ mW N' = mW N) := by
  intro d
  induction d with
  | zero =>
    intro m n N hF g hn
    refine ⟨N, ?_, Fr.rfl, ⟨rfl, rfl⟩⟩
    rw [fX8_driftedBy_b26, if_pos (by rw [le_nn (by omega) (by omega)]; omega), hx, bnd1 (dA8 hF (by omega)), g j (by omega), show n = w by omega]
  | succ d ih =>
    intro m n N hF g hn
    have e : aL N 63 = some (nI 19) := by unfold aL; rw [K63 hF]; rfl
    obtain ⟨N1, a1, a2, a3, a4⟩ := dr41 (fX8_driftedBy_b26 (m + d + 1)) (n := n) hl hs hr (nI w) x4 (nI n) 18 1980 N hF (by decide) (fun y hy => by rw [if_neg (by omega)]; exact g y hy)
    obtain ⟨N', b1, b2, b3⟩ := ih m (n + 1) N1 (a2.fix hF) a4 (by omega)
    refine ⟨N', ?_, a2.tr b2, ⟨b3.1.trans a3.1, b3.2.trans a3.2⟩⟩
    rw [show m + (d + 1) + 1 = (m + d + 1) + 1 by omega, fX8_driftedBy_b26, if_neg (by rw [le_nn (by omega) (by omega)]; omega), rb20_9 hF, bnd1 e, show nI 19 - 1 = nI 18 by decide]
    refine Eq.trans a1 ?_
    rw [show nI n + (1 : Int32) = nI (n + 1) from add_nn n 1]
    exact b1
theorem drf8 {M : Mm} (hF : FIX M) {l r w : Nat} (hlr : l + r ≤ 10) (hw : w ≤ 9) {x4 : Int32} {j : Nat} (hj : j ≤ 2 * w) (hx : nI w + x4 = nI j) : ∃ N', fX8_driftedBy 20 (nI w) (nI l) (nI r) x4 M = some (lN (dv l (10 - l - r) r w j), N') ∧ Fr [63] [] M N' ∧ (mT N' = mT M ∧ mW N' = mW M) := by
  have ef := fill (a := 63) (L := 19) (v := 0) (by decide) M (K63 hF)
  obtain ⟨N, hN⟩ : ∃ N, N = gJ M 63 0 19 (fun _ => 0) := ⟨_, rfl⟩
  rw [← hN] at ef
  have hFN : FIX N := by rw [hN, FIX_gJ]; exact hF
  have f1 : Fr [63] [] M N := by rw [hN]; exact Fr.gJ _ _ _ List.mem_cons_self
  obtain ⟨N2, hN2⟩ : ∃ N2, N2 = sJ N 63 0 1 := ⟨_, rfl⟩
  have hF2 : FIX N2 := by rw [hN2, FIX_sJ]; exact hFN
  have f2 : Fr [63] [] N N2 := by rw [hN2]; exact Fr.oJ _ _ List.mem_cons_self
  obtain ⟨N', a1, a2, a3⟩ := dr26 (l := l) (s := 10 - l - r) (r := r) (w := w) (by omega) (by omega) (by omega) hw hj hx w (1999 - w) 0 N2 hF2 (fun y hy => by
    rw [hN2, mJ_sJ]
    by_cases z : y = 0
    · rw [if_pos ⟨rfl, z⟩, z]; rfl
    · rw [if_neg (fun w => z w.2), hN, mJ_gJ, if_pos ⟨rfl, Nat.zero_le _, hy⟩, show dv l (10 - l - r) r 0 y = 0 from if_neg z]; rfl) (Nat.add_zero _)
  rw [show 1999 - w + w + 1 = FU by unfold FU; omega] at a1
  refine ⟨N', ?_, (f1.tr f2).tr a2, ⟨by rw [a3.1, hN2, mT_sJ, hN, mT_gJ], by rw [a3.2, hN2, mW_sJ, hN, mW_gJ]⟩⟩
  unfold fX8_driftedBy
  rw [kb20 hF, rb20_9 hF, bnd1 ef, rb20_9 hFN, show (0 : Int32) = nI 0 from rfl, tb63 hFN (by decide), ← hN2, l10, sub_nn (by omega), sub_nn (by omega)]
  exact a1
