/-! two ahead -/
theorem lw_2 : ∀ i, i < 8 → lw (2 ^ i) = i ∧ 2 ^ i &&& (2 ^ i - 1) = 0 ∧ 2 ^ i ≠ 0 ∧ 2 ^ i < 256 := by decide
theorem wo_2 {q : Nat → Nat} {i : Nat} (hi : i < 8) (r : Nat → Nat) : wo q 8 (2 ^ i) r = mx (mul q i true r) (q 56) + mx (mul q i false r) (q 56) := by
  obtain ⟨a, b, c, -⟩ := lw_2 i hi
  have e : wo q 8 (2 ^ i) r = wo q 7 (2 ^ i &&& (2 ^ i - 1)) (mul q (lw (2 ^ i)) true r) + wo q 7 (2 ^ i &&& (2 ^ i - 1)) (mul q (lw (2 ^ i)) false r) := if_neg c
  have z : ∀ r, wo q 7 0 r = mx r (q 56) := fun r => if_pos rfl
  rw [e, a, b, z, z]
theorem mx_mul (f : Nat → Nat) (k : Nat) : ∀ n, mx (fun c => f c * k) n = mx f n * k := by
  intro n
  induction n with
  | zero => exact (Nat.zero_mul k).symm
  | succ n ih =>
    show (if mx (fun c => f c * k) n < f n * k then f n * k else mx (fun c => f c * k) n) = (if mx f n < f n then f n else mx f n) * k
    rw [ih]
    by_cases z : mx f n < f n
    · rw [if_pos z]
      by_cases y : k = 0
      · subst y
        rw [Nat.mul_zero, Nat.mul_zero, if_neg (by omega)]
      · rw [if_pos (Nat.mul_lt_mul_of_pos_right z (by omega))]
    · rw [if_neg z]
      have := Nat.mul_le_mul (show f n ≤ mx f n by omega) (Nat.le_refl k)
      rw [if_neg (by omega)]
/-- the best one more behind an answer -/
def ma (q : Nat → Nat) (i : Nat) (r : Nat → Nat) : Nat → Nat
  | 0 => 10 * mx r (q 56)
  | n + 1 => if n = i then ma q i r n else if ma q i r n < wo q 8 (2 ^ n) r then wo q 8 (2 ^ n) r else ma q i r n
def aw (q : Nat → Nat) (od : Nat → Nat) (i : Nat) : Nat := ma q i (mul q i true od) (q 62) + ma q i (mul q i false od) (q 62)
theorem sm_mulb {q od : Nat → Nat} (hI : Inv q od) {g : Nat} (hg : g < q 62) (is : Bool) (r : Nat → Nat) (n : Nat) : sm (mul q g is r) n ≤ 10 * sm r n := sm_mul (fun c => by
  have := Nat.mul_le_mul_left (r c) (tms_le hI hg is c)
  show r c * _ ≤ _
  omega) n
theorem ma_le {q od : Nat → Nat} (hI : Inv q od) (i : Nat) (r : Nat → Nat) : ∀ n, n ≤ q 62 → ma q i r n ≤ 10 * sm r (q 56) := by
  have hq := hI.sg
  intro n
  induction n with
  | zero =>
    intro _
    have := mx_sm r (q 56)
    show 10 * mx r (q 56) ≤ _
    omega
  | succ n ih =>
    intro hn
    have a := ih (by omega)
    have b := wo_le hI 8 (2 ^ n) r (two_lt (show n < q 62 by omega)) (pc_le8 _ (lw_2 n (by omega)).2.2.2)
    rw [pc_2 n (by omega), Nat.pow_one] at b
    show (if n = i then ma q i r n else if ma q i r n < wo q 8 (2 ^ n) r then wo q 8 (2 ^ n) r else ma q i r n) ≤ _
    split
    · exact a
    · split <;> omega
theorem bmb13 {q od : Nat → Nat} (hI : Inv q od) {i : Nat} (hi : i < q 62) {r : Nat → Nat} (hb : ∀ c, r c * 10 < 9223372036854775808) (hs : 10 * sm r (q 56) < 9223372036854775808) : ∀ m n j (M : Mm), FIX M → OV q M → RV q 1 r M → m + j = q 62 → m < n →
    ∃ M', fX1_bestMoreBut_b13 n 41 (nI i) (lN (ma q i r j)) (nI j) M = some (lN (ma q i r (q 62)), M') ∧ Fr RLS [] M M' ∧ (mT M' = mT M ∧ mW M' = mW M) ∧ ∀ o, o ≤ 53 → mJ M' o = mJ M o := by
  have hq := hI.sg
  intro m
  induction m with
  | zero =>
    intro n j M hF hO hR hj hn
    obtain ⟨n, rfl⟩ : ∃ a, n = a + 1 := ⟨n - 1, by omega⟩
    exact ⟨M, by rw [fX1_bestMoreBut_b13, ib41 hF, hO.1, if_pos (by rw [le_nn (by omega) (by omega)]; omega), show j = q 62 by omega], Fr.rfl, ⟨rfl, rfl⟩, fun _ _ => rfl⟩
  | succ m ih =>
    intro n j M hF hO hR hj hn
    obtain ⟨n, rfl⟩ : ∃ a, n = a + 1 := ⟨n - 1, by omega⟩
    by_cases z : j = i
    · obtain ⟨M', a1, a2, a3, a4⟩ := ih n (j + 1) M hF hO hR (by omega) (by omega)
      refine ⟨M', ?_, a2, a3, a4⟩
      rw [show ma q i r (j + 1) = ma q i r j from if_pos z] at a1
      rw [fX1_bestMoreBut_b13, ib41 hF, hO.1, if_neg (by rw [le_nn (by omega) (by omega)]; omega), if_pos (by rw [z]), show nI j + (1 : Int32) = nI (j + 1) from add_nn j 1]
      exact a1
    · have l2' := lw_2 j (by omega)
      have b := wo_le hI 8 (2 ^ j) r (two_lt (show j < q 62 by omega)) (pc_le8 _ l2'.2.2.2)
      rw [pc_2 j (by omega), Nat.pow_one] at b
      have a := ma_le hI i r j (by omega)
      obtain ⟨M1, e1, f1, t1, o1⟩ := wb8 hI 8 31 (2 ^ j) 1 r M (two_lt (show j < q 62 by omega)) (pc_le8 _ l2'.2.2.2) (by rw [pc_2 j (by omega)]; decide) (fun c => by rw [pc_2 j (by omega), Nat.pow_one]; exact hb c) hF hO hR
      have hF1 := f1.fix hF
      obtain ⟨M', a1, a2, a3, a4⟩ := ih n (j + 1) M1 hF1 (hO.fr hF hq.1 f1) (fun c hc => by rw [o1 _ (by omega)]; exact hR c hc) (by omega) (by omega)
      refine ⟨M', ?_, f1.tr a2, ⟨a3.1.trans t1.1, a3.2.trans t1.2⟩, fun o ho => by rw [a4 o ho, o1 o (by omega)]⟩
      rw [show ma q i r (j + 1) = (if ma q i r j < wo q 8 (2 ^ j) r then wo q 8 (2 ^ j) r else ma q i r j) from if_neg z] at a1
      rw [fX1_bestMoreBut_b13, ib41 hF, hO.1, if_neg (by rw [le_nn (by omega) (by omega)]; omega), if_neg (by rw [eq_nn (by omega) (by omega)]; exact z), shl_n j (by omega), show (1 : Int32) = nI 1 from rfl, bnd1 e1]
      dsimp only
      rw [show nI j + nI 1 = nI (j + 1) from add_nn j 1]
      have em : mxJ (lN (ma q i r j)) (lN (wo q 8 (2 ^ j) r)) = lN (if ma q i r j < wo q 8 (2 ^ j) r then wo q 8 (2 ^ j) r else ma q i r j) := by
        unfold mxJ
        by_cases y : ma q i r j < wo q 8 (2 ^ j) r
        · rw [if_neg (show ¬ lN (wo q 8 (2 ^ j) r) < lN (ma q i r j) by rw [lt_LL (by omega) (by omega)]; omega), if_pos y]
        · rw [if_neg y]
          by_cases x : wo q 8 (2 ^ j) r < ma q i r j
          · rw [if_pos (show lN (wo q 8 (2 ^ j) r) < lN (ma q i r j) by rw [lt_LL (by omega) (by omega)]; exact x)]
          · rw [if_neg (show ¬ lN (wo q 8 (2 ^ j) r) < lN (ma q i r j) by rw [lt_LL (by omega) (by omega)]; exact x), show wo q 8 (2 ^ j) r = ma q i r j by omega]
      rw [em]
      exact a1
theorem bmb8 {q od : Nat → Nat} (hI : Inv q od) {i : Nat} (hi : i < q 62) {r : Nat → Nat} (hb : ∀ c, r c * 10 < 9223372036854775808) (hs : 10 * sm r (q 56) < 9223372036854775808) {M : Mm} (hF : FIX M) (hO : OV q M) (hR : RV q 1 r M) :
    ∃ M', fX1_bestMoreBut 41 (nI i) M = some (lN (ma q i r (q 62)), M') ∧ Fr RLS [] M M' ∧ (mT M' = mT M ∧ mW M' = mW M) ∧ ∀ o, o ≤ 53 → mJ M' o = mJ M o := by
  have hq := hI.sg
  obtain ⟨M', a1, a2, a3, a4⟩ := bmb13 hI hi hb hs (q 62) FU 0 M hF hO hR (Nat.add_zero _) (by unfold FU; omega)
  refine ⟨M', ?_, a2, a3, a4⟩
  unfold fX1_bestMoreBut
  rw [kb41 hF, show (1 : Int32) = nI 1 from rfl, bnd1 (gre8 hF (show 1 < 9 by decide) hO.2.1 hI.1.2 hR (fun c => by have := hb c; omega))]
  dsimp only
  rw [show (10 : Int64) = lN 10 from rfl, lN_mul, show (0 : Int32) = nI 0 from rfl]
  exact a1
theorem bot8 {q od : Nat → Nat} (hI : Inv q od) (hb : ∀ c, od c * 100 < 9223372036854775808) (hs : 200 * sm od (q 56) < 9223372036854775808) : ∀ m n i (M : Mm), FIX M → OV q M → RV q 0 od M → m + i = q 62 → m < n →
    ∃ M', fX1_bestOfTwo_b9 n 41 (eX1 (gi (aw q od) i)) (eX2 (gi (aw q od) i)) (nI i) M = some (eX1 (gi (aw q od) (q 62)), M') ∧ Fr RLS [] M M' ∧ (mT M' = mT M ∧ mW M' = mW M) := by
  have hq := hI.sg
  have al : ∀ i, i < q 62 → aw q od i < 9223372036854775808 := fun i hi => by
    have a := ma_le hI i (mul q i true od) (q 62) (Nat.le_refl _)
    have b := ma_le hI i (mul q i false od) (q 62) (Nat.le_refl _)
    have c := sm_mulb hI hi true od (q 56)
    have d := sm_mulb hI hi false od (q 56)
    unfold aw
    omega
  intro m
  induction m with
  | zero =>
    intro n i M hF hO hR hi hn
    obtain ⟨n, rfl⟩ : ∃ a, n = a + 1 := ⟨n - 1, by omega⟩
    exact ⟨M, by rw [fX1_bestOfTwo_b9, ib41 hF, hO.1, if_pos (by rw [le_nn (by omega) (by omega)]; omega), show i = q 62 by omega], Fr.rfl, ⟨rfl, rfl⟩⟩
  | succ m ih =>
    intro n i M hF hO hR hi hn
    obtain ⟨n, rfl⟩ : ∃ a, n = a + 1 := ⟨n - 1, by omega⟩
    have ii : i < q 62 := by omega
    have wi := al i ii
    have hb1 : ∀ b c, mul q i b od c * 10 < 9223372036854775808 := fun b c => by
      have t := tms_le hI ii b c
      have := Nat.mul_le_mul_left (od c) t
      have := hb c
      show od c * tms q i b c * 10 < _
      omega
    have hb0 : ∀ b c, mul q i b od c < 9223372036854775808 := fun b c => by have := hb1 b c; omega
    have hs1 : ∀ b, 10 * sm (mul q i b od) (q 56) < 9223372036854775808 := fun b => by
      have := sm_mulb hI ii b od (q 56)
      omega
    obtain ⟨a1, M1, e1, f1, t1, -, r1, o1⟩ := wei8 hI (show 0 < 8 by decide) ii true (hb0 true) hF hO hR
    have hF1 := f1.fix hF
    have hO1 := hO.fr hF hq.1 f1
    obtain ⟨M2, e2, f2, t2, o2⟩ := bmb8 hI ii (hb1 true) (hs1 true) hF1 hO1 r1
    have hF2 := f2.fix hF1
    have hO2 := hO1.fr hF1 hq.1 f2
    have hR2 : RV q 0 od M2 := fun c hc => by rw [o2 _ (by omega), o1 _ (by omega)]; exact hR c hc
    obtain ⟨a3, M3, e3, f3, t3, -, r3, o3⟩ := wei8 hI (show 0 < 8 by decide) ii false (hb0 false) hF2 hO2 hR2
    have hF3 := f3.fix hF2
    have hO3 := hO2.fr hF2 hq.1 f3
    obtain ⟨M4, e4, f4, t4, o4⟩ := bmb8 hI ii (hb1 false) (hs1 false) hF3 hO3 r3
    have hF4 := f4.fix hF3
    have hO4 := hO3.fr hF3 hq.1 f4
    obtain ⟨M', b1, b2, b3⟩ := ih n (i + 1) M4 hF4 hO4 (fun c hc => by rw [o4 _ (by omega), o3 _ (by omega)]; exact hR2 c hc) (by omega) (by omega)
    refine ⟨M', ?_, (((f1.tr f2).tr f3).tr f4).tr b2, ⟨(((b3.1.trans t4.1).trans t3.1).trans t2.1).trans t1.1, (((b3.2.trans t4.2).trans t3.2).trans t2.2).trans t1.2⟩⟩
    rw [fX1_bestOfTwo_b9, ib41 hF, hO.1, if_neg (by rw [le_nn (by omega) (by omega)]; omega), show (0 : Int32) = nI 0 from rfl, show (1 : Int32) = bI true from rfl, bnd1 e1]
    dsimp only
    rw [bnd1 e2]
    dsimp only
    rw [show fX1_weigh 41 (nI 0) (nI i) (nI 0) M2 = fX1_weigh 41 (nI 0) (nI i) (bI false) M2 from rfl, bnd1 e3]
    dsimp only
    rw [bnd1 e4]
    dsimp only
    rw [lN_add, show nI i + bI true = nI (i + 1) from add_nn i 1]
    have ea : ma q i (mul q i true od) (q 62) + ma q i (mul q i false od) (q 62) = aw q od i := rfl
    rw [ea]
    have ef : gi (aw q od) (i + 1) = (match gi (aw q od) i with
      | none => some (i, aw q od i)
      | some (b, s) => if s < aw q od i then some (i, aw q od i) else some (b, s)) := rfl
    rw [ef] at b1
    cases e : gi (aw q od) i with
    | none =>
      rw [e] at b1
      rw [if_neg (show ¬ lN (aw q od i) ≤ eX2 none from m1_le wi)]
      exact b1
    | some x =>
      obtain ⟨b, s⟩ := x
      have hs2 := gi_lt i b s e
      have hsb := al b (by omega)
      rw [e] at b1
      dsimp only at b1
      rw [hs2.2] at b1 ⊢
      by_cases y : aw q od b < aw q od i
      · have y2 : ¬ lN (aw q od i) ≤ lN (aw q od b) := by rw [le_LL wi hsb]; omega
        rw [if_pos y] at b1
        rw [if_neg (show ¬ lN (aw q od i) ≤ eX2 (some (b, aw q od b)) from y2)]
        exact b1
      · have y2 : lN (aw q od i) ≤ lN (aw q od b) := by rw [le_LL wi hsb]; omega
        rw [if_neg y] at b1
        rw [if_pos (show lN (aw q od i) ≤ eX2 (some (b, aw q od b)) from y2)]
        exact b1
