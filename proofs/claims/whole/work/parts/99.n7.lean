/-! the least row -/
theorem pc_T : ∀ T, T ≤ 8 → ∀ S, S < 2 ^ T → pc S ≤ T := by decide +kernel
def rch (q od : Nat → Nat) (t S : Nat) : Bool := if pc S = 0 then decide (t * sm od 24 ≤ wo q 8 S od * 10) else decide (t * sm od 24 * 10 ^ (pc S - 1) ≤ wo q 8 S od)
/-- the one that is looked for -/
def CH (q od : Nat → Nat) (t B : Nat) : Option Nat → Prop
  | none => ∀ S, S < B → rch q od t S = false
  | some b => b < B ∧ rch q od t b = true ∧ ∀ S, S < B → rch q od t S = true → pc b < pc S ∨ (pc b = pc S ∧ b ≤ S)
theorem CH.one {q od : Nat → Nat} {t B : Nat} {r1 r2 : Option Nat} (h1 : CH q od t B r1) (h2 : CH q od t B r2) : r1 = r2 := by
  cases r1 with
  | none =>
    cases r2 with
    | none => rfl
    | some b =>
      have := h1 b h2.1
      rw [h2.2.1] at this
      cases this
  | some a =>
    cases r2 with
    | none =>
      have := h2 a h1.1
      rw [h1.2.1] at this
      cases this
    | some b =>
      have x := h1.2.2 b h2.1 h2.2.1
      have y := h2.2.2 a h1.1 h1.2.1
      rw [show a = b by omega]
theorem rch_b {q od : Nat → Nat} (hI : Inv q od) (h9 : q 64 ≤ 9) {t : Nat} (ht : t ≤ 10) {S : Nat} (hS : S < 2 ^ q 62) : (∀ c, od c * 10 ^ pc S < 9223372036854775808) ∧ (pc S = 0 → wo q 8 S od * 10 < 9223372036854775808) ∧ t * sm od 24 < 9223372036854775808 ∧ wo q 8 S od < 9223372036854775808 ∧ ∀ m, m + 1 ≤ pc S → t * sm od 24 * 10 ^ m < 9223372036854775808 := by
  have hq := hI.sg
  have h8 : 2 ^ q 62 ≤ 2 ^ 8 := Nat.pow_le_pow_right (by decide) hq.1
  have p8 := pc_le8 S (by omega)
  have w := hI.w17 (k := pc S) (by omega)
  have wl := wo_le hI 8 S od hS p8
  have sl := hI.smL
  have s9 : sm od 24 ≤ 24000000000 := by
    have := hI.2.2.2.2.2.2.2.2.2.2.2.2.2.2
    have := Nat.mul_le_mul (Nat.le_refl 24) (Nat.pow_le_pow_right (show 0 < 10 by decide) h9)
    omega
  have ts : t * sm od 24 ≤ 10 * sm od 24 := Nat.mul_le_mul ht (Nat.le_refl _)
  refine ⟨w.2, fun z => ?_, by omega, by have := w.1; omega, fun m hm => ?_⟩
  · rw [z, Nat.pow_zero, Nat.mul_one, sl] at wl
    omega
  · have a : t * sm od 24 * 10 ^ m ≤ 10 * sm od 24 * 10 ^ 7 := Nat.mul_le_mul ts (Nat.pow_le_pow_right (by decide) (by omega))
    have b : 10 * sm od 24 * 10 ^ 7 ≤ 10 * 24000000000 * 10 ^ 7 := Nat.mul_le_mul (Nat.mul_le_mul (Nat.le_refl 10) s9) (Nat.le_refl _)
    have c : 10 * 24000000000 * 10 ^ 7 = 2400000000000000000 := by decide
    omega
theorem rea43 (M : Mm) {s : Nat} (hs : s ≤ 8) {W : Nat} (hW : W < 9223372036854775808) : ∀ m n k w, m + k = s → m < n → (∀ j, j ≤ m → w * 10 ^ j < 9223372036854775808) → fX1_reaches_b43 n (nI s) (lN W) (lN w) (nI k) M = some (bI (decide (w * 10 ^ m ≤ W)), M) := by
  intro m
  induction m with
  | zero =>
    intro n k w hk hn hb
    obtain ⟨n, rfl⟩ : ∃ a, n = a + 1 := ⟨n - 1, by omega⟩
    have b0 := hb 0 (Nat.le_refl _)
    rw [Nat.pow_zero, Nat.mul_one] at b0
    rw [fX1_reaches_b43, if_pos (by rw [le_nn (by omega) (by omega)]; omega), Nat.pow_zero, Nat.mul_one]
    by_cases z : w ≤ W
    · rw [if_neg (by rw [lt_LL hW b0]; omega), decide_eq_true z]
      rfl
    · rw [if_pos (by rw [lt_LL hW b0]; omega), decide_eq_false z]
      rfl
  | succ m ih =>
    intro n k w hk hn hb
    obtain ⟨n, rfl⟩ : ∃ a, n = a + 1 := ⟨n - 1, by omega⟩
    have e : w * 10 ^ (m + 1) = w * 10 * 10 ^ m := by rw [Nat.pow_succ, Nat.mul_comm (10 ^ m) 10, Nat.mul_assoc]
    rw [fX1_reaches_b43, if_neg (by rw [le_nn (by omega) (by omega)]; omega), show (10 : Int64) = lN 10 from rfl, lN_mul, show nI k + (1 : Int32) = nI (k + 1) from add_nn k 1, ih n (k + 1) (w * 10) (by omega) (by omega) (fun j hj => by
      have := hb (j + 1) (by omega)
      rw [Nat.pow_succ, Nat.mul_comm (10 ^ j) 10, ← Nat.mul_assoc] at this
      exact this), e]
theorem rea8' {q od : Nat → Nat} (hI : Inv q od) (h9 : q 64 ≤ 9) {t : Nat} (ht : t ≤ 10) {S : Nat} (hS : S < 2 ^ q 62) {M : Mm} (hF : FIX M) (hO : OV q M) (hR : RV q 0 od M) :
    ∃ M', fX1_reaches 41 (nI S) (nI (pc S)) (nI t) (lN (sm od 24)) M = some (bI (rch q od t S), M') ∧ Fr RLS [] M M' ∧ (mT M' = mT M ∧ mW M' = mW M) ∧ ∀ o, o ≤ 52 → mJ M' o = mJ M o := by
  have hq := hI.sg
  have h8 : 2 ^ q 62 ≤ 2 ^ 8 := Nat.pow_le_pow_right (by decide) hq.1
  have p8 := pc_le8 S (by omega)
  obtain ⟨b1, b2, b3, b4, b5⟩ := rch_b hI h9 ht hS
  obtain ⟨M', e1, f1, t1, o1⟩ := wor8 hF hI hO hR hS b1
  refine ⟨M', ?_, f1, t1, o1⟩
  unfold fX1_reaches rch
  rw [kb41 hF, show (0 : Int32) = nI 0 from rfl, bnd1 e1]
  dsimp only
  rw [nI_l (show t < 2 ^ 31 by omega), lN_mul, show (10 : Int64) = lN 10 from rfl, lN_mul]
  by_cases z : pc S = 0
  · have c2 := b2 z
    rw [if_pos (by rw [z]), if_pos z]
    by_cases y : t * sm od 24 ≤ wo q 8 S od * 10
    · rw [if_neg (by rw [lt_LL c2 b3]; omega), decide_eq_true y]
      rfl
    · rw [if_pos (by rw [lt_LL c2 b3]; omega), decide_eq_false y]
      rfl
  · rw [if_neg (by rw [eq_nn (by omega) (by decide)]; exact z), if_neg z, show (1 : Int32) = nI 1 from rfl]
    exact rea43 M' p8 b4 (pc S - 1) FU 1 (t * sm od 24) (by omega) (by unfold FU; omega) (fun j hj => b5 j (by omega))
theorem few15 {q od : Nat → Nat} (hI : Inv q od) (h9 : q 64 ≤ 9) {t : Nat} (ht : t ≤ 10) {k3 : Nat → Int32 → Int64 → Int32 → Mm → Option (Int32 × Mm)} {s : Nat} (hs : s ≤ 8) : ∀ d n S (M : Mm), FIX M → OV q M → RV q 0 od M → d + S = 2 ^ q 62 → d < n → (∀ S', S' < S → rch q od t S' = true → pc S' ≠ s) →
    ∃ M', Fr RLS [] M M' ∧ (mT M' = mT M ∧ mW M' = mW M) ∧ (∀ o, o ≤ 52 → mJ M' o = mJ M o) ∧ ((∃ b, fX1_fewestFor_b15 k3 n 41 (nI t) (lN (sm od 24)) (nI s) (nI S) M = some (nI b, M') ∧ b < 2 ^ q 62 ∧ rch q od t b = true ∧ pc b = s ∧ ∀ S', S' < b → rch q od t S' = true → pc S' ≠ s) ∨ (fX1_fewestFor_b15 k3 n 41 (nI t) (lN (sm od 24)) (nI s) (nI S) M = k3 41 (nI t) (lN (sm od 24)) (nI (s + 1)) M' ∧ ∀ S', S' < 2 ^ q 62 → rch q od t S' = true → pc S' ≠ s)) := by
  have hq := hI.sg
  have h8 : 2 ^ q 62 ≤ 2 ^ 8 := Nat.pow_le_pow_right (by decide) hq.1
  have sh := shl_n (q 62) hq.1
  intro d
  induction d with
  | zero =>
    intro n S M hF hO hR hd hn hp
    obtain ⟨n, rfl⟩ : ∃ a, n = a + 1 := ⟨n - 1, by omega⟩
    refine ⟨M, Fr.rfl, ⟨rfl, rfl⟩, fun _ _ => rfl, Or.inr ⟨?_, fun S' hS' => hp S' (by omega)⟩⟩
    rw [fX1_fewestFor_b15, ib41 hF, hO.1, sh, if_pos (by rw [le_nn (by omega) (by omega)]; omega), show nI s + (1 : Int32) = nI (s + 1) from add_nn s 1]
  | succ d ih =>
    intro n S M hF hO hR hd hn hp
    obtain ⟨n, rfl⟩ : ∃ a, n = a + 1 := ⟨n - 1, by omega⟩
    have hS : S < 2 ^ q 62 := by omega
    have p8 := pc_le8 S (by omega)
    have pb : fJ6_bitCount_0f7a4 (nI S) M = some (nI (pc S), M) := by rw [bc8, bc_n (by omega)]
    have stp : fX1_fewestFor_b15 k3 (n + 1) 41 (nI t) (lN (sm od 24)) (nI s) (nI S) M = if nI (pc S) = nI s then (Option.bind (fX1_reaches 41 (nI S) (nI s) (nI t) (lN (sm od 24)) M) fun q3 => if q3.1 = 0 then fX1_fewestFor_b15 k3 n 41 (nI t) (lN (sm od 24)) (nI s) (nI (S + 1)) q3.2 else some (nI S, q3.2)) else fX1_fewestFor_b15 k3 n 41 (nI t) (lN (sm od 24)) (nI s) (nI (S + 1)) M := by
      rw [fX1_fewestFor_b15, ib41 hF, hO.1, sh, if_neg (by rw [le_nn (by omega) (by omega)]; omega), bnd1 pb]
      dsimp only
      rw [show nI S + (1 : Int32) = nI (S + 1) from add_nn S 1]
    by_cases z : pc S = s
    · obtain ⟨M1, e1, f1, t1, o1⟩ := rea8' hI h9 ht hS hF hO hR
      have hF1 := f1.fix hF
      rw [z] at e1
      rw [z, if_pos rfl, bnd1 e1] at stp
      dsimp only at stp
      cases hr : rch q od t S with
      | true =>
        rw [hr, if_neg (bI_t rfl)] at stp
        exact ⟨M1, f1, t1, o1, Or.inl ⟨S, stp, hS, hr, z, hp⟩⟩
      | false =>
        rw [hr, if_pos (bI_f rfl)] at stp
        obtain ⟨M', a1, a2, a3, a4⟩ := ih n (S + 1) M1 hF1 (hO.fr hF hq.1 f1) (fun c hc => by rw [o1 _ (by omega)]; exact hR c hc) (by omega) (by omega) (fun S' hS' hr' => by
          by_cases y : S' = S
          · rw [y, hr] at hr'
            cases hr'
          · exact hp S' (by omega) hr')
        rw [stp]
        exact ⟨M', f1.tr a1, ⟨a2.1.trans t1.1, a2.2.trans t1.2⟩, fun o ho => by rw [a3 o ho, o1 o ho], a4⟩
    · rw [if_neg (by rw [eq_nn (by omega) (by omega)]; exact z)] at stp
      rw [stp]
      exact ih n (S + 1) M hF hO hR (by omega) (by omega) (fun S' hS' hr' => by
        by_cases y : S' = S
        · rw [y]; exact z
        · exact hp S' (by omega) hr')
theorem few3 {q od : Nat → Nat} (hI : Inv q od) (h9 : q 64 ≤ 9) {t : Nat} (ht : t ≤ 10) : ∀ d n s (M : Mm), FIX M → OV q M → RV q 0 od M → d + s = q 62 + 1 → d < n → (∀ S', S' < 2 ^ q 62 → rch q od t S' = true → s ≤ pc S') →
    ∃ r M', fX1_fewestFor_b3 n 41 (nI t) (lN (sm od 24)) (nI s) M = some (eX3 r, M') ∧ Fr RLS [] M M' ∧ (mT M' = mT M ∧ mW M' = mW M) ∧ CH q od t (2 ^ q 62) r := by
  have hq := hI.sg
  have h8 : 2 ^ q 62 ≤ 2 ^ 8 := Nat.pow_le_pow_right (by decide) hq.1
  intro d
  induction d with
  | zero =>
    intro n s M hF hO hR hd hn hp
    obtain ⟨n, rfl⟩ : ∃ a, n = a + 1 := ⟨n - 1, by omega⟩
    refine ⟨none, M, ?_, Fr.rfl, ⟨rfl, rfl⟩, fun S hS => ?_⟩
    · rw [fX1_fewestFor_b3, ib41 hF, hO.1, if_pos (by rw [lt_nn (by omega) (by omega)]; omega)]
      rfl
    · cases hr : rch q od t S with
      | false => rfl
      | true =>
        have a := hp S hS hr
        have b := pc_T (q 62) hq.1 S hS
        omega
  | succ d ih =>
    intro n s M hF hO hR hd hn hp
    obtain ⟨n, rfl⟩ : ∃ a, n = a + 1 := ⟨n - 1, by omega⟩
    obtain ⟨M1, a1, a2, a3, a4⟩ := few15 hI h9 ht (k3 := fX1_fewestFor_b3 n) (s := s) (by omega) (2 ^ q 62) FU 0 M hF hO hR (Nat.add_zero _) (by unfold FU; omega) (fun S' h => absurd h (Nat.not_lt_zero _))
    have hF1 := a1.fix hF
    have stp : fX1_fewestFor_b3 (n + 1) 41 (nI t) (lN (sm od 24)) (nI s) M = fX1_fewestFor_b15 (fX1_fewestFor_b3 n) FU 41 (nI t) (lN (sm od 24)) (nI s) (nI 0) M := by
      rw [fX1_fewestFor_b3, ib41 hF, hO.1, if_neg (by rw [lt_nn (by omega) (by omega)]; omega)]
      rfl
    rw [stp]
    rcases a4 with ⟨b, e, hb, hr, hpb, hmin⟩ | ⟨e, hno⟩
    · refine ⟨some b, M1, e, a1, a2, hb, hr, fun S hS hrS => ?_⟩
      have := hp S hS hrS
      by_cases y : pc S = s
      · right
        refine ⟨by omega, ?_⟩
        by_cases x : S < b
        · exact absurd y (hmin S x hrS)
        · omega
      · left
        omega
    · rw [e]
      obtain ⟨r, M', c1, c2, c3, c4⟩ := ih n (s + 1) M1 hF1 (hO.fr hF hq.1 a1) (fun c hc => by rw [a3 _ (by omega)]; exact hR c hc) (by omega) (by omega) (fun S' hS' hr' => by
        have := hp S' hS' hr'
        have := hno S' hS' hr'
        omega)
      exact ⟨r, M', c1, a1.tr c2, ⟨c3.1.trans a2.1, c3.2.trans a2.2⟩, c4⟩
