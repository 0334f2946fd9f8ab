/-! worth, the reference -/
theorem Inv.w17 {q od : Nat → Nat} (hI : Inv q od) {k : Nat} (hk : q 64 + k ≤ 17) : sm od (q 56) * 10 ^ k ≤ 2400000000000000000 ∧ ∀ c, od c * 10 ^ k < 9223372036854775808 := by
  have hs := hI.2.2.2.2.2.2.2.2.2.2.2.2.2.2
  have hL := hI.1
  have e : sm od 24 * 10 ^ k ≤ 2400000000000000000 := by
    refine Nat.le_trans (Nat.mul_le_mul hs (Nat.le_refl _)) ?_
    rw [Nat.mul_assoc, ← Nat.pow_add]
    exact Nat.le_trans (Nat.mul_le_mul (Nat.le_refl 24) (Nat.pow_le_pow_right (show 0 < 10 by decide) hk)) (by decide)
  refine ⟨by rw [hI.smL]; exact e, fun c => ?_⟩
  by_cases z : c < 24
  · have := Nat.mul_le_mul (sm_le od 24 z) (Nat.le_refl (10 ^ k))
    omega
  · rw [hI.od0 c (by omega), Nat.zero_mul]
    decide
theorem cd_mono {p : Nat → Bool} {a : Nat} : ∀ d, cd p a ≤ cd p (a + d) := by
  intro d
  induction d with
  | zero => exact Nat.le_refl _
  | succ d ih =>
    show cd p a ≤ (if p (a + d) then 1 else 0) + cd p (a + d)
    omega
theorem wt_le {q od : Nat → Nat} (hI : Inv q od) {S Y : Nat} {r : Nat → Nat} {c : Nat} : ∀ n, n ≤ q 62 → wt q S Y r c n ≤ r c * 10 ^ cd (fun j => S.testBit j) n := by
  intro n
  induction n with
  | zero => intro _; exact Nat.le_of_eq (Nat.mul_one _).symm
  | succ n ih =>
    intro hn
    have t := tms_le hI (show n < q 62 by omega) (Y.testBit n) c
    show (if S.testBit n then wt q S Y r c n * tms q n (Y.testBit n) c else wt q S Y r c n) ≤ r c * 10 ^ ((if S.testBit n then 1 else 0) + cd (fun j => S.testBit j) n)
    cases S.testBit n
    · rw [if_neg (by decide), if_neg (by decide), Nat.zero_add]
      exact ih (by omega)
    · rw [if_pos rfl, if_pos rfl, Nat.add_comm 1, Nat.pow_succ, ← Nat.mul_assoc]
      exact Nat.mul_le_mul (ih (by omega)) t
theorem wt_b {q od : Nat → Nat} (hI : Inv q od) {S Y : Nat} (hS : S < 256) {r : Nat → Nat} {c : Nat} (hb : r c * 10 ^ pc S < 9223372036854775808) {n : Nat} (hn : n ≤ q 62) : wt q S Y r c n < 9223372036854775808 := by
  have hq := hI.sg
  refine Nat.lt_of_le_of_lt (Nat.le_trans (wt_le hI n hn) ?_) hb
  refine Nat.mul_le_mul (Nat.le_refl _) (Nat.pow_le_pow_right (by decide) ?_)
  rw [pc_cd8 S hS]
  have := cd_mono (p := fun i => S.testBit i) (a := n) (8 - n)
  rw [show n + (8 - n) = 8 by omega] at this
  exact this
theorem wt_z {q : Nat → Nat} {S Y : Nat} {r : Nat → Nat} {c n : Nat} (h : wt q S Y r c n = 0) : ∀ d, wt q S Y r c (n + d) = 0 := by
  intro d
  induction d with
  | zero => exact h
  | succ d ih =>
    show (if S.testBit (n + d) then wt q S Y r c (n + d) * _ else wt q S Y r c (n + d)) = 0
    rw [ih]
    split
    · exact Nat.zero_mul _
    · rfl
theorem pw9 {M : Mm} (hF : FIX M) {q od : Nat → Nat} {sd : Int32} (h : MD q od sd M) (hI : Inv q od) {S Y : Nat} (hS : S < 256) (hY : Y < 256) {c : Nat} (hc : c < 24) (hb : od c * 10 ^ pc S < 9223372036854775808) {k5 : Nat → Int32 → Int64 → Int32 → Mm → Option (Int64 × Mm)} {k11 : Nat → Int32 → Int64 → Int32 → Int64 → Int32 → Mm → Option (Int64 × Mm)} {x2 x5 : Int64} : ∀ m n i, m + i = q 62 → m < n →
    fX9_worthOf_b32 k5 k11 n 80 (nI S) x2 (nI Y) x5 (nI c) (lN (wt q S Y od c i)) (nI i) M = fX9_worthOf_b104 k5 k11 80 (nI S) x2 (nI Y) x5 (nI c) (lN (wt q S Y od c (q 62))) M := by
  have hq := hI.sg
  intro m
  induction m with
  | zero =>
    intro n i hi hn
    obtain ⟨n, rfl⟩ : ∃ a, n = a + 1 := ⟨n - 1, by omega⟩
    rw [fX9_worthOf_b32, ib80 hF, h.f62, if_pos (by rw [le_nn (by omega) (by omega)]; omega), show i = q 62 by omega]
  | succ m ih =>
    intro n i hi hn
    obtain ⟨n, rfl⟩ : ∃ a, n = a + 1 := ⟨n - 1, by omega⟩
    have hn2 := ih n (i + 1) (by omega) (by omega)
    have wb := wt_b hI (Y := Y) hS hb (show i ≤ q 62 by omega)
    have tl := tn_le hI (show i < q 62 by omega) c
    rw [fX9_worthOf_b32, ib80 hF, h.f62, if_neg (by rw [le_nn (by omega) (by omega)]; omega)]
    by_cases z : wt q S Y od c i = 0
    · have e := wt_z z (q 62 - i)
      rw [show i + (q 62 - i) = q 62 by omega] at e
      rw [if_pos (by rw [lN0, le_LL wb (by decide)]; omega), z, e]
    · rw [if_neg (by rw [lN0, le_LL wb (by decide)]; omega), tb_n S hS i (by omega)]
      cases e : S.testBit i
      · rw [show wt q S Y od c (i + 1) = wt q S Y od c i from if_neg (show ¬ S.testBit i = true by rw [e]; decide)] at hn2
        rw [show (false).toNat = 0 from rfl, if_pos (show nI 0 = 0 from rfl), show nI i + (1 : Int32) = nI (i + 1) from add_nn i 1]
        exact hn2
      · rw [show wt q S Y od c (i + 1) = wt q S Y od c i * tms q i (Y.testBit i) c from if_pos e] at hn2
        rw [show (true).toNat = 1 from rfl, if_neg (show ¬ nI 1 = 0 by decide), bnd1 (ten9 hF h hI (show i < q 62 by omega) hc)]
        dsimp only
        rw [tb_n Y hY i (by omega)]
        unfold fX9_worthOf_b95
        rw [show nI i + (1 : Int32) = nI (i + 1) from add_nn i 1]
        cases e2 : Y.testBit i
        · rw [show (false).toNat = 0 from rfl, if_neg (show ¬ nI 0 = 1 by decide), l10, sub_nn tl, nI_l (show 10 - tn q i c < 2 ^ 31 by omega), lN_mul]
          rw [e2] at hn2
          exact hn2
        · rw [show (true).toNat = 1 from rfl, if_pos (show nI 1 = 1 from rfl), nI_l (show tn q i c < 2 ^ 31 by omega), lN_mul]
          rw [e2] at hn2
          exact hn2
theorem mx_b {f : Nat → Nat} {B : Nat} (hB : 0 < B) (h : ∀ c, f c < B) : ∀ n, mx f n < B := by
  intro n
  induction n with
  | zero => exact hB
  | succ n ih =>
    show (if mx f n < f n then f n else mx f n) < B
    have := h n
    split <;> omega
theorem b11w {M : Mm} (hF : FIX M) {q od : Nat → Nat} {sd : Int32} (h : MD q od sd M) (hI : Inv q od) {S Y : Nat} (hS : S < 256) (hY : Y < 256) (hb : ∀ c, od c * 10 ^ pc S < 9223372036854775808) {k5 : Nat → Int32 → Int64 → Int32 → Mm → Option (Int64 × Mm)} {x2 : Int64} : ∀ m n c, m + c = q 56 → m < n →
    fX9_worthOf_b11 k5 n 80 (nI S) x2 (nI Y) (lN (mx (fun c => wt q S Y od c (q 62)) c)) (nI c) M = if Y = 0 then some (x2 + lN (FW q S od (q 62) Y), M) else k5 80 (nI S) (x2 + lN (FW q S od (q 62) Y)) (nI ((Y - 1) &&& S)) M := by
  have hL := hI.1
  have hq := hI.sg
  have wb : ∀ c, wt q S Y od c (q 62) < 9223372036854775808 := fun c => wt_b hI hS (hb c) (Nat.le_refl _)
  intro m
  induction m with
  | zero =>
    intro n c hc hn
    obtain ⟨n, rfl⟩ : ∃ a, n = a + 1 := ⟨n - 1, by omega⟩
    rw [fX9_worthOf_b11, ib80 hF, h.f56, if_pos (by rw [le_nn (by omega) (by omega)]; omega), show c = q 56 by omega]
    by_cases z : Y = 0
    · rw [if_pos (by rw [z]; rfl), if_pos z]
      rfl
    · rw [if_neg (show ¬ nI Y = 0 by rw [l0, eq_nn (by omega) (by decide)]; exact z), if_neg z, l1, sub_nn (by omega), and_n]
      rfl
  | succ m ih =>
    intro n c hc hn
    obtain ⟨n, rfl⟩ : ∃ a, n = a + 1 := ⟨n - 1, by omega⟩
    have cc : c < 24 := by omega
    have hn2 := ih n (c + 1) (by omega) (by omega)
    have mb := mx_b (by decide) wb c
    have e := pw9 hF h hI hS hY cc (hb c) (k5 := k5) (k11 := fX9_worthOf_b11 k5 n) (x2 := x2) (x5 := lN (mx (fun c => wt q S Y od c (q 62)) c)) (q 62) FU 0 (Nat.add_zero _) (by unfold FU; omega)
    rw [fX9_worthOf_b11, ib80 hF, h.f56, if_neg (by rw [le_nn (by omega) (by omega)]; omega), rb80_21 hF, ab89 hF cc, h.2.2.2.2 c cc, show (0 : Int32) = nI 0 from rfl]
    refine Eq.trans e ?_
    unfold fX9_worthOf_b104
    rw [show nI c + (1 : Int32) = nI (c + 1) from add_nn c 1]
    rw [show mx (fun c => wt q S Y od c (q 62)) (c + 1) = (if mx (fun c => wt q S Y od c (q 62)) c < wt q S Y od c (q 62) then wt q S Y od c (q 62) else mx (fun c => wt q S Y od c (q 62)) c) from rfl] at hn2
    by_cases z : mx (fun c => wt q S Y od c (q 62)) c < wt q S Y od c (q 62)
    · rw [if_pos z] at hn2
      rw [if_neg (by rw [le_LL (wb c) mb]; omega)]
      exact hn2
    · rw [if_neg z] at hn2
      rw [if_pos (by rw [le_LL (wb c) mb]; omega)]
      exact hn2
theorem b5w {M : Mm} (hF : FIX M) {q od : Nat → Nat} {sd : Int32} (h : MD q od sd M) (hI : Inv q od) {S : Nat} (hS : S < 256) (hb : ∀ c, od c * 10 ^ pc S < 9223372036854775808) : ∀ Y n m acc, Y < 256 → Y + 1 ≤ n → Y + 1 ≤ m →
    fX9_worthOf_b5 n 80 (nI S) (lN acc) (nI Y) M = some (lN (acc + lp S (FW q S od (q 62)) m Y), M) := by
  have hL := hI.1
  intro Y
  induction Y using Nat.strongRecOn with
  | _ Y ih =>
    intro n m acc hY hn hm
    obtain ⟨n, rfl⟩ : ∃ a, n = a + 1 := ⟨n - 1, by omega⟩
    obtain ⟨m, rfl⟩ : ∃ a, m = a + 1 := ⟨m - 1, by omega⟩
    have e := b11w hF h hI hS hY hb (k5 := fX9_worthOf_b5 n) (x2 := lN acc) (q 56) FU 0 (Nat.add_zero _) (by unfold FU; omega)
    rw [fX9_worthOf_b5]
    refine Eq.trans e ?_
    show _ = some (lN (acc + (FW q S od (q 62) Y + (if Y = 0 then 0 else lp S (FW q S od (q 62)) m ((Y - 1) &&& S)))), M)
    by_cases z : Y = 0
    · rw [if_pos z, if_pos z, lN_add, Nat.add_zero]
    · have le : (Y - 1) &&& S ≤ Y - 1 := Nat.and_le_left
      rw [if_neg z, if_neg z, lN_add, ih ((Y - 1) &&& S) (by omega) n m (acc + FW q S od (q 62) Y) (by omega) (by omega) (by omega), Nat.add_assoc]
theorem wor9 {M : Mm} (hF : FIX M) {q od : Nat → Nat} {sd : Int32} (h : MD q od sd M) (hI : Inv q od) {S : Nat} (hS : S < 2 ^ q 62) (hb : ∀ c, od c * 10 ^ pc S < 9223372036854775808) : fX9_worthOf 80 (nI S) M = some (lN (wo q 8 S od), M) := by
  have hT := hI.sg.1
  have h8 : 2 ^ q 62 ≤ 2 ^ 8 := Nat.pow_le_pow_right (by decide) hT
  have e := b5w hF h hI (show S < 256 by omega) hb S FU 1000 0 (by omega) (by unfold FU; omega) (by omega)
  unfold fX9_worthOf
  rw [kb80 hF, lN0, e, Nat.zero_add, ← wo_lp hT 8 S od 1000 hS (pc_le8 S (by omega)) (by decide)]
theorem wor8 {M : Mm} (hF : FIX M) {q od : Nat → Nat} (hI : Inv q od) (hO : OV q M) (hR : RV q 0 od M) {S : Nat} (hS : S < 2 ^ q 62) (hb : ∀ c, od c * 10 ^ pc S < 9223372036854775808) : ∃ M', fX1_worthBehind 40 41 (nI S) (nI 0) M = some (lN (wo q 8 S od), M') ∧ Fr RLS [] M M' ∧ (mT M' = mT M ∧ mW M' = mW M) ∧ ∀ o, o ≤ 52 → mJ M' o = mJ M o := by
  have hT := hI.sg.1
  have h8 : 2 ^ q 62 ≤ 2 ^ 8 := Nat.pow_le_pow_right (by decide) hT
  exact wb8 hI 8 31 S 0 od M hS (pc_le8 S (by omega)) (by have := pc_le8 S (by omega); omega) hb hF hO hR
