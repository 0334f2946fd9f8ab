/-! a sign heard, both sides -/
def mul (q : Nat → Nat) (g : Nat) (is : Bool) (od : Nat → Nat) : Nat → Nat := fun c => od c * tms q g is c
def fel (q : Nat → Nat) (g : Nat) (is : Bool) (od : Nat → Nat) : Nat → Nat := les (mul q g is od)
def feq (q : Nat → Nat) : Nat → Nat := u1 q 64 (q 64 + 1)
theorem mul_o {q od : Nat → Nat} (hI : Inv q od) (g : Nat) (is : Bool) : ∀ c, q 56 ≤ c → mul q g is od c = 0 := fun c hc => by
  show od c * _ = 0
  rw [hI.od0 c hc, Nat.zero_mul]
theorem sm_mul {f g : Nat → Nat} (h : ∀ c, f c ≤ 10 * g c) : ∀ n, sm f n ≤ 10 * sm g n := by
  intro n
  induction n with
  | zero => exact Nat.le_refl _
  | succ n ih =>
    show sm f n + f n ≤ 10 * (sm g n + g n)
    have := h n
    omega
theorem mul_s {q od : Nat → Nat} (hI : Inv q od) {g : Nat} (hg : g < q 62) (is : Bool) : sm (mul q g is od) 24 ≤ 10 * sm od 24 := sm_mul (fun c => by
  have := Nat.mul_le_mul_left (od c) (tms_le hI hg is c)
  show od c * _ ≤ _
  omega) 24
theorem Inv.fe {q od : Nat → Nat} (h : Inv q od) (h64 : q 64 ≤ 15) {g : Nat} (hg : g < q 62) (is : Bool) : Inv (feq q) (fel q g is od) := by
  have := h.nw h64 (v := q 65) (by have := h.2.2.2.2.2.2.2.2.1; omega) (fun c hc => les_0 (mul_o h g is c hc)) (Nat.le_trans (sm_mono (les_le _) 24) (mul_s h hg is))
  rw [show q 65 = u1 q 64 (q 64 + 1) 65 from rfl, u1_same] at this
  exact this
theorem gJ_more {M : Mm} {a n : Nat} {g : Nat → Int64} : sJ (gJ M a 0 n g) a n (g n) = gJ M a 0 (n + 1) g := by
  have : u2 (mJ (gJ M a 0 n g)) a n (g n) = (fun x j => if x = a ∧ 0 ≤ j ∧ j < n + 1 then g j else mJ M x j) := by
    funext x j
    show (if x = a ∧ j = n then g n else mJ (gJ M a 0 n g) x j) = _
    rw [mJ_gJ]
    by_cases e : x = a ∧ j = n
    · obtain ⟨rfl, rfl⟩ := e
      rw [if_pos ⟨rfl, rfl⟩, if_pos ⟨rfl, Nat.zero_le _, Nat.lt_succ_self _⟩]
    · rw [if_neg e]
      by_cases e2 : x = a ∧ 0 ≤ j ∧ j < n
      · rw [if_pos e2, if_pos ⟨e2.1, e2.2.1, by omega⟩]
      · rw [if_neg e2, if_neg (fun z => by
          by_cases y : j = n
          · exact e ⟨z.1, y⟩
          · exact e2 ⟨z.1, z.2.1, by omega⟩)]
  show (mT (gJ M a 0 n g), mW (gJ M a 0 n g), mK (gJ M a 0 n g), mI (gJ M a 0 n g), u2 (mJ (gJ M a 0 n g)) a n (g n), mR (gJ M a 0 n g)) = _
  rw [this]
  rfl
theorem gJ_none (M : Mm) (a : Nat) (g : Nat → Int64) : gJ M a 0 0 g = M := gJ_end M a 0 g
theorem mp8 {s : Nat} (hs : sl s) {M : Mm} (hF : FIX M) {c k w : Nat} (hc : c < 24) (hk : k < 2147483648) (h1 : mJ M (s + 4) c = lN w) : fX0_multiply (s + 3) (nI c) (nI k) M = some (sJ M (s + 4) c (lN (w * k))) := by
  unfold fX0_multiply
  simp (disch := first | assumption | omega | (simp only [FIX_sI, FIX_sJ, FIX_gI, FIX_gJ]; assumption)) only [↓kbO hs, l0, l24, lt_nn, le_nn, Nat.not_lt_zero, ↓reduceIte, show ¬ 24 ≤ c by omega, ↓rbO0 hs, ↓abW hs, h1, nI_l hk, lN_mul, ↓tbW hs]
theorem hgX {s : Nat} (hs : sl s) {M : Mm} (hF : FIX M) {q od : Nat → Nat} {sd : Int32} (h : St s q od sd M) (hI : Inv q od) {r g : Nat} (hg : Sg M r g q) (hi : g < q 62) (is : Bool) : ∀ d n i, d + i = q 56 →
    fX5_hearSign_b2 (n + d) s r (bI is) (nI i) (gJ M (s + 4) 0 i (fun c => lN (mul q g is od c))) = fX5_hearSign_b2 n s r (bI is) (nI (q 56)) (gJ M (s + 4) 0 (q 56) (fun c => lN (mul q g is od c))) := by
  have hl := sl_lt hs
  have hL := hI.1
  have h0 := hF.1
  intro d
  induction d with
  | zero => intro n i hi; rw [show i = q 56 by omega]; rfl
  | succ d ih =>
    intro n i hd
    have ci : i < 24 := by omega
    have tl := tms_le hI hi is i
    have hgF : FIX (gJ M (s + 4) 0 i (fun c => lN (mul q g is od c))) := (by simp only [FIX_sI, FIX_sJ, FIX_gI, FIX_gJ]; exact hF)
    have fr : Fr [s + 4] [] M (gJ M (s + 4) 0 i (fun c => lN (mul q g is od c))) := Fr.gJ _ _ _ List.mem_cons_self
    have hS : St s q (fun c => if c < i then mul q g is od c else od c) sd (gJ M (s + 4) 0 i (fun c => lN (mul q g is od c))) := h.od hF fr (by omega) (fun o ho => by simp only [List.mem_cons, List.not_mem_nil, or_false] at ho; omega) (fun c hc => by
      rw [mJ_gJ]
      by_cases z : c < i
      · rw [if_pos ⟨rfl, Nat.zero_le _, z⟩, if_pos z]
      · rw [if_neg (fun y => z y.2.2), if_neg z]
        exact h.2.2.2.2.2.1 c hc)
    have hG : Sg (gJ M (s + 4) 0 i (fun c => lN (mul q g is od c))) r g q := hg.fr fr (fun o ho => by simp only [List.mem_cons, List.not_mem_nil, or_false] at ho; omega) mem0
    have hI2 : Inv q od := hI
    have et := tim8 hs hgF hS hI2 hG hi ci is
    have em := mp8 hs hgF (k := tms q g is i) (w := od i) ci (by omega) (by rw [mJ_gJ, if_neg (by omega)]; exact h.2.2.2.2.2.1 i ci)
    rw [show n + (d + 1) = (n + d) + 1 by omega, fX5_hearSign_b2, ibS hs hgF, hS.f56, if_neg (by rw [le_nn (by omega) (by omega)]; omega), rbS10 hs hgF, bnd1 et]
    dsimp only
    rw [bnd1 em, show nI i + (1 : Int32) = nI (i + 1) from add_nn i 1]
    exact (congrArg (fX5_hearSign_b2 (n + d) s r (bI is) (nI (i + 1))) (gJ_more (g := fun c => lN (mul q g is od c)))).trans (ih n (i + 1) (by omega))
theorem hgY {M : Mm} (hF : FIX M) {q od : Nat → Nat} {sd : Int32} (h : MD q od sd M) (hI : Inv q od) {g : Nat} (hi : g < q 62) (is : Bool) : ∀ d n i, d + i = q 56 →
    fX9_feels_b2 (n + d) 80 (nI g) (bI is) (nI i) (gJ M 89 0 i (fun c => lN (mul q g is od c))) = fX9_feels_b2 n 80 (nI g) (bI is) (nI (q 56)) (gJ M 89 0 (q 56) (fun c => lN (mul q g is od c))) := by
  have hL := hI.1
  have h0 := hF.1
  intro d
  induction d with
  | zero => intro n i hi; rw [show i = q 56 by omega]; rfl
  | succ d ih =>
    intro n i hd
    have ci : i < 24 := by omega
    have tl := tn_le hI hi i
    have hgF : FIX (gJ M 89 0 i (fun c => lN (mul q g is od c))) := (by simp only [FIX_sI, FIX_sJ, FIX_gI, FIX_gJ]; exact hF)
    have fr : Fr [89] [] M (gJ M 89 0 i (fun c => lN (mul q g is od c))) := Fr.gJ _ _ _ List.mem_cons_self
    have hM : MD q (fun c => if c < i then mul q g is od c else od c) sd (gJ M 89 0 i (fun c => lN (mul q g is od c))) := h.od hF fr (fun o ho => by simp only [List.mem_cons, List.not_mem_nil, or_false] at ho; omega) (fun c hc => by
      rw [mJ_gJ]
      by_cases z : c < i
      · rw [if_pos ⟨rfl, Nat.zero_le _, z⟩, if_pos z]
      · rw [if_neg (fun y => z y.2.2), if_neg z]
        exact h.2.2.2.2 c hc)
    have e9 : mJ (gJ M 89 0 i (fun c => lN (mul q g is od c))) 89 i = lN (od i) := by rw [mJ_gJ, if_neg (by omega)]; exact h.2.2.2.2 i ci
    have et := ten9c hgF hM hI hi ci
    have em : ∀ (k : Nat), k < 2147483648 → k = tms q g is i → fX9_feels_b41 (fX9_feels_b2 (n + d)) 80 (nI g) (bI is) (nI i) 89 (nI i) (lN (od i)) (nI k).toInt64 (gJ M 89 0 i (fun c => lN (mul q g is od c))) = fX9_feels_b2 (n + d) 80 (nI g) (bI is) (nI (i + 1)) (gJ M 89 0 (i + 1) (fun c => lN (mul q g is od c))) := fun k hk hk2 => by
      unfold fX9_feels_b41
      rw [nI_l hk, lN_mul, tb89 hgF ci, show nI i + (1 : Int32) = nI (i + 1) from add_nn i 1, hk2]
      exact congrArg (fX9_feels_b2 (n + d) 80 (nI g) (bI is) (nI (i + 1))) (gJ_more (g := fun c => lN (mul q g is od c)))
    rw [show n + (d + 1) = (n + d) + 1 by omega, fX9_feels_b2, ib80 hgF, hM.f56, if_neg (by rw [le_nn (by omega) (by omega)]; omega), bnd1 et]
    dsimp only
    rw [rb80_21 hgF, ab89 hgF ci, e9]
    cases is
    · rw [if_pos (show bI false = 0 from rfl), l10, sub_nn tl, em (10 - tn q g i) (by omega) rfl]
      exact ih n (i + 1) (by omega)
    · rw [if_neg (by decide), em (tn q g i) (by omega) rfl]
      exact ih n (i + 1) (by omega)
theorem fel8 {s : Nat} (hs : sl s) {M : Mm} (hF : FIX M) {q od : Nat → Nat} {sd : Int32} (h : St s q od sd M) (hI : Inv q od) {r g : Nat} (hg : Sg M r g q) (hi : g < q 62) (is : Bool) :
    ∃ M1, fX5_hearSign s r (bI is) M = some M1 ∧ Fr [s + 4] [(s, 12)] M M1 ∧ (mT M1 = mT M ∧ mW M1 = mW M) ∧ St s (feq q) (fel q g is od) sd M1 := by
  have hl := sl_lt hs
  have hL := hI.1
  have hq := hI.sg
  have hGb := bnd_of hI (mul_o hI g is) (mul_s hI hi is)
  have hs8 := hgX hs hF h hI hg hi is (q 56) (FU - q 56) 0 (Nat.add_zero _)
  rw [show FU - q 56 + q 56 = FU by unfold FU; omega, gJ_none] at hs8
  obtain ⟨N, hN⟩ : ∃ N, N = gJ M (s + 4) 0 (q 56) (fun c => lN (mul q g is od c)) := ⟨_, rfl⟩
  rw [← hN] at hs8
  have hFN : FIX N := by rw [hN, FIX_gJ]; exact hF
  have fN : Fr [s + 4] [] M N := by rw [hN]; exact Fr.gJ _ _ _ List.mem_cons_self
  have e0 : mI N s 0 = nI (q 56) := by rw [hN, mI_gJ]; exact h.f56
  have gN : ∀ c, c < 24 → mJ N (s + 4) c = lN (mul q g is od c) := fun c hc => by
    rw [hN, mJ_gJ]
    by_cases z : c < q 56
    · rw [if_pos ⟨rfl, Nat.zero_le _, z⟩]
    · rw [if_neg (fun y => z y.2.2), h.2.2.2.2.2.1 c hc, mul_o hI g is c (by omega), hI.od0 c (by omega)]
  have tN : mT N = mT M ∧ mW N = mW M := by rw [hN]; exact ⟨mT_gJ _ _ _ _ _, mW_gJ _ _ _ _ _⟩
  obtain ⟨M3, e3, f3, t3, g3⟩ := les8 hs hFN gN hGb
  have hF3 := f3.fix hFN
  have h3 : St s q (fel q g is od) sd M3 := h.od hF (fN.tr f3) (by omega) (fun o ho => by simp only [List.mem_cons, List.not_mem_nil, or_false] at ho; omega) g3
  refine ⟨sI M3 s 12 (nI (q 64 + 1)), ?_, ((fN.tr f3).wk (fun _ z => z) mem0).tr (Fr.oI _ _ (Or.inr List.mem_cons_self)), ⟨?_, ?_⟩, h3.put (by omega) hq (12, 64) (by decide) (by decide) (q 64 + 1)⟩
  · obtain ⟨m, hm⟩ : ∃ m, FU - q 56 = m + 1 := ⟨FU - q 56 - 1, by unfold FU; omega⟩
    unfold fX5_hearSign
    rw [kbS hs hF, show (0 : Int32) = nI 0 from rfl, hs8, hm, fX5_hearSign_b2, ibS hs hFN, e0, if_pos (by rw [le_nn (by omega) (by omega)]; exact Nat.le_refl _), rbS10 hs hFN, bnd1 e3, ibS hs hF3, h3.f64, show nI (q 64) + (1 : Int32) = nI (q 64 + 1) from add_nn _ 1, pbS hs hF3]
  · rw [mT_sI, t3.1, tN.1]
  · rw [mW_sI, t3.2, tN.2]
theorem fel9 {M : Mm} (hF : FIX M) {q od : Nat → Nat} {sd : Int32} (h : MD q od sd M) (hI : Inv q od) {g : Nat} (hi : g < q 62) (is : Bool) :
    ∃ M1, fX9_feels 80 (nI g) (bI is) M = some M1 ∧ Fr [89] [(80, 8)] M M1 ∧ (mT M1 = mT M ∧ mW M1 = mW M) ∧ MD (feq q) (fel q g is od) sd M1 := by
  have hL := hI.1
  have hGb := bnd_of hI (mul_o hI g is) (mul_s hI hi is)
  have hs9 := hgY hF h hI hi is (q 56) (FU - q 56) 0 (Nat.add_zero _)
  rw [show FU - q 56 + q 56 = FU by unfold FU; omega, gJ_none] at hs9
  obtain ⟨N, hN⟩ : ∃ N, N = gJ M 89 0 (q 56) (fun c => lN (mul q g is od c)) := ⟨_, rfl⟩
  rw [← hN] at hs9
  have hFN : FIX N := by rw [hN, FIX_gJ]; exact hF
  have fN : Fr [89] [] M N := by rw [hN]; exact Fr.gJ _ _ _ List.mem_cons_self
  have e0 : mI N 80 0 = nI (q 56) := by rw [hN, mI_gJ]; exact h.f56
  have gN : ∀ c, c < 24 → mJ N 89 c = lN (mul q g is od c) := fun c hc => by
    rw [hN, mJ_gJ]
    by_cases z : c < q 56
    · rw [if_pos ⟨rfl, Nat.zero_le _, z⟩]
    · rw [if_neg (fun y => z y.2.2), h.2.2.2.2 c hc, mul_o hI g is c (by omega), hI.od0 c (by omega)]
  have tN : mT N = mT M ∧ mW N = mW M := by rw [hN]; exact ⟨mT_gJ _ _ _ _ _, mW_gJ _ _ _ _ _⟩
  obtain ⟨M3, e3, f3, t3, g3⟩ := les9 hFN e0 hL.2 (mul_o hI g is) gN hGb
  have hF3 := f3.fix hFN
  have h3 : MD q (fel q g is od) sd M3 := h.od hF (fN.tr f3) (fun o ho => by simp only [List.mem_cons, List.not_mem_nil, or_false] at ho; omega) g3
  refine ⟨sI M3 80 8 (nI (q 64 + 1)), ?_, ((fN.tr f3).wk (fun _ z => z) mem0).tr (Fr.oI _ _ (Or.inr List.mem_cons_self)), ⟨?_, ?_⟩, h3.put (show 8 < 10 by decide) (q 64 + 1)⟩
  · obtain ⟨m, hm⟩ : ∃ m, FU - q 56 = m + 1 := ⟨FU - q 56 - 1, by unfold FU; omega⟩
    unfold fX9_feels
    rw [kb80 hF, show (0 : Int32) = nI 0 from rfl, hs9, hm, fX9_feels_b2, ib80 hFN, e0, if_pos (by rw [le_nn (by omega) (by omega)]; exact Nat.le_refl _), bnd1 e3, ib80 hF3, h3.f64, show nI (q 64) + (1 : Int32) = nI (q 64 + 1) from add_nn _ 1, pb80 hF3]
  · rw [mT_sI, t3.1, tN.1]
  · rw [mW_sI, t3.2, tN.2]
