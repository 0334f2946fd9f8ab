/-! the reference's image: all it has, laid aside and taken back -/
def MKc (c e : Nat) (q od : Nat → Nat) (sd : Int32) (M : Mm) : Prop := (∀ k, k < 66 → mI M c k = nI (q k)) ∧ mI M c 66 = nI (q 66) - nI 1 ∧ mI M c 67 = sd ∧ ∀ x, x < 24 → mJ M e x = lN (od x)
theorem gI_join {M : Mm} {c a b d : Nat} {g : Nat → Int32} (h1 : a ≤ b) (h2 : b ≤ d) : gI (gI M c a b g) c b d g = gI M c a d g := by
  have : (fun x j => if x = c ∧ b ≤ j ∧ j < d then g j else mI (gI M c a b g) x j) = (fun x j => if x = c ∧ a ≤ j ∧ j < d then g j else mI M x j) := by
    funext x j
    simp only [mI_gI]
    by_cases e : x = c ∧ a ≤ j ∧ j < d
    · by_cases e2 : b ≤ j
      · rw [if_pos ⟨e.1, e2, e.2.2⟩, if_pos e]
      · rw [if_neg (fun z => e2 z.2.1), if_pos ⟨e.1, e.2.1, by omega⟩, if_pos e]
    · rw [if_neg (fun z => e ⟨z.1, by omega, z.2.2⟩), if_neg (fun z => e ⟨z.1, z.2.1, by omega⟩), if_neg e]
  unfold gI
  unfold gI at this
  rw [this]
  rfl
theorem kpS {a c : Nat} (hac : a ≠ c) {g : Nat → Int32} {f : Nat} (hf : f + 8 ≤ 80) : ∀ m n i (M : Mm), mK M a = (20, 8) → mK M c = (20, 80) → (∀ k, k < 8 → mI M a k = g (f + k)) → m + i = 8 →
    fX9_keeps_b3 (n + m) a (nI 8) c (nI f) (nI 0) (nI i) M = fX9_keeps_b3 n a (nI 8) c (nI f) (nI 0) (nI 8) (gI M c (f + i) (f + 8) g) := by
  intro m
  induction m with
  | zero => intro n i M _ _ _ hi; rw [show i = 8 by omega, gI_end]; rfl
  | succ m ih =>
    intro n i M ha hk hv hi
    have ci : i < 8 := by omega
    have hc := nI_clamp (show i < 2 ^ 31 by omega)
    have hc2 := nI_clamp (show f + i < 2 ^ 31 by omega)
    have ea : aI M a (nI i) = some (g (f + i)) := by
      unfold aI
      rw [if_pos (by rw [ha, hc]; exact ⟨Or.inl rfl, nI_pos (by omega), ci⟩), hc, hv i ci]
    have et : tI M c (nI f + nI i) (g (f + i)) = some (sI M c (f + i) (g (f + i))) := by
      unfold tI
      rw [add_nn, if_pos (by rw [hk, hc2]; exact ⟨rfl, nI_pos (by omega), by show f + i < 80; omega⟩), hc2]
    rw [show n + (m + 1) = (n + m) + 1 by omega, fX9_keeps_b3, if_neg (by rw [le_nn (by decide) (by omega)]; omega), if_pos (show nI 0 = 0 from rfl), bnd1 ea, bnd1 et, show nI i + (1 : Int32) = nI (i + 1) from add_nn i 1, ih n (i + 1) (sI M c (f + i) (g (f + i))) ha hk (fun k h => by rw [mI_sI, if_neg (fun z => hac z.1)]; exact hv k h) (by omega), show f + (i + 1) = (f + i) + 1 from rfl, gI_step (by omega) rfl]
theorem kp9 {M : Mm} (hF : FIX M) {a c : Nat} (hac : a ≠ c) {g : Nat → Int32} {f : Nat} (hf : f + 8 ≤ 80) (ha : mK M a = (20, 8)) (hk : mK M c = (20, 80)) (hv : ∀ k, k < 8 → mI M a k = g (f + k)) : fX9_keeps 80 a (nI 8) c (nI f) (nI 0) M = some (nI (f + 8), gI M c f (f + 8) g) := by
  have e := kpS hac hf 8 1992 0 M ha hk hv (by decide)
  unfold fX9_keeps
  rw [kb80 hF]
  refine Eq.trans e ?_
  rw [show 1992 = 1991 + 1 from rfl, fX9_keeps_b3, if_pos (by rw [le_nn (by decide) (by decide)]; exact Nat.le_refl _), add_nn]
  rfl
theorem kpR {a c : Nat} (hac : a ≠ c) {g : Nat → Int32} {f : Nat} (hf : f + 8 ≤ 80) : ∀ m n i (M : Mm), mK M a = (20, 8) → mK M c = (20, 80) → (∀ k, k < 8 → mI M c (f + k) = g k) → m + i = 8 →
    fX9_keeps_b3 (n + m) a (nI 8) c (nI f) (nI 1) (nI i) M = fX9_keeps_b3 n a (nI 8) c (nI f) (nI 1) (nI 8) (gI M a i 8 g) := by
  intro m
  induction m with
  | zero => intro n i M _ _ _ hi; rw [show i = 8 by omega, gI_end]; rfl
  | succ m ih =>
    intro n i M ha hk hv hi
    have ci : i < 8 := by omega
    have hc := nI_clamp (show i < 2 ^ 31 by omega)
    have hc2 := nI_clamp (show f + i < 2 ^ 31 by omega)
    have ea : aI M c (nI f + nI i) = some (g i) := by
      unfold aI
      rw [add_nn, if_pos (by rw [hk, hc2]; exact ⟨Or.inl rfl, nI_pos (by omega), by show f + i < 80; omega⟩), hc2, hv i ci]
    have et : tI M a (nI i) (g i) = some (sI M a i (g i)) := by
      unfold tI
      rw [if_pos (by rw [ha, hc]; exact ⟨rfl, nI_pos (by omega), ci⟩), hc]
    rw [show n + (m + 1) = (n + m) + 1 by omega, fX9_keeps_b3, if_neg (by rw [le_nn (by decide) (by omega)]; omega), if_neg (by decide), bnd1 ea, bnd1 et, show nI i + (1 : Int32) = nI (i + 1) from add_nn i 1, ih n (i + 1) (sI M a i (g i)) ha hk (fun k h => by rw [mI_sI, if_neg (fun z => hac z.1.symm)]; exact hv k h) (by omega), gI_step ci rfl]
theorem kq9 {M : Mm} (hF : FIX M) {a c : Nat} (hac : a ≠ c) {g : Nat → Int32} {f : Nat} (hf : f + 8 ≤ 80) (ha : mK M a = (20, 8)) (hk : mK M c = (20, 80)) (hv : ∀ k, k < 8 → mI M c (f + k) = g k) : fX9_keeps 80 a (nI 8) c (nI f) (nI 1) M = some (nI (f + 8), gI M a 0 8 g) := by
  have e := kpR hac hf 8 1992 0 M ha hk hv (by decide)
  unfold fX9_keeps
  rw [kb80 hF]
  refine Eq.trans e ?_
  rw [show 1992 = 1991 + 1 from rfl, fX9_keeps_b3, if_pos (by rw [le_nn (by decide) (by decide)]; exact Nat.le_refl _), add_nn]
def svM (N : Mm) (c : Nat) (q : Nat → Nat) (sd : Int32) : Mm := sI (sI (sI (sI (sI (sI (sI (sI (sI (sI (sI (sI N c 56 (nI (q 56))) c 57 (nI (q 57))) c 58 (nI (q 58))) c 59 (nI (q 59))) c 60 (nI (q 60))) c 61 (nI (q 61))) c 62 (nI (q 62))) c 63 (nI (q 63))) c 64 (nI (q 64))) c 65 (nI (q 65))) c 66 (nI (q 66) - nI 1)) c 67 sd
def rsM (N : Mm) (q : Nat → Nat) (sd : Int32) : Mm := sI (sI (sI (sI (sI (sI (sI (sI (sI (sI (sI (sI N 80 0 (nI (q 56))) 80 1 (nI (q 57))) 80 2 (nI (q 58))) 80 3 (nI (q 59))) 80 4 (nI (q 60))) 80 5 (nI (q 61))) 80 6 (nI (q 62))) 80 7 (nI (q 63))) 80 8 (nI (q 64))) 80 9 (nI (q 65))) 80 10 (nI (q 66) - nI 1)) 80 11 sd
def cc9 (c : Nat) : Prop := c = 99 ∨ c = 100
def ce9 (e : Nat) : Prop := e = 101 ∨ e = 102
theorem cc9k {N : Mm} (hF : FIX N) {c : Nat} (hc : cc9 c) : mK N c = (20, 80) := by
  rcases hc with rfl | rfl
  · exact K99 hF
  · exact K100 hF
theorem ce9k {N : Mm} (hF : FIX N) {e : Nat} (he : ce9 e) : mK N e = (21, 24) := by
  rcases he with rfl | rfl
  · exact K101 hF
  · exact K102 hF
theorem tbC {β : Type} {N : Mm} {c : Nat} (hc : cc9 c) (h : FIX N) {i : Nat} (hi : i < 80) (v : Int32) (f : Mm → Option β) : Option.bind (tI N c (nI i) v) f = f (sI N c i v) := bnd1 (by
  have hx := nI_clamp (show i < 2 ^ 31 by omega)
  unfold tI
  rw [if_pos (by rw [cc9k h hc, hx]; exact ⟨rfl, nI_pos (by omega), hi⟩), hx]) f
theorem abC {β : Type} {N : Mm} {c : Nat} (hc : cc9 c) (h : FIX N) {i : Nat} (hi : i < 80) (f : Int32 → Option β) : Option.bind (aI N c (nI i)) f = f (mI N c i) := bnd1 (by
  have hx := nI_clamp (show i < 2 ^ 31 by omega)
  unfold aI
  rw [if_pos (by rw [cc9k h hc, hx]; exact ⟨Or.inl rfl, nI_pos (by omega), hi⟩), hx]) f
theorem tbE {β : Type} {N : Mm} {e : Nat} (he : ce9 e) (h : FIX N) {i : Nat} (hi : i < 24) (v : Int64) (f : Mm → Option β) : Option.bind (tJ N e (nI i) v) f = f (sJ N e i v) := bnd1 (by
  have hx := nI_clamp (show i < 2 ^ 31 by omega)
  unfold tJ
  rw [if_pos (by rw [ce9k h he, hx]; exact ⟨rfl, nI_pos (by omega), hi⟩), hx]) f
theorem abE {β : Type} {N : Mm} {e : Nat} (he : ce9 e) (h : FIX N) {i : Nat} (hi : i < 24) (f : Int64 → Option β) : Option.bind (aJ N e (nI i)) f = f (mJ N e i) := bnd1 (by
  have hx := nI_clamp (show i < 2 ^ 31 by omega)
  unfold aJ
  rw [if_pos (by rw [ce9k h he, hx]; exact ⟨rfl, nI_pos (by omega), hi⟩), hx]) f
theorem alS {c e : Nat} (hc : cc9 c) (he : ce9 e) {g : Nat → Int64} : ∀ m n i (N : Mm), FIX N → (∀ x, x < 24 → mJ N 89 x = g x) → m + i = 24 → fX9_all_b114 (n + m) 80 c e (nI 0) (nI 56) (nI i) N = fX9_all_b114 n 80 c e (nI 0) (nI 56) (nI 24) (gJ N e i 24 g) := by
  have he9 : 89 ≠ e := by rcases he with rfl | rfl <;> decide
  intro m
  induction m with
  | zero => intro n i N _ _ hi; rw [show i = 24 by omega, gJ_end]; rfl
  | succ m ih =>
    intro n i N hF hv hi
    have ci : i < 24 := by omega
    rw [show n + (m + 1) = (n + m) + 1 by omega, fX9_all_b114, if_neg (by rw [l24, le_nn (by decide) (by omega)]; omega), if_pos (show nI 0 = 0 from rfl), rb80_21 hF, ab89 hF ci, hv i ci, tbE he hF ci, show nI i + (1 : Int32) = nI (i + 1) from add_nn i 1, ih n (i + 1) (sJ N e i (g i)) (by simp only [FIX_sI, FIX_sJ, FIX_gI, FIX_gJ]; exact hF) (fun x h => by rw [mJ_sJ, if_neg (fun z => he9 z.1)]; exact hv x h) (by omega), gJ_step ci rfl]
theorem alR {c e : Nat} (hc : cc9 c) (he : ce9 e) {g : Nat → Int64} : ∀ m n i (N : Mm), FIX N → (∀ x, x < 24 → mJ N e x = g x) → m + i = 24 → fX9_all_b114 (n + m) 80 c e (nI 1) (nI 56) (nI i) N = fX9_all_b114 n 80 c e (nI 1) (nI 56) (nI 24) (gJ N 89 i 24 g) := by
  have he9 : e ≠ 89 := by rcases he with rfl | rfl <;> decide
  intro m
  induction m with
  | zero => intro n i N _ _ hi; rw [show i = 24 by omega, gJ_end]; rfl
  | succ m ih =>
    intro n i N hF hv hi
    have ci : i < 24 := by omega
    rw [show n + (m + 1) = (n + m) + 1 by omega, fX9_all_b114, if_neg (by rw [l24, le_nn (by decide) (by omega)]; omega), if_neg (by decide), rb80_21 hF, abE he hF ci, hv i ci, tb89 hF ci, show nI i + (1 : Int32) = nI (i + 1) from add_nn i 1, ih n (i + 1) (sJ N 89 i (g i)) (by simp only [FIX_sI, FIX_sJ, FIX_gI, FIX_gJ]; exact hF) (fun x h => by rw [mJ_sJ, if_neg (fun z => he9 z.1)]; exact hv x h) (by omega), gJ_step ci rfl]
theorem alSE {c e : Nat} (hc : cc9 c) {N : Mm} (hF : FIX N) {q : Nat → Nat} {sd : Int32} (h : ∀ k, k < 10 → mI N 80 k = nI (q (56 + k))) (h10 : mI N 80 10 = nI (q 66) - nI 1) (h11 : mI N 80 11 = sd) (n : Nat) : fX9_all_b114 (n + 1) 80 c e (nI 0) (nI 56) (nI 24) N = some (svM N c q sd) := by
  have h80 : (80 = c) = False := eq_false (by rcases hc with rfl | rfl <;> decide)
  rw [fX9_all_b114, if_pos (by rw [l24, le_nn (by decide) (by decide)]; exact Nat.le_refl _), if_pos (show nI 0 = 0 from rfl)]
  unfold svM
  simp (disch := first | assumption | omega | (simp only [FIX_sI, FIX_sJ, FIX_gI, FIX_gJ]; assumption)) only [↓ib80, ↓tbC hc, l1, l2, l3, l4, l5, l6, l7, l8, l9, l10, l11, add_nn, Nat.reduceAdd, mI_sI, h80, false_and, ↓reduceIte, h 0 (by decide), h 1 (by decide), h 2 (by decide), h 3 (by decide), h 4 (by decide), h 5 (by decide), h 6 (by decide), h 7 (by decide), h 8 (by decide), h 9 (by decide), h10, h11]
theorem alRE {c e : Nat} (hc : cc9 c) {N : Mm} (hF : FIX N) {q : Nat → Nat} {sd : Int32} (h : ∀ k, k < 10 → mI N c (56 + k) = nI (q (56 + k))) (h10 : mI N c 66 = nI (q 66) - nI 1) (h11 : mI N c 67 = sd) (n : Nat) : fX9_all_b114 (n + 1) 80 c e (nI 1) (nI 56) (nI 24) N = some (rsM N q sd) := by
  have h80 : (c = 80) = False := eq_false (by rcases hc with rfl | rfl <;> decide)
  have g : ∀ k, k < 10 → mI N c (56 + k) = nI (q (56 + k)) := h
  rw [fX9_all_b114, if_pos (by rw [l24, le_nn (by decide) (by decide)]; exact Nat.le_refl _), if_neg (by decide)]
  unfold rsM
  simp (disch := first | assumption | omega | (simp only [FIX_sI, FIX_sJ, FIX_gI, FIX_gJ]; assumption)) only [↓pb80, ↓abC hc, l1, l2, l3, l4, l5, l6, l7, l8, l9, l10, l11, add_nn, Nat.reduceAdd, mI_sI, h80, false_and, ↓reduceIte, show mI N c 56 = nI (q 56) from h 0 (by decide), show mI N c 57 = nI (q 57) from h 1 (by decide), show mI N c 58 = nI (q 58) from h 2 (by decide), show mI N c 59 = nI (q 59) from h 3 (by decide), show mI N c 60 = nI (q 60) from h 4 (by decide), show mI N c 61 = nI (q 61) from h 5 (by decide), show mI N c 62 = nI (q 62) from h 6 (by decide), show mI N c 63 = nI (q 63) from h 7 (by decide), show mI N c 64 = nI (q 64) from h 8 (by decide), show mI N c 65 = nI (q 65) from h 9 (by decide), h10, h11]
theorem allS {c e : Nat} (hc : cc9 c) (he : ce9 e) {M : Mm} (hF : FIX M) {q od : Nat → Nat} {sd : Int32} (h : MD q od sd M) :
    ∃ M1, fX9_all 80 c e (nI 0) M = some M1 ∧ Fr [c, e] [] M M1 ∧ (mT M1 = mT M ∧ mW M1 = mW M) ∧ MKc c e q od sd M1 := by
  have hcb : 99 ≤ c ∧ c ≤ 100 := by rcases hc with rfl | rfl <;> decide
  have heb : 101 ≤ e ∧ e ≤ 102 := by rcases he with rfl | rfl <;> decide
  obtain ⟨g, hg⟩ : ∃ g : Nat → Int32, g = fun j => nI (q j) := ⟨_, rfl⟩
  have hGF : ∀ n, FIX (gI M c 0 n g) := fun n => by rw [FIX_gI]; exact hF
  have st : ∀ x, x < 7 → mK M (82 + x) = (20, 8) → fX9_keeps 80 (82 + x) (nI 8) c (nI (8 * x)) (nI 0) (gI M c 0 (8 * x) g) = some (nI (8 * x + 8), gI M c 0 (8 * x + 8) g) := fun x hx hk => by
    have := kp9 (hGF (8 * x)) (a := 82 + x) (c := c) (by omega) (g := g) (f := 8 * x) (by omega) (by rw [mK_gI]; exact hk) (cc9k (hGF _) hc) (fun k hk => by rw [mI_gI, if_neg (by omega), h.2.2.2.1 x hx k hk, hg])
    rw [gI_join (Nat.zero_le _) (by omega)] at this
    exact this
  have s0 : fX9_keeps 80 82 (nI 8) c (nI 0) (nI 0) M = some (nI 8, gI M c 0 8 g) := by
    have := st 0 (by decide) (K82 hF)
    rw [show gI M c 0 (8 * 0) g = M from gI_end M c 0 g] at this
    exact this
  have s1 : fX9_keeps 80 83 (nI 8) c (nI 8) (nI 0) (gI M c 0 8 g) = some (nI 16, gI M c 0 16 g) := st 1 (by decide) (K83 hF)
  have s2 : fX9_keeps 80 84 (nI 8) c (nI 16) (nI 0) (gI M c 0 16 g) = some (nI 24, gI M c 0 24 g) := st 2 (by decide) (K84 hF)
  have s3 : fX9_keeps 80 85 (nI 8) c (nI 24) (nI 0) (gI M c 0 24 g) = some (nI 32, gI M c 0 32 g) := st 3 (by decide) (K85 hF)
  have s4 : fX9_keeps 80 86 (nI 8) c (nI 32) (nI 0) (gI M c 0 32 g) = some (nI 40, gI M c 0 40 g) := st 4 (by decide) (K86 hF)
  have s5 : fX9_keeps 80 87 (nI 8) c (nI 40) (nI 0) (gI M c 0 40 g) = some (nI 48, gI M c 0 48 g) := st 5 (by decide) (K87 hF)
  have s6 : fX9_keeps 80 88 (nI 8) c (nI 48) (nI 0) (gI M c 0 48 g) = some (nI 56, gI M c 0 56 g) := st 6 (by decide) (K88 hF)
  obtain ⟨N, hN⟩ : ∃ N, N = gI M c 0 56 g := ⟨_, rfl⟩
  have hFN : FIX N := by rw [hN]; exact hGF 56
  have e1 : fX9_all 80 c e (nI 0) M = fX9_all_b114 FU 80 c e (nI 0) (nI 56) (nI 0) N := by
    unfold fX9_all
    rw [kb80 hF, rb80_14 hF, show (8 : Int32) = nI 8 from rfl, show (0 : Int32) = nI 0 from rfl, bnd1 s0]
    dsimp only
    rw [rb80_15 (hGF _), bnd1 s1]
    dsimp only
    rw [rb80_16 (hGF _), bnd1 s2]
    dsimp only
    rw [rb80_17 (hGF _), bnd1 s3]
    dsimp only
    rw [rb80_18 (hGF _), bnd1 s4]
    dsimp only
    rw [rb80_19 (hGF _), bnd1 s5]
    dsimp only
    rw [rb80_20 (hGF _), bnd1 s6]
    dsimp only
    rw [hN]
  have e2 := alS hc he (g := fun x => lN (od x)) 24 1976 0 N hFN (fun x hx => by rw [hN, mJ_gI]; exact h.2.2.2.2 x hx) (by decide)
  obtain ⟨N2, hN2⟩ : ∃ N2, N2 = gJ N e 0 24 (fun x => lN (od x)) := ⟨_, rfl⟩
  rw [← hN2] at e2
  have hFN2 : FIX N2 := by rw [hN2, FIX_gJ]; exact hFN
  have i2 : ∀ k, mI N2 80 k = mI M 80 k := fun k => by rw [hN2, mI_gJ, hN, mI_gI, if_neg (by omega)]
  have e3 := alSE (e := e) hc hFN2 (q := q) (sd := sd) (fun k hk => by rw [i2]; exact h.1 k hk) (by rw [i2]; exact h.2.1) (by rw [i2]; exact h.2.2.1) 1975
  refine ⟨svM N2 c q sd, e1.trans (Eq.trans e2 e3), ?_, ?_, ?_⟩
  · have f1 : Fr [c, e] [] M N := by rw [hN]; exact Fr.gI _ _ _ in20
    have f2 : Fr [c, e] [] N N2 := by rw [hN2]; exact Fr.gJ _ _ _ in21
    unfold svM
    exact (f1.tr f2).tr (((((((((((((Fr.oI _ _ (Or.inl in20)).tr (Fr.oI _ _ (Or.inl in20))).tr (Fr.oI _ _ (Or.inl in20))).tr (Fr.oI _ _ (Or.inl in20))).tr (Fr.oI _ _ (Or.inl in20))).tr (Fr.oI _ _ (Or.inl in20))).tr (Fr.oI _ _ (Or.inl in20))).tr (Fr.oI _ _ (Or.inl in20))).tr (Fr.oI _ _ (Or.inl in20))).tr (Fr.oI _ _ (Or.inl in20))).tr (Fr.oI _ _ (Or.inl in20))).tr (Fr.oI _ _ (Or.inl in20))))
  · unfold svM
    rw [hN2, hN]
    exact ⟨by simp only [mT_sI, mW_sI, mK_sI, mI_sI, mJ_sI, mR_sI, mT_sJ, mW_sJ, mK_sJ, mI_sJ, mJ_sJ, mR_sJ, mT_sR, mW_sR, mK_sR, mI_sR, mJ_sR, mR_sR, mT_gI, mW_gI, mK_gI, mI_gI, mJ_gI, mR_gI, mT_gJ, mW_gJ, mK_gJ, mI_gJ, mJ_gJ, mR_gJ, mT_wR, mW_wR, mK_wR, mI_wR, mJ_wR, mR_wR], by simp only [mT_sI, mW_sI, mK_sI, mI_sI, mJ_sI, mR_sI, mT_sJ, mW_sJ, mK_sJ, mI_sJ, mJ_sJ, mR_sJ, mT_sR, mW_sR, mK_sR, mI_sR, mJ_sR, mR_sR, mT_gI, mW_gI, mK_gI, mI_gI, mJ_gI, mR_gI, mT_gJ, mW_gJ, mK_gJ, mI_gJ, mJ_gJ, mR_gJ, mT_wR, mW_wR, mK_wR, mI_wR, mJ_wR, mR_wR]⟩
  · have n2 : ∀ k, k < 56 → mI N2 c k = nI (q k) := fun k hk => by rw [hN2, mI_gJ, hN, mI_gI, if_pos ⟨rfl, Nat.zero_le _, hk⟩, hg]
    refine ⟨fun k hk => ?_, ?_, ?_, fun x hx => ?_⟩
    · unfold svM
      by_cases z : k < 56
      · simp only [mI_sI]
        rw [if_neg (by omega), if_neg (by omega), if_neg (by omega), if_neg (by omega), if_neg (by omega), if_neg (by omega), if_neg (by omega), if_neg (by omega), if_neg (by omega), if_neg (by omega), if_neg (by omega), if_neg (by omega)]
        exact n2 k z
      · have hk2 : k = 56 ∨ k = 57 ∨ k = 58 ∨ k = 59 ∨ k = 60 ∨ k = 61 ∨ k = 62 ∨ k = 63 ∨ k = 64 ∨ k = 65 := by omega
        rcases hk2 with rfl | rfl | rfl | rfl | rfl | rfl | rfl | rfl | rfl | rfl <;> simp only [mI_sI, true_and, Nat.reduceEqDiff, ↓reduceIte]
    · unfold svM
      simp only [mI_sI, true_and, Nat.reduceEqDiff, ↓reduceIte]
    · unfold svM
      simp only [mI_sI, true_and, Nat.reduceEqDiff, ↓reduceIte]
    · unfold svM
      simp only [mJ_sI]
      rw [hN2, mJ_gJ, if_pos ⟨rfl, Nat.zero_le _, hx⟩]
def krM (M : Mm) (q : Nat → Nat) : Nat → Mm
  | 0 => M
  | x + 1 => gI (krM M q x) (82 + x) 0 8 (fun k => nI (q (8 * x + k)))
theorem krF {M : Mm} (hF : FIX M) (q : Nat → Nat) : ∀ n, FIX (krM M q n) := by
  intro n
  induction n with
  | zero => exact hF
  | succ n ih =>
    show FIX (gI (krM M q n) (82 + n) 0 8 _)
    rw [FIX_gI]
    exact ih
theorem krI (M : Mm) (q : Nat → Nat) {a : Nat} (k : Nat) : ∀ n, (a < 82 ∨ 82 + n ≤ a) → mI (krM M q n) a k = mI M a k := by
  intro n
  induction n with
  | zero => intro _; rfl
  | succ n ih =>
    intro h
    show mI (gI (krM M q n) (82 + n) 0 8 _) a k = _
    rw [mI_gI, if_neg (by omega)]
    exact ih (by omega)
theorem krD (M : Mm) (q : Nat → Nat) {x k : Nat} (hk : k < 8) : ∀ n, x < n → mI (krM M q n) (82 + x) k = nI (q (8 * x + k)) := by
  intro n
  induction n with
  | zero => intro h; omega
  | succ n ih =>
    intro h
    show mI (gI (krM M q n) (82 + n) 0 8 _) (82 + x) k = _
    by_cases e : x = n
    · subst e
      rw [mI_gI, if_pos ⟨rfl, Nat.zero_le _, hk⟩]
    · rw [mI_gI, if_neg (by omega)]
      exact ih (by omega)
theorem krS (M : Mm) (q : Nat → Nat) : ∀ n, mK (krM M q n) = mK M ∧ mJ (krM M q n) = mJ M ∧ mT (krM M q n) = mT M ∧ mW (krM M q n) = mW M := by
  intro n
  induction n with
  | zero => exact ⟨rfl, rfl, rfl, rfl⟩
  | succ n ih =>
    show mK (gI (krM M q n) (82 + n) 0 8 _) = _ ∧ mJ (gI (krM M q n) (82 + n) 0 8 _) = _ ∧ mT (gI (krM M q n) (82 + n) 0 8 _) = _ ∧ mW (gI (krM M q n) (82 + n) 0 8 _) = _
    rw [mK_gI, mJ_gI, mT_gI, mW_gI]
    exact ih
theorem krFr (M : Mm) (q : Nat → Nat) : ∀ n, n ≤ 7 → Fr [82, 83, 84, 85, 86, 87, 88, 89] [] M (krM M q n) := by
  intro n
  induction n with
  | zero => intro _; exact Fr.rfl
  | succ n ih =>
    intro h
    refine (ih (by omega)).tr (Fr.gI _ _ _ ?_)
    have : n = 0 ∨ n = 1 ∨ n = 2 ∨ n = 3 ∨ n = 4 ∨ n = 5 ∨ n = 6 := by omega
    rcases this with rfl | rfl | rfl | rfl | rfl | rfl | rfl <;> decide
def e80s : List (Nat × Nat) := [(80, 0), (80, 1), (80, 2), (80, 3), (80, 4), (80, 5), (80, 6), (80, 7), (80, 8), (80, 9), (80, 10), (80, 11)]
theorem allR {c e : Nat} (hc : cc9 c) (he : ce9 e) {M : Mm} (hF : FIX M) {q od : Nat → Nat} {sd : Int32} (h : MKc c e q od sd M) :
    ∃ M1, fX9_all 80 c e (nI 1) M = some M1 ∧ Fr [82, 83, 84, 85, 86, 87, 88, 89] e80s M M1 ∧ (mT M1 = mT M ∧ mW M1 = mW M) ∧ MD q od sd M1 := by
  have hcb : 99 ≤ c ∧ c ≤ 100 := by rcases hc with rfl | rfl <;> decide
  have heb : 101 ≤ e ∧ e ≤ 102 := by rcases he with rfl | rfl <;> decide
  have hGF := krF hF q
  have st : ∀ x, x < 7 → mK M (82 + x) = (20, 8) → fX9_keeps 80 (82 + x) (nI 8) c (nI (8 * x)) (nI 1) (krM M q x) = some (nI (8 * x + 8), krM M q (x + 1)) := fun x hx hk =>
    kq9 (hGF x) (a := 82 + x) (c := c) (by omega) (g := fun k => nI (q (8 * x + k))) (f := 8 * x) (by omega) (by rw [(krS M q x).1]; exact hk) (cc9k (hGF _) hc) (fun k hk => by rw [krI M q _ x (by omega)]; exact h.1 (8 * x + k) (by omega))
  have s0 : fX9_keeps 80 82 (nI 8) c (nI 0) (nI 1) M = some (nI 8, krM M q 1) := st 0 (by decide) (K82 hF)
  have s1 : fX9_keeps 80 83 (nI 8) c (nI 8) (nI 1) (krM M q 1) = some (nI 16, krM M q 2) := st 1 (by decide) (K83 hF)
  have s2 : fX9_keeps 80 84 (nI 8) c (nI 16) (nI 1) (krM M q 2) = some (nI 24, krM M q 3) := st 2 (by decide) (K84 hF)
  have s3 : fX9_keeps 80 85 (nI 8) c (nI 24) (nI 1) (krM M q 3) = some (nI 32, krM M q 4) := st 3 (by decide) (K85 hF)
  have s4 : fX9_keeps 80 86 (nI 8) c (nI 32) (nI 1) (krM M q 4) = some (nI 40, krM M q 5) := st 4 (by decide) (K86 hF)
  have s5 : fX9_keeps 80 87 (nI 8) c (nI 40) (nI 1) (krM M q 5) = some (nI 48, krM M q 6) := st 5 (by decide) (K87 hF)
  have s6 : fX9_keeps 80 88 (nI 8) c (nI 48) (nI 1) (krM M q 6) = some (nI 56, krM M q 7) := st 6 (by decide) (K88 hF)
  obtain ⟨N, hN⟩ : ∃ N, N = krM M q 7 := ⟨_, rfl⟩
  have hFN : FIX N := by rw [hN]; exact hGF 7
  have e1 : fX9_all 80 c e (nI 1) M = fX9_all_b114 FU 80 c e (nI 1) (nI 56) (nI 0) N := by
    unfold fX9_all
    rw [kb80 hF, rb80_14 hF, show (8 : Int32) = nI 8 from rfl, show (0 : Int32) = nI 0 from rfl, bnd1 s0]
    dsimp only
    rw [rb80_15 (hGF _), bnd1 s1]
    dsimp only
    rw [rb80_16 (hGF _), bnd1 s2]
    dsimp only
    rw [rb80_17 (hGF _), bnd1 s3]
    dsimp only
    rw [rb80_18 (hGF _), bnd1 s4]
    dsimp only
    rw [rb80_19 (hGF _), bnd1 s5]
    dsimp only
    rw [rb80_20 (hGF _), bnd1 s6]
    dsimp only
    rw [hN]
  have e2 := alR hc he (g := fun x => lN (od x)) 24 1976 0 N hFN (fun x hx => by rw [hN, (krS M q 7).2.1]; exact h.2.2.2 x hx) (by decide)
  obtain ⟨N2, hN2⟩ : ∃ N2, N2 = gJ N 89 0 24 (fun x => lN (od x)) := ⟨_, rfl⟩
  rw [← hN2] at e2
  have hFN2 : FIX N2 := by rw [hN2, FIX_gJ]; exact hFN
  have i2 : ∀ k, mI N2 c k = mI M c k := fun k => by rw [hN2, mI_gJ, hN, krI M q _ 7 (by omega)]
  have e3 := alRE (e := e) hc hFN2 (q := q) (sd := sd) (fun k hk => by rw [i2]; exact h.1 (56 + k) (by omega)) (by rw [i2]; exact h.2.1) (by rw [i2]; exact h.2.2.1) 1975
  refine ⟨rsM N2 q sd, e1.trans (Eq.trans e2 e3), ?_, ?_, ?_⟩
  · have f1 : Fr [82, 83, 84, 85, 86, 87, 88, 89] e80s M N := by rw [hN]; exact (krFr M q 7 (Nat.le_refl _)).wk (fun _ z => z) mem0
    have f2 : Fr [82, 83, 84, 85, 86, 87, 88, 89] e80s N N2 := by rw [hN2]; exact Fr.gJ _ _ _ (by decide)
    unfold rsM
    exact (f1.tr f2).tr (((((((((((((Fr.oI _ _ (Or.inr (by decide))).tr (Fr.oI _ _ (Or.inr (by decide)))).tr (Fr.oI _ _ (Or.inr (by decide)))).tr (Fr.oI _ _ (Or.inr (by decide)))).tr (Fr.oI _ _ (Or.inr (by decide)))).tr (Fr.oI _ _ (Or.inr (by decide)))).tr (Fr.oI _ _ (Or.inr (by decide)))).tr (Fr.oI _ _ (Or.inr (by decide)))).tr (Fr.oI _ _ (Or.inr (by decide)))).tr (Fr.oI _ _ (Or.inr (by decide)))).tr (Fr.oI _ _ (Or.inr (by decide)))).tr (Fr.oI _ _ (Or.inr (by decide)))))
  · unfold rsM
    rw [hN2, hN]
    have k := krS M q 7
    exact ⟨by simp only [mT_sI, mW_sI, mK_sI, mI_sI, mJ_sI, mR_sI, mT_sJ, mW_sJ, mK_sJ, mI_sJ, mJ_sJ, mR_sJ, mT_sR, mW_sR, mK_sR, mI_sR, mJ_sR, mR_sR, mT_gI, mW_gI, mK_gI, mI_gI, mJ_gI, mR_gI, mT_gJ, mW_gJ, mK_gJ, mI_gJ, mJ_gJ, mR_gJ, mT_wR, mW_wR, mK_wR, mI_wR, mJ_wR, mR_wR, mT_gJ]; exact k.2.2.1, by simp only [mT_sI, mW_sI, mK_sI, mI_sI, mJ_sI, mR_sI, mT_sJ, mW_sJ, mK_sJ, mI_sJ, mJ_sJ, mR_sJ, mT_sR, mW_sR, mK_sR, mI_sR, mJ_sR, mR_sR, mT_gI, mW_gI, mK_gI, mI_gI, mJ_gI, mR_gI, mT_gJ, mW_gJ, mK_gJ, mI_gJ, mJ_gJ, mR_gJ, mT_wR, mW_wR, mK_wR, mI_wR, mJ_wR, mR_wR, mW_gJ]; exact k.2.2.2⟩
  · refine ⟨fun k hk => ?_, ?_, ?_, fun a ha i hi => ?_, fun x hx => ?_⟩
    · unfold rsM
      have hk2 : k = 0 ∨ k = 1 ∨ k = 2 ∨ k = 3 ∨ k = 4 ∨ k = 5 ∨ k = 6 ∨ k = 7 ∨ k = 8 ∨ k = 9 := by omega
      rcases hk2 with rfl | rfl | rfl | rfl | rfl | rfl | rfl | rfl | rfl | rfl <;> simp only [mI_sI, true_and, Nat.reduceEqDiff, ↓reduceIte]
    · unfold rsM
      simp only [mI_sI, true_and, Nat.reduceEqDiff, ↓reduceIte]
    · unfold rsM
      simp only [mI_sI, true_and, Nat.reduceEqDiff, ↓reduceIte]
    · unfold rsM
      simp only [mI_sI]
      rw [if_neg (by omega), if_neg (by omega), if_neg (by omega), if_neg (by omega), if_neg (by omega), if_neg (by omega), if_neg (by omega), if_neg (by omega), if_neg (by omega), if_neg (by omega), if_neg (by omega), if_neg (by omega), hN2, mI_gJ, hN]
      exact krD M q hi 7 ha
    · unfold rsM
      simp only [mJ_sI]
      rw [hN2, mJ_gJ, if_pos ⟨rfl, Nat.zero_le _, hx⟩]
