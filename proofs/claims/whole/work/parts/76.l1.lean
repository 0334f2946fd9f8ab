/-! a street becomes like another -/
def gR (M : Mm) (a i n : Nat) (g : Nat → Option Nat) : Mm := (mT M, mW M, mK M, mI M, mJ M, (fun x j => if x = a ∧ i ≤ j ∧ j < n then g j else mR M x j))
theorem mT_gR (M : Mm) (a i n : Nat) (g : Nat → Option Nat) : mT (gR M a i n g) = mT M := Eq.trans (Eq.refl _) (Eq.refl _)
theorem mW_gR (M : Mm) (a i n : Nat) (g : Nat → Option Nat) : mW (gR M a i n g) = mW M := Eq.trans (Eq.refl _) (Eq.refl _)
theorem mK_gR (M : Mm) (a i n : Nat) (g : Nat → Option Nat) : mK (gR M a i n g) = mK M := Eq.trans (Eq.refl _) (Eq.refl _)
theorem mI_gR (M : Mm) (a i n : Nat) (g : Nat → Option Nat) : mI (gR M a i n g) = mI M := Eq.trans (Eq.refl _) (Eq.refl _)
theorem mJ_gR (M : Mm) (a i n : Nat) (g : Nat → Option Nat) : mJ (gR M a i n g) = mJ M := Eq.trans (Eq.refl _) (Eq.refl _)
theorem mR_gR (M : Mm) (a i n : Nat) (g : Nat → Option Nat) (x j : Nat) : mR (gR M a i n g) x j = if x = a ∧ i ≤ j ∧ j < n then g j else mR M x j := Eq.trans (Eq.refl _) (Eq.refl _)
theorem Reta {M : Mm} {J : Nat → Nat → Option Nat} (h : J = mR M) : (mT M, mW M, mK M, mI M, mJ M, J) = M := by rw [h]; rfl
theorem gR_end (M : Mm) (a n : Nat) (g : Nat → Option Nat) : gR M a n n g = M := Reta (funext fun x => funext fun j => if_neg (by omega))
theorem gR_step {M : Mm} {a i n : Nat} {g : Nat → Option Nat} {v : Option Nat} (h : i < n) (hv : v = g i) : gR (sR M a i v) a (i + 1) n g = gR M a i n g := by
  have : (fun x j => if x = a ∧ i + 1 ≤ j ∧ j < n then g j else mR (sR M a i v) x j) = (fun x j => if x = a ∧ i ≤ j ∧ j < n then g j else mR M x j) := by
    funext x j
    simp only [mR_sR]
    by_cases e : x = a ∧ j = i
    · obtain ⟨rfl, rfl⟩ := e
      rw [if_neg (by omega), if_pos (by omega), if_pos (by omega), hv]
    · rw [if_neg e]
      by_cases e2 : x = a ∧ i + 1 ≤ j ∧ j < n
      · rw [if_pos e2, if_pos (by omega)]
      · rw [if_neg e2, if_neg (by omega)]
  unfold gR
  rw [this]
  rfl
theorem Fr.gR {ds : List Nat} {es : List (Nat × Nat)} {M : Mm} {a : Nat} (i n : Nat) (g : Nat → Option Nat) (h : a ∈ ds) (hr : a ∈ rcs) : Fr ds es M (gR M a i n g) := ⟨⟨Nat.le_refl _, Nat.le_refl _⟩, fun _ _ => Eq.refl _, fun o _ hn => funext fun j => by rw [mR_gR, if_neg (by rintro ⟨rfl, -⟩; exact hn.elim (fun z => z h) (fun z => z hr))], fun o _ hn => ⟨Eq.refl _, fun _ _ => Eq.refl _⟩⟩
theorem FIX.gR {M : Mm} (h : FIX M) {a : Nat} (i n : Nat) (g : Nat → Option Nat) (hr : a ∈ rcs) : FIX (gR M a i n g) := (Fr.gR (ds := [a]) (es := []) i n g List.mem_cons_self hr).fix h
theorem sl1 {s : Nat} (hs : sl s) : s + 1 ∈ rcs ∧ s + 2 ∈ rcs := by rcases hs with rfl | rfl | rfl <;> decide
theorem sl1b {s : Nat} (hs : sl s) : (s + 1 = 23 ∨ s + 1 = 24 ∨ s + 1 = 29 ∨ s + 1 = 30 ∨ s + 1 = 35 ∨ s + 1 = 36 ∨ 107 ≤ s + 1) ∧ (s + 2 = 23 ∨ s + 2 = 24 ∨ s + 2 = 29 ∨ s + 2 = 30 ∨ s + 2 = 35 ∨ s + 2 = 36 ∨ 107 ≤ s + 2) := by rcases hs with rfl | rfl | rfl <;> decide
theorem liX50 {s d : Nat} (hs : sl s) (hd : sl d) (hne : s ≠ d) {V : Nat → Option Nat} : ∀ m n i (M : Mm), FIX M → (∀ k, k < 8 → mR M (s + 1) k = V k) → (∀ k, k < 8 → ∀ a, V k = some a → (mK M a).1 = 5) → m + i = 8 → fX5_becomeLike_b50 (n + m) d s (nI i) M = fX5_becomeLike_b50 n d s (nI 8) (gR M (d + 1) i 8 V) := by
  have hls := sl_lt hs
  have hs3 : s = 22 ∨ s = 28 ∨ s = 34 := hs
  have hd3 : d = 22 ∨ d = 28 ∨ d = 34 := hd
  have hld := sl_lt hd
  have hdn : s + 1 ≠ d + 1 := by omega
  intro m
  induction m with
  | zero => intro n i M _ _ _ hi; rw [show i = 8 by omega, gR_end]; rfl
  | succ m ih =>
    intro n i M hF hV hK hi
    have ci : i < 8 := by omega
    have hc := nI_clamp (show i < 2 ^ 31 by omega)
    have ea : aR M 23 (s + 1) (nI i) = some (V i) := by
      unfold aR
      rw [if_pos (by rw [kS1 hF hs, hc]; exact ⟨rfl, nI_pos (by omega), ci⟩), hc, hV i ci]
    have et : tR M 23 4 (d + 1) (nI i) (V i) = some (sR M (d + 1) i (V i)) := by
      unfold tR
      rw [if_pos (by rw [kS1 hF hd, hc]; exact ⟨rfl, nI_pos (by omega), ci, hK i ci⟩), hc]
    rw [show n + (m + 1) = (n + m) + 1 by omega, fX5_becomeLike_b50, if_neg (by rw [l8, le_nn (by decide) (by omega)]; omega), rbS6 hd hF, rbS6 hs hF, bnd1 ea, bnd1 et, show nI i + (1 : Int32) = nI (i + 1) from add_nn i 1, ih n (i + 1) (sR M (d + 1) i (V i)) (hF.sR _ _ (sl1b hd).1) (fun k hk => by rw [mR_sR, if_neg (by omega)]; exact hV k hk) (fun k hk a ha => by rw [mK_sR]; exact hK k hk a ha) (by omega), gR_step ci rfl]
theorem liX84 {s d : Nat} (hs : sl s) (hd : sl d) (hne : s ≠ d) {V : Nat → Option Nat} : ∀ m n i (M : Mm), FIX M → (∀ k, k < 8 → mR M (s + 2) k = V k) → (∀ k, k < 8 → ∀ a, V k = some a → (mK M a).1 = 7) → m + i = 8 → fX5_becomeLike_b84 (n + m) d s (nI i) M = fX5_becomeLike_b84 n d s (nI 8) (gR M (d + 2) i 8 V) := by
  have hls := sl_lt hs
  have hs3 : s = 22 ∨ s = 28 ∨ s = 34 := hs
  have hd3 : d = 22 ∨ d = 28 ∨ d = 34 := hd
  have hld := sl_lt hd
  have hdn : s + 2 ≠ d + 2 := by omega
  intro m
  induction m with
  | zero => intro n i M _ _ _ hi; rw [show i = 8 by omega, gR_end]; rfl
  | succ m ih =>
    intro n i M hF hV hK hi
    have ci : i < 8 := by omega
    have hc := nI_clamp (show i < 2 ^ 31 by omega)
    have ea : aR M 24 (s + 2) (nI i) = some (V i) := by
      unfold aR
      rw [if_pos (by rw [kS2 hF hs, hc]; exact ⟨rfl, nI_pos (by omega), ci⟩), hc, hV i ci]
    have et : tR M 24 6 (d + 2) (nI i) (V i) = some (sR M (d + 2) i (V i)) := by
      unfold tR
      rw [if_pos (by rw [kS2 hF hd, hc]; exact ⟨rfl, nI_pos (by omega), ci, hK i ci⟩), hc]
    rw [show n + (m + 1) = (n + m) + 1 by omega, fX5_becomeLike_b84, if_neg (by rw [l8, le_nn (by decide) (by omega)]; omega), rbS8 hd hF, rbS8 hs hF, bnd1 ea, bnd1 et, show nI i + (1 : Int32) = nI (i + 1) from add_nn i 1, ih n (i + 1) (sR M (d + 2) i (V i)) (hF.sR _ _ (sl1b hd).2) (fun k hk => by rw [mR_sR, if_neg (by omega)]; exact hV k hk) (fun k hk a ha => by rw [mK_sR]; exact hK k hk a ha) (by omega), gR_step ci rfl]
theorem pzS {β : Type} {M : Mm} {s : Nat} (hs : sl s) (h : FIX M) (k : Nat) {v : Nat} (hv : v ≤ 1) (f : Mm → Option β) : Option.bind (pZ M 5 s k (nI v)) f = f (sI M s k (nI v)) := bnd1 (by
  have e : nI v &&& 1 = nI v := by
    have : v = 0 ∨ v = 1 := by omega
    rcases this with rfl | rfl <;> decide
  unfold pZ
  rw [if_pos ⟨by rw [kS h hs], e⟩]) f
def lkA (M : Mm) (d : Nat) (q : Nat → Nat) : Mm := sI (sI (sI (sI (sI (sI M d 0 (nI (q 56))) d 1 (nI (q 57))) d 2 (nI (q 58))) d 3 (nI (q 59))) d 4 (nI (q 60))) d 5 (nI (q 61))
def lkB (M : Mm) (d : Nat) (q : Nat → Nat) (sd : Int32) (W : Nat → Int64) : Mm := sI (sI (sI (sI (gJ (sI M d 9 (nI (q 63))) (d + 4) 0 24 W) d 11 (nI (q 65))) d 12 (nI (q 64))) d 13 (nI (q 66) - nI 1)) d 14 sd
def lkM (M : Mm) (d : Nat) (q : Nat → Nat) (sd : Int32) (V1 V2 : Nat → Option Nat) (W : Nat → Int64) : Mm := lkB (gR (sI (gR (lkA M d q) (d + 1) 0 8 V1) d 7 (nI (q 62))) (d + 2) 0 8 V2) d q sd W
theorem blO {s d : Nat} (hs : sl s) (hd : sl d) {N : Mm} (hF : FIX N) : fX0_becomeLike (d + 3) (s + 3) N = some (gJ N (d + 4) 0 24 (fun k => mJ N (s + 4) k)) := by
  have e1 := cJ0 (kS4 hF hs) (kS4 hF hd)
  unfold fX0_becomeLike
  rw [kbO hd hF, rbO0 hs hF, rbO0 hd hF, show (0 : Int32) = nI 0 from rfl, show (24 : Int32) = nI 24 from rfl, bnd1 e1]
theorem lik0 {s d : Nat} (hs : sl s) (hd : sl d) (hne : s ≠ d) {M : Mm} (hF : FIX M) {q od : Nat → Nat} {sd : Int32} (h : St s q od sd M) (h60 : q 60 ≤ 1) : fX5_becomeLike d s M = some (lkM M d q sd (mR M (s + 1)) (mR M (s + 2)) (mJ M (s + 4))) := by
  have hls := sl_lt hs
  have hs3 : s = 22 ∨ s = 28 ∨ s = 34 := hs
  have hd3 : d = 22 ∨ d = 28 ∨ d = 34 := hd
  have hld := sl_lt hd
  have hsd : (s = d) = False := eq_false hne
  have hw := h.2.2.2.2.2.2
  have FA : FIX (lkA M d q) := by unfold lkA; simp only [FIX_sI]; exact hF
  have e1 : fX5_becomeLike d s M = fX5_becomeLike_b50 FU d s (nI 0) (lkA M d q) := by
    unfold fX5_becomeLike lkA
    simp (disch := first | assumption | omega | (simp only [FIX_sI, FIX_sJ, FIX_gI, FIX_gJ]; assumption)) only [↓kbS hd, ↓ibS hs, ↓pbS hd, ↓pzS hd, mI_sI, hsd, false_and, ↓reduceIte, h.f56, h.f57, h.f58, h.f59, h.f60, h.f61, l0]
  have e2 := liX50 hs hd hne (V := mR M (s + 1)) 8 1992 0 (lkA M d q) FA (fun k _ => rfl) (fun k hk a ha => by
    have := (hw.1 k hk a ha).2.2
    show (mK M a).1 = 5
    rw [this]) (by decide)
  obtain ⟨N1, hN1⟩ : ∃ N1, N1 = gR (lkA M d q) (d + 1) 0 8 (mR M (s + 1)) := ⟨_, rfl⟩
  rw [← hN1] at e2
  have F1 : FIX N1 := by rw [hN1]; exact FA.gR _ _ _ (sl1 hd).1
  have i1 : ∀ k, mI N1 s k = mI M s k := fun k => by rw [hN1, mI_gR]; unfold lkA; simp only [mI_sI, hsd, false_and, ↓reduceIte]
  have F2 : FIX (sI N1 d 7 (nI (q 62))) := by rw [FIX_sI]; exact F1
  have e3 : fX5_becomeLike_b50 1992 d s (nI 8) N1 = fX5_becomeLike_b84 FU d s (nI 0) (sI N1 d 7 (nI (q 62))) := by
    rw [show 1992 = 1991 + 1 from rfl, fX5_becomeLike_b50, if_pos (by rw [l8, le_nn (by decide) (by decide)]; exact Nat.le_refl _), ibS hs F1, i1, h.f62, pbS hd F1]
    rfl
  have e4 := liX84 hs hd hne (V := mR M (s + 2)) 8 1992 0 (sI N1 d 7 (nI (q 62))) F2 (fun k _ => by
    rw [mR_sI, hN1, mR_gR, if_neg (by omega)]
    rfl) (fun k hk a ha => by
    have := (hw.2.1 k hk a ha).2.2
    rw [mK_sI, hN1, mK_gR]
    show (mK M a).1 = 7
    rw [this]) (by decide)
  obtain ⟨N2, hN2⟩ : ∃ N2, N2 = gR (sI N1 d 7 (nI (q 62))) (d + 2) 0 8 (mR M (s + 2)) := ⟨_, rfl⟩
  rw [← hN2] at e4
  have F3 : FIX N2 := by rw [hN2]; exact F2.gR _ _ _ (sl1 hd).2
  have i2 : ∀ k, mI N2 s k = mI M s k := fun k => by rw [hN2, mI_gR, mI_sI, if_neg (by omega), i1]
  have j2 : ∀ k, mJ N2 (s + 4) k = mJ M (s + 4) k := fun k => by rw [hN2, mJ_gR, mJ_sI, hN1, mJ_gR]; rfl
  have F4 : FIX (sI N2 d 9 (nI (q 63))) := by rw [FIX_sI]; exact F3
  have e5 := blO hs hd F4
  rw [show (fun k => mJ (sI N2 d 9 (nI (q 63))) (s + 4) k) = mJ M (s + 4) from funext fun k => by rw [mJ_sI, j2]] at e5
  have e6 : fX5_becomeLike_b84 1992 d s (nI 8) N2 = some (lkB N2 d q sd (mJ M (s + 4))) := by
    unfold lkB
    rw [show 1992 = 1991 + 1 from rfl, fX5_becomeLike_b84, if_pos (by rw [l8, le_nn (by decide) (by decide)]; exact Nat.le_refl _), ibS hs F3, i2, h.f63, pbS hd F3, rbS10 hd F4, rbS10 hs F4, bnd1 e5]
    simp (disch := first | assumption | omega | (simp only [FIX_sI, FIX_sJ, FIX_gI, FIX_gJ]; assumption)) only [↓ibS hs, ↓pbS hd, mI_sI, mI_gJ, hsd, false_and, ↓reduceIte, i2, h.f65, h.f64, h.2.1, h.2.2.1]
  rw [e1]
  refine Eq.trans e2 (Eq.trans e3 (Eq.trans e4 (Eq.trans e6 ?_)))
  rw [hN2, hN1]
  rfl

theorem lkM_fr (M : Mm) {d : Nat} (hd : sl d) (q : Nat → Nat) (sd : Int32) (V1 V2 : Nat → Option Nat) (W : Nat → Int64) : Fr [d, d + 1, d + 2, d + 4] [] M (lkM M d q sd V1 V2 W) := by
  have h0 : d ∈ [d, d + 1, d + 2, d + 4] := List.mem_cons_self
  have h1 : d + 1 ∈ [d, d + 1, d + 2, d + 4] := List.mem_cons_of_mem _ List.mem_cons_self
  have h2 : d + 2 ∈ [d, d + 1, d + 2, d + 4] := List.mem_cons_of_mem _ (List.mem_cons_of_mem _ List.mem_cons_self)
  have h4 : d + 4 ∈ [d, d + 1, d + 2, d + 4] := List.mem_cons_of_mem _ (List.mem_cons_of_mem _ (List.mem_cons_of_mem _ List.mem_cons_self))
  have fA : Fr [d, d + 1, d + 2, d + 4] [] M (lkA M d q) := by
    unfold lkA
    exact (((((Fr.oI _ _ (Or.inl h0)).tr (Fr.oI _ _ (Or.inl h0))).tr (Fr.oI _ _ (Or.inl h0))).tr (Fr.oI _ _ (Or.inl h0))).tr (Fr.oI _ _ (Or.inl h0))).tr (Fr.oI _ _ (Or.inl h0))
  have fB : ∀ N, Fr [d, d + 1, d + 2, d + 4] [] N (lkB N d q sd W) := fun N => by
    unfold lkB
    exact (((((Fr.oI _ _ (Or.inl h0)).tr (Fr.gJ _ _ _ h4)).tr (Fr.oI _ _ (Or.inl h0))).tr (Fr.oI _ _ (Or.inl h0))).tr (Fr.oI _ _ (Or.inl h0))).tr (Fr.oI _ _ (Or.inl h0))
  unfold lkM
  exact (((fA.tr (Fr.gR _ _ _ h1 (sl1 hd).1)).tr (Fr.oI _ _ (Or.inl h0))).tr (Fr.gR _ _ _ h2 (sl1 hd).2)).tr (fB _)
theorem lkM_t (M : Mm) (d : Nat) (q : Nat → Nat) (sd : Int32) (V1 V2 : Nat → Option Nat) (W : Nat → Int64) : mT (lkM M d q sd V1 V2 W) = mT M ∧ mW (lkM M d q sd V1 V2 W) = mW M := by
  unfold lkM lkB lkA
  exact ⟨by simp only [mI_gR, mJ_gR, mR_gR, mK_gR, mT_gR, mW_gR, mT_sI, mW_sI, mK_sI, mI_sI, mJ_sI, mR_sI, mT_sJ, mW_sJ, mK_sJ, mI_sJ, mJ_sJ, mR_sJ, mT_sR, mW_sR, mK_sR, mI_sR, mJ_sR, mR_sR, mT_gI, mW_gI, mK_gI, mI_gI, mJ_gI, mR_gI, mT_gJ, mW_gJ, mK_gJ, mI_gJ, mJ_gJ, mR_gJ, mT_wR, mW_wR, mK_wR, mI_wR, mJ_wR, mR_wR, mI_gJ, mJ_gJ, mR_gJ, mK_gJ, mT_gJ, mW_gJ], by simp only [mI_gR, mJ_gR, mR_gR, mK_gR, mT_gR, mW_gR, mT_sI, mW_sI, mK_sI, mI_sI, mJ_sI, mR_sI, mT_sJ, mW_sJ, mK_sJ, mI_sJ, mJ_sJ, mR_sJ, mT_sR, mW_sR, mK_sR, mI_sR, mJ_sR, mR_sR, mT_gI, mW_gI, mK_gI, mI_gI, mJ_gI, mR_gI, mT_gJ, mW_gJ, mK_gJ, mI_gJ, mJ_gJ, mR_gJ, mT_wR, mW_wR, mK_wR, mI_wR, mJ_wR, mR_wR, mI_gJ, mJ_gJ, mR_gJ, mK_gJ, mT_gJ, mW_gJ]⟩
theorem lik8 {s d : Nat} (hs : sl s) (hd : sl d) (hne : s ≠ d) {M : Mm} (hF : FIX M) {q od : Nat → Nat} {sd : Int32} (h : St s q od sd M) (hq : q 60 ≤ 1 ∧ q 62 ≤ 8 ∧ q 63 ≤ 8) (hz : ∀ c, c < 24 → mJ M (d + 5) c = 0) :
    ∃ M1, fX5_becomeLike d s M = some M1 ∧ Fr [d, d + 1, d + 2, d + 4] [] M M1 ∧ (mT M1 = mT M ∧ mW M1 = mW M) ∧ St d q od sd M1 := by
  have hls := sl_lt hs
  have hs3 : s = 22 ∨ s = 28 ∨ s = 34 := hs
  have hd3 : d = 22 ∨ d = 28 ∨ d = 34 := hd
  have hld := sl_lt hd
  have h0 := hF.1
  have hw := h.2.2.2.2.2.2
  have f := lkM_fr M hd q sd (mR M (s + 1)) (mR M (s + 2)) (mJ M (s + 4))
  have t := lkM_t M d q sd (mR M (s + 1)) (mR M (s + 2)) (mJ M (s + 4))
  have ed1 : (d + 1 = d) = False := eq_false (by omega)
  have r1 : ∀ i, i < 8 → mR (lkM M d q sd (mR M (s + 1)) (mR M (s + 2)) (mJ M (s + 4))) (d + 1) i = mR M (s + 1) i := fun i hi => by
    unfold lkM lkB lkA
    simp only [mI_gR, mJ_gR, mR_gR, mK_gR, mT_gR, mW_gR, mT_sI, mW_sI, mK_sI, mI_sI, mJ_sI, mR_sI, mT_sJ, mW_sJ, mK_sJ, mI_sJ, mJ_sJ, mR_sJ, mT_sR, mW_sR, mK_sR, mI_sR, mJ_sR, mR_sR, mT_gI, mW_gI, mK_gI, mI_gI, mJ_gI, mR_gI, mT_gJ, mW_gJ, mK_gJ, mI_gJ, mJ_gJ, mR_gJ, mT_wR, mW_wR, mK_wR, mI_wR, mJ_wR, mR_wR, mI_gJ, mJ_gJ, mR_gJ, mK_gJ, mT_gJ, mW_gJ]
    rw [if_neg (by omega), if_pos ⟨trivial, Nat.zero_le _, hi⟩]
  have r2 : ∀ i, i < 8 → mR (lkM M d q sd (mR M (s + 1)) (mR M (s + 2)) (mJ M (s + 4))) (d + 2) i = mR M (s + 2) i := fun i hi => by
    unfold lkM lkB lkA
    simp only [mI_gR, mJ_gR, mR_gR, mK_gR, mT_gR, mW_gR, mT_sI, mW_sI, mK_sI, mI_sI, mJ_sI, mR_sI, mT_sJ, mW_sJ, mK_sJ, mI_sJ, mJ_sJ, mR_sJ, mT_sR, mW_sR, mK_sR, mI_sR, mJ_sR, mR_sR, mT_gI, mW_gI, mK_gI, mI_gI, mJ_gI, mR_gI, mT_gJ, mW_gJ, mK_gJ, mI_gJ, mJ_gJ, mR_gJ, mT_wR, mW_wR, mK_wR, mI_wR, mJ_wR, mR_wR, mI_gJ, mJ_gJ, mR_gJ, mK_gJ, mT_gJ, mW_gJ]
    rw [if_pos ⟨trivial, Nat.zero_le _, hi⟩]
  have j4 : ∀ c, c < 24 → mJ (lkM M d q sd (mR M (s + 1)) (mR M (s + 2)) (mJ M (s + 4))) (d + 4) c = mJ M (s + 4) c := fun c hc => by
    unfold lkM lkB lkA
    simp only [mI_gR, mJ_gR, mR_gR, mK_gR, mT_gR, mW_gR, mT_sI, mW_sI, mK_sI, mI_sI, mJ_sI, mR_sI, mT_sJ, mW_sJ, mK_sJ, mI_sJ, mJ_sJ, mR_sJ, mT_sR, mW_sR, mK_sR, mI_sR, mJ_sR, mR_sR, mT_gI, mW_gI, mK_gI, mI_gI, mJ_gI, mR_gI, mT_gJ, mW_gJ, mK_gJ, mI_gJ, mJ_gJ, mR_gJ, mT_wR, mW_wR, mK_wR, mI_wR, mJ_wR, mR_wR, mI_gJ, mJ_gJ, mR_gJ, mK_gJ, mT_gJ, mW_gJ]
    rw [if_pos ⟨trivial, Nat.zero_le _, hc⟩]
  have hn : ∀ o, 107 ≤ o → ¬ o ∈ [d, d + 1, d + 2, d + 4] := fun o ho x => by
    simp only [List.mem_cons, List.not_mem_nil, or_false] at x
    omega
  obtain ⟨M1, hM1⟩ : ∃ M1, M1 = lkM M d q sd (mR M (s + 1)) (mR M (s + 2)) (mJ M (s + 4)) := ⟨_, rfl⟩
  refine ⟨M1, by rw [hM1]; exact lik0 hs hd hne hF h hq.1, by rw [hM1]; exact f, by rw [hM1]; exact t, ?_⟩
  rw [← hM1] at f r1 r2 j4
  have z5 : ∀ c, c < 24 → mJ M1 (d + 5) c = 0 := fun c hc => by
    rw [f.J (by omega) (fun x => by
      simp only [List.mem_cons, List.not_mem_nil, or_false] at x
      omega)]
    exact hz c hc
  have ha : ∀ o ∈ [d, d + 1, d + 2, d + 4], o < 107 := (fun o ho => by simp only [List.mem_cons, List.not_mem_nil, or_false] at ho; omega)
  refine ⟨?_, ?_, ?_, fun i hi => ?_, fun i hi => ?_, fun c hc => by rw [j4 c hc]; exact h.2.2.2.2.2.1 c hc, fun i hi r hr => ?_, fun i hi r hr => ?_, z5⟩
  · intro x hx
    rw [hM1]
    unfold lkM lkB lkA
    simp only [SCL, List.mem_cons, List.not_mem_nil, or_false] at hx
    rcases hx with rfl | rfl | rfl | rfl | rfl | rfl | rfl | rfl | rfl | rfl <;> simp only [mI_gR, mJ_gR, mR_gR, mK_gR, mT_gR, mW_gR, mT_sI, mW_sI, mK_sI, mI_sI, mJ_sI, mR_sI, mT_sJ, mW_sJ, mK_sJ, mI_sJ, mJ_sJ, mR_sJ, mT_sR, mW_sR, mK_sR, mI_sR, mJ_sR, mR_sR, mT_gI, mW_gI, mK_gI, mI_gI, mJ_gI, mR_gI, mT_gJ, mW_gJ, mK_gJ, mI_gJ, mJ_gJ, mR_gJ, mT_wR, mW_wR, mK_wR, mI_wR, mJ_wR, mR_wR, mI_gJ, mJ_gJ, mR_gJ, mK_gJ, mT_gJ, mW_gJ, true_and, Nat.reduceEqDiff, ↓reduceIte]
  · rw [hM1]
    unfold lkM lkB lkA
    simp only [mI_gR, mJ_gR, mR_gR, mK_gR, mT_gR, mW_gR, mT_sI, mW_sI, mK_sI, mI_sI, mJ_sI, mR_sI, mT_sJ, mW_sJ, mK_sJ, mI_sJ, mJ_sJ, mR_sJ, mT_sR, mW_sR, mK_sR, mI_sR, mJ_sR, mR_sR, mT_gI, mW_gI, mK_gI, mI_gI, mJ_gI, mR_gI, mT_gJ, mW_gJ, mK_gJ, mI_gJ, mJ_gJ, mR_gJ, mT_wR, mW_wR, mK_wR, mI_wR, mJ_wR, mR_wR, mI_gJ, mJ_gJ, mR_gJ, mK_gJ, mT_gJ, mW_gJ, true_and, Nat.reduceEqDiff, ↓reduceIte]
  · rw [hM1]
    unfold lkM lkB lkA
    simp only [mI_gR, mJ_gR, mR_gR, mK_gR, mT_gR, mW_gR, mT_sI, mW_sI, mK_sI, mI_sI, mJ_sI, mR_sI, mT_sJ, mW_sJ, mK_sJ, mI_sJ, mJ_sJ, mR_sJ, mT_sR, mW_sR, mK_sR, mI_sR, mJ_sR, mR_sR, mT_gI, mW_gI, mK_gI, mI_gI, mJ_gI, mR_gI, mT_gJ, mW_gJ, mK_gJ, mI_gJ, mJ_gJ, mR_gJ, mT_wR, mW_wR, mK_wR, mI_wR, mJ_wR, mR_wR, mI_gJ, mJ_gJ, mR_gJ, mK_gJ, mT_gJ, mW_gJ, true_and, Nat.reduceEqDiff, ↓reduceIte]
  · obtain ⟨r, hr, g⟩ := h.2.2.2.1 i hi
    exact ⟨r, by rw [r1 i (by omega)]; exact hr, g.fr f ha mem0⟩
  · obtain ⟨r, hr, g⟩ := h.2.2.2.2.1 i hi
    exact ⟨r, by rw [r2 i (by omega)]; exact hr, g.fr f ha mem0⟩
  · rw [r1 i hi] at hr
    obtain ⟨a, b, c⟩ := hw.1 i hi r hr
    exact ⟨a, Nat.lt_of_lt_of_le b f.1.1, by rw [f.2.1 r b]; exact c⟩
  · rw [r2 i hi] at hr
    obtain ⟨a, b, c⟩ := hw.2.1 i hi r hr
    exact ⟨a, Nat.lt_of_lt_of_le b f.1.1, by rw [f.2.1 r b]; exact c⟩
