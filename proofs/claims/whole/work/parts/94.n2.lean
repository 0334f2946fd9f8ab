/-! worth, the class: what it looks from, a row weighed, the greatest, by halves -/
theorem gr42 {M : Mm} (h : FIX M) {i : Nat} (hi : i < 8) : mR M 42 i = some (43 + i) := by
  have : i = 0 ∨ i = 1 ∨ i = 2 ∨ i = 3 ∨ i = 4 ∨ i = 5 ∨ i = 6 ∨ i = 7 := by omega
  rcases this with rfl | rfl | rfl | rfl | rfl | rfl | rfl | rfl
  · exact R42_0 h
  · exact R42_1 h
  · exact R42_2 h
  · exact R42_3 h
  · exact R42_4 h
  · exact R42_5 h
  · exact R42_6 h
  · exact R42_7 h
theorem gr51 {M : Mm} (h : FIX M) {i : Nat} (hi : i < 9) : mR M 51 i = some (52 + i) := by
  have : i = 0 ∨ i = 1 ∨ i = 2 ∨ i = 3 ∨ i = 4 ∨ i = 5 ∨ i = 6 ∨ i = 7 ∨ i = 8 := by omega
  rcases this with rfl | rfl | rfl | rfl | rfl | rfl | rfl | rfl | rfl
  · exact R51_0 h
  · exact R51_1 h
  · exact R51_2 h
  · exact R51_3 h
  · exact R51_4 h
  · exact R51_5 h
  · exact R51_6 h
  · exact R51_7 h
  · exact R51_8 h
theorem gk43 {M : Mm} (h : FIX M) {i : Nat} (hi : i < 8) : mK M (43 + i) = (20, 24) := by
  have : i = 0 ∨ i = 1 ∨ i = 2 ∨ i = 3 ∨ i = 4 ∨ i = 5 ∨ i = 6 ∨ i = 7 := by omega
  rcases this with rfl | rfl | rfl | rfl | rfl | rfl | rfl | rfl
  · exact K43 h
  · exact K44 h
  · exact K45 h
  · exact K46 h
  · exact K47 h
  · exact K48 h
  · exact K49 h
  · exact K50 h
theorem gk52 {M : Mm} (h : FIX M) {i : Nat} (hi : i < 9) : mK M (52 + i) = (21, 24) := by
  have : i = 0 ∨ i = 1 ∨ i = 2 ∨ i = 3 ∨ i = 4 ∨ i = 5 ∨ i = 6 ∨ i = 7 ∨ i = 8 := by omega
  rcases this with rfl | rfl | rfl | rfl | rfl | rfl | rfl | rfl | rfl
  · exact K52 h
  · exact K53 h
  · exact K54 h
  · exact K55 h
  · exact K56 h
  · exact K57 h
  · exact K58 h
  · exact K59 h
  · exact K60 h
theorem ar42 {β : Type} {M : Mm} (h : FIX M) {i : Nat} (hi : i < 8) (f : Option Nat → Option β) : Option.bind (aR M 25 42 (nI i)) f = f (some (43 + i)) := bnd1 (by
  have hc := nI_clamp (show i < 2 ^ 31 by omega)
  unfold aR
  rw [if_pos (by rw [K42 h, hc]; exact ⟨rfl, nI_pos (by omega), hi⟩), hc, gr42 h hi]) f
theorem ar51 {β : Type} {M : Mm} (h : FIX M) {i : Nat} (hi : i < 9) (f : Option Nat → Option β) : Option.bind (aR M 26 51 (nI i)) f = f (some (52 + i)) := bnd1 (by
  have hc := nI_clamp (show i < 2 ^ 31 by omega)
  unfold aR
  rw [if_pos (by rw [K51 h, hc]; exact ⟨rfl, nI_pos (by omega), hi⟩), hc, gr51 h hi]) f
theorem ag43 {β : Type} {M : Mm} (h : FIX M) {j i : Nat} (hj : j < 8) (hi : i < 24) (f : Int32 → Option β) : Option.bind (aI M (43 + j) (nI i)) f = f (mI M (43 + j) i) := bnd1 (by
  have hc := nI_clamp (show i < 2 ^ 31 by omega)
  unfold aI
  rw [if_pos (by rw [gk43 h hj, hc]; exact ⟨Or.inl rfl, nI_pos (by omega), hi⟩), hc]) f
theorem tg43 {β : Type} {M : Mm} (h : FIX M) {j i : Nat} (hj : j < 8) (hi : i < 24) (v : Int32) (f : Mm → Option β) : Option.bind (tI M (43 + j) (nI i) v) f = f (sI M (43 + j) i v) := bnd1 (by
  have hc := nI_clamp (show i < 2 ^ 31 by omega)
  unfold tI
  rw [if_pos (by rw [gk43 h hj, hc]; exact ⟨rfl, nI_pos (by omega), hi⟩), hc]) f
theorem ag52 {β : Type} {M : Mm} (h : FIX M) {j i : Nat} (hj : j < 9) (hi : i < 24) (f : Int64 → Option β) : Option.bind (aJ M (52 + j) (nI i)) f = f (mJ M (52 + j) i) := bnd1 (by
  have hc := nI_clamp (show i < 2 ^ 31 by omega)
  unfold aJ
  rw [if_pos (by rw [gk52 h hj, hc]; exact ⟨rfl, nI_pos (by omega), hi⟩), hc]) f
theorem tg52 {β : Type} {M : Mm} (h : FIX M) {j i : Nat} (hj : j < 9) (hi : i < 24) (v : Int64) (f : Mm → Option β) : Option.bind (tJ M (52 + j) (nI i) v) f = f (sJ M (52 + j) i v) := bnd1 (by
  have hc := nI_clamp (show i < 2 ^ 31 by omega)
  unfold tJ
  rw [if_pos (by rw [gk52 h hj, hc]; exact ⟨rfl, nI_pos (by omega), hi⟩), hc]) f
def OLS : List Nat := [41, 43, 44, 45, 46, 47, 48, 49, 50, 52, 53, 54, 55, 56, 57, 58, 59, 60]
def TLS : List Nat := [43, 44, 45, 46, 47, 48, 49, 50]
def RLS : List Nat := [53, 54, 55, 56, 57, 58, 59, 60]
theorem in_TLS {i : Nat} (h : i < 8) : 43 + i ∈ TLS := by
  have : ∀ i, i < 8 → 43 + i ∈ TLS := by decide
  exact this i h
theorem in_RLS {i : Nat} (h : i < 8) : 52 + (i + 1) ∈ RLS := by
  have : ∀ i, i < 8 → 52 + (i + 1) ∈ RLS := by decide
  exact this i h
theorem of_TLS {o : Nat} (h : o ∈ TLS) : 43 ≤ o ∧ o ≤ 50 := by
  have : ∀ o ∈ TLS, 43 ≤ o ∧ o ≤ 50 := by decide
  exact this o h
theorem of_RLS {o : Nat} (h : o ∈ RLS) : 53 ≤ o ∧ o ≤ 60 := by
  have : ∀ o ∈ RLS, 53 ≤ o ∧ o ≤ 60 := by decide
  exact this o h
/-- what it looks from -/
def OV (q : Nat → Nat) (M : Mm) : Prop := mI M 41 2 = nI (q 62) ∧ mI M 41 3 = nI (q 56) ∧ ∀ i, i < q 62 → ∀ c, c < 24 → mI M (43 + i) c = nI (tn q i c)
def RV (q : Nat → Nat) (d : Nat) (r : Nat → Nat) (M : Mm) : Prop := ∀ c, c < q 56 → mJ M (52 + d) c = lN (r c)
theorem OV.fr {q : Nat → Nat} {M M1 : Mm} (h : OV q M) (hF : FIX M) (hq : q 62 ≤ 8) (f : Fr RLS [] M M1) : OV q M1 := by
  have h0 := hF.1
  have n : ∀ o, ¬ (53 ≤ o ∧ o ≤ 60) → ¬ o ∈ RLS := fun o ho x => ho (of_RLS x)
  exact ⟨by rw [f.I (by omega) (n _ (by omega)) List.not_mem_nil]; exact h.1, by rw [f.I (by omega) (n _ (by omega)) List.not_mem_nil]; exact h.2.1, fun i hi c hc => by rw [f.I (by omega) (n _ (by omega)) List.not_mem_nil]; exact h.2.2 i hi c hc⟩
theorem lk63 {K : Nat → Nat → Int32 → Mm → Option Mm} {q od : Nat → Nat} {sd : Int32} {r i : Nat} (hI : Inv q od) (hi : i < q 62) : ∀ m n c (N : Mm), FIX N → St 22 q od sd N → Sg N r i q → m + c = 24 →
    fX1_lookFrom_b63 K (n + m + 1) 41 22 (nI i) (some r) (nI c) N = K 41 22 (nI (i + 1)) (gI N (43 + i) c 24 (fun c => nI (tn q i c))) := by
  have hq := hI.sg
  intro m
  induction m with
  | zero =>
    intro n c N hF hS hg hc
    rw [fX1_lookFrom_b63, if_pos (by rw [l24, le_nn (by decide) (by omega)]; omega), show c = 24 by omega, gI_end, show nI i + (1 : Int32) = nI (i + 1) from add_nn i 1]
  | succ m ih =>
    intro n c N hF hS hg hc
    have cc : c < 24 := by omega
    have i8 : i < 8 := by omega
    have f1 : Fr [43 + i] [] N (sI N (43 + i) c (nI (tn q i c))) := Fr.oI _ _ (Or.inl List.mem_cons_self)
    have hm : ∀ o ∈ [43 + i], o < 107 ∧ o ≠ 22 ∧ o ≠ 22 + 1 ∧ o ≠ 22 + 2 ∧ o ≠ 22 + 4 ∧ o ≠ 22 + 5 := (fun o ho => by simp only [List.mem_cons, List.not_mem_nil, or_false] at ho; omega)
    rw [show n + (m + 1) + 1 = (n + m + 1) + 1 by omega, fX1_lookFrom_b63, if_neg (by rw [l24, le_nn (by decide) (by omega)]; omega), Option.elim_some, rb41_0 hF, ar42 hF i8, bnd1 (ten8 (Or.inl rfl) hF hS hI hg hi cc)]
    dsimp only
    rw [Option.elim_some, tg43 hF i8 cc, show nI c + (1 : Int32) = nI (c + 1) from add_nn c 1, ih n (c + 1) (sI N (43 + i) c (nI (tn q i c))) (by simp only [FIX_sI, FIX_sJ, FIX_gI, FIX_gJ]; exact hF) (hS.fr hF f1 (by omega) hm mem0) (hg.fr f1 (fun o ho => (hm o ho).1) mem0) (by omega), gI_step (g := fun c => nI (tn q i c)) cc rfl]
theorem lk48 {q od : Nat → Nat} {sd : Int32} (hI : Inv q od) : ∀ m n i (N : Mm), FIX N → St 22 q od sd N → m + i = 8 →
    ∃ M', fX1_lookFrom_b48 (n + m + 1) 41 22 (nI i) N = some M' ∧ Fr TLS [] N M' ∧ (mT M' = mT N ∧ mW M' = mW N) ∧ ∀ j, j < q 62 → ∀ c, c < 24 → mI M' (43 + j) c = if i ≤ j then nI (tn q j c) else mI N (43 + j) c := by
  have hq := hI.sg
  intro m
  induction m with
  | zero =>
    intro n i N hF hS hi
    refine ⟨N, ?_, Fr.rfl, ⟨rfl, rfl⟩, fun j hj c hc => by rw [if_neg (by omega)]⟩
    rw [fX1_lookFrom_b48, if_pos (by rw [l8, le_nn (by decide) (by omega)]; omega)]
  | succ m ih =>
    intro n i N hF hS hi
    have ci : i < 8 := by omega
    by_cases z : i < q 62
    · obtain ⟨r, er, g⟩ := gAt (Or.inl rfl) hF hS hq z
      have e := lk63 (K := fX1_lookFrom_b48 (n + m + 1)) hI z 24 1975 0 N hF hS g (by decide)
      obtain ⟨N1, hN1⟩ : ∃ N1, N1 = gI N (43 + i) 0 24 (fun c => nI (tn q i c)) := ⟨_, rfl⟩
      rw [← hN1] at e
      have f1 : Fr TLS [] N N1 := by rw [hN1]; exact Fr.gI _ _ _ (in_TLS ci)
      have hm : ∀ o ∈ TLS, o < 107 ∧ o ≠ 22 ∧ o ≠ 22 + 1 ∧ o ≠ 22 + 2 ∧ o ≠ 22 + 4 ∧ o ≠ 22 + 5 := by decide
      obtain ⟨M', a1, a2, a3, a4⟩ := ih n (i + 1) N1 (f1.fix hF) (hS.fr hF f1 (by omega) hm mem0) (by omega)
      refine ⟨M', ?_, f1.tr a2, ⟨by rw [a3.1, hN1, mT_gI], by rw [a3.2, hN1, mW_gI]⟩, fun j hj c hc => ?_⟩
      · rw [show n + (m + 1) + 1 = (n + m + 1) + 1 by omega, fX1_lookFrom_b48, if_neg (by rw [l8, le_nn (by decide) (by omega)]; omega), bnd1 er]
        dsimp only
        rw [Option.bind_some, show (0 : Int32) = nI 0 from rfl]
        exact e.trans a1
      · rw [a4 j hj c hc]
        by_cases y : i + 1 ≤ j
        · rw [if_pos y, if_pos (by omega)]
        · rw [if_neg y, hN1, mI_gI]
          by_cases w : j = i
          · rw [if_pos ⟨by omega, Nat.zero_le _, hc⟩, if_pos (by omega), w]
          · rw [if_neg (by omega), if_neg (by omega)]
    · obtain ⟨M', a1, a2, a3, a4⟩ := ih n (i + 1) N hF hS (by omega)
      have er := gAt_no (Or.inl rfl) hF hS hq (x := nI i) (Or.inr ⟨i, by omega, by omega, rfl⟩)
      refine ⟨M', ?_, a2, a3, fun j hj c hc => ?_⟩
      · rw [show n + (m + 1) + 1 = (n + m + 1) + 1 by omega, fX1_lookFrom_b48, if_neg (by rw [l8, le_nn (by decide) (by omega)]; omega), bnd1 er]
        dsimp only
        rw [Option.bind_some, FUv, fX1_lookFrom_b63, if_neg (by decide), Option.elim_none, show nI i + (1 : Int32) = nI (i + 1) from add_nn i 1]
        exact a1
      · rw [a4 j hj c hc, if_neg (by omega), if_neg (by omega)]
theorem lk18 {q od : Nat → Nat} {sd : Int32} : ∀ m n c (N : Mm), FIX N → St 22 q od sd N → m + c = 24 →
    fX1_lookFrom_b18 (n + m + 1) 41 22 (nI c) N = fX1_lookFrom_b48 FU 41 22 (nI 0) (gJ N (52 + 0) c 24 (fun c => lN (od c))) := by
  intro m
  induction m with
  | zero =>
    intro n c N hF hS hc
    rw [fX1_lookFrom_b18, if_pos (by rw [l24, le_nn (by decide) (by omega)]; omega), show c = 24 by omega, gJ_end]
    rfl
  | succ m ih =>
    intro n c N hF hS hc
    have cc : c < 24 := by omega
    have f1 : Fr [52] [] N (sJ N (52 + 0) c (lN (od c))) := Fr.oJ _ _ List.mem_cons_self
    rw [show n + (m + 1) + 1 = (n + m + 1) + 1 by omega, fX1_lookFrom_b18, if_neg (by rw [l24, le_nn (by decide) (by omega)]; omega), rb41_1 hF, show (0 : Int32) = nI 0 from rfl, ar51 hF (by decide), rb22_10 hF, bnd1 (at8 (Or.inl rfl) hF hS cc)]
    dsimp only
    rw [Option.elim_some, tg52 hF (by decide) cc, show nI c + (1 : Int32) = nI (c + 1) from add_nn c 1, ih n (c + 1) (sJ N (52 + 0) c (lN (od c))) (by simp only [FIX_sI, FIX_sJ, FIX_gI, FIX_gJ]; exact hF) (hS.fr hF f1 (by omega) (by decide) mem0) (by omega), gJ_step (g := fun c => lN (od c)) cc rfl]
theorem look8 {M : Mm} (hF : FIX M) {q od : Nat → Nat} {sd : Int32} (h : St 22 q od sd M) (hI : Inv q od) : ∃ M1, fX1_lookFrom 41 22 M = some M1 ∧ Fr OLS [] M M1 ∧ (mT M1 = mT M ∧ mW M1 = mW M) ∧ OV q M1 ∧ RV q 0 od M1 := by
  have hL := hI.1
  have hq := hI.sg
  obtain ⟨N, hN⟩ : ∃ N, N = sI (sI M 41 2 (nI (q 62))) 41 3 (nI (q 56)) := ⟨_, rfl⟩
  have hFa : FIX (sI M 41 2 (nI (q 62))) := by rw [FIX_sI]; exact hF
  have fN : Fr OLS [] M N := by rw [hN]; exact (Fr.oI _ _ (Or.inl (by decide))).tr (Fr.oI _ _ (Or.inl (by decide)))
  have hm : ∀ o ∈ OLS, o < 107 ∧ o ≠ 22 ∧ o ≠ 22 + 1 ∧ o ≠ 22 + 2 ∧ o ≠ 22 + 4 ∧ o ≠ 22 + 5 := by decide
  have hFN := fN.fix hF
  have hSN := h.fr hF fN (by omega) hm mem0
  have e1 := lk18 24 1975 0 N hFN hSN (by decide)
  obtain ⟨N1, hN1⟩ : ∃ N1, N1 = gJ N (52 + 0) 0 24 (fun c => lN (od c)) := ⟨_, rfl⟩
  rw [← hN1] at e1
  have f1 : Fr OLS [] N N1 := by rw [hN1]; exact Fr.gJ _ _ _ (by decide)
  have hF1 := f1.fix hFN
  have h01 := hF1.1
  have hS1 := hSN.fr hFN f1 (by omega) hm mem0
  obtain ⟨M', a1, a2, a3, a4⟩ := lk48 hI 8 1991 0 N1 hF1 hS1 (by decide)
  have f2 : Fr OLS [] N1 M' := a2.wk (by decide) mem0
  have nT : ∀ o, ¬ (43 ≤ o ∧ o ≤ 50) → ¬ o ∈ TLS := fun o ho x => ho (of_TLS x)
  refine ⟨M', ?_, (fN.tr f1).tr f2, ⟨by rw [a3.1, hN1, mT_gJ, hN, mT_sI, mT_sI], by rw [a3.2, hN1, mW_gJ, hN, mW_sI, mW_sI]⟩, ⟨?_, ?_, fun i hi c hc => by rw [a4 i hi c hc, if_pos (Nat.zero_le _)]⟩, fun c hc => ?_⟩
  · have es : mI (sI M 41 2 (nI (q 62))) 22 0 = nI (q 56) := by rw [mI_sI, if_neg (by omega)]; exact h.f56
    unfold fX1_lookFrom
    rw [kb41 hF, ib22 hF, h.f62, pb41 hF, ib22 hFa, es, pb41 hFa, ← hN, show (0 : Int32) = nI 0 from rfl]
    exact e1.trans a1
  · rw [a2.I (by omega) (nT _ (by omega)) List.not_mem_nil, hN1, mI_gJ, hN, mI_sI, if_neg (by omega), mI_sI, if_pos ⟨rfl, rfl⟩]
  · rw [a2.I (by omega) (nT _ (by omega)) List.not_mem_nil, hN1, mI_gJ, hN, mI_sI, if_pos ⟨rfl, rfl⟩]
  · rw [a2.J (by omega) (nT _ (by omega)), hN1, mJ_gJ, if_pos ⟨rfl, Nat.zero_le _, by omega⟩]
theorem gre24 {M : Mm} (hF : FIX M) {q r : Nat → Nat} {d : Nat} (hd : d < 9) (h3 : mI M 41 3 = nI (q 56)) (hL : q 56 ≤ 24) (hR : RV q d r M) (hb : ∀ c, r c < 9223372036854775808) : ∀ m n c, m + c = q 56 → m < n →
    fX1_greatest_b24 n 41 (some (52 + d)) (lN (mx r c)) (nI c) M = some (lN (mx r (q 56)), M) := by
  have mb : ∀ n, mx r n < 9223372036854775808 := fun n => by
    induction n with
    | zero => exact (by decide : 0 < 9223372036854775808)
    | succ n ih =>
      show (if mx r n < r n then r n else mx r n) < _
      have := hb n
      split <;> omega
  intro m
  induction m with
  | zero =>
    intro n c hc hn
    obtain ⟨n, rfl⟩ : ∃ a, n = a + 1 := ⟨n - 1, by omega⟩
    rw [fX1_greatest_b24, ib41 hF, h3, if_pos (by rw [le_nn (by omega) (by omega)]; omega), show c = q 56 by omega]
  | succ m ih =>
    intro n c hc hn
    obtain ⟨n, rfl⟩ : ∃ a, n = a + 1 := ⟨n - 1, by omega⟩
    have cc : c < 24 := by omega
    have hn2 := ih n (c + 1) (by omega) (by omega)
    have b1 := hb c
    have b2 := mb c
    rw [fX1_greatest_b24, ib41 hF, h3, if_neg (by rw [le_nn (by omega) (by omega)]; omega), if_neg (by rw [l24, le_nn (by decide) (by omega)]; omega), Option.elim_some, ag52 hF hd cc, hR c (by omega), show nI c + (1 : Int32) = nI (c + 1) from add_nn c 1]
    rw [show mx r (c + 1) = (if mx r c < r c then r c else mx r c) from rfl] at hn2
    by_cases z : mx r c < r c
    · rw [if_pos z] at hn2
      rw [if_neg (by rw [le_LL b1 b2]; omega), ag52 hF hd cc, hR c (by omega)]
      exact hn2
    · rw [if_neg z] at hn2
      rw [if_pos (by rw [le_LL b1 b2]; omega)]
      exact hn2
theorem gre8 {M : Mm} (hF : FIX M) {q r : Nat → Nat} {d : Nat} (hd : d < 9) (h3 : mI M 41 3 = nI (q 56)) (hL : q 56 ≤ 24) (hR : RV q d r M) (hb : ∀ c, r c < 9223372036854775808) : fX1_greatest 41 (nI d) M = some (lN (mx r (q 56)), M) := by
  unfold fX1_greatest
  rw [kb41 hF, if_neg (nI_pos (by omega)), if_pos (by rw [l8, le_nn (by omega) (by decide)]; omega), rb41_1 hF, ar51 hF hd]
  exact gre24 hF hd h3 hL hR hb (q 56) FU 0 (Nat.add_zero _) (by unfold FU; omega)
theorem or0 {x y : Int64} : (x ||| y = 0) ↔ x = 0 ∧ y = 0 := by
  rw [← Int64.toBitVec_inj, ← Int64.toBitVec_inj, ← Int64.toBitVec_inj]
  exact BitVec.or_eq_zero_iff
theorem wei54 {M0 : Mm} {q r : Nat → Nat} {od : Nat → Nat} (hI : Inv q od) {d i : Nat} (hd : d < 8) (hi : i < q 62) (b : Bool) (hb : ∀ c, mul q i b r c < 9223372036854775808) : ∀ m n c (x : Int64) (M : Mm), FIX M → OV q M → RV q d r M → m + c = q 56 → m < n → (x = 0 ↔ ∀ y, y < c → mul q i b r y = 0) →
    ∃ any M', fX1_weigh_b54 n 41 (bI b) (some (52 + d)) (some (52 + (d + 1))) (some (43 + i)) x (nI c) M = some (bI any, M') ∧ Fr RLS [] M M' ∧ (mT M' = mT M ∧ mW M' = mW M) ∧ (any = false ↔ ∀ y, y < q 56 → mul q i b r y = 0) ∧ (∀ y, mJ M' (52 + (d + 1)) y = if c ≤ y ∧ y < q 56 then lN (mul q i b r y) else mJ M (52 + (d + 1)) y) ∧ ∀ o, o ≠ 52 + (d + 1) → mJ M' o = mJ M o := by
  have hL := hI.1
  have hq := hI.sg
  intro m
  induction m with
  | zero =>
    intro n c x M hF hO hR hc hn hx
    obtain ⟨n, rfl⟩ : ∃ a, n = a + 1 := ⟨n - 1, by omega⟩
    have e : c = q 56 := by omega
    refine ⟨!decide (x = 0), M, ?_, Fr.rfl, ⟨rfl, rfl⟩, ?_, fun y => by rw [if_neg (by omega)], fun _ _ => rfl⟩
    · rw [fX1_weigh_b54, ib41 hF, hO.2.1, if_pos (by rw [le_nn (by omega) (by omega)]; omega)]
      unfold fX1_weigh_b118
      by_cases z : x = 0
      · rw [if_pos z, decide_eq_true z]
        rfl
      · rw [if_neg z, decide_eq_false z]
        rfl
    · rw [← e]
      by_cases z : x = 0
      · rw [decide_eq_true z]
        exact ⟨fun _ => hx.mp z, fun _ => rfl⟩
      · rw [decide_eq_false z]
        exact ⟨fun y => absurd y (by decide), fun y => absurd (hx.mpr y) z⟩
  | succ m ih =>
    intro n c x M hF hO hR hc hn hx
    obtain ⟨n, rfl⟩ : ∃ a, n = a + 1 := ⟨n - 1, by omega⟩
    have cc : c < 24 := by omega
    have i8 : i < 8 := by omega
    have tl := tn_le hI hi c
    have bc := hb c
    obtain ⟨M1, hM1⟩ : ∃ M1, M1 = sJ M (52 + (d + 1)) c (lN (mul q i b r c)) := ⟨_, rfl⟩
    have f1 : Fr RLS [] M M1 := by rw [hM1]; exact Fr.oJ _ _ (in_RLS hd)
    have hF1 := f1.fix hF
    have v1 : mJ M1 (52 + (d + 1)) c = lN (mul q i b r c) := by rw [hM1, mJ_sJ, if_pos ⟨rfl, rfl⟩]
    have hx1 : (x ||| lN (mul q i b r c) = 0) ↔ ∀ y, y < c + 1 → mul q i b r y = 0 := by
      rw [or0, hx, lN0, eq_LL bc (by decide)]
      constructor
      · intro h y hy
        by_cases z : y = c
        · rw [z]; exact h.2
        · exact h.1 y (by omega)
      · intro h
        exact ⟨fun y hy => h y (by omega), h c (by omega)⟩
    obtain ⟨any, M', a1, a2, a3, a4, a5, a6⟩ := ih n (c + 1) (x ||| lN (mul q i b r c)) M1 hF1 (hO.fr hF hq.1 f1) (fun y hy => by rw [hM1, mJ_sJ, if_neg (by omega)]; exact hR y hy) (by omega) (by omega) hx1
    refine ⟨any, M', ?_, f1.tr a2, ⟨by rw [a3.1, hM1, mT_sJ], by rw [a3.2, hM1, mW_sJ]⟩, a4, fun y => ?_, fun o ho => by
      rw [a6 o ho, hM1]
      funext y
      rw [mJ_sJ, if_neg (fun z => ho z.1)]⟩
    · have go : ∀ k : Nat, k < 2147483648 → k = tms q i b c → fX1_weigh_b99 (fX1_weigh_b54 n) 41 (bI b) (some (52 + d)) (some (52 + (d + 1))) (some (43 + i)) x (nI c) (some (52 + (d + 1))) (nI c) (lN (r c)) (nI k) M = some (bI any, M') := fun k hk hk2 => by
        unfold fX1_weigh_b99
        rw [Option.elim_some, nI_l hk, lN_mul, hk2, show r c * tms q i b c = mul q i b r c from rfl, tg52 hF (by omega) cc, ← hM1, Option.elim_some, ag52 hF1 (by omega) cc, v1, show nI c + (1 : Int32) = nI (c + 1) from add_nn c 1]
        exact a1
      rw [fX1_weigh_b54, ib41 hF, hO.2.1, if_neg (by rw [le_nn (by omega) (by omega)]; omega), if_neg (by rw [l24, le_nn (by decide) (by omega)]; omega), Option.elim_some, ag52 hF (by omega) cc, hR c (by omega)]
      cases b
      · rw [if_pos (show bI false = 0 from rfl), Option.elim_some, ag43 hF i8 cc, hO.2.2 i hi c cc, l10, sub_nn tl]
        exact go _ (by omega) rfl
      · rw [if_neg (by decide), Option.elim_some, ag43 hF i8 cc, hO.2.2 i hi c cc]
        exact go _ (by omega) rfl
    · rw [a5 y, hM1, mJ_sJ]
      by_cases z : y = c
      · rw [if_neg (by omega), if_pos ⟨rfl, z⟩, if_pos (by omega), z]
      · by_cases w : c + 1 ≤ y ∧ y < q 56
        · rw [if_pos w, if_pos (by omega)]
        · rw [if_neg w, if_neg (by omega), if_neg (by omega)]
theorem wei8 {q r : Nat → Nat} {od : Nat → Nat} (hI : Inv q od) {d i : Nat} (hd : d < 8) (hi : i < q 62) (b : Bool) (hb : ∀ c, mul q i b r c < 9223372036854775808) {M : Mm} (hF : FIX M) (hO : OV q M) (hR : RV q d r M) :
    ∃ any M', fX1_weigh 41 (nI d) (nI i) (bI b) M = some (bI any, M') ∧ Fr RLS [] M M' ∧ (mT M' = mT M ∧ mW M' = mW M) ∧ (any = false ↔ ∀ y, y < q 56 → mul q i b r y = 0) ∧ RV q (d + 1) (mul q i b r) M' ∧ ∀ o, o ≠ 52 + (d + 1) → mJ M' o = mJ M o := by
  have hL := hI.1
  have hq := hI.sg
  obtain ⟨any, M', a1, a2, a3, a4, a5, a6⟩ := wei54 (M0 := M) hI hd hi b hb (q 56) FU 0 0 M hF hO hR (Nat.add_zero _) (by unfold FU; omega) ⟨fun _ y hy => absurd hy (Nat.not_lt_zero _), fun _ => rfl⟩
  refine ⟨any, M', ?_, a2, a3, a4, fun c hc => by rw [a5 c, if_pos ⟨Nat.zero_le _, hc⟩], a6⟩
  unfold fX1_weigh
  rw [kb41 hF, if_neg (nI_pos (by omega)), if_neg (by rw [l8, le_nn (by decide) (by omega)]; omega), if_neg (nI_pos (by omega)), if_pos (by rw [l8, lt_nn (by omega) (by decide)]; omega), rb41_1 hF, ar51 hF (by omega), rb41_1 hF, show nI d + (1 : Int32) = nI (d + 1) from add_nn d 1, ar51 hF (by omega), rb41_0 hF, ar42 hF (by omega)]
  exact a1
theorem lo_st {S : Nat} (hS : S < 256) (M : Mm) (n : Nat) {j : Nat} (hj : j < 7) : fX1_lowestOf_b2 (n + 1) (nI S) (nI j) M = if S.testBit j = true then some (nI j, M) else fX1_lowestOf_b2 n (nI S) (nI (j + 1)) M := by
  rw [fX1_lowestOf_b2, if_neg (by rw [l7, le_nn (by decide) (by omega)]; omega), tb_n S hS j (by omega), show nI j + (1 : Int32) = nI (j + 1) from add_nn j 1]
  cases S.testBit j
  · rw [show (false).toNat = 0 from rfl, if_pos (show nI 0 = 0 from rfl), if_neg (by decide)]
  · rw [show (true).toNat = 1 from rfl, if_neg (by decide), if_pos rfl]
theorem low8 {S : Nat} (hS : S < 256) (M : Mm) : fX1_lowestOf (nI S) M = some (nI (lw S), M) := by
  have e7 : ∀ n, fX1_lowestOf_b2 (n + 1) (nI S) (nI 7) M = some (nI 7, M) := fun n => by rw [fX1_lowestOf_b2, if_pos (by decide)]
  unfold fX1_lowestOf lw
  rw [FUv, show (0 : Int32) = nI 0 from rfl, lo_st hS M _ (by decide), lo_st hS M _ (by decide), lo_st hS M _ (by decide), lo_st hS M _ (by decide), lo_st hS M _ (by decide), lo_st hS M _ (by decide), lo_st hS M _ (by decide), e7]
  repeat' split
  all_goals rfl
theorem wb8 {q od : Nat → Nat} (hI : Inv q od) : ∀ n e S d (r : Nat → Nat) (M : Mm), S < 2 ^ q 62 → pc S ≤ n → pc S + d ≤ 8 → (∀ c, r c * 10 ^ pc S < 9223372036854775808) → FIX M → OV q M → RV q d r M →
    ∃ M', fX1_worthBehind (n + 1 + e) 41 (nI S) (nI d) M = some (lN (wo q n S r), M') ∧ Fr RLS [] M M' ∧ (mT M' = mT M ∧ mW M' = mW M) ∧ ∀ o, o ≤ 52 + d → mJ M' o = mJ M o := by
  have hL := hI.1
  have hq := hI.sg
  have h8 : 2 ^ q 62 ≤ 2 ^ 8 := Nat.pow_le_pow_right (by decide) hq.1
  have base : ∀ n e d (r : Nat → Nat) (M : Mm), d ≤ 8 → (∀ c, r c < 9223372036854775808) → FIX M → OV q M → RV q d r M → ∃ M', fX1_worthBehind (n + 1 + e) 41 (nI 0) (nI d) M = some (lN (wo q n 0 r), M') ∧ Fr RLS [] M M' ∧ (mT M' = mT M ∧ mW M' = mW M) ∧ ∀ o, o ≤ 52 + d → mJ M' o = mJ M o := fun n e d r M hd hb hF hO hR => by
    refine ⟨M, ?_, Fr.rfl, ⟨rfl, rfl⟩, fun _ _ => rfl⟩
    have ew : wo q n 0 r = mx r (q 56) := by
      cases n with
      | zero => rfl
      | succ n => exact if_pos rfl
    rw [show n + 1 + e = (n + e) + 1 by omega, fX1_worthBehind, if_pos (show nI 0 = 0 from rfl), bnd1 (gre8 hF (show d < 9 by omega) hO.2.1 hL.2 hR hb), ew]
  intro n
  induction n with
  | zero =>
    intro e S d r M hS hp hd hb hF hO hR
    have z : S = 0 := pc_z S (by omega) (by omega)
    subst z
    exact base 0 e d r M (by omega) (fun c => by have := hb c; rw [show pc 0 = 0 from rfl, Nat.pow_zero, Nat.mul_one] at this; exact this) hF hO hR
  | succ n ih =>
    intro e S d r M hS hp hd hb hF hO hR
    by_cases z : S = 0
    · subst z
      exact base (n + 1) e d r M (by omega) (fun c => by have := hb c; rw [show pc 0 = 0 from rfl, Nat.pow_zero, Nat.mul_one] at this; exact this) hF hO hR
    have p := pc_s S (by omega) z
    have l := lw_lt hq.1 hS z
    have hb2 : ∀ b c, mul q (lw S) b r c * 10 ^ pc (S &&& (S - 1)) < 9223372036854775808 := fun b c => by
      have t := tms_le hI l b c
      have e1 : mul q (lw S) b r c * 10 ^ pc (S &&& (S - 1)) ≤ r c * 10 ^ pc S := by
        show r c * tms q (lw S) b c * 10 ^ pc (S &&& (S - 1)) ≤ _
        rw [← p.2, Nat.pow_succ, Nat.mul_comm (10 ^ _) 10, ← Nat.mul_assoc]
        exact Nat.mul_le_mul (Nat.mul_le_mul (Nat.le_refl _) t) (Nat.le_refl _)
      exact Nat.lt_of_le_of_lt e1 (hb c)
    have hb3 : ∀ b c, mul q (lw S) b r c < 9223372036854775808 := fun b c => Nat.lt_of_le_of_lt (Nat.le_mul_of_pos_right _ (Nat.pow_pos (by decide))) (hb2 b c)
    have hd8 : d < 8 := by omega
    obtain ⟨a1, M1, e1, f1, t1, z1, r1, o1⟩ := wei8 hI hd8 l true (hb3 true) hF hO hR
    have hF1 := f1.fix hF
    have hO1 := hO.fr hF hq.1 f1
    have ew : wo q (n + 1) S r = wo q n (S &&& (S - 1)) (mul q (lw S) true r) + wo q n (S &&& (S - 1)) (mul q (lw S) false r) := if_neg z
    rw [show n + 1 + 1 + e = (n + 1 + e) + 1 by omega, fX1_worthBehind, if_neg (show ¬ nI S = 0 by rw [l0, eq_nn (by omega) (by decide)]; exact z), if_pos (by rw [l8, lt_nn (by omega) (by decide)]; exact hd8), bnd1 (low8 (by omega) M)]
    dsimp only
    rw [show (1 : Int32) = bI true from rfl, bnd1 e1]
    dsimp only
    rw [show bI true = (1 : Int32) from rfl, an_1 S (by omega) z, show nI d + (1 : Int32) = nI (d + 1) from add_nn d 1, show (0 : Int32) = bI false from rfl]
    cases a1
    · have w1 := wo_0 n (S &&& (S - 1)) (mul q (lw S) true r) (z1.mp rfl)
      rw [if_pos (show bI false = bI false from rfl)]
      obtain ⟨a2, M2, e2, f2, t2, z2, r2, o2⟩ := wei8 hI hd8 l false (hb3 false) hF1 hO1 (fun c hc => by rw [o1 _ (by omega)]; exact hR c hc)
      have hF2 := f2.fix hF1
      rw [bnd1 e2]
      dsimp only
      cases a2
      · have w2 := wo_0 n (S &&& (S - 1)) (mul q (lw S) false r) (z2.mp rfl)
        rw [if_pos (show bI false = bI false from rfl)]
        exact ⟨M2, by rw [ew, w1, w2]; rfl, f1.tr f2, ⟨t2.1.trans t1.1, t2.2.trans t1.2⟩, fun o ho => by rw [o2 o (by omega), o1 o (by omega)]⟩
      · obtain ⟨M3, e3, f3, t3, o3⟩ := ih e (S &&& (S - 1)) (d + 1) (mul q (lw S) false r) M2 (by omega) (by omega) (by omega) (hb2 false) hF2 (hO1.fr hF1 hq.1 f2) r2
        rw [if_neg (by decide), bnd1 e3]
        exact ⟨M3, by rw [ew, w1, lN0, lN_add], (f1.tr f2).tr f3, ⟨(t3.1.trans t2.1).trans t1.1, (t3.2.trans t2.2).trans t1.2⟩, fun o ho => by rw [o3 o (by omega), o2 o (by omega), o1 o (by omega)]⟩
    · rw [if_neg (by decide)]
      obtain ⟨M2, e2, f2, t2, o2⟩ := ih e (S &&& (S - 1)) (d + 1) (mul q (lw S) true r) M1 (by omega) (by omega) (by omega) (hb2 true) hF1 hO1 r1
      have hF2 := f2.fix hF1
      have hO2 := hO1.fr hF1 hq.1 f2
      rw [bnd1 e2]
      dsimp only
      obtain ⟨a3, M3, e3, f3, t3, z3, r3, o3⟩ := wei8 hI hd8 l false (hb3 false) hF2 hO2 (fun c hc => by rw [o2 _ (by omega), o1 _ (by omega)]; exact hR c hc)
      have hF3 := f3.fix hF2
      rw [bnd1 e3]
      dsimp only
      cases a3
      · have w3 := wo_0 n (S &&& (S - 1)) (mul q (lw S) false r) (z3.mp rfl)
        rw [if_pos (show bI false = bI false from rfl)]
        exact ⟨M3, by rw [ew, w3, Nat.add_zero], (f1.tr f2).tr f3, ⟨(t3.1.trans t2.1).trans t1.1, (t3.2.trans t2.2).trans t1.2⟩, fun o ho => by rw [o3 o (by omega), o2 o (by omega), o1 o (by omega)]⟩
      · obtain ⟨M4, e4, f4, t4, o4⟩ := ih e (S &&& (S - 1)) (d + 1) (mul q (lw S) false r) M3 (by omega) (by omega) (by omega) (hb2 false) hF3 (hO2.fr hF2 hq.1 f3) r3
        rw [if_neg (by decide), bnd1 e4]
        exact ⟨M4, by rw [ew, lN_add], ((f1.tr f2).tr f3).tr f4, ⟨((t4.1.trans t3.1).trans t2.1).trans t1.1, ((t4.2.trans t3.2).trans t2.2).trans t1.2⟩, fun o ho => by rw [o4 o (by omega), o3 o (by omega), o2 o (by omega), o1 o (by omega)]⟩
