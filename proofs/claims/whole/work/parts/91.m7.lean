/-! acts: the class's bodies -/
def BT : List Nat := [10, 11, 12, 20, 0, 0, 0, 0, 50, 0, 0, 60, 0, 30, 0, 70, 71, 0, 0, 40, 41]
def bo (k a : Nat) : Nat := BT.getD (k * 3 + a) 0
def up (k : Nat) : Nat := [0, 0, 0, 2, 1, 0, 1].getD k 0
def kw (k a : Nat) : Nat := if k = 0 then 0 else if bo k a ≠ 0 then k else if up k = 0 then 0 else if bo (up k) a ≠ 0 then up k else 0
def BB (A : Mm) : Prop := mK A 2 = (30, 21) ∧ ∀ j, j < 21 → mI A 2 j = nI (BT.getD j 0)
theorem BB.ro {A M : Mm} (h : BB A) (r : RO A M) : BB M := by
  have e := r 2 (by decide)
  exact ⟨by rw [e.1]; exact h.1, fun j hj => by rw [e.2.1]; exact h.2 j hj⟩
theorem bod8 {M : Mm} (h : BB M) {k a : Nat} (hk : k < 7) (ha : a < 3) : fX8_bodyOf (nI k) (nI a) M = some (nI (bo k a), M) := by
  have hc := nI_clamp (show k * 3 + a < 2 ^ 31 by omega)
  have eL : aL M 2 = some (nI 21) := by unfold aL; rw [h.1]; rfl
  have eI : aI M 2 (nI (k * 3 + a)) = some (nI (bo k a)) := by
    unfold aI
    rw [if_pos (by rw [h.1, hc]; exact ⟨Or.inr rfl, nI_pos (by omega), by show k * 3 + a < 21; omega⟩), hc, h.2 _ (by omega)]
    rfl
  unfold fX8_bodyOf
  rw [l3, mul_nn, add_nn, if_neg (nI_pos (by omega)), bnd1 eL, if_pos (by rw [lt_nn (by omega) (by decide)]; omega), bnd1 eI]
theorem up8 {M : Mm} (h : AB M) {k : Nat} (h0 : 0 < k) (hk : k < 7) : mI M 1 k = nI (up k) := by
  obtain ⟨-, a0, a1, a2, a3, a4, a5, a6⟩ := h
  have : k = 1 ∨ k = 2 ∨ k = 3 ∨ k = 4 ∨ k = 5 ∨ k = 6 := by omega
  rcases this with rfl | rfl | rfl | rfl | rfl | rfl
  · exact a1
  · exact a2
  · exact a3
  · exact a4
  · exact a5
  · exact a6
theorem up_lt : ∀ k, k < 7 → up k < 3 ∧ up (up k) = 0 ∧ (up k = 0 ∨ 0 < up k) := by decide
theorem kst {M : Mm} (hA : AB M) (hB : BB M) (n : Nat) {k a l : Nat} (h0 : 0 < k) (hk : k < 7) (ha : a < 3) (hl : l < 7) : fX8_kindWithBody_b4 (n + 1) (nI a) (nI k) (nI l) M = if bo k a ≠ 0 then some (nI k, M) else fX8_kindWithBody_b4 n (nI a) (nI (up k)) (nI (l + 1)) M := by
  have bl : ∀ j, j < 21 → BT.getD j 0 < 100 := by decide
  have b1 : bo k a < 100 := bl _ (by omega)
  rw [fX8_kindWithBody_b4, if_neg (by rw [l7, le_nn (by decide) (by omega)]; omega), if_neg (by rw [l0, le_nn (by omega) (by decide)]; omega), if_neg (by rw [l7, le_nn (by decide) (by omega)]; omega), bnd1 (bod8 hB hk ha)]
  dsimp only
  by_cases z : bo k a = 0
  · rw [if_pos (by rw [z]; rfl), if_neg (by rw [z]; decide), ab1 hA hk, up8 hA h0 hk, show nI l + (1 : Int32) = nI (l + 1) from add_nn l 1]
  · rw [if_neg (show ¬ nI (bo k a) = 0 by rw [l0, eq_nn (by omega) (by decide)]; exact z), if_pos z]
theorem ken {M : Mm} (n : Nat) {a l : Nat} (hl : l < 7) : fX8_kindWithBody_b4 (n + 1) (nI a) (nI 0) (nI l) M = some (nI 0, M) := by
  rw [fX8_kindWithBody_b4, if_neg (by rw [l7, le_nn (by decide) (by omega)]; omega), if_pos (by decide)]
  rfl
theorem kwb {M : Mm} (hA : AB M) (hB : BB M) {k a : Nat} (hk : k < 7) (ha : a < 3) : fX8_kindWithBody (nI k) (nI a) M = some (nI (kw k a), M) := by
  have u := up_lt k hk
  unfold fX8_kindWithBody kw
  rw [FUv, show (0 : Int32) = nI 0 from rfl]
  by_cases z : k = 0
  · subst z
    rw [if_pos rfl]
    exact ken _ (by decide)
  · rw [if_neg z, kst hA hB _ (by omega) hk ha (by decide)]
    by_cases y : bo k a ≠ 0
    · rw [if_pos y, if_pos y]
    · rw [if_neg y, if_neg y]
      by_cases w : up k = 0
      · rw [if_pos w, w]
        exact ken _ (by decide)
      · rw [if_neg w, kst hA hB _ (by omega) (by omega) ha (by decide)]
        by_cases v : bo (up k) a ≠ 0
        · rw [if_pos v, if_pos v]
        · rw [if_neg v, if_neg v, u.2.1]
          exact ken _ (by decide)
/-- the bodies that ran so far -/
def TX (l : List Nat) (M : Mm) : Prop := mI M 61 1 = nI l.length ∧ ∀ i, i < 20 → i < l.length → mI M 62 i = nI (l.getD i 0)
theorem getD_app {l : List Nat} {b i : Nat} (h : i < l.length) : (l ++ [b]).getD i 0 = l.getD i 0 := by
  simp only [List.getD_eq_getElem?_getD, List.getElem?_append_left h]
theorem getD_app2 {l : List Nat} {b : Nat} : (l ++ [b]).getD l.length 0 = b := by
  simp [List.getD_eq_getElem?_getD]
theorem len1 (l : List Nat) (b : Nat) : (l ++ [b]).length = l.length + 1 := by simp
theorem tad8 {M : Mm} (hF : FIX M) {l : List Nat} (h : TX l M) (hl : l.length < 100) (b : Nat) : ∃ M', fX7_add 61 (nI b) M = some M' ∧ TX (l ++ [b]) M' ∧ Fr [62] [(61, 1)] M M' ∧ (mT M' = mT M ∧ mW M' = mW M) := by
  have fin : ∀ N, FIX N → mI N 61 1 = nI l.length → fX7_add_b26 61 N = some (sI N 61 1 (nI (l.length + 1))) := fun N hN h1 => by
    unfold fX7_add_b26
    rw [ib61 hN, h1, show nI l.length + (1 : Int32) = nI (l.length + 1) from add_nn _ 1, pb61 hN]
  unfold fX7_add
  rw [kb61 hF, ib61 hF, h.1, if_neg (nI_pos (by omega)), ib61 hF, h.1]
  by_cases c : 20 ≤ l.length
  · rw [if_pos (by rw [l20, le_nn (by decide) (by omega)]; exact c), fin M hF h.1]
    refine ⟨_, rfl, ⟨by rw [mI_sI, if_pos ⟨rfl, rfl⟩, len1], fun i h1 h2 => ?_⟩, Fr.oI _ _ (Or.inr List.mem_cons_self), ⟨mT_sI _ _ _ _, mW_sI _ _ _ _⟩⟩
    rw [mI_sI, if_neg (by omega), getD_app (by omega)]
    exact h.2 i h1 (by omega)
  · have hF2 : FIX (sI M 62 l.length (nI b)) := by rw [FIX_sI]; exact hF
    rw [if_neg (by rw [l20, le_nn (by decide) (by omega)]; exact c), rb61_0 hF, ib61 hF, h.1, tb62 hF (by omega), fin _ hF2 (by rw [mI_sI, if_neg (by omega)]; exact h.1)]
    refine ⟨_, rfl, ⟨by rw [mI_sI, if_pos ⟨rfl, rfl⟩, len1], fun i h1 h2 => ?_⟩, (Fr.oI _ _ (Or.inl List.mem_cons_self)).tr (Fr.oI _ _ (Or.inr List.mem_cons_self)), ⟨by rw [mT_sI, mT_sI], by rw [mW_sI, mW_sI]⟩⟩
    rw [mI_sI, if_neg (by omega), mI_sI]
    by_cases z : i = l.length
    · rw [if_pos ⟨rfl, z⟩, z, getD_app2]
    · rw [len1] at h2
      rw [if_neg (fun y => z y.2), getD_app (by omega)]
      exact h.2 i h1 (by omega)
def CX (r g : Nat) (q : Nat → Nat) (l : List Nat) (M : Mm) : Prop := FIX M ∧ AB M ∧ BB M ∧ Sg M r g q ∧ TX l M
theorem CX.add {r g : Nat} {q : Nat → Nat} {l : List Nat} {M : Mm} (h : CX r g q l M) (hl : l.length < 100) (b : Nat) : ∃ M', fX7_add 61 (nI b) M = some M' ∧ CX r g q (l ++ [b]) M' ∧ Fr [62] [(61, 1)] M M' ∧ (mT M' = mT M ∧ mW M' = mW M) := by
  obtain ⟨hF, hA, hB, hg, hT⟩ := h
  have h0 := hF.1
  obtain ⟨M', e, t, f, m⟩ := tad8 hF hT hl b
  have n1 : ¬ 1 ∈ [62] ∧ ¬ 2 ∈ [62] := by decide
  have n2 : ∀ k, ¬ (1, k) ∈ [(61, 1)] ∧ ¬ (2, k) ∈ [(61, 1)] := fun k => by
    constructor <;> intro z <;> have := congrArg Prod.fst (List.mem_singleton.mp z) <;> simp at this
  have i1 : ∀ k, mI M' 1 k = mI M 1 k := fun k => f.I (by omega) n1.1 (n2 k).1
  have i2 : ∀ k, mI M' 2 k = mI M 2 k := fun k => f.I (by omega) n1.2 (n2 k).2
  refine ⟨M', e, ⟨f.fix hF, ?_, ?_, hg.fr f (by decide) (by decide), t⟩, f, m⟩
  · unfold AB
    rw [f.2.1 1 (by omega), i1, i1, i1, i1, i1, i1, i1]
    exact hA
  · exact ⟨by rw [f.2.1 2 (by omega)]; exact hB.1, fun j hj => by rw [i2]; exact hB.2 j hj⟩
/-- what a body answers and which bodies run: by kind, number and b -/
def vF (kd : Nat) (g b x : Int32) : Int32 := if kd = 1 ∨ kd = 4 ∨ kd = 6 then (x + g) + b else if kd = 5 then (x + g) * 2 else x + g
def bF (kd : Nat) : List Nat := if kd = 1 ∨ kd = 4 ∨ kd = 6 then [20, 10] else if kd = 5 then [70, 10] else [10]
def vT0 (kd : Nat) (g b x : Int32) : Int32 := vF kd g b x * 2
def bT0 (kd : Nat) : List Nat := 11 :: bF kd
def vT (kd : Nat) (g b x : Int32) : Int32 := if kd = 4 then vT0 kd g b x * 3 else if kd = 6 then vT0 kd g b (x + 1) else if kd = 5 then vT0 kd g b (x - b) else vT0 kd g b x
def bT (kd : Nat) : List Nat := if kd = 4 then 30 :: bT0 kd else if kd = 6 then 40 :: bT0 kd else if kd = 5 then 71 :: bT0 kd else bT0 kd
def vA0 (kd : Nat) (g b x : Int32) : Int32 := vT kd g b x ^^^ vF kd g b (x - b)
def bA0 (kd : Nat) : List Nat := 12 :: (bT kd ++ bF kd)
def vA (kd : Nat) (g b x : Int32) : Int32 := if kd = 2 then -vA0 kd g b x else if kd = 3 then -vA0 kd g b x ^^^ 5 else if kd = 6 then vA0 kd g b x - g else vA0 kd g b x
def bA (kd : Nat) : List Nat := if kd = 2 then 50 :: bA0 kd else if kd = 3 then 60 :: 50 :: bA0 kd else if kd = 6 then 41 :: bA0 kd else bA0 kd
def PF (r g : Nat) (q : Nat → Nat) (D n from_ a : Nat) (x v : Int32) (bs : List Nat) : Prop := ∀ (M : Mm) (l : List Nat) (d : Nat), CX r g q l M → l.length + bs.length ≤ 60 → d ≤ D →
  ∃ M', fX8_perform n r (nI from_) (nI a) x 61 (nI d) M = some (v, M') ∧ CX r g q (l ++ bs) M' ∧ Fr [62] [(61, 1)] M M' ∧ (mT M' = mT M ∧ mW M' = mW M)
theorem app1 {l bs : List Nat} {b : Nat} : l ++ [b] ++ bs = l ++ (b :: bs) := by simp
theorem pf10 {r g : Nat} {q : Nat → Nat} (n : Nat) {k : Nat} (hk : k < 7) (hkw : kw k 0 = 0) (x : Int32) : PF r g q 21 (n + 1) k 0 x (x + nI g) [10] := by
  intro M l d hc hl hd
  have hl1 : l.length + 1 ≤ 60 := hl
  refine ?_
  obtain ⟨M3, e3, c3, f3, t3⟩ := hc.add (by omega) 10
  obtain ⟨hF, hA, hB, hg, -⟩ := hc
  have e1 := kwb hA hB hk (show 0 < 3 by decide)
  rw [hkw] at e1
  have e2 := bod8 hB (show 0 < 7 by decide) (show 0 < 3 by decide)
  rw [show bo 0 0 = 10 from rfl] at e2
  rw [fX8_perform, if_pos (by rw [l21, le_nn (by omega) (by decide)]; omega), bnd1 e1]
  dsimp only
  rw [if_pos (by decide), bnd1 e2]
  dsimp only
  rw [bnd1 e3, if_pos (show nI 10 = 10 from rfl)]
  rw [ibG c3.2.2.2.1.2.2.1, c3.2.2.2.1.2.2.2.1]
  exact ⟨M3, rfl, c3, f3, t3⟩
theorem pf20 {r g : Nat} {q : Nat → Nat} (n : Nat) {k : Nat} (hk : k < 7) (hkw : kw k 0 = 1) (x : Int32) : PF r g q 20 ((n + 1) + 1) k 0 x ((x + nI g) + nI (q (24 + g))) [20, 10] := by
  intro M l d hc hl hd
  have hl1 : l.length + ([20, 10]).length ≤ 60 := hl
  skip
  rw [List.length_cons] at hl1
  obtain ⟨M3, e3, c3, f3, t3⟩ := hc.add (by omega) 20
  obtain ⟨hF, hA, hB, hg, -⟩ := hc
  have e1 := kwb hA hB hk (show 0 < 3 by decide)
  rw [hkw] at e1
  have e2 := bod8 hB (show 1 < 7 by decide) (show 0 < 3 by decide)
  rw [show bo 1 0 = 20 from rfl] at e2
  rw [fX8_perform, if_pos (by rw [l21, le_nn (by omega) (by decide)]; omega), bnd1 e1]
  dsimp only
  rw [if_neg (by decide), if_neg (by decide), ab1 hA (show 1 < 7 by decide), up8 hA (by decide) (by decide), bnd1 e2]
  dsimp only
  rw [bnd1 e3, if_neg (show ¬ nI 20 = 10 by decide), if_neg (show ¬ nI 20 = 11 by decide), if_neg (show ¬ nI 20 = 12 by decide), if_pos (show nI 20 = 20 from rfl)]
  have i := pf10 (r := r) (g := g) (q := q) n (k := 0) (by decide) (by decide) x M3 (l ++ [20]) (d + 1) c3 (by rw [len1]; exact hl1) (by omega)
  obtain ⟨M4, e4, c4, f4, t4⟩ := i
  rw [show up 1 = 0 from rfl, show (0 : Int32) = nI 0 from rfl, show nI d + (1 : Int32) = nI (d + 1) from add_nn d 1, bnd1 e4]
  dsimp only
  rw [ibG c4.2.2.2.1.2.2.1, c4.2.2.2.1.2.2.2.2.2.2.2]
  exact ⟨M4, rfl, by rw [← app1]; exact c4, f3.tr f4, ⟨t4.1.trans t3.1, t4.2.trans t3.2⟩⟩
theorem pf70 {r g : Nat} {q : Nat → Nat} (n : Nat) {k : Nat} (hk : k < 7) (hkw : kw k 0 = 5) (x : Int32) : PF r g q 20 ((n + 1) + 1) k 0 x ((x + nI g) * 2) [70, 10] := by
  intro M l d hc hl hd
  have hl1 : l.length + ([70, 10]).length ≤ 60 := hl
  skip
  rw [List.length_cons] at hl1
  obtain ⟨M3, e3, c3, f3, t3⟩ := hc.add (by omega) 70
  obtain ⟨hF, hA, hB, hg, -⟩ := hc
  have e1 := kwb hA hB hk (show 0 < 3 by decide)
  rw [hkw] at e1
  have e2 := bod8 hB (show 5 < 7 by decide) (show 0 < 3 by decide)
  rw [show bo 5 0 = 70 from rfl] at e2
  rw [fX8_perform, if_pos (by rw [l21, le_nn (by omega) (by decide)]; omega), bnd1 e1]
  dsimp only
  rw [if_neg (by decide), if_neg (by decide), ab1 hA (show 5 < 7 by decide), up8 hA (by decide) (by decide), bnd1 e2]
  dsimp only
  rw [bnd1 e3, if_neg (show ¬ nI 70 = 10 by decide), if_neg (show ¬ nI 70 = 11 by decide), if_neg (show ¬ nI 70 = 12 by decide), if_neg (show ¬ nI 70 = 20 by decide), if_neg (show ¬ nI 70 = 30 by decide), if_neg (show ¬ nI 70 = 40 by decide), if_neg (show ¬ nI 70 = 41 by decide), if_neg (show ¬ nI 70 = 50 by decide), if_neg (show ¬ nI 70 = 60 by decide), if_pos (show nI 70 = 70 from rfl)]
  have i := pf10 (r := r) (g := g) (q := q) n (k := 0) (by decide) (by decide) x M3 (l ++ [70]) (d + 1) c3 (by rw [len1]; exact hl1) (by omega)
  obtain ⟨M4, e4, c4, f4, t4⟩ := i
  rw [show up 5 = 0 from rfl, show (0 : Int32) = nI 0 from rfl, show nI d + (1 : Int32) = nI (d + 1) from add_nn d 1, bnd1 e4]
  exact ⟨M4, rfl, by rw [← app1]; exact c4, f3.tr f4, ⟨t4.1.trans t3.1, t4.2.trans t3.2⟩⟩
theorem PF.le {r g : Nat} {q : Nat → Nat} {D D' n k a : Nat} {x v : Int32} {bs : List Nat} (h : PF r g q D n k a x v bs) (hD : D' ≤ D) : PF r g q D' n k a x v bs := fun M l d hc hl hd => h M l d hc hl (by omega)
theorem pfF {r g : Nat} {q : Nat → Nat} (n : Nat) {k : Nat} (hk : k < 7) (x : Int32) : PF r g q 20 (n + 2) k 0 x (vF k (nI g) (nI (q (24 + g))) x) (bF k) := by
  have : k = 0 ∨ k = 1 ∨ k = 2 ∨ k = 3 ∨ k = 4 ∨ k = 5 ∨ k = 6 := by omega
  rcases this with rfl | rfl | rfl | rfl | rfl | rfl | rfl
  · exact (pf10 (n + 1) (k := 0) (by decide) (by decide) x).le (by decide)
  · exact pf20 n (k := 1) (by decide) (by decide) x
  · exact (pf10 (n + 1) (k := 2) (by decide) (by decide) x).le (by decide)
  · exact (pf10 (n + 1) (k := 3) (by decide) (by decide) x).le (by decide)
  · exact pf20 n (k := 4) (by decide) (by decide) x
  · exact pf70 n (k := 5) (by decide) (by decide) x
  · exact pf20 n (k := 6) (by decide) (by decide) x
theorem pf11 {r g : Nat} {q : Nat → Nat} (n : Nat) {k : Nat} (hk : k < 7) (hkw : kw k 1 = 0) (hq : q g < 7) (x : Int32) : PF r g q 19 ((n + 2) + 1) k 1 x (vT0 (q g) (nI g) (nI (q (24 + g))) x) (bT0 (q g)) := by
  intro M l d hc hl hd
  have hl1 : l.length + ((bT0 (q g))).length ≤ 60 := hl
  unfold bT0 at hl1
  rw [List.length_cons] at hl1
  obtain ⟨M3, e3, c3, f3, t3⟩ := hc.add (by omega) 11
  obtain ⟨hF, hA, hB, hg, -⟩ := hc
  have e1 := kwb hA hB hk (show 1 < 3 by decide)
  rw [hkw] at e1
  have e2 := bod8 hB (show 0 < 7 by decide) (show 1 < 3 by decide)
  rw [show bo 0 1 = 11 from rfl] at e2
  rw [fX8_perform, if_pos (by rw [l21, le_nn (by omega) (by decide)]; omega), bnd1 e1]
  dsimp only
  rw [if_pos (by decide), bnd1 e2]
  dsimp only
  rw [bnd1 e3, if_neg (show ¬ nI 11 = 10 by decide), if_pos (show nI 11 = 11 from rfl)]
  have i := pfF (r := r) (g := g) (q := q) n hq x M3 (l ++ [11]) (d + 1) c3 (by rw [len1]; omega) (by omega)
  obtain ⟨M4, e4, c4, f4, t4⟩ := i
  rw [ibG c3.2.2.2.1.2.2.1, c3.2.2.2.1.2.2.2.2.1, show (0 : Int32) = nI 0 from rfl, show nI d + (1 : Int32) = nI (d + 1) from add_nn d 1, bnd1 e4]
  exact ⟨M4, rfl, by unfold bT0; rw [← app1]; exact c4, f3.tr f4, ⟨t4.1.trans t3.1, t4.2.trans t3.2⟩⟩
theorem pf30 {r g : Nat} {q : Nat → Nat} (n : Nat) {k : Nat} (hk : k < 7) (hkw : kw k 1 = 4) (hq : q g < 7) (x : Int32) : PF r g q 18 ((n + 3) + 1) k 1 x (vT0 (q g) (nI g) (nI (q (24 + g))) x * 3) (30 :: bT0 (q g)) := by
  intro M l d hc hl hd
  have hl1 : l.length + ((30 :: bT0 (q g))).length ≤ 60 := hl
  skip
  rw [List.length_cons] at hl1
  obtain ⟨M3, e3, c3, f3, t3⟩ := hc.add (by omega) 30
  obtain ⟨hF, hA, hB, hg, -⟩ := hc
  have e1 := kwb hA hB hk (show 1 < 3 by decide)
  rw [hkw] at e1
  have e2 := bod8 hB (show 4 < 7 by decide) (show 1 < 3 by decide)
  rw [show bo 4 1 = 30 from rfl] at e2
  rw [fX8_perform, if_pos (by rw [l21, le_nn (by omega) (by decide)]; omega), bnd1 e1]
  dsimp only
  rw [if_neg (by decide), if_neg (by decide), ab1 hA (show 4 < 7 by decide), up8 hA (by decide) (by decide), bnd1 e2]
  dsimp only
  rw [bnd1 e3, if_neg (show ¬ nI 30 = 10 by decide), if_neg (show ¬ nI 30 = 11 by decide), if_neg (show ¬ nI 30 = 12 by decide), if_neg (show ¬ nI 30 = 20 by decide), if_pos (show nI 30 = 30 from rfl)]
  have hu : kw (up 4) 1 = 0 := by decide
  have i := pf11 (r := r) (g := g) (q := q) n (k := up 4) (by decide) hu hq (x) M3 (l ++ [30]) (d + 1) c3 (by rw [len1]; omega) (by omega)
  obtain ⟨M4, e4, c4, f4, t4⟩ := i
  rw [show (1 : Int32) = nI 1 from rfl, show nI d + nI 1 = nI (d + 1) from add_nn d 1, bnd1 e4]
  exact ⟨M4, rfl, by rw [← app1]; exact c4, f3.tr f4, ⟨t4.1.trans t3.1, t4.2.trans t3.2⟩⟩
theorem pf40 {r g : Nat} {q : Nat → Nat} (n : Nat) {k : Nat} (hk : k < 7) (hkw : kw k 1 = 6) (hq : q g < 7) (x : Int32) : PF r g q 18 ((n + 3) + 1) k 1 x (vT0 (q g) (nI g) (nI (q (24 + g))) (x + 1)) (40 :: bT0 (q g)) := by
  intro M l d hc hl hd
  have hl1 : l.length + ((40 :: bT0 (q g))).length ≤ 60 := hl
  skip
  rw [List.length_cons] at hl1
  obtain ⟨M3, e3, c3, f3, t3⟩ := hc.add (by omega) 40
  obtain ⟨hF, hA, hB, hg, -⟩ := hc
  have e1 := kwb hA hB hk (show 1 < 3 by decide)
  rw [hkw] at e1
  have e2 := bod8 hB (show 6 < 7 by decide) (show 1 < 3 by decide)
  rw [show bo 6 1 = 40 from rfl] at e2
  rw [fX8_perform, if_pos (by rw [l21, le_nn (by omega) (by decide)]; omega), bnd1 e1]
  dsimp only
  rw [if_neg (by decide), if_neg (by decide), ab1 hA (show 6 < 7 by decide), up8 hA (by decide) (by decide), bnd1 e2]
  dsimp only
  rw [bnd1 e3, if_neg (show ¬ nI 40 = 10 by decide), if_neg (show ¬ nI 40 = 11 by decide), if_neg (show ¬ nI 40 = 12 by decide), if_neg (show ¬ nI 40 = 20 by decide), if_neg (show ¬ nI 40 = 30 by decide), if_pos (show nI 40 = 40 from rfl)]
  have hu : kw (up 6) 1 = 0 := by decide
  have i := pf11 (r := r) (g := g) (q := q) n (k := up 6) (by decide) hu hq (x + nI 1) M3 (l ++ [40]) (d + 1) c3 (by rw [len1]; omega) (by omega)
  obtain ⟨M4, e4, c4, f4, t4⟩ := i
  rw [show (1 : Int32) = nI 1 from rfl, show nI d + nI 1 = nI (d + 1) from add_nn d 1, bnd1 e4]
  exact ⟨M4, rfl, by rw [← app1]; exact c4, f3.tr f4, ⟨t4.1.trans t3.1, t4.2.trans t3.2⟩⟩
theorem pf71 {r g : Nat} {q : Nat → Nat} (n : Nat) {k : Nat} (hk : k < 7) (hkw : kw k 1 = 5) (hq : q g < 7) (x : Int32) : PF r g q 18 ((n + 3) + 1) k 1 x (vT0 (q g) (nI g) (nI (q (24 + g))) (x - nI (q (24 + g)))) (71 :: bT0 (q g)) := by
  intro M l d hc hl hd
  have hl1 : l.length + ((71 :: bT0 (q g))).length ≤ 60 := hl
  skip
  rw [List.length_cons] at hl1
  obtain ⟨M3, e3, c3, f3, t3⟩ := hc.add (by omega) 71
  obtain ⟨hF, hA, hB, hg, -⟩ := hc
  have e1 := kwb hA hB hk (show 1 < 3 by decide)
  rw [hkw] at e1
  have e2 := bod8 hB (show 5 < 7 by decide) (show 1 < 3 by decide)
  rw [show bo 5 1 = 71 from rfl] at e2
  rw [fX8_perform, if_pos (by rw [l21, le_nn (by omega) (by decide)]; omega), bnd1 e1]
  dsimp only
  rw [if_neg (by decide), if_neg (by decide), ab1 hA (show 5 < 7 by decide), up8 hA (by decide) (by decide), bnd1 e2]
  dsimp only
  rw [bnd1 e3, if_neg (show ¬ nI 71 = 10 by decide), if_neg (show ¬ nI 71 = 11 by decide), if_neg (show ¬ nI 71 = 12 by decide), if_neg (show ¬ nI 71 = 20 by decide), if_neg (show ¬ nI 71 = 30 by decide), if_neg (show ¬ nI 71 = 40 by decide), if_neg (show ¬ nI 71 = 41 by decide), if_neg (show ¬ nI 71 = 50 by decide), if_neg (show ¬ nI 71 = 60 by decide), if_neg (show ¬ nI 71 = 70 by decide), if_pos (show nI 71 = 71 from rfl)]
  have hu : kw (up 5) 1 = 0 := by decide
  have i := pf11 (r := r) (g := g) (q := q) n (k := up 5) (by decide) hu hq (x - nI (q (24 + g))) M3 (l ++ [71]) (d + 1) c3 (by rw [len1]; omega) (by omega)
  obtain ⟨M4, e4, c4, f4, t4⟩ := i
  rw [ibG c3.2.2.2.1.2.2.1, c3.2.2.2.1.2.2.2.2.2.2.2]
  rw [show (1 : Int32) = nI 1 from rfl, show nI d + nI 1 = nI (d + 1) from add_nn d 1, bnd1 e4]
  exact ⟨M4, rfl, by rw [← app1]; exact c4, f3.tr f4, ⟨t4.1.trans t3.1, t4.2.trans t3.2⟩⟩
theorem pfT {r g : Nat} {q : Nat → Nat} (n : Nat) (hq : q g < 7) (x : Int32) : PF r g q 18 (n + 4) (q g) 1 x (vT (q g) (nI g) (nI (q (24 + g))) x) (bT (q g)) := by
  obtain ⟨k, hk⟩ : ∃ k, k = q g := ⟨_, rfl⟩
  have h7 : k < 7 := by omega
  have : k = 0 ∨ k = 1 ∨ k = 2 ∨ k = 3 ∨ k = 4 ∨ k = 5 ∨ k = 6 := by omega
  rcases this with z | z | z | z | z | z | z
  · have := (pf11 (r := r) (n + 1) (k := q g) hq (by rw [← hk, z]; decide) hq x).le (show 18 ≤ 19 by decide)
    have e1 : vT (q g) (nI g) (nI (q (24 + g))) x = vT0 (q g) (nI g) (nI (q (24 + g))) x := by unfold vT; rw [if_neg (by omega), if_neg (by omega), if_neg (by omega)]
    have e2 : bT (q g) = bT0 (q g) := by unfold bT; rw [if_neg (by omega), if_neg (by omega), if_neg (by omega)]
    rw [e1, e2]; exact this
  · have := (pf11 (r := r) (n + 1) (k := q g) hq (by rw [← hk, z]; decide) hq x).le (show 18 ≤ 19 by decide)
    have e1 : vT (q g) (nI g) (nI (q (24 + g))) x = vT0 (q g) (nI g) (nI (q (24 + g))) x := by unfold vT; rw [if_neg (by omega), if_neg (by omega), if_neg (by omega)]
    have e2 : bT (q g) = bT0 (q g) := by unfold bT; rw [if_neg (by omega), if_neg (by omega), if_neg (by omega)]
    rw [e1, e2]; exact this
  · have := (pf11 (r := r) (n + 1) (k := q g) hq (by rw [← hk, z]; decide) hq x).le (show 18 ≤ 19 by decide)
    have e1 : vT (q g) (nI g) (nI (q (24 + g))) x = vT0 (q g) (nI g) (nI (q (24 + g))) x := by unfold vT; rw [if_neg (by omega), if_neg (by omega), if_neg (by omega)]
    have e2 : bT (q g) = bT0 (q g) := by unfold bT; rw [if_neg (by omega), if_neg (by omega), if_neg (by omega)]
    rw [e1, e2]; exact this
  · have := (pf11 (r := r) (n + 1) (k := q g) hq (by rw [← hk, z]; decide) hq x).le (show 18 ≤ 19 by decide)
    have e1 : vT (q g) (nI g) (nI (q (24 + g))) x = vT0 (q g) (nI g) (nI (q (24 + g))) x := by unfold vT; rw [if_neg (by omega), if_neg (by omega), if_neg (by omega)]
    have e2 : bT (q g) = bT0 (q g) := by unfold bT; rw [if_neg (by omega), if_neg (by omega), if_neg (by omega)]
    rw [e1, e2]; exact this
  · have := pf30 (r := r) n (k := q g) hq (by rw [← hk, z]; decide) hq x
    have e1 : vT (q g) (nI g) (nI (q (24 + g))) x = vT0 (q g) (nI g) (nI (q (24 + g))) x * 3 := by unfold vT; rw [if_pos (by omega)]
    have e2 : bT (q g) = 30 :: bT0 (q g) := by unfold bT; rw [if_pos (by omega)]
    rw [e1, e2]; exact this
  · have := pf71 (r := r) n (k := q g) hq (by rw [← hk, z]; decide) hq x
    have e1 : vT (q g) (nI g) (nI (q (24 + g))) x = vT0 (q g) (nI g) (nI (q (24 + g))) (x - nI (q (24 + g))) := by unfold vT; rw [if_neg (by omega), if_neg (by omega), if_pos (by omega)]
    have e2 : bT (q g) = 71 :: bT0 (q g) := by unfold bT; rw [if_neg (by omega), if_neg (by omega), if_pos (by omega)]
    rw [e1, e2]; exact this
  · have := pf40 (r := r) n (k := q g) hq (by rw [← hk, z]; decide) hq x
    have e1 : vT (q g) (nI g) (nI (q (24 + g))) x = vT0 (q g) (nI g) (nI (q (24 + g))) (x + 1) := by unfold vT; rw [if_neg (by omega), if_pos (by omega)]
    have e2 : bT (q g) = 40 :: bT0 (q g) := by unfold bT; rw [if_neg (by omega), if_pos (by omega)]
    rw [e1, e2]; exact this
theorem pf12 {r g : Nat} {q : Nat → Nat} (n : Nat) {k : Nat} (hk : k < 7) (hkw : kw k 2 = 0) (hq : q g < 7) (x : Int32) : PF r g q 17 (n + 4 + 1) k 2 x (vA0 (q g) (nI g) (nI (q (24 + g))) x) (bA0 (q g)) := by
  intro M l d hc hl hd
  have hl1 : l.length + (bA0 (q g)).length ≤ 60 := hl
  unfold bA0 at hl1
  rw [List.length_cons, List.length_append] at hl1
  obtain ⟨M3, e3, c3, f3, t3⟩ := hc.add (by omega) 12
  obtain ⟨hF, hA, hB, hg, -⟩ := hc
  have e1 := kwb hA hB hk (show 2 < 3 by decide)
  rw [hkw] at e1
  have e2 := bod8 hB (show 0 < 7 by decide) (show 2 < 3 by decide)
  rw [show bo 0 2 = 12 from rfl] at e2
  rw [fX8_perform, if_pos (by rw [l21, le_nn (by omega) (by decide)]; omega), bnd1 e1]
  dsimp only
  rw [if_pos (by decide), bnd1 e2]
  dsimp only
  rw [bnd1 e3, if_neg (show ¬ nI 12 = 10 by decide), if_neg (show ¬ nI 12 = 11 by decide), if_pos (show nI 12 = 12 from rfl)]
  have i := pfT (r := r) (g := g) (q := q) n hq x M3 (l ++ [12]) (d + 1) c3 (by rw [len1]; omega) (by omega)
  obtain ⟨M4, e4, c4, f4, t4⟩ := i
  have i2 := pfF (r := r) (g := g) (q := q) (n + 2) hq (x - nI (q (24 + g))) M4 (l ++ [12] ++ bT (q g)) (d + 1) c4 (by rw [List.length_append, len1]; omega) (by omega)
  obtain ⟨M5, e5, c5, f5, t5⟩ := i2
  rw [ibG c3.2.2.2.1.2.2.1, c3.2.2.2.1.2.2.2.2.1, show (1 : Int32) = nI 1 from rfl, show nI d + nI 1 = nI (d + 1) from add_nn d 1, bnd1 e4]
  dsimp only
  rw [ibG c4.2.2.2.1.2.2.1, c4.2.2.2.1.2.2.2.2.1, ibG c4.2.2.2.1.2.2.1, c4.2.2.2.1.2.2.2.2.2.2.2, show (0 : Int32) = nI 0 from rfl, bnd1 e5]
  refine ⟨M5, rfl, ?_, (f3.tr f4).tr f5, ⟨(t5.1.trans t4.1).trans t3.1, (t5.2.trans t4.2).trans t3.2⟩⟩
  unfold bA0
  rw [← app1, ← List.append_assoc]
  exact c5
theorem pf50 {r g : Nat} {q : Nat → Nat} (n : Nat) {k : Nat} (hk : k < 7) (hkw : kw k 2 = 2) (hq : q g < 7) (x : Int32) : PF r g q 16 ((n + 5) + 1) k 2 x (-vA0 (q g) (nI g) (nI (q (24 + g))) x) (50 :: bA0 (q g)) := by
  intro M l d hc hl hd
  have hl1 : l.length + ((50 :: bA0 (q g))).length ≤ 60 := hl
  skip
  rw [List.length_cons] at hl1
  obtain ⟨M3, e3, c3, f3, t3⟩ := hc.add (by omega) 50
  obtain ⟨hF, hA, hB, hg, -⟩ := hc
  have e1 := kwb hA hB hk (show 2 < 3 by decide)
  rw [hkw] at e1
  have e2 := bod8 hB (show 2 < 7 by decide) (show 2 < 3 by decide)
  rw [show bo 2 2 = 50 from rfl] at e2
  rw [fX8_perform, if_pos (by rw [l21, le_nn (by omega) (by decide)]; omega), bnd1 e1]
  dsimp only
  rw [if_neg (by decide), if_neg (by decide), ab1 hA (show 2 < 7 by decide), up8 hA (by decide) (by decide), bnd1 e2]
  dsimp only
  rw [bnd1 e3, if_neg (show ¬ nI 50 = 10 by decide), if_neg (show ¬ nI 50 = 11 by decide), if_neg (show ¬ nI 50 = 12 by decide), if_neg (show ¬ nI 50 = 20 by decide), if_neg (show ¬ nI 50 = 30 by decide), if_neg (show ¬ nI 50 = 40 by decide), if_neg (show ¬ nI 50 = 41 by decide), if_pos (show nI 50 = 50 from rfl)]
  have i := pf12 (r := r) (g := g) (q := q) n (k := up 2) (by decide) (by decide) hq x M3 (l ++ [50]) (d + 1) c3 (by rw [len1]; omega) (by omega)
  obtain ⟨M4, e4, c4, f4, t4⟩ := i
  rw [show nI d + (1 : Int32) = nI (d + 1) from add_nn d 1, show (2 : Int32) = nI 2 from rfl, bnd1 e4]
  exact ⟨M4, rfl, by rw [← app1]; exact c4, f3.tr f4, ⟨t4.1.trans t3.1, t4.2.trans t3.2⟩⟩
theorem pf60 {r g : Nat} {q : Nat → Nat} (n : Nat) {k : Nat} (hk : k < 7) (hkw : kw k 2 = 3) (hq : q g < 7) (x : Int32) : PF r g q 15 ((n + 6) + 1) k 2 x (-vA0 (q g) (nI g) (nI (q (24 + g))) x ^^^ 5) (60 :: 50 :: bA0 (q g)) := by
  intro M l d hc hl hd
  have hl1 : l.length + ((60 :: 50 :: bA0 (q g))).length ≤ 60 := hl
  skip
  rw [List.length_cons] at hl1
  obtain ⟨M3, e3, c3, f3, t3⟩ := hc.add (by omega) 60
  obtain ⟨hF, hA, hB, hg, -⟩ := hc
  have e1 := kwb hA hB hk (show 2 < 3 by decide)
  rw [hkw] at e1
  have e2 := bod8 hB (show 3 < 7 by decide) (show 2 < 3 by decide)
  rw [show bo 3 2 = 60 from rfl] at e2
  rw [fX8_perform, if_pos (by rw [l21, le_nn (by omega) (by decide)]; omega), bnd1 e1]
  dsimp only
  rw [if_neg (by decide), if_neg (by decide), ab1 hA (show 3 < 7 by decide), up8 hA (by decide) (by decide), bnd1 e2]
  dsimp only
  rw [bnd1 e3, if_neg (show ¬ nI 60 = 10 by decide), if_neg (show ¬ nI 60 = 11 by decide), if_neg (show ¬ nI 60 = 12 by decide), if_neg (show ¬ nI 60 = 20 by decide), if_neg (show ¬ nI 60 = 30 by decide), if_neg (show ¬ nI 60 = 40 by decide), if_neg (show ¬ nI 60 = 41 by decide), if_neg (show ¬ nI 60 = 50 by decide), if_pos (show nI 60 = 60 from rfl)]
  have i := pf50 (r := r) (g := g) (q := q) n (k := up 3) (by decide) (by decide) hq x M3 (l ++ [60]) (d + 1) c3 (by rw [len1]; omega) (by omega)
  obtain ⟨M4, e4, c4, f4, t4⟩ := i
  rw [show nI d + (1 : Int32) = nI (d + 1) from add_nn d 1, show (2 : Int32) = nI 2 from rfl, bnd1 e4]
  exact ⟨M4, rfl, by rw [← app1]; exact c4, f3.tr f4, ⟨t4.1.trans t3.1, t4.2.trans t3.2⟩⟩
theorem pf41 {r g : Nat} {q : Nat → Nat} (n : Nat) {k : Nat} (hk : k < 7) (hkw : kw k 2 = 6) (hq : q g < 7) (x : Int32) : PF r g q 16 ((n + 5) + 1) k 2 x (vA0 (q g) (nI g) (nI (q (24 + g))) x - nI g) (41 :: bA0 (q g)) := by
  intro M l d hc hl hd
  have hl1 : l.length + ((41 :: bA0 (q g))).length ≤ 60 := hl
  skip
  rw [List.length_cons] at hl1
  obtain ⟨M3, e3, c3, f3, t3⟩ := hc.add (by omega) 41
  obtain ⟨hF, hA, hB, hg, -⟩ := hc
  have e1 := kwb hA hB hk (show 2 < 3 by decide)
  rw [hkw] at e1
  have e2 := bod8 hB (show 6 < 7 by decide) (show 2 < 3 by decide)
  rw [show bo 6 2 = 41 from rfl] at e2
  rw [fX8_perform, if_pos (by rw [l21, le_nn (by omega) (by decide)]; omega), bnd1 e1]
  dsimp only
  rw [if_neg (by decide), if_neg (by decide), ab1 hA (show 6 < 7 by decide), up8 hA (by decide) (by decide), bnd1 e2]
  dsimp only
  rw [bnd1 e3, if_neg (show ¬ nI 41 = 10 by decide), if_neg (show ¬ nI 41 = 11 by decide), if_neg (show ¬ nI 41 = 12 by decide), if_neg (show ¬ nI 41 = 20 by decide), if_neg (show ¬ nI 41 = 30 by decide), if_neg (show ¬ nI 41 = 40 by decide), if_pos (show nI 41 = 41 from rfl)]
  have i := pf12 (r := r) (g := g) (q := q) n (k := up 6) (by decide) (by decide) hq x M3 (l ++ [41]) (d + 1) c3 (by rw [len1]; omega) (by omega)
  obtain ⟨M4, e4, c4, f4, t4⟩ := i
  rw [show nI d + (1 : Int32) = nI (d + 1) from add_nn d 1, show (2 : Int32) = nI 2 from rfl, bnd1 e4]
  dsimp only
  rw [ibG c4.2.2.2.1.2.2.1, c4.2.2.2.1.2.2.2.1]
  exact ⟨M4, rfl, by rw [← app1]; exact c4, f3.tr f4, ⟨t4.1.trans t3.1, t4.2.trans t3.2⟩⟩
theorem pfA {r g : Nat} {q : Nat → Nat} (n : Nat) (hq : q g < 7) (x : Int32) : PF r g q 15 (n + 7) (q g) 2 x (vA (q g) (nI g) (nI (q (24 + g))) x) (bA (q g)) := by
  obtain ⟨k, hk⟩ : ∃ k, k = q g := ⟨_, rfl⟩
  have : k = 0 ∨ k = 1 ∨ k = 2 ∨ k = 3 ∨ k = 4 ∨ k = 5 ∨ k = 6 := by omega
  rcases this with z | z | z | z | z | z | z
  · have := (pf12 (r := r) (n + 2) (k := q g) hq (by rw [← hk, z]; decide) hq x).le (show 15 ≤ 17 by decide)
    have e1 : vA (q g) (nI g) (nI (q (24 + g))) x = vA0 (q g) (nI g) (nI (q (24 + g))) x := by unfold vA; rw [if_neg (by omega), if_neg (by omega), if_neg (by omega)]
    have e2 : bA (q g) = bA0 (q g) := by unfold bA; rw [if_neg (by omega), if_neg (by omega), if_neg (by omega)]
    rw [e1, e2]; exact this
  · have := (pf12 (r := r) (n + 2) (k := q g) hq (by rw [← hk, z]; decide) hq x).le (show 15 ≤ 17 by decide)
    have e1 : vA (q g) (nI g) (nI (q (24 + g))) x = vA0 (q g) (nI g) (nI (q (24 + g))) x := by unfold vA; rw [if_neg (by omega), if_neg (by omega), if_neg (by omega)]
    have e2 : bA (q g) = bA0 (q g) := by unfold bA; rw [if_neg (by omega), if_neg (by omega), if_neg (by omega)]
    rw [e1, e2]; exact this
  · have := (pf50 (r := r) (n + 1) (k := q g) hq (by rw [← hk, z]; decide) hq x).le (show 15 ≤ 16 by decide)
    have e1 : vA (q g) (nI g) (nI (q (24 + g))) x = -vA0 (q g) (nI g) (nI (q (24 + g))) x := by unfold vA; rw [if_pos (by omega)]
    have e2 : bA (q g) = 50 :: bA0 (q g) := by unfold bA; rw [if_pos (by omega)]
    rw [e1, e2]; exact this
  · have := pf60 (r := r) n (k := q g) hq (by rw [← hk, z]; decide) hq x
    have e1 : vA (q g) (nI g) (nI (q (24 + g))) x = -vA0 (q g) (nI g) (nI (q (24 + g))) x ^^^ 5 := by unfold vA; rw [if_neg (by omega), if_pos (by omega)]
    have e2 : bA (q g) = 60 :: 50 :: bA0 (q g) := by unfold bA; rw [if_neg (by omega), if_pos (by omega)]
    rw [e1, e2]; exact this
  · have := (pf12 (r := r) (n + 2) (k := q g) hq (by rw [← hk, z]; decide) hq x).le (show 15 ≤ 17 by decide)
    have e1 : vA (q g) (nI g) (nI (q (24 + g))) x = vA0 (q g) (nI g) (nI (q (24 + g))) x := by unfold vA; rw [if_neg (by omega), if_neg (by omega), if_neg (by omega)]
    have e2 : bA (q g) = bA0 (q g) := by unfold bA; rw [if_neg (by omega), if_neg (by omega), if_neg (by omega)]
    rw [e1, e2]; exact this
  · have := (pf12 (r := r) (n + 2) (k := q g) hq (by rw [← hk, z]; decide) hq x).le (show 15 ≤ 17 by decide)
    have e1 : vA (q g) (nI g) (nI (q (24 + g))) x = vA0 (q g) (nI g) (nI (q (24 + g))) x := by unfold vA; rw [if_neg (by omega), if_neg (by omega), if_neg (by omega)]
    have e2 : bA (q g) = bA0 (q g) := by unfold bA; rw [if_neg (by omega), if_neg (by omega), if_neg (by omega)]
    rw [e1, e2]; exact this
  · have := (pf41 (r := r) (n + 1) (k := q g) hq (by rw [← hk, z]; decide) hq x).le (show 15 ≤ 16 by decide)
    have e1 : vA (q g) (nI g) (nI (q (24 + g))) x = vA0 (q g) (nI g) (nI (q (24 + g))) x - nI g := by unfold vA; rw [if_neg (by omega), if_neg (by omega), if_pos (by omega)]
    have e2 : bA (q g) = 41 :: bA0 (q g) := by unfold bA; rw [if_neg (by omega), if_neg (by omega), if_pos (by omega)]
    rw [e1, e2]; exact this
