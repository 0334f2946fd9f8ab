/-! two ahead, the reference; the call -/
def GH (q od : Nat → Nat) (g : Nat) (ys al : Bool) (u : Nat → Nat) : Nat → Nat := fun c => mul q g ys od c * (if al then u c else 10 - u c)
/-- the one more that is looked for: none, or a sign -/
def UH (q : Nat → Nat) (x3 : Int32) (u : Nat → Nat) : Prop := (x3 = -nI 1 ∧ u = fun _ => 5) ∨ ∃ h, h < q 62 ∧ x3 = nI h ∧ u = tn q h
theorem bh18 {M : Mm} (hF : FIX M) {q od : Nat → Nat} {sd : Int32} (h : MD q od sd M) (hI : Inv q od) {g : Nat} (hg : g < q 62) {ys al : Bool} {x3 : Int32} {u : Nat → Nat} (hu : UH q x3 u) (hb : ∀ c, od c * 100 < 9223372036854775808) {k6 : Nat → Int32 → Int32 → Int32 → Int64 → Int32 → Mm → Option (Int64 × Mm)} {x4 : Int64} : ∀ m n c, m + c = q 56 → m < n →
    fX9_behind_b18 k6 n 80 (nI g) (bI ys) x3 x4 (bI al) (lN (mx (GH q od g ys al u) c)) (nI c) M = k6 80 (nI g) (bI ys) x3 (x4 + lN (mx (GH q od g ys al u) (q 56))) (bI al + 1) M := by
  have hL := hI.1
  have hq := hI.sg
  have u10 : ∀ c, u c ≤ 10 := fun c => by
    rcases hu with ⟨-, rfl⟩ | ⟨hh, h1, -, rfl⟩
    · show 5 ≤ 10
      decide
    · exact tn_le hI h1 c
  have gb : ∀ c, GH q od g ys al u c < 9223372036854775808 := fun c => by
    have t := Nat.mul_le_mul_left (od c) (tms_le hI hg ys c)
    have a : (if al then u c else 10 - u c) ≤ 10 := by have := u10 c; split <;> omega
    have := Nat.mul_le_mul t a
    have := hb c
    show od c * tms q g ys c * _ < _
    omega
  intro m
  induction m with
  | zero =>
    intro n c hc hn
    obtain ⟨n, rfl⟩ : ∃ a, n = a + 1 := ⟨n - 1, by omega⟩
    rw [fX9_behind_b18, ib80 hF, h.f56, if_pos (by rw [le_nn (by omega) (by omega)]; omega), show c = q 56 by omega]
  | succ m ih =>
    intro n c hc hn
    obtain ⟨n, rfl⟩ : ∃ a, n = a + 1 := ⟨n - 1, by omega⟩
    have cc : c < 24 := by omega
    have hn2 := ih n (c + 1) (by omega) (by omega)
    have tl := tn_le hI hg c
    have ul := u10 c
    have mb := mx_b (by decide) gb c
    have go : ∀ f v : Nat, f < 2147483648 → v < 2147483648 → f = tms q g ys c → v = (if al then u c else 10 - u c) → fX9_behind_b94 k6 (fX9_behind_b18 k6 n) 80 (nI g) (bI ys) x3 x4 (bI al) (lN (mx (GH q od g ys al u) c)) (nI c) (lN (od c) * (nI f).toInt64) (nI v) M = k6 80 (nI g) (bI ys) x3 (x4 + lN (mx (GH q od g ys al u) (q 56))) (bI al + 1) M := fun f v hf hv hf2 hv2 => by
      unfold fX9_behind_b94
      rw [nI_l hf, nI_l hv, lN_mul, lN_mul, hf2, hv2, show od c * tms q g ys c * (if al then u c else 10 - u c) = GH q od g ys al u c from rfl, show nI c + (1 : Int32) = nI (c + 1) from add_nn c 1]
      have gc := gb c
      rw [show mx (GH q od g ys al u) (c + 1) = (if mx (GH q od g ys al u) c < GH q od g ys al u c then GH q od g ys al u c else mx (GH q od g ys al u) c) from rfl] at hn2
      by_cases z : mx (GH q od g ys al u) c < GH q od g ys al u c
      · rw [if_pos z] at hn2
        rw [if_neg (by rw [le_LL gc mb]; omega)]
        exact hn2
      · rw [if_neg z] at hn2
        rw [if_pos (by rw [le_LL gc mb]; omega)]
        exact hn2
    have go2 : ∀ f : Nat, f < 2147483648 → f = tms q g ys c → fX9_behind_b76 k6 (fX9_behind_b18 k6 n) 80 (nI g) (bI ys) x3 x4 (bI al) (lN (mx (GH q od g ys al u) c)) (nI c) (nI (u c)) (lN (od c)) (nI f) M = k6 80 (nI g) (bI ys) x3 (x4 + lN (mx (GH q od g ys al u) (q 56))) (bI al + 1) M := fun f hf hf2 => by
      unfold fX9_behind_b76
      cases al
      · rw [if_neg (show ¬ bI false = 1 by decide), l10, sub_nn ul]
        exact go f (10 - u c) hf (by omega) hf2 rfl
      · rw [if_pos (show bI true = 1 from rfl)]
        exact go f (u c) hf (by omega) hf2 rfl
    have go3 : fX9_behind_b52 k6 (fX9_behind_b18 k6 n) 80 (nI g) (bI ys) x3 x4 (bI al) (lN (mx (GH q od g ys al u) c)) (nI c) (nI (tn q g c)) (nI (u c)) M = k6 80 (nI g) (bI ys) x3 (x4 + lN (mx (GH q od g ys al u) (q 56))) (bI al + 1) M := by
      unfold fX9_behind_b52
      rw [rb80_21 hF, ab89 hF cc, h.2.2.2.2 c cc]
      cases ys
      · rw [if_neg (show ¬ bI false = 1 by decide), l10, sub_nn tl]
        exact go2 (10 - tn q g c) (by omega) rfl
      · rw [if_pos (show bI true = 1 from rfl)]
        exact go2 (tn q g c) (by omega) rfl
    rw [fX9_behind_b18, ib80 hF, h.f56, if_neg (by rw [le_nn (by omega) (by omega)]; omega), bnd1 (ten9 hF h hI hg cc)]
    dsimp only
    have hu2 := hu
    rcases hu with ⟨hx, hux⟩ | ⟨hh, h1, hx, hux⟩
    · rw [if_pos (by rw [hx]; rfl), show (5 : Int32) = nI (u c) by rw [hux]; rfl]
      exact go3
    · rw [if_neg (show ¬ x3 = -1 by rw [hx, l1, mi_ne (by omega) (by decide) (by decide)]; exact id), hx, bnd1 (ten9 hF h hI h1 cc)]
      dsimp only
      rw [← hx, show tn q hh c = u c by rw [hux]]
      exact go3
theorem bh9 {M : Mm} (hF : FIX M) {q od : Nat → Nat} {sd : Int32} (h : MD q od sd M) (hI : Inv q od) {g : Nat} (hg : g < q 62) {ys : Bool} {x3 : Int32} {u : Nat → Nat} (hu : UH q x3 u) (hb : ∀ c, od c * 100 < 9223372036854775808) :
    fX9_behind 80 (nI g) (bI ys) x3 M = some (lN (mx (GH q od g ys false u) (q 56) + mx (GH q od g ys true u) (q 56)), M) := by
  have hL := hI.1
  have e1 := bh18 hF h hI hg (ys := ys) (al := false) hu hb (k6 := fX9_behind_b6 1999) (x4 := lN 0) (q 56) FU 0 (Nat.add_zero _) (by unfold FU; omega)
  have e2 := bh18 hF h hI hg (ys := ys) (al := true) hu hb (k6 := fX9_behind_b6 1998) (x4 := lN (0 + mx (GH q od g ys false u) (q 56))) (q 56) FU 0 (Nat.add_zero _) (by unfold FU; omega)
  unfold fX9_behind
  rw [kb80 hF, show FU = 1999 + 1 from rfl, fX9_behind_b6, if_neg (by decide)]
  refine Eq.trans e1 ?_
  rw [lN_add, show bI false + 1 = bI true from rfl, show 1999 = 1998 + 1 from rfl, fX9_behind_b6, if_neg (by decide)]
  refine Eq.trans e2 ?_
  rw [lN_add, Nat.zero_add, show 1998 = 1997 + 1 from rfl, fX9_behind_b6, if_pos (by decide)]
theorem bh_n {q od : Nat → Nat} (g : Nat) (ys : Bool) : mx (GH q od g ys false (fun _ => 5)) (q 56) + mx (GH q od g ys true (fun _ => 5)) (q 56) = 10 * mx (mul q g ys od) (q 56) := by
  have a : mx (GH q od g ys false (fun _ => 5)) (q 56) = mx (mul q g ys od) (q 56) * 5 := mx_mul (mul q g ys od) 5 _
  have b : mx (GH q od g ys true (fun _ => 5)) (q 56) = mx (mul q g ys od) (q 56) * 5 := mx_mul (mul q g ys od) 5 _
  omega
theorem bh_h {q od : Nat → Nat} (g : Nat) (ys : Bool) {hh : Nat} (h8 : hh < 8) : mx (GH q od g ys false (tn q hh)) (q 56) + mx (GH q od g ys true (tn q hh)) (q 56) = wo q 8 (2 ^ hh) (mul q g ys od) := by
  rw [wo_2 h8, Nat.add_comm]
  rfl
theorem ah72 {M : Mm} (hF : FIX M) {q od : Nat → Nat} {sd : Int32} (h : MD q od sd M) (hI : Inv q od) {g : Nat} (hg : g < q 62) {ys : Bool} (hb : ∀ c, od c * 100 < 9223372036854775808) (hs : 200 * sm od (q 56) < 9223372036854775808) {k37 : Nat → Int32 → Int64 → Int32 → Mm → Option (Int32 × Mm)} {k52 : Nat → Int32 → Int64 → Int32 → Int64 → Int32 → Mm → Option (Int32 × Mm)} {x1 : Int32} {x2 x5 : Int64} : ∀ m n j, m + j = q 62 → m < n →
    fX9_ahead_b72 k37 k52 n 80 x1 x2 (nI g) x5 (bI ys) (lN (ma q g (mul q g ys od) j)) (nI j) M = k52 80 x1 x2 (nI g) (x5 + lN (ma q g (mul q g ys od) (q 62))) (bI ys + 1) M := by
  have hq := hI.sg
  have ss := sm_mulb hI hg ys od (q 56)
  intro m
  induction m with
  | zero =>
    intro n j hj hn
    obtain ⟨n, rfl⟩ : ∃ a, n = a + 1 := ⟨n - 1, by omega⟩
    rw [fX9_ahead_b72, ib80 hF, h.f62, if_pos (by rw [le_nn (by omega) (by omega)]; omega), show j = q 62 by omega]
  | succ m ih =>
    intro n j hj hn
    obtain ⟨n, rfl⟩ : ∃ a, n = a + 1 := ⟨n - 1, by omega⟩
    have hn2 := ih n (j + 1) (by omega) (by omega)
    rw [fX9_ahead_b72, ib80 hF, h.f62, if_neg (by rw [le_nn (by omega) (by omega)]; omega), show nI j + (1 : Int32) = nI (j + 1) from add_nn j 1]
    by_cases z : j = g
    · rw [show ma q g (mul q g ys od) (j + 1) = ma q g (mul q g ys od) j from if_pos z] at hn2
      rw [if_pos (by rw [z])]
      exact hn2
    · have e := bh9 hF h hI hg (ys := ys) (x3 := nI j) (u := tn q j) (Or.inr ⟨j, by omega, rfl, rfl⟩) hb
      rw [bh_h g ys (show j < 8 by omega)] at e
      have l2' := lw_2 j (by omega)
      have b := wo_le hI 8 (2 ^ j) (mul q g ys od) (two_lt (show j < q 62 by omega)) (pc_le8 _ l2'.2.2.2)
      rw [pc_2 j (by omega), Nat.pow_one] at b
      have a := ma_le hI g (mul q g ys od) j (by omega)
      rw [show ma q g (mul q g ys od) (j + 1) = (if ma q g (mul q g ys od) j < wo q 8 (2 ^ j) (mul q g ys od) then wo q 8 (2 ^ j) (mul q g ys od) else ma q g (mul q g ys od) j) from if_neg z] at hn2
      rw [if_neg (by rw [eq_nn (by omega) (by omega)]; exact z), bnd1 e]
      dsimp only
      by_cases y : ma q g (mul q g ys od) j < wo q 8 (2 ^ j) (mul q g ys od)
      · rw [if_pos y] at hn2
        rw [if_neg (by rw [le_LL (by omega) (by omega)]; omega)]
        exact hn2
      · rw [if_neg y] at hn2
        rw [if_pos (by rw [le_LL (by omega) (by omega)]; omega)]
        exact hn2
theorem ah52 {M : Mm} (hF : FIX M) {q od : Nat → Nat} {sd : Int32} (h : MD q od sd M) (hI : Inv q od) {g : Nat} (hg : g < q 62) (hb : ∀ c, od c * 100 < 9223372036854775808) (hs : 200 * sm od (q 56) < 9223372036854775808) {k37 : Nat → Int32 → Int64 → Int32 → Mm → Option (Int32 × Mm)} {x1 : Int32} {x2 : Int64} :
    fX9_ahead_b52 k37 FU 80 x1 x2 (nI g) (lN 0) (nI 0) M = if x1 = -1 then k37 80 (nI g) (lN (aw q od g)) (nI g + 1) M else if x2 < lN (aw q od g) then k37 80 (nI g) (lN (aw q od g)) (nI g + 1) M else k37 80 x1 x2 (nI g + 1) M := by
  have hq := hI.sg
  have st : ∀ (ys : Bool) n x5, fX9_ahead_b52 k37 (n + 1) 80 x1 x2 (nI g) x5 (bI ys) M = fX9_ahead_b52 k37 n 80 x1 x2 (nI g) (x5 + lN (ma q g (mul q g ys od) (q 62))) (bI ys + 1) M := fun ys n x5 => by
    have e := bh9 hF h hI hg (ys := ys) (x3 := -nI 1) (u := fun _ => 5) (Or.inl ⟨rfl, rfl⟩) hb
    rw [bh_n g ys] at e
    have e2 := ah72 hF h hI hg (ys := ys) hb hs (k37 := k37) (k52 := fX9_ahead_b52 k37 n) (x1 := x1) (x2 := x2) (x5 := x5) (q 62) FU 0 (Nat.add_zero _) (by unfold FU; omega)
    rw [fX9_ahead_b52, if_neg (by cases ys <;> decide), show (-1 : Int32) = -nI 1 from rfl, bnd1 e]
    exact e2
  have s1 := st false 1999 (lN 0)
  have s2 := st true 1998 (lN (ma q g (mul q g false od) (q 62)))
  rw [lN_add, Nat.zero_add] at s1
  rw [lN_add, Nat.add_comm (ma q g (mul q g false od) (q 62))] at s2
  rw [show FU = 1999 + 1 from rfl]
  refine Eq.trans s1 (Eq.trans s2 ?_)
  rw [show 1998 = 1997 + 1 from rfl, fX9_ahead_b52, if_pos (by decide)]
  rfl
theorem ah37 {M : Mm} (hF : FIX M) {q od : Nat → Nat} {sd : Int32} (h : MD q od sd M) (hI : Inv q od) (hb : ∀ c, od c * 100 < 9223372036854775808) (hs : 200 * sm od (q 56) < 9223372036854775808) : ∀ m n i, m + i = q 62 → m < n →
    fX9_ahead_b37 n 80 (eX1 (gi (aw q od) i)) (eY2 (gi (aw q od) i)) (nI i) M = some (eX1 (gi (aw q od) (q 62)), M) := by
  have hq := hI.sg
  have al : ∀ i, i < q 62 → aw q od i < 9223372036854775808 := fun i hi => by
    have a := ma_le hI i (mul q i true od) (q 62) (Nat.le_refl _)
    have b := ma_le hI i (mul q i false od) (q 62) (Nat.le_refl _)
    have c := sm_mulb hI hi true od (q 56)
    have d := sm_mulb hI hi false od (q 56)
    unfold aw
    omega
  intro m
  induction m with
  | zero =>
    intro n i hi hn
    obtain ⟨n, rfl⟩ : ∃ a, n = a + 1 := ⟨n - 1, by omega⟩
    rw [fX9_ahead_b37, ib80 hF, h.f62, if_pos (by rw [le_nn (by omega) (by omega)]; omega), show i = q 62 by omega]
  | succ m ih =>
    intro n i hi hn
    obtain ⟨n, rfl⟩ : ∃ a, n = a + 1 := ⟨n - 1, by omega⟩
    have wi := al i (by omega)
    have b1 := ih n (i + 1) (by omega) (by omega)
    have e := ah52 hF h hI (show i < q 62 by omega) hb hs (k37 := fX9_ahead_b37 n) (x1 := eX1 (gi (aw q od) i)) (x2 := eY2 (gi (aw q od) i))
    rw [fX9_ahead_b37, ib80 hF, h.f62, if_neg (by rw [le_nn (by omega) (by omega)]; omega)]
    refine Eq.trans e ?_
    rw [show nI i + (1 : Int32) = nI (i + 1) from add_nn i 1]
    have ef : gi (aw q od) (i + 1) = (match gi (aw q od) i with
      | none => some (i, aw q od i)
      | some (b, s) => if s < aw q od i then some (i, aw q od i) else some (b, s)) := rfl
    rw [ef] at b1
    cases e : gi (aw q od) i with
    | none =>
      rw [e] at b1
      rw [if_pos (show eX1 none = -1 from rfl)]
      exact b1
    | some x =>
      obtain ⟨b, s⟩ := x
      have hs2 := gi_lt i b s e
      have hsb := al b (by omega)
      rw [e] at b1
      dsimp only at b1
      rw [if_neg (show ¬ eX1 (some (b, s)) = -1 from by show ¬ nI b = -1; rw [l1, mi_ne (by omega) (by decide) (by decide)]; exact id)]
      rw [hs2.2] at b1 ⊢
      by_cases y : aw q od b < aw q od i
      · have y2 : lN (aw q od b) < lN (aw q od i) := by rw [lt_LL hsb wi]; exact y
        rw [if_pos y] at b1
        rw [if_pos (show eY2 (some (b, aw q od b)) < lN (aw q od i) from y2)]
        exact b1
      · have y2 : ¬ lN (aw q od b) < lN (aw q od i) := by rw [lt_LL hsb wi]; exact y
        rw [if_neg y] at b1
        rw [if_neg (show ¬ eY2 (some (b, aw q od b)) < lN (aw q od i) from y2)]
        exact b1
theorem op_ahead (A : Mm) : Eqv A (fX8_ahead 20) (fX9_ahead 80) := by
  rintro M ⟨q, od, sd, b, q2, od2, sd2, h⟩
  have hF := h.1
  have hI := h.2.2.1
  have hq := hI.sg
  have hS := h.2.2.2.1
  have hM := h.2.2.2.2.1
  have h16 : q 64 ≤ 16 := hI.2.2.2.2.2.2.2.1
  by_cases z : q 62 = 0
  · exact ex_no h 5 (-nI 5) (by simp (disch := first | assumption | omega | (simp only [FIX_sI, FIX_sJ, FIX_gI, FIX_gJ]; assumption)) only [fX8_ahead, ↓kb20, ↓ib20, ↓pb20, ↓kb22, ↓ib22, ↓pb22, ↓kb25, ↓ib25, ↓pb25, ↓ab26, ↓tb26, ↓ab27, ↓tb27, ↓ab40, ↓tb40, ↓kb41, ↓ib41, ↓pb41, ↓kb61, ↓ib61, ↓pb61, ↓ab62, ↓tb62, ↓ab63, ↓tb63, ↓rb20_0, ↓rb20_1, ↓rb20_2, ↓rb20_3, ↓rb20_5, ↓rb20_7, ↓rb20_8, ↓rb20_9, ↓rb22_6, ↓rb22_8, ↓rb22_10, ↓rb25_0, ↓rb25_1, ↓rb41_0, ↓rb41_1, ↓rb61_0, ↓fb1, ↓fb2, ↓fb3, ↓fb4, ↓fb5, ↓fb6, ↓fb7, ↓kbH, ↓ibH, ↓pbH, ↓rbH, ↓abH, ↓tbH, ↓sbH, ↓sbB, ↓Option.bind_some, ↓Option.elim_some, ↓Option.elim_none, ↓reduceIte, Nat.reduceEqDiff, Nat.reduceAdd, and_self, and_true, true_and, false_and, and_false, l0, l1, l2, l3, l4, l5, l6, l7, l8, l9, l10, l11, l12, l13, l14, l15, l16, l17, l18, l19, l20, l21, l22, l23, l24, l25, l26, l27, l28, l29, l30, l31, l32, l33, l34, l35, l36, l37, l38, l39, l40, l41, l42, l43, l44, l45, l46, l48, l50, l57, l59, l60, l63, l70, l71, l80, l97, l99, l100, l101, l103, l104, l105, l108, l110, l111, l114, l115, l116, l117, l119, l160, l200, l255, l1280, l12345, le_nn, lt_nn, eq_nn, cl_nn, ng_le, ng_lt, ng_lt2, ng_le2, ng_eq, mi_eq, mi_ne, mi_ne2, mi_mi, add_nn, mul_nn, sub_nn, refX, refY, not_false_eq_true, not_true_eq_false, Nat.not_lt_zero, Nat.zero_le, Nat.reduceLeDiff, Nat.reduceLT, Nat.reduceMul, Nat.reduceSub, true_or, or_true, or_false, false_or, h.x62, z]) (by simp (disch := first | assumption | omega | (simp only [FIX_sI, FIX_sJ, FIX_gI, FIX_gJ]; assumption)) only [fX9_ahead, ↓kb80, ↓ib80, ↓pb80, ↓ab81, ↓tb81, ↓ab82, ↓tb82, ↓ab83, ↓tb83, ↓ab84, ↓tb84, ↓ab85, ↓tb85, ↓ab86, ↓tb86, ↓ab87, ↓tb87, ↓ab88, ↓tb88, ↓ab89, ↓tb89, ↓ab90, ↓tb90, ↓ab91, ↓tb91, ↓ab92, ↓tb92, ↓ab93, ↓tb93, ↓ab94, ↓tb94, ↓ab95, ↓tb95, ↓ab96, ↓tb96, ↓ab97, ↓tb97, ↓ab98, ↓tb98, ↓ab99, ↓tb99, ↓ab100, ↓tb100, ↓ab101, ↓tb101, ↓ab102, ↓tb102, ↓ab103, ↓tb103, ↓ab104, ↓tb104, ↓ab105, ↓tb105, ↓ab106, ↓tb106, ↓rb80_13, ↓rb80_14, ↓rb80_15, ↓rb80_16, ↓rb80_17, ↓rb80_18, ↓rb80_19, ↓rb80_20, ↓rb80_21, ↓rb80_22, ↓rb80_23, ↓rb80_24, ↓rb80_25, ↓rb80_26, ↓rb80_27, ↓rb80_28, ↓rb80_30, ↓rb80_31, ↓rb80_37, ↓rb80_38, ↓rb80_39, ↓rb80_40, ↓rb80_41, ↓rb80_44, ↓rb80_45, ↓rb80_46, ↓nb1, ↓nb2, ↓nb3, ↓nb4, ↓nb5, ↓nb6, ↓nb7, ↓zbH, ↓zbB, ↓Option.bind_some, ↓Option.elim_some, ↓Option.elim_none, ↓reduceIte, Nat.reduceEqDiff, Nat.reduceAdd, and_self, and_true, true_and, false_and, and_false, l0, l1, l2, l3, l4, l5, l6, l7, l8, l9, l10, l11, l12, l13, l14, l15, l16, l17, l18, l19, l20, l21, l22, l23, l24, l25, l26, l27, l28, l29, l30, l31, l32, l33, l34, l35, l36, l37, l38, l39, l40, l41, l42, l43, l44, l45, l46, l48, l50, l57, l59, l60, l63, l70, l71, l80, l97, l99, l100, l101, l103, l104, l105, l108, l110, l111, l114, l115, l116, l117, l119, l160, l200, l255, l1280, l12345, le_nn, lt_nn, eq_nn, cl_nn, ng_le, ng_lt, ng_lt2, ng_le2, ng_eq, mi_eq, mi_ne, mi_ne2, mi_mi, add_nn, mul_nn, sub_nn, refX, refY, not_false_eq_true, not_true_eq_false, Nat.not_lt_zero, Nat.zero_le, Nat.reduceLeDiff, Nat.reduceLT, Nat.reduceMul, Nat.reduceSub, true_or, or_true, or_false, false_or, mT_sI, mW_sI, mK_sI, mI_sI, mJ_sI, mR_sI, mT_sJ, mW_sJ, mK_sJ, mI_sJ, mJ_sJ, mR_sJ, mT_sR, mW_sR, mK_sR, mI_sR, mJ_sR, mR_sR, mT_gI, mW_gI, mK_gI, mI_gI, mJ_gI, mR_gI, mT_gJ, mW_gJ, mK_gJ, mI_gJ, mJ_gJ, mR_gJ, mT_wR, mW_wR, mK_wR, mI_wR, mJ_wR, mR_wR, h.y62, z])
  by_cases y : q 64 ≤ 15
  rotate_left
  · have y2 : ¬ q 64 + 2 ≤ 17 := by omega
    exact ex_no h 7 (-nI 7) (by simp (disch := first | assumption | omega | (simp only [FIX_sI, FIX_sJ, FIX_gI, FIX_gJ]; assumption)) only [fX8_ahead, ↓kb20, ↓ib20, ↓pb20, ↓kb22, ↓ib22, ↓pb22, ↓kb25, ↓ib25, ↓pb25, ↓ab26, ↓tb26, ↓ab27, ↓tb27, ↓ab40, ↓tb40, ↓kb41, ↓ib41, ↓pb41, ↓kb61, ↓ib61, ↓pb61, ↓ab62, ↓tb62, ↓ab63, ↓tb63, ↓rb20_0, ↓rb20_1, ↓rb20_2, ↓rb20_3, ↓rb20_5, ↓rb20_7, ↓rb20_8, ↓rb20_9, ↓rb22_6, ↓rb22_8, ↓rb22_10, ↓rb25_0, ↓rb25_1, ↓rb41_0, ↓rb41_1, ↓rb61_0, ↓fb1, ↓fb2, ↓fb3, ↓fb4, ↓fb5, ↓fb6, ↓fb7, ↓kbH, ↓ibH, ↓pbH, ↓rbH, ↓abH, ↓tbH, ↓sbH, ↓sbB, ↓Option.bind_some, ↓Option.elim_some, ↓Option.elim_none, ↓reduceIte, Nat.reduceEqDiff, Nat.reduceAdd, and_self, and_true, true_and, false_and, and_false, l0, l1, l2, l3, l4, l5, l6, l7, l8, l9, l10, l11, l12, l13, l14, l15, l16, l17, l18, l19, l20, l21, l22, l23, l24, l25, l26, l27, l28, l29, l30, l31, l32, l33, l34, l35, l36, l37, l38, l39, l40, l41, l42, l43, l44, l45, l46, l48, l50, l57, l59, l60, l63, l70, l71, l80, l97, l99, l100, l101, l103, l104, l105, l108, l110, l111, l114, l115, l116, l117, l119, l160, l200, l255, l1280, l12345, le_nn, lt_nn, eq_nn, cl_nn, ng_le, ng_lt, ng_lt2, ng_le2, ng_eq, mi_eq, mi_ne, mi_ne2, mi_mi, add_nn, mul_nn, sub_nn, refX, refY, not_false_eq_true, not_true_eq_false, Nat.not_lt_zero, Nat.zero_le, Nat.reduceLeDiff, Nat.reduceLT, Nat.reduceMul, Nat.reduceSub, true_or, or_true, or_false, false_or, h.x62, z, h.x64, y2]) (by simp (disch := first | assumption | omega | (simp only [FIX_sI, FIX_sJ, FIX_gI, FIX_gJ]; assumption)) only [fX9_ahead, ↓kb80, ↓ib80, ↓pb80, ↓ab81, ↓tb81, ↓ab82, ↓tb82, ↓ab83, ↓tb83, ↓ab84, ↓tb84, ↓ab85, ↓tb85, ↓ab86, ↓tb86, ↓ab87, ↓tb87, ↓ab88, ↓tb88, ↓ab89, ↓tb89, ↓ab90, ↓tb90, ↓ab91, ↓tb91, ↓ab92, ↓tb92, ↓ab93, ↓tb93, ↓ab94, ↓tb94, ↓ab95, ↓tb95, ↓ab96, ↓tb96, ↓ab97, ↓tb97, ↓ab98, ↓tb98, ↓ab99, ↓tb99, ↓ab100, ↓tb100, ↓ab101, ↓tb101, ↓ab102, ↓tb102, ↓ab103, ↓tb103, ↓ab104, ↓tb104, ↓ab105, ↓tb105, ↓ab106, ↓tb106, ↓rb80_13, ↓rb80_14, ↓rb80_15, ↓rb80_16, ↓rb80_17, ↓rb80_18, ↓rb80_19, ↓rb80_20, ↓rb80_21, ↓rb80_22, ↓rb80_23, ↓rb80_24, ↓rb80_25, ↓rb80_26, ↓rb80_27, ↓rb80_28, ↓rb80_30, ↓rb80_31, ↓rb80_37, ↓rb80_38, ↓rb80_39, ↓rb80_40, ↓rb80_41, ↓rb80_44, ↓rb80_45, ↓rb80_46, ↓nb1, ↓nb2, ↓nb3, ↓nb4, ↓nb5, ↓nb6, ↓nb7, ↓zbH, ↓zbB, ↓Option.bind_some, ↓Option.elim_some, ↓Option.elim_none, ↓reduceIte, Nat.reduceEqDiff, Nat.reduceAdd, and_self, and_true, true_and, false_and, and_false, l0, l1, l2, l3, l4, l5, l6, l7, l8, l9, l10, l11, l12, l13, l14, l15, l16, l17, l18, l19, l20, l21, l22, l23, l24, l25, l26, l27, l28, l29, l30, l31, l32, l33, l34, l35, l36, l37, l38, l39, l40, l41, l42, l43, l44, l45, l46, l48, l50, l57, l59, l60, l63, l70, l71, l80, l97, l99, l100, l101, l103, l104, l105, l108, l110, l111, l114, l115, l116, l117, l119, l160, l200, l255, l1280, l12345, le_nn, lt_nn, eq_nn, cl_nn, ng_le, ng_lt, ng_lt2, ng_le2, ng_eq, mi_eq, mi_ne, mi_ne2, mi_mi, add_nn, mul_nn, sub_nn, refX, refY, not_false_eq_true, not_true_eq_false, Nat.not_lt_zero, Nat.zero_le, Nat.reduceLeDiff, Nat.reduceLT, Nat.reduceMul, Nat.reduceSub, true_or, or_true, or_false, false_or, mT_sI, mW_sI, mK_sI, mI_sI, mJ_sI, mR_sI, mT_sJ, mW_sJ, mK_sJ, mI_sJ, mJ_sJ, mR_sJ, mT_sR, mW_sR, mK_sR, mI_sR, mJ_sR, mR_sR, mT_gI, mW_gI, mK_gI, mI_gI, mJ_gI, mR_gI, mT_gJ, mW_gJ, mK_gJ, mI_gJ, mJ_gJ, mR_gJ, mT_wR, mW_wR, mK_wR, mI_wR, mJ_wR, mR_wR, h.y62, z, h.y64, y])
  have w := hI.w17 (k := 2) (by omega)
  have hb : ∀ c, od c * 100 < 9223372036854775808 := w.2
  have hs : 200 * sm od (q 56) < 9223372036854775808 := by
    have := w.1
    rw [show 10 ^ 2 = 100 from rfl] at this
    omega
  obtain ⟨M1, e1, f1, t1, o1, r1⟩ := look8 hF hS hI
  have hF1 := f1.fix hF
  obtain ⟨M2, e2, f2, t2⟩ := bot8 hI hb hs (q 62) FU 0 M1 hF1 o1 r1 (Nat.add_zero _) (by unfold FU; omega)
  have fT := f1.trans f2
  have hF2 := fT.fix hF
  have hM2 := hM.fr hF fT OLS_md mem0
  have e9 := ah37 hF2 hM2 hI hb hs (q 62) FU 0 (Nat.add_zero _) (by unfold FU; omega)
  refine ex_fr (r := eX1 (gi (aw q od) (q 62))) (M1 := M2) (M2 := M2) h ?_ ?_ fT OLS_sca ⟨t2.1.trans t1.1, t2.2.trans t1.2⟩
  · unfold fX8_ahead
    rw [kb20 hF, rb20_1 hF, ib22 hF, h.x62, if_neg (show ¬ nI (q 62) = 0 by rw [l0, eq_nn (by omega) (by decide)]; exact z), rb20_1 hF, ib22 hF, h.x64, l2, add_nn, if_pos (by rw [l17, le_nn (by omega) (by decide)]; omega), rb20_7 hF, rb20_1 hF, bnd1 e1, rb20_7 hF1]
    unfold fX1_bestOfTwo
    rw [kb41 hF1, show (0 : Int32) = nI 0 from rfl]
    exact bnd1 e2 _
  · unfold fX9_ahead
    rw [kb80 hF2, ib80 hF2, hM2.f62, if_neg (show ¬ nI (q 62) = 0 by rw [l0, eq_nn (by omega) (by decide)]; exact z), ib80 hF2, hM2.f64, if_pos (by rw [l15, le_nn (by omega) (by decide)]; exact y), show (0 : Int32) = nI 0 from rfl]
    exact e9
