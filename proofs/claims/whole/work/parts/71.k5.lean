/-! a sign heard: whether it can be, what it makes of the odds -/
theorem lou_le {q : Nat → Nat} {i : Nat} (c : Nat) (h : q (16 + i) ≤ 10) : lou q i c ≤ 10 := by
  unfold lou
  repeat' split
  all_goals omega
theorem tn_le {q od : Nat → Nat} (hI : Inv q od) {i : Nat} (hi : i < q 62) (c : Nat) : tn q i c ≤ 10 := by
  have h := (hI.2.2.2.2.2.2.2.2.2.2.1 i hi).2.2.2
  have h2 := lou_le c h
  unfold tn
  repeat' split
  all_goals omega
/-- how often a cell's odds go by a sign -/
def tms (q : Nat → Nat) (i : Nat) (is : Bool) (c : Nat) : Nat := if is then tn q i c else 10 - tn q i c
theorem tms_le {q od : Nat → Nat} (hI : Inv q od) {i : Nat} (hi : i < q 62) (is : Bool) (c : Nat) : tms q i is c ≤ 10 := by
  have := tn_le hI hi c
  unfold tms
  split <;> omega
/-- it can be: d cells from i on -/
def cbe (q od : Nat → Nat) (g : Nat) (is : Bool) : Nat → Nat → Bool
  | 0, _ => false
  | d + 1, i => (decide (0 < od i) && decide (0 < tms q g is i)) || cbe q od g is d (i + 1)
theorem bI_0 (b : Bool) : (bI b = 0) = (b = false) := by
  cases b
  · exact propext ⟨fun _ => rfl, fun _ => rfl⟩
  · exact propext ⟨fun z => absurd z (by decide), fun z => absurd z (by decide)⟩
theorem tim8 {s : Nat} (hs : sl s) {M : Mm} {q od oe : Nat → Nat} {sd : Int32} {r i c : Nat} (hF : FIX M) (h : St s q oe sd M) (hI : Inv q od) (g : Sg M r i q) (hi : i < q 62) (hc : c < 24) (is : Bool) : fX5_timesOf s r (nI c) (bI is) M = some (nI (tms q i is c), M) := by
  have e := ten8c hs hF h hI g hi hc
  have ht := tn_le hI hi c
  unfold fX5_timesOf tms
  rw [kbS hs hF, bnd1 e]
  dsimp only
  cases is
  · rw [if_pos (show bI false = 0 from rfl), l10, sub_nn ht]
    rfl
  · rw [if_neg (by decide)]
    rfl
theorem can8 {s : Nat} (hs : sl s) {M : Mm} {q od : Nat → Nat} {sd : Int32} {r g : Nat} (hF : FIX M) (h : St s q od sd M) (hI : Inv q od) (hg : Sg M r g q) (hi : g < q 62) (is : Bool) : ∀ n d i, d + i = q 56 → d < n → fX5_canBe_b2 n s r (bI is) (nI i) M = some (bI (cbe q od g is d i), M) := by
  have hL := hI.1
  intro n
  induction n with
  | zero => intro d i _ h2; omega
  | succ n ih =>
    intro d i h1 h2
    rw [fX5_canBe_b2, ibS hs hF, h.f56]
    cases d with
    | zero =>
      rw [if_pos (by rw [le_nn (by omega) (by omega)]; omega)]
      rfl
    | succ d =>
      have ci : i < 24 := by omega
      have e8 := at8 hs hF h ci
      have et := tim8 hs hF h hI hg hi ci is
      have ho := hI.odb i
      have tl := tms_le hI hi is i
      have hn := ih d (i + 1) (by omega) (by omega)
      rw [if_neg (by rw [le_nn (by omega) (by omega)]; omega), rbS10 hs hF, bnd1 e8]
      dsimp only
      rw [show nI i + (1 : Int32) = nI (i + 1) from add_nn i 1, hn, show cbe q od g is (d + 1) i = ((decide (0 < od i) && decide (0 < tms q g is i)) || cbe q od g is d (i + 1)) from rfl]
      by_cases c : od i = 0
      · rw [if_pos (by rw [lN0, le_LL ho (by decide)]; omega), show decide (0 < od i) = false from decide_eq_false (by omega)]
        rfl
      · rw [if_neg (by rw [lN0, le_LL ho (by decide)]; omega), bnd1 et, show decide (0 < od i) = true from decide_eq_true (by omega)]
        dsimp only
        by_cases c2 : tms q g is i = 0
        · rw [if_pos (by rw [c2]; decide), show decide (0 < tms q g is i) = false from decide_eq_false (by omega)]
          exact hn
        · rw [if_neg (by rw [l0, le_nn (by omega) (by decide)]; omega), show decide (0 < tms q g is i) = true from decide_eq_true (by omega)]
          rfl
theorem can9 {M : Mm} {q od : Nat → Nat} {sd : Int32} {g : Nat} (hF : FIX M) (h : MD q od sd M) (hI : Inv q od) (hi : g < q 62) (is : Bool) : ∀ n d i, d + i = q 56 → d < n → fX9_canBe_b2 n 80 (nI g) (bI is) (nI i) M = some (bI (cbe q od g is d i), M) := by
  have hL := hI.1
  intro n
  induction n with
  | zero => intro d i _ h2; omega
  | succ n ih =>
    intro d i h1 h2
    rw [fX9_canBe_b2, ib80 hF, h.f56]
    cases d with
    | zero =>
      rw [if_pos (by rw [le_nn (by omega) (by omega)]; omega)]
      rfl
    | succ d =>
      have ci : i < 24 := by omega
      have et := ten9 hF h hI hi ci
      have ho := hI.odb i
      have tl := tn_le hI hi i
      have hn := ih d (i + 1) (by omega) (by omega)
      rw [if_neg (by rw [le_nn (by omega) (by omega)]; omega), bnd1 et]
      dsimp only
      rw [rb80_21 hF, ab89 hF ci, h.2.2.2.2 i ci, show nI i + (1 : Int32) = nI (i + 1) from add_nn i 1, hn, show cbe q od g is (d + 1) i = ((decide (0 < od i) && decide (0 < tms q g is i)) || cbe q od g is d (i + 1)) from rfl]
      by_cases c : od i = 0
      · rw [if_pos (by rw [lN0, le_LL ho (by decide)]; omega), show decide (0 < od i) = false from decide_eq_false (by omega)]
        rfl
      · rw [if_neg (by rw [lN0, le_LL ho (by decide)]; omega), show decide (0 < od i) = true from decide_eq_true (by omega)]
        cases is
        · rw [if_pos (show bI false = 0 from rfl)]
          by_cases c2 : 10 ≤ tn q g i
          · rw [if_pos (by rw [l10, le_nn (by omega) (by omega)]; exact c2), show decide (0 < tms q g false i) = false from decide_eq_false (show ¬ 0 < 10 - tn q g i by omega)]
            rfl
          · rw [if_neg (by rw [l10, le_nn (by omega) (by omega)]; exact c2), show decide (0 < tms q g false i) = true from decide_eq_true (show 0 < 10 - tn q g i by omega)]
            rfl
        · rw [if_neg (by decide)]
          by_cases c2 : tn q g i ≤ 0
          · rw [if_pos (by rw [l0, le_nn (by omega) (by omega)]; exact c2), show decide (0 < tms q g true i) = false from decide_eq_false (show ¬ 0 < tn q g i by omega)]
            rfl
          · rw [if_neg (by rw [l0, le_nn (by omega) (by omega)]; exact c2), show decide (0 < tms q g true i) = true from decide_eq_true (show 0 < tn q g i by omega)]
            rfl
def cb (q od : Nat → Nat) (g : Nat) (is : Bool) : Bool := cbe q od g is (q 56) 0
theorem cb8 {s : Nat} (hs : sl s) {M : Mm} {q od : Nat → Nat} {sd : Int32} {r g : Nat} (hF : FIX M) (h : St s q od sd M) (hI : Inv q od) (hg : Sg M r g q) (hi : g < q 62) (is : Bool) : fX5_canBe s r (bI is) M = some (bI (cb q od g is), M) := by
  unfold fX5_canBe
  rw [kbS hs hF]
  exact can8 hs hF h hI hg hi is FU (q 56) 0 (Nat.add_zero _) (by have := hI.1; unfold FU; omega)
theorem cb9 {M : Mm} {q od : Nat → Nat} {sd : Int32} {g : Nat} (hF : FIX M) (h : MD q od sd M) (hI : Inv q od) (hi : g < q 62) (is : Bool) : fX9_canBe 80 (nI g) (bI is) M = some (bI (cb q od g is), M) := by
  unfold fX9_canBe
  rw [kb80 hF]
  exact can9 hF h hI hi is FU (q 56) 0 (Nat.add_zero _) (by have := hI.1; unfold FU; omega)
