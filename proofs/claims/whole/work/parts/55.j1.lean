/-! how far a step goes -/
def gof (L c d : Nat) : Nat := if c + d < L then c + d else L - 1
theorem mn_n {a b : Nat} (ha : a < 2147483648) (hb : b < 2147483648) : mnI (nI a) (nI b) = nI (if b < a then b else a) := by
  unfold mnI
  by_cases c : b < a
  · rw [if_pos (nI_lt c ha), if_pos c]
  · rw [if_neg (nI_nlt (by omega) hb), if_neg c]
theorem mx_n {a : Nat} (ha : a < 2147483648) : mxI (nI 0) (nI a) = nI a := by
  unfold mxI
  by_cases c : 0 < a
  · rw [if_pos (nI_lt c ha)]
  · rw [show a = 0 by omega, ite_self]
theorem rea8 {s : Nat} (hs : sl s) {M : Mm} (hF : FIX M) {L c d : Nat} (h : mI M s 0 = nI L) (hL : 2 ≤ L ∧ L ≤ 24) (hc : c < L) (hd : d ≤ 2) : fX5_reach s (nI c) (nI d) M = some (nI (gof L c d), M) := by
  unfold fX5_reach gof
  simp (disch := first | assumption | omega | (simp only [FIX_sI, FIX_sJ, FIX_gI, FIX_gJ]; assumption)) only [↓kbS hs, ↓ibS hs, h, l0, l1, sub_nn, add_nn, mn_n]
  by_cases z : c + d < L
  · rw [if_pos z]
    by_cases y : c + d < L - 1
    · rw [if_pos y, mx_n (by omega)]
    · rw [if_neg y, mx_n (by omega), show L - 1 = c + d by omega]
  · rw [if_neg z, if_neg (by omega), mx_n (by omega)]
theorem reb8 {s : Nat} (hs : sl s) {M : Mm} (hF : FIX M) {L c d : Nat} (h : mI M s 0 = nI L) (hL : 2 ≤ L ∧ L ≤ 24) (hc : c < L) (hd : d ≤ 2) : fX5_reach s (nI c) (-nI d) M = some (nI (c - d), M) := by
  have e : nI c + -nI d = nI c - nI d := by
    apply Int32.toBitVec_inj.1
    simp [BitVec.sub_eq_add_neg]
  unfold fX5_reach
  simp (disch := first | assumption | omega | (simp only [FIX_sI, FIX_sJ, FIX_gI, FIX_gJ]; assumption)) only [↓kbS hs, ↓ibS hs, h, l0, l1, sub_nn, e]
  by_cases z : d ≤ c
  · rw [sub_nn z, mn_n (by omega) (by omega)]
    by_cases y : c - d < L - 1
    · rw [if_pos y, mx_n (by omega)]
    · rw [if_neg y, mx_n (by omega), show L - 1 = c - d by omega]
  · rw [sub_mi (by omega), show c - d = 0 by omega]
    have hm : -nI (d - c) < nI 0 := mi_lt (by omega) (by omega)
    unfold mnI
    rw [if_pos (by rw [ng_lt2 hm (by omega)]; trivial)]
    unfold mxI
    rw [if_neg]
    rw [ng_lt hm (by decide)]
    exact not_false
theorem gon9 {M : Mm} (hF : FIX M) {L c d : Nat} (h : mI M 80 0 = nI L) (hL : 2 ≤ L ∧ L ≤ 24) (hc : c < L) (hd : d ≤ 2) : fX9_goneTo 80 (nI c) (nI d) (nI 0) M = some (nI (gof L c d), M) := by
  unfold fX9_goneTo fX9_goneTo_b13 gof
  by_cases z : c + d < L
  · simp (disch := first | assumption | omega | (simp only [FIX_sI, FIX_sJ, FIX_gI, FIX_gJ]; assumption)) only [↓kb80, ↓ib80, h, l0, l1, ↓reduceIte, add_nn, le_nn, lt_nn, Nat.zero_le, z]
  · simp (disch := first | assumption | omega | (simp only [FIX_sI, FIX_sJ, FIX_gI, FIX_gJ]; assumption)) only [↓kb80, ↓ib80, h, l0, l1, ↓reduceIte, add_nn, le_nn, lt_nn, sub_nn, Nat.zero_le, z]
theorem gob9 {M : Mm} (hF : FIX M) {L c d : Nat} (h : mI M 80 0 = nI L) (hL : 2 ≤ L ∧ L ≤ 24) (hc : c < L) (hd : d ≤ 2) : fX9_goneTo 80 (nI c) (nI d) (nI 1) M = some (nI (c - d), M) := by
  unfold fX9_goneTo fX9_goneTo_b13
  by_cases z : d ≤ c
  · simp (disch := first | assumption | omega | (simp only [FIX_sI, FIX_sJ, FIX_gI, FIX_gJ]; assumption)) only [↓kb80, ↓ib80, h, l0, l1, eq_nn, Nat.reduceEqDiff, ↓reduceIte, sub_nn, le_nn, lt_nn, Nat.zero_le, show c - d < L by omega]
  · have hm : -nI (d - c) < nI 0 := mi_lt (by omega) (by omega)
    have e : nI c - nI d = -nI (d - c) := sub_mi (by omega)
    have n0 : ¬ nI 0 ≤ -nI (d - c) := by rw [ng_le hm (by decide)]; exact not_false
    simp (disch := first | assumption | omega | (simp only [FIX_sI, FIX_sJ, FIX_gI, FIX_gJ]; assumption)) only [↓kb80, ↓ib80, h, l0, l1, eq_nn, Nat.reduceEqDiff, ↓reduceIte, e, n0, show c - d = 0 by omega]
