/-! walks, the reference -/
def ws (q : Nat → Nat) (f t : Nat) : Nat → Nat
  | 0 => 0
  | n + 1 => if ow q f t n then ws q f t n ||| 2 ^ n else ws q f t n
theorem ws_tb (q : Nat → Nat) (f t : Nat) {i : Nat} : ∀ n, (ws q f t n).testBit i = (decide (i < n) && ow q f t i) := by
  intro n
  induction n with
  | zero =>
    show (0 : Nat).testBit i = _
    rw [Nat.zero_testBit, decide_eq_false (by omega), Bool.false_and]
  | succ n ih =>
    show (if ow q f t n then ws q f t n ||| 2 ^ n else ws q f t n).testBit i = _
    by_cases z : ow q f t n = true
    · rw [if_pos z, or_tb, ih]
      by_cases e : n = i
      · subst e
        rw [z, decide_eq_true rfl, decide_eq_true (show n < n + 1 by omega), Bool.or_true, Bool.true_and]
      · rw [decide_eq_false e, Bool.or_false]
        by_cases l : i < n
        · rw [decide_eq_true l, decide_eq_true (show i < n + 1 by omega)]
        · rw [decide_eq_false l, decide_eq_false (show ¬ i < n + 1 by omega)]
    · rw [if_neg z, ih]
      have z2 : ow q f t n = false := Bool.eq_false_iff.mpr z
      by_cases e : n = i
      · subst e
        rw [z2, Bool.and_false, Bool.and_false]
      · by_cases l : i < n
        · rw [decide_eq_true l, decide_eq_true (show i < n + 1 by omega)]
        · rw [decide_eq_false l, decide_eq_false (show ¬ i < n + 1 by omega)]
theorem ws_lt (q : Nat → Nat) (f t : Nat) : ∀ n, n ≤ 8 → ws q f t n < 256 := by
  intro n
  induction n with
  | zero => intro _; show 0 < 256; decide
  | succ n ih =>
    intro hn
    show (if ow q f t n then ws q f t n ||| 2 ^ n else ws q f t n) < 256
    split
    · exact or_lt (ih (by omega)) (by omega)
    · exact ih (by omega)
theorem ow9 {M : Mm} (hF : FIX M) {q od : Nat → Nat} {sd : Int32} (h : MD q od sd M) (hI : Inv q od) {f t : Nat} (hf : f < q 56) (ht : t < q 56) : ∀ d n i, d + i = q 63 → d < n →
    fX9_onWalk_b29 n 80 (nI (if t ≤ f then t else f)) (nI (if t ≤ f then f else t)) (nI (ws q f t i)) (nI i) M = some (nI (ws q f t (q 63)), M) := by
  have hL := hI.1
  have hq := hI.sg
  intro d
  induction d with
  | zero =>
    intro n i hi hn
    obtain ⟨n, rfl⟩ : ∃ m, n = m + 1 := ⟨n - 1, by omega⟩
    rw [fX9_onWalk_b29, ib80 hF, h.f63, if_pos (by rw [le_nn (by omega) (by omega)]; omega), show i = q 63 by omega]
  | succ d ih =>
    intro n i hi hn
    obtain ⟨n, rfl⟩ : ∃ m, n = m + 1 := ⟨n - 1, by omega⟩
    have c1 := (hI.2.2.2.2.2.2.2.2.2.2.2.1 i (by omega)).1
    have hn2 := ih n (i + 1) (by omega) (by omega)
    have v86 := (h.a (show i < 8 by omega)).2.2.2.2.1
    have lo : (if t ≤ f then t else f) < 2147483648 := by split <;> omega
    have hi2 : (if t ≤ f then f else t) < 2147483648 := by split <;> omega
    rw [fX9_onWalk_b29, ib80 hF, h.f63, if_neg (by rw [le_nn (by omega) (by omega)]; omega), rb80_18 hF, ab86 hF (show i < 8 by omega), v86, show nI i + (1 : Int32) = nI (i + 1) from add_nn i 1]
    by_cases z : q (32 + i) < (if t ≤ f then t else f)
    · rw [if_pos (by rw [lt_nn (by omega) lo]; exact z)]
      rw [show ws q f t (i + 1) = ws q f t i from if_neg (show ¬ ow q f t i = true by unfold ow; rw [show decide ((if t ≤ f then t else f) ≤ q (32 + i)) = false from decide_eq_false (by omega)]; simp)] at hn2
      exact hn2
    · rw [if_neg (by rw [lt_nn (by omega) lo]; exact z), rb80_18 hF, ab86 hF (show i < 8 by omega), v86]
      by_cases y : (if t ≤ f then f else t) < q (32 + i)
      · rw [if_pos (by rw [lt_nn hi2 (by omega)]; exact y)]
        rw [show ws q f t (i + 1) = ws q f t i from if_neg (show ¬ ow q f t i = true by unfold ow; rw [show decide (q (32 + i) ≤ (if t ≤ f then f else t)) = false from decide_eq_false (by omega)]; simp)] at hn2
        exact hn2
      · rw [if_neg (by rw [lt_nn hi2 (by omega)]; exact y), or_n _ (ws_lt q f t i (by omega)) i (by omega)]
        rw [show ws q f t (i + 1) = ws q f t i ||| 2 ^ i from if_pos (show ow q f t i = true by unfold ow; rw [decide_eq_true (show i < q 63 by omega), decide_eq_true (show (if t ≤ f then t else f) ≤ q (32 + i) by omega), decide_eq_true (show q (32 + i) ≤ (if t ≤ f then f else t) by omega)]; rfl)] at hn2
        exact hn2
theorem on9 {M : Mm} (hF : FIX M) {q od : Nat → Nat} {sd : Int32} (h : MD q od sd M) (hI : Inv q od) {f t : Nat} (hf : f < q 56) (ht : t < q 56) : fX9_onWalk 80 (nI f) (nI t) M = some (nI (ws q f t (q 63)), M) := by
  have hL := hI.1
  have hq := hI.sg
  have e := ow9 hF h hI hf ht (q 63) FU 0 (Nat.add_zero _) (by unfold FU; omega)
  unfold fX9_onWalk fX9_onWalk_b10 fX9_onWalk_b21
  rw [kb80 hF]
  by_cases z : t ≤ f
  · rw [if_pos z, if_pos z] at e
    rw [if_pos (by rw [le_nn (by omega) (by omega)]; exact z), if_pos (by rw [le_nn (by omega) (by omega)]; exact z)]
    exact e
  · rw [if_neg z, if_neg z] at e
    rw [if_neg (by rw [le_nn (by omega) (by omega)]; exact z), if_neg (by rw [le_nn (by omega) (by omega)]; exact z)]
    exact e
theorem saf9 {M : Mm} (hF : FIX M) {q od : Nat → Nat} {sd : Int32} (h : MD q od sd M) (hI : Inv q od) {g : Nat} (hg : g < 256) : ∀ d n i, d + i = q 63 → d < n →
    fX9_safeOf_b5 n 80 (nI g) (lN (pr q (fun j => g.testBit j) i)) (nI i) M = some (lN (pr q (fun j => g.testBit j) (q 63)), M) := by
  have hq := hI.sg
  have h61 := hI.2.2.2.2.1
  intro d
  induction d with
  | zero =>
    intro n i hi hn
    obtain ⟨n, rfl⟩ : ∃ m, n = m + 1 := ⟨n - 1, by omega⟩
    rw [fX9_safeOf_b5, ib80 hF, h.f63, if_pos (by rw [le_nn (by omega) (by omega)]; omega), show i = q 63 by omega]
  | succ d ih =>
    intro n i hi hn
    obtain ⟨n, rfl⟩ : ∃ m, n = m + 1 := ⟨n - 1, by omega⟩
    obtain ⟨c1, c2, c3, c4⟩ := hI.2.2.2.2.2.2.2.2.2.2.2.1 i (by omega)
    have hn2 := ih n (i + 1) (by omega) (by omega)
    obtain ⟨-, -, -, -, v86, v87, v88⟩ := h.a (show i < 8 by omega)
    have hm : q (48 + i) * (10 - q 61) ≤ 10 * 10 := Nat.mul_le_mul c4 (by omega)
    rw [fX9_safeOf_b5, ib80 hF, h.f63, if_neg (by rw [le_nn (by omega) (by omega)]; omega), tb_n g hg i (by omega)]
    cases e : g.testBit i
    · rw [show pr q (fun j => g.testBit j) (i + 1) = pr q (fun j => g.testBit j) i from if_neg (show ¬ g.testBit i = true by rw [e]; decide)] at hn2
      rw [show (false).toNat = 0 from rfl, if_pos (show nI 0 = 0 from rfl), show nI i + (1 : Int32) = nI (i + 1) from add_nn i 1]
      exact hn2
    · rw [show pr q (fun j => g.testBit j) (i + 1) = pr q (fun j => g.testBit j) i * mis q i from if_pos e] at hn2
      have ml := mis_le q i
      rw [show (true).toNat = 1 from rfl, if_neg (by decide), rb80_20 hF, ab88 hF (show i < 8 by omega), v88, rb80_19 hF, ab87 hF (show i < 8 by omega), v87]
      unfold fX9_safeOf_b59
      by_cases z : q (40 + i) = 1
      · have em : mis q i = 100 - q (48 + i) * 10 := by unfold mis; rw [if_pos z]
        rw [if_pos (by rw [z]; rfl), l100, l10, mul_nn, sub_nn (by omega), ← em, nI_l (show mis q i < 2 ^ 31 by omega), lN_mul, show nI i + (1 : Int32) = nI (i + 1) from add_nn i 1]
        exact hn2
      · have em : mis q i = 100 - q (48 + i) * (10 - q 61) := by unfold mis; rw [if_neg z]
        rw [if_neg (show ¬ nI (q (40 + i)) = 1 by rw [l1, eq_nn (by omega) (by decide)]; exact z), ib80 hF, h.f61, l100, l10, sub_nn (by omega), mul_nn, sub_nn (by omega), ← em, nI_l (show mis q i < 2 ^ 31 by omega), lN_mul, show nI i + (1 : Int32) = nI (i + 1) from add_nn i 1]
        exact hn2
theorem sf9 {M : Mm} (hF : FIX M) {q od : Nat → Nat} {sd : Int32} (h : MD q od sd M) (hI : Inv q od) {g : Nat} (hg : g < 256) : fX9_safeOf 80 (nI g) M = some (lN (pr q (fun j => g.testBit j) (q 63)), M) := by
  have hq := hI.sg
  unfold fX9_safeOf
  rw [kb80 hF]
  exact saf9 hF h hI hg (q 63) FU 0 (Nat.add_zero _) (by unfold FU; omega)
def eY2 : Option (Nat × Nat) → Int64
  | none => 0
  | some (_, s) => lN s
theorem fir9 {M : Mm} (hF : FIX M) {q od : Nat → Nat} {sd : Int32} (h : MD q od sd M) (hI : Inv q od) {g : Nat} (hg : g < 256) : ∀ d n i, d + i = q 63 → d < n →
    fX9_firstOf_b7 n 80 (nI g) (eX1 (fi q (fun j => g.testBit j) (q 63) i)) (eY2 (fi q (fun j => g.testBit j) (q 63) i)) (nI i) M = some (eX1 (fi q (fun j => g.testBit j) (q 63) (q 63)), M) := by
  have hq := hI.sg
  intro d
  induction d with
  | zero =>
    intro n i hi hn
    obtain ⟨n, rfl⟩ : ∃ m, n = m + 1 := ⟨n - 1, by omega⟩
    rw [fX9_firstOf_b7, ib80 hF, h.f63, if_pos (by rw [le_nn (by omega) (by omega)]; omega), show i = q 63 by omega]
  | succ d ih =>
    intro n i hi hn
    obtain ⟨n, rfl⟩ : ∃ m, n = m + 1 := ⟨n - 1, by omega⟩
    have hn2 := ih n (i + 1) (by omega) (by omega)
    rw [fX9_firstOf_b7, ib80 hF, h.f63, if_neg (by rw [le_nn (by omega) (by omega)]; omega), tb_n g hg i (by omega), show nI i + (1 : Int32) = nI (i + 1) from add_nn i 1]
    cases e : g.testBit i
    · rw [show fi q (fun j => g.testBit j) (q 63) (i + 1) = fi q (fun j => g.testBit j) (q 63) i from if_neg (show ¬ g.testBit i = true by rw [e]; decide)] at hn2
      rw [show (false).toNat = 0 from rfl, if_pos (show nI 0 = 0 from rfl)]
      exact hn2
    · have es := sf9 hF h hI (an_lt (m := 255 ^^^ 2 ^ i) hg)
      have ep : pr q (fun j => (g &&& (255 ^^^ 2 ^ i)).testBit j) (q 63) = pr q (rm (fun j => g.testBit j) i) (q 63) := pr_cong _ (fun j hj => by
        unfold rm
        rw [an_tb g (show j < 8 by omega) (show i < 8 by omega)])
      rw [ep] at es
      have hb := pr_big q (rm (fun j => g.testBit j) i) hq.2
      have ef : fi q (fun j => g.testBit j) (q 63) (i + 1) = (match fi q (fun j => g.testBit j) (q 63) i with
        | none => some (i, pr q (rm (fun j => g.testBit j) i) (q 63))
        | some (b, s) => if s < pr q (rm (fun j => g.testBit j) i) (q 63) then some (i, pr q (rm (fun j => g.testBit j) i) (q 63)) else some (b, s)) := if_pos e
      obtain ⟨P, hP⟩ : ∃ P, P = pr q (rm (fun j => g.testBit j) i) (q 63) := ⟨_, rfl⟩
      rw [← hP] at es hb ef
      rw [show (true).toNat = 1 from rfl, if_neg (by decide), an_n g hg i (by omega), bnd1 es]
      dsimp only
      unfold fX9_firstOf_b57
      rw [show nI i + (1 : Int32) = nI (i + 1) from add_nn i 1]
      cases e2 : fi q (fun j => g.testBit j) (q 63) i with
      | none =>
        rw [ef, e2] at hn2
        rw [if_pos (show eX1 none = -1 from rfl)]
        exact hn2
      | some x =>
        obtain ⟨b, s⟩ := x
        have hs := fi_lt i b s e2
        have hsb := pr_big q (rm (fun j => g.testBit j) b) hq.2
        rw [← hs.2.2] at hsb
        rw [ef, e2] at hn2
        dsimp only at hn2
        rw [if_neg (show ¬ eX1 (some (b, s)) = -1 from by show ¬ nI b = -1; rw [l1, mi_ne (by omega) (by decide) (by decide)]; exact id)]
        by_cases y : s < P
        · have y2 : lN s < lN P := by rw [lt_LL hsb hb]; omega
          rw [if_pos y] at hn2
          rw [if_pos (show eY2 (some (b, s)) < lN P from y2)]
          exact hn2
        · have y2 : ¬ lN s < lN P := by rw [lt_LL hsb hb]; omega
          rw [if_neg y] at hn2
          rw [if_neg (show ¬ eY2 (some (b, s)) < lN P from y2)]
          exact hn2
theorem fr9 {M : Mm} (hF : FIX M) {q od : Nat → Nat} {sd : Int32} (h : MD q od sd M) (hI : Inv q od) {g : Nat} (hg : g < 256) : fX9_firstOf 80 (nI g) M = some (eX1 (fi q (fun j => g.testBit j) (q 63) (q 63)), M) := by
  have hq := hI.sg
  unfold fX9_firstOf
  rw [kb80 hF]
  exact fir9 hF h hI hg (q 63) FU 0 (Nat.add_zero _) (by unfold FU; omega)
theorem pc_st : ∀ b, b < 256 → b ≠ 0 → b &&& (b - 1) < b ∧ pc (b &&& (b - 1)) + 1 = pc b := by decide +kernel
theorem an_1 : ∀ b, b < 256 → b ≠ 0 → nI b &&& (nI b - 1) = nI (b &&& (b - 1)) := by decide +kernel
theorem cnt9 (M : Mm) : ∀ n b a, b < 256 → b < n → fX9_count_b4 n (nI a) (nI b) M = some (nI (a + pc b), M) := by
  intro n
  induction n with
  | zero => intro b a h1 h2; omega
  | succ n ih =>
    intro b a h1 h2
    rw [fX9_count_b4]
    by_cases z : b = 0
    · subst z
      rw [if_pos (show nI 0 = 0 from rfl)]
      rfl
    · have p := pc_st b h1 z
      rw [if_neg (show ¬ nI b = 0 by rw [l0, eq_nn (by omega) (by decide)]; exact z), an_1 b h1 z, show nI a + (1 : Int32) = nI (a + 1) from add_nn a 1, ih (b &&& (b - 1)) (a + 1) (by omega) (by omega), ← p.2, show a + 1 + pc (b &&& (b - 1)) = a + (pc (b &&& (b - 1)) + 1) by omega]
theorem cn9 {M : Mm} (hF : FIX M) {b : Nat} (hb : b < 256) : fX9_count 80 (nI b) M = some (nI (pc b), M) := by
  unfold fX9_count
  rw [kb80 hF]
  have := cnt9 M FU b 0 hb (by unfold FU; omega)
  rw [Nat.zero_add] at this
  exact this
theorem cd_cong {p p' : Nat → Bool} : ∀ n, (∀ i, i < n → p i = p' i) → cd p n = cd p' n := by
  intro n
  induction n with
  | zero => intro _; rfl
  | succ n ih =>
    intro h
    show (if p n then 1 else 0) + cd p n = (if p' n then 1 else 0) + cd p' n
    rw [h n (by omega), ih (fun i hi => h i (by omega))]
theorem pc_cd8 : ∀ b, b < 256 → pc b = cd (fun i => b.testBit i) 8 := by decide +kernel
theorem cd_more {p : Nat → Bool} {n : Nat} : ∀ d, (∀ i, n ≤ i → p i = false) → cd p (n + d) = cd p n := by
  intro d
  induction d with
  | zero => intro _; rfl
  | succ d ih =>
    intro h
    show (if p (n + d) then 1 else 0) + cd p (n + d) = cd p n
    rw [h (n + d) (by omega), ih h]
    simp
theorem pc_ws (q : Nat → Nat) (f t : Nat) (hT : q 63 ≤ 8) : pc (ws q f t (q 63)) = cd (ow q f t) (q 63) := by
  have e : ∀ i, q 63 ≤ i → (ws q f t (q 63)).testBit i = false := fun i hi => by rw [ws_tb, decide_eq_false (by omega), Bool.false_and]
  rw [pc_cd8 _ (ws_lt q f t _ hT), show 8 = q 63 + (8 - q 63) by omega, cd_more _ e]
  exact cd_cong _ (fun i hi => by rw [ws_tb, decide_eq_true hi, Bool.true_and])
theorem ord9 {M : Mm} (hF : FIX M) {q od : Nat → Nat} {sd : Int32} (h : MD q od sd M) (hI : Inv q od) {k : Nat} (hk : k < 2147483648) : ∀ d n i g, g < 256 → d + i = k → d < n → d < cd (fun j => g.testBit j) (q 63) →
    fX9_order_b54 n 80 (nI k) (nI g) (nI i) M = some (eX3 (ord q (q 63) d (fun j => g.testBit j)), M) := by
  have hq := hI.sg
  intro d
  induction d with
  | zero =>
    intro n i g hg hi hn hc
    obtain ⟨n, rfl⟩ : ∃ m, n = m + 1 := ⟨n - 1, by omega⟩
    rw [fX9_order_b54, if_pos (by rw [le_nn (by omega) (by omega)]; omega), bnd1 (fr9 hF h hI hg)]
    unfold ord
    cases fi q (fun j => g.testBit j) (q 63) (q 63) with
    | none => rfl
    | some x => rfl
  | succ d ih =>
    intro n i g hg hi hn hc
    obtain ⟨n, rfl⟩ : ∃ m, n = m + 1 := ⟨n - 1, by omega⟩
    rw [fX9_order_b54, if_neg (by rw [le_nn (by omega) (by omega)]; omega), bnd1 (fr9 hF h hI hg)]
    dsimp only
    cases e2 : fi q (fun j => g.testBit j) (q 63) (q 63) with
    | none =>
      have := (fi_none (q 63)).mp e2
      omega
    | some x =>
      obtain ⟨b, s⟩ := x
      have hb := fi_lt (q 63) b s e2
      have hc2 := cd_rm (p := fun j => g.testBit j) hb.2.1 (q 63)
      rw [if_pos hb.1] at hc2
      have ec : ∀ j, j < q 63 → (g &&& (255 ^^^ 2 ^ b)).testBit j = rm (fun j => g.testBit j) b j := fun j hj => by
        unfold rm
        rw [an_tb g (show j < 8 by omega) (show b < 8 by omega)]
      rw [show eX1 (some (b, s)) = nI b from rfl, an_n g hg b (by omega), show nI i + (1 : Int32) = nI (i + 1) from add_nn i 1, ih n (i + 1) (g &&& (255 ^^^ 2 ^ b)) (an_lt hg) (by omega) (by omega) (by rw [cd_cong _ ec]; omega), ord_succ e2, ord_cong _ _ _ ec]
