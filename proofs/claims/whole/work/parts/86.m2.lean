/-! walks, the class -/
theorem mx_nn {a b : Nat} (ha : a < 2147483648) (hb : b < 2147483648) : mxI (nI a) (nI b) = nI (if a < b then b else a) := by
  unfold mxI
  by_cases c : a < b
  · rw [if_pos (nI_lt c hb), if_pos c]
  · rw [if_neg (nI_nlt (by omega) ha), if_neg c]
theorem ibT {β : Type} {M : Mm} {r : Nat} (h : mK M r = (7, 0)) (k : Nat) (f : Int32 → Option β) : Option.bind (fI M 6 r k) f = f (mI M r k) := bnd1 (by unfold fI; rw [h]; rfl) f
theorem sow8 {M : Mm} (hF : FIX M) {q od : Nat → Nat} {sd : Int32} (h : St 22 q od sd M) (hI : Inv q od) {i f t g : Nat} (hi : i < q 63) (hf : f < q 56) (ht : t < q 56) (hg : g < 256) : fX5_standsOnWalk 22 (nI i) (nI f) (nI t) (nI g) M = some (bI (ow q f t i && !g.testBit i), M) := by
  have hL := hI.1
  have hq := hI.sg
  have c1 := (hI.2.2.2.2.2.2.2.2.2.2.2.1 i hi).1
  obtain ⟨r, er, g1, g2, g3, g4, g5, g6⟩ := tAt (Or.inl rfl) hF h hq hi
  unfold fX5_standsOnWalk
  rw [kb22 hF, bnd1 er]
  dsimp only
  rw [Option.bind_some, Option.elim_some, tb_n g hg i (by omega)]
  unfold ow
  rw [decide_eq_true hi, Bool.true_and]
  cases hb : g.testBit i
  · rw [show (false).toNat = 0 from rfl, if_pos (show nI 0 = 0 from rfl), ibT g3, g4, mn_n (by omega) (by omega)]
    have e1 : (if t < f then t else f) = (if t ≤ f then t else f) := by split <;> split <;> omega
    rw [e1]
    by_cases z : q (32 + i) < (if t ≤ f then t else f)
    · rw [if_pos (by rw [lt_nn (by omega) (by split <;> omega)]; exact z), show decide ((if t ≤ f then t else f) ≤ q (32 + i)) = false from decide_eq_false (by omega)]
      rfl
    · rw [if_neg (by rw [lt_nn (by omega) (by split <;> omega)]; exact z), show decide ((if t ≤ f then t else f) ≤ q (32 + i)) = true from decide_eq_true (by omega), ibT g3, g4, mx_nn (by omega) (by omega)]
      have e2 : (if f < t then t else f) = (if t ≤ f then f else t) := by split <;> split <;> omega
      rw [e2]
      by_cases y : (if t ≤ f then f else t) < q (32 + i)
      · rw [if_pos (by rw [lt_nn (by split <;> omega) (by omega)]; exact y), show decide (q (32 + i) ≤ (if t ≤ f then f else t)) = false from decide_eq_false (by omega)]
        rfl
      · rw [if_neg (by rw [lt_nn (by split <;> omega) (by omega)]; exact y), show decide (q (32 + i) ≤ (if t ≤ f then f else t)) = true from decide_eq_true (by omega)]
        rfl
  · rw [show (true).toNat = 1 from rfl, if_neg (by decide), Bool.not_true, Bool.and_false]
    rfl
theorem mis8 {M : Mm} (hF : FIX M) {q od : Nat → Nat} {sd : Int32} (h : St 22 q od sd M) (hI : Inv q od) {i : Nat} (hi : i < q 63) : fX5_missedOfHundred 22 (nI i) M = some (nI (mis q i), M) := by
  have hq := hI.sg
  have h61 := hI.2.2.2.2.1
  obtain ⟨c1, c2, c3, c4⟩ := hI.2.2.2.2.2.2.2.2.2.2.2.1 i hi
  obtain ⟨r, er, g1, g2, g3, g4, g5, g6⟩ := tAt (Or.inl rfl) hF h hq hi
  unfold fX5_missedOfHundred mis
  rw [kb22 hF, bnd1 er]
  dsimp only
  rw [Option.bind_some, Option.elim_some, ibT g3, ibT g3, g5, g6]
  have hm : q (48 + i) * (10 - q 61) ≤ 10 * 10 := Nat.mul_le_mul c4 (by omega)
  by_cases z : q (40 + i) = 1
  · rw [z, if_neg (by decide), if_pos rfl, l100, l10, mul_nn, sub_nn (by omega)]
  · have z0 : q (40 + i) = 0 := by omega
    rw [z0, if_pos (show nI 0 = 0 from rfl), if_neg (by decide), ib22 hF, h.f61, l100, l10, sub_nn (by omega), mul_nn, sub_nn (by omega)]
theorem bI_t {b : Bool} (h : b = true) : ¬ bI b = 0 := by rw [bI_0, h]; decide
theorem bI_f {b : Bool} (h : b = false) : bI b = 0 := by rw [bI_0]; exact h
theorem saf8 {M : Mm} (hF : FIX M) {q od : Nat → Nat} {sd : Int32} (h : St 22 q od sd M) (hI : Inv q od) {f t g : Nat} (hf : f < q 56) (ht : t < q 56) (hg : g < 256) : ∀ d n i, d + i = q 63 → d < n →
    fX5_safeBut_b6 n 22 (nI f) (nI t) (nI g) (lN (pr q (fun j => ow q f t j && !g.testBit j) i)) (nI i) M = some (lN (pr q (fun j => ow q f t j && !g.testBit j) (q 63)), M) := by
  have hq := hI.sg
  intro d
  induction d with
  | zero =>
    intro n i hi hn
    obtain ⟨n, rfl⟩ : ∃ m, n = m + 1 := ⟨n - 1, by omega⟩
    rw [fX5_safeBut_b6, ib22 hF, h.f63, if_pos (by rw [le_nn (by omega) (by omega)]; omega), show i = q 63 by omega]
  | succ d ih =>
    intro n i hi hn
    obtain ⟨n, rfl⟩ : ∃ m, n = m + 1 := ⟨n - 1, by omega⟩
    have hn2 := ih n (i + 1) (by omega) (by omega)
    rw [fX5_safeBut_b6, ib22 hF, h.f63, if_neg (by rw [le_nn (by omega) (by omega)]; omega), bnd1 (sow8 hF h hI (show i < q 63 by omega) hf ht hg)]
    dsimp only
    rw [show nI i + (1 : Int32) = nI (i + 1) from add_nn i 1]
    cases e : (ow q f t i && !g.testBit i)
    · rw [if_pos (bI_f rfl)]
      rw [show pr q (fun j => ow q f t j && !g.testBit j) (i + 1) = pr q (fun j => ow q f t j && !g.testBit j) i from if_neg (show ¬ (ow q f t i && !g.testBit i) = true by rw [e]; decide)] at hn2
      exact hn2
    · rw [if_neg (bI_t rfl), bnd1 (mis8 hF h hI (show i < q 63 by omega))]
      dsimp only
      have := mis_le q i
      rw [show pr q (fun j => ow q f t j && !g.testBit j) (i + 1) = pr q (fun j => ow q f t j && !g.testBit j) i * mis q i from if_pos e] at hn2
      rw [nI_l (show mis q i < 2 ^ 31 by omega), lN_mul]
      exact hn2
theorem sf8 {M : Mm} (hF : FIX M) {q od : Nat → Nat} {sd : Int32} (h : St 22 q od sd M) (hI : Inv q od) {f t g : Nat} (hf : f < q 56) (ht : t < q 56) (hg : g < 256) : fX5_safeBut 22 (nI f) (nI t) (nI g) M = some (lN (pr q (fun j => ow q f t j && !g.testBit j) (q 63)), M) := by
  have hq := hI.sg
  unfold fX5_safeBut
  rw [kb22 hF]
  exact saf8 hF h hI hf ht hg (q 63) FU 0 (Nat.add_zero _) (by unfold FU; omega)
/-- best and its odds, as the class keeps them -/
def eX1 : Option (Nat × Nat) → Int32
  | none => -nI 1
  | some (b, _) => nI b
def eX2 : Option (Nat × Nat) → Int64
  | none => -1
  | some (_, s) => lN s
theorem m1_le {a : Nat} (ha : a < 9223372036854775808) : ¬ lN a ≤ (-1 : Int64) := by
  rw [Int64.le_iff_toInt_le, L_n ha, show (-1 : Int64).toInt = -1 by decide]
  omega
theorem fir8 {M : Mm} (hF : FIX M) {q od : Nat → Nat} {sd : Int32} (h : St 22 q od sd M) (hI : Inv q od) {f t g : Nat} (hf : f < q 56) (ht : t < q 56) (hg : g < 256) : ∀ d n i, d + i = q 63 → d < n →
    fX5_firstBut_b11 n 22 (nI f) (nI t) (nI g) (eX1 (fi q (fun j => ow q f t j && !g.testBit j) (q 63) i)) (eX2 (fi q (fun j => ow q f t j && !g.testBit j) (q 63) i)) (nI i) M = some (eX1 (fi q (fun j => ow q f t j && !g.testBit j) (q 63) (q 63)), M) := by
  have hq := hI.sg
  intro d
  induction d with
  | zero =>
    intro n i hi hn
    obtain ⟨n, rfl⟩ : ∃ m, n = m + 1 := ⟨n - 1, by omega⟩
    rw [fX5_firstBut_b11, ib22 hF, h.f63, if_pos (by rw [le_nn (by omega) (by omega)]; omega), show i = q 63 by omega]
  | succ d ih =>
    intro n i hi hn
    obtain ⟨n, rfl⟩ : ∃ m, n = m + 1 := ⟨n - 1, by omega⟩
    have hn2 := ih n (i + 1) (by omega) (by omega)
    rw [fX5_firstBut_b11, ib22 hF, h.f63, if_neg (by rw [le_nn (by omega) (by omega)]; omega), bnd1 (sow8 hF h hI (show i < q 63 by omega) hf ht hg)]
    dsimp only
    rw [show nI i + (1 : Int32) = nI (i + 1) from add_nn i 1]
    cases e : (ow q f t i && !g.testBit i)
    · rw [if_pos (bI_f rfl)]
      rw [show fi q (fun j => ow q f t j && !g.testBit j) (q 63) (i + 1) = fi q (fun j => ow q f t j && !g.testBit j) (q 63) i from if_neg (show ¬ (ow q f t i && !g.testBit i) = true by rw [e]; decide)] at hn2
      exact hn2
    · have es := sf8 hF h hI hf ht (or_lt hg (show i < 8 by omega))
      have ep : pr q (fun j => ow q f t j && !(g ||| 2 ^ i).testBit j) (q 63) = pr q (rm (fun j => ow q f t j && !g.testBit j) i) (q 63) := pr_cong _ (fun j hj => by
        unfold rm
        rw [or_tb, Bool.not_or, Bool.and_assoc])
      rw [ep] at es
      have hb := pr_big q (rm (fun j => ow q f t j && !g.testBit j) i) hq.2
      have ef : fi q (fun j => ow q f t j && !g.testBit j) (q 63) (i + 1) = (match fi q (fun j => ow q f t j && !g.testBit j) (q 63) i with
        | none => some (i, pr q (rm (fun j => ow q f t j && !g.testBit j) i) (q 63))
        | some (b, s) => if s < pr q (rm (fun j => ow q f t j && !g.testBit j) i) (q 63) then some (i, pr q (rm (fun j => ow q f t j && !g.testBit j) i) (q 63)) else some (b, s)) := if_pos e
      obtain ⟨P, hP⟩ : ∃ P, P = pr q (rm (fun j => ow q f t j && !g.testBit j) i) (q 63) := ⟨_, rfl⟩
      rw [← hP] at es hb ef
      rw [if_neg (bI_t rfl), or_n g hg i (by omega), bnd1 es]
      dsimp only
      cases e2 : fi q (fun j => ow q f t j && !g.testBit j) (q 63) i with
      | none =>
        rw [ef, e2] at hn2
        rw [if_neg (show ¬ lN P ≤ eX2 none from m1_le hb)]
        exact hn2
      | some x =>
        obtain ⟨b, s⟩ := x
        have hs := fi_lt i b s e2
        have hsb := pr_big q (rm (fun j => ow q f t j && !g.testBit j) b) hq.2
        rw [← hs.2.2] at hsb
        rw [ef, e2] at hn2
        dsimp only at hn2
        by_cases y : s < P
        · have y2 : ¬ lN P ≤ lN s := by rw [le_LL hb hsb]; omega
          rw [if_pos y] at hn2
          rw [if_neg (show ¬ lN P ≤ eX2 (some (b, s)) from y2)]
          exact hn2
        · have y2 : lN P ≤ lN s := by rw [le_LL hb hsb]; omega
          rw [if_neg y] at hn2
          rw [if_pos (show lN P ≤ eX2 (some (b, s)) from y2)]
          exact hn2
theorem fr8 {M : Mm} (hF : FIX M) {q od : Nat → Nat} {sd : Int32} (h : St 22 q od sd M) (hI : Inv q od) {f t g : Nat} (hf : f < q 56) (ht : t < q 56) (hg : g < 256) : fX5_firstBut 22 (nI f) (nI t) (nI g) M = some (eX1 (fi q (fun j => ow q f t j && !g.testBit j) (q 63) (q 63)), M) := by
  have hq := hI.sg
  unfold fX5_firstBut
  rw [kb22 hF]
  exact fir8 hF h hI hf ht hg (q 63) FU 0 (Nat.add_zero _) (by unfold FU; omega)
def eX3 : Option Nat → Int32
  | none => -nI 1
  | some b => nI b
theorem ord8 {M : Mm} (hF : FIX M) {q od : Nat → Nat} {sd : Int32} (h : St 22 q od sd M) (hI : Inv q od) {f t k : Nat} (hf : f < q 56) (ht : t < q 56) (hk : k < 2147483648) : ∀ d n i g, g < 256 → d + i = q 63 → d < n → i ≤ k →
    fX5_orderedAt_b6 n 22 (nI f) (nI t) (nI k) (nI g) (nI i) M = some (eX3 (if k < q 63 then ord q (q 63) (k - i) (fun j => ow q f t j && !g.testBit j) else none), M) := by
  have hq := hI.sg
  intro d
  induction d with
  | zero =>
    intro n i g hg hi hn hik
    obtain ⟨n, rfl⟩ : ∃ m, n = m + 1 := ⟨n - 1, by omega⟩
    rw [fX5_orderedAt_b6, ib22 hF, h.f63, if_pos (by rw [le_nn (by omega) (by omega)]; omega), if_neg (by omega)]
    rfl
  | succ d ih =>
    intro n i g hg hi hn hik
    obtain ⟨n, rfl⟩ : ∃ m, n = m + 1 := ⟨n - 1, by omega⟩
    have ef := fr8 hF h hI hf ht hg
    rw [fX5_orderedAt_b6, ib22 hF, h.f63, if_neg (by rw [le_nn (by omega) (by omega)]; omega), if_neg (nI_pos (by omega)), bnd1 ef]
    dsimp only
    by_cases e : i = k
    · rw [if_pos (by rw [e]), if_pos (by omega), show k - i = 0 by omega]
      unfold ord
      cases fi q (fun j => ow q f t j && !g.testBit j) (q 63) (q 63) with
      | none => rfl
      | some x => rfl
    · rw [if_neg (by rw [eq_nn (by omega) (by omega)]; exact e)]
      cases e2 : fi q (fun j => ow q f t j && !g.testBit j) (q 63) (q 63) with
      | none =>
        rw [if_pos (show eX1 none = -1 from rfl)]
        by_cases y : k < q 63
        · rw [if_pos y, (ord_none (k - i) _).mpr (by have := (fi_none (q 63)).mp e2; omega)]
          rfl
        · rw [if_neg y]
          rfl
      | some x =>
        obtain ⟨b, s⟩ := x
        have hb := fi_lt (q 63) b s e2
        have hn2 := ih n (i + 1) (g ||| 2 ^ b) (or_lt hg (by omega)) (by omega) (by omega) (by omega)
        rw [show eX1 (some (b, s)) = nI b from rfl, if_neg (show ¬ nI b = -1 by rw [l1, mi_ne (by omega) (by decide) (by decide)]; exact id), or_n g hg b (by omega), show nI i + (1 : Int32) = nI (i + 1) from add_nn i 1, hn2]
        by_cases y : k < q 63
        · rw [if_pos y, if_pos y, show k - i = (k - (i + 1)) + 1 by omega]
          rw [ord_succ e2, ord_cong (q := q) (T := q 63) (k - (i + 1)) (fun j => ow q f t j && !(g ||| 2 ^ b).testBit j) (rm (fun j => ow q f t j && !g.testBit j) b) (fun j hj => ?_)]
          unfold rm
          rw [or_tb, Bool.not_or, Bool.and_assoc]
        · rw [if_neg y, if_neg y]
theorem or8 {M : Mm} (hF : FIX M) {q od : Nat → Nat} {sd : Int32} (h : St 22 q od sd M) (hI : Inv q od) {f t k : Nat} (hf : f < q 56) (ht : t < q 56) (hk : k < 2147483648) : fX5_orderedAt 22 (nI f) (nI t) (nI k) M = some (eX3 (ord q (q 63) k (ow q f t)), M) := by
  have hq := hI.sg
  unfold fX5_orderedAt
  rw [kb22 hF]
  refine (ord8 hF h hI hf ht hk (q 63) FU 0 0 (by decide) (Nat.add_zero _) (by unfold FU; omega) (Nat.zero_le _)).trans ?_
  have e : ord q (q 63) k (ow q f t) = ord q (q 63) k (fun j => ow q f t j && !(0 : Nat).testBit j) := ord_cong k _ _ (fun j hj => by rw [Nat.zero_testBit]; simp)
  by_cases y : k < q 63
  · rw [if_pos y, e]
    rfl
  · rw [if_neg y, (ord_none k (ow q f t)).mpr (by have := cd_le (ow q f t) (q 63); omega)]
