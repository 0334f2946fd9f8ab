/-! worth: the class's way by halves is the reference's way by sets -/
theorem and_n (a b : Nat) : nI a &&& nI b = nI (a &&& b) := Int32.toBitVec_inj.1 (show BitVec.ofNat 32 a &&& BitVec.ofNat 32 b = BitVec.ofNat 32 (a &&& b) from BitVec.ofNat_and.symm)
def mx (f : Nat → Nat) : Nat → Nat
  | 0 => 0
  | n + 1 => if mx f n < f n then f n else mx f n
theorem mx_cong {f g : Nat → Nat} : ∀ n, (∀ c, c < n → f c = g c) → mx f n = mx g n := by
  intro n
  induction n with
  | zero => intro _; rfl
  | succ n ih =>
    intro h
    unfold mx
    rw [ih (fun c hc => h c (by omega)), h n (by omega)]
theorem mx_sm (f : Nat → Nat) : ∀ n, mx f n ≤ sm f n := by
  intro n
  induction n with
  | zero => exact Nat.le_refl _
  | succ n ih =>
    show (if mx f n < f n then f n else mx f n) ≤ sm f n + f n
    split <;> omega
theorem mx_0 {f : Nat → Nat} : ∀ n, (∀ c, c < n → f c = 0) → mx f n = 0 := by
  intro n
  induction n with
  | zero => intro _; rfl
  | succ n ih =>
    intro h
    unfold mx
    rw [ih (fun c hc => h c (by omega)), h n (by omega)]
    rfl
/-- the lowest bit -/
def lw (S : Nat) : Nat := if S.testBit 0 then 0 else if S.testBit 1 then 1 else if S.testBit 2 then 2 else if S.testBit 3 then 3 else if S.testBit 4 then 4 else if S.testBit 5 then 5 else if S.testBit 6 then 6 else 7
theorem lw_f : ∀ S, S < 256 → S ≠ 0 → lw S < 8 ∧ 2 ^ lw S ≤ S ∧ S = (S &&& (S - 1)) ||| 2 ^ lw S := by decide +kernel
theorem lw_t : ∀ S, S < 256 → S ≠ 0 → ∀ j, j < 8 → S.testBit j = ((S &&& (S - 1)).testBit j || decide (lw S = j)) ∧ ((S &&& (S - 1)).testBit j = true → lw S < j) := by decide +kernel
def lw_b (S Y : Nat) : Bool := S == 0 || !(Y &&& (S &&& (S - 1)) == Y) || (!(Y ||| 2 ^ lw S == 0) && (((Y ||| 2 ^ lw S) - 1) &&& S == Y) && (Y == 0 || (Y - 1) &&& S == ((Y - 1) &&& (S &&& (S - 1))) ||| 2 ^ lw S))
theorem lw_c : ∀ S, S < 256 → ∀ Y, Y < 256 → lw_b S Y = true := by decide +kernel
theorem lw_y (S : Nat) (hS : S < 256) (h0 : S ≠ 0) (Y : Nat) (hY : Y < 256) (hs : Y &&& (S &&& (S - 1)) = Y) : Y ||| 2 ^ lw S ≠ 0 ∧ ((Y ||| 2 ^ lw S) - 1) &&& S = Y ∧ (Y ≠ 0 → (Y - 1) &&& S = ((Y - 1) &&& (S &&& (S - 1))) ||| 2 ^ lw S) := by
  have h := lw_c S hS Y hY
  unfold lw_b at h
  simp only [Bool.or_eq_true, Bool.and_eq_true, Bool.not_eq_true', beq_iff_eq, beq_eq_false_iff_ne, ne_eq] at h
  rcases h with (h | h) | h
  · exact absurd h h0
  · exact absurd hs h
  · exact ⟨h.1.1, h.1.2, fun z => h.2.resolve_left z⟩
/-- the class's way: by halves -/
def wo (q : Nat → Nat) : Nat → Nat → (Nat → Nat) → Nat
  | 0, _, r => mx r (q 56)
  | n + 1, S, r => if S = 0 then mx r (q 56) else wo q n (S &&& (S - 1)) (mul q (lw S) true r) + wo q n (S &&& (S - 1)) (mul q (lw S) false r)
/-- the reference's way: by all sets below one, downwards -/
def lp (S : Nat) (f : Nat → Nat) : Nat → Nat → Nat
  | 0, Y => f Y
  | n + 1, Y => f Y + (if Y = 0 then 0 else lp S f n ((Y - 1) &&& S))
theorem lp_add (S : Nat) (f g : Nat → Nat) : ∀ n Y, lp S (fun Y => f Y + g Y) n Y = lp S f n Y + lp S g n Y := by
  intro n
  induction n with
  | zero => intro Y; rfl
  | succ n ih =>
    intro Y
    unfold lp
    rw [ih]
    split <;> omega
theorem lp_cong {S : Nat} {f g : Nat → Nat} (h : ∀ Y, Y &&& S = Y → f Y = g Y) : ∀ n Y, Y &&& S = Y → lp S f n Y = lp S g n Y := by
  intro n
  induction n with
  | zero => intro Y hY; exact h Y hY
  | succ n ih =>
    intro Y hY
    unfold lp
    rw [h Y hY, ih _ (by rw [Nat.and_assoc, Nat.and_self])]
theorem sub_le {Y S : Nat} : Y &&& S ≤ Y := Nat.and_le_left
theorem lp_two {S : Nat} (hS : S < 256) (h0 : S ≠ 0) (f : Nat → Nat) : ∀ Y m m', Y < 256 → Y &&& (S &&& (S - 1)) = Y → 2 * Y + 3 ≤ m → Y + 1 ≤ m' →
    lp S f m (Y ||| 2 ^ lw S) = lp (S &&& (S - 1)) (fun Y => f (Y ||| 2 ^ lw S) + f Y) m' Y := by
  intro Y
  induction Y using Nat.strongRecOn with
  | _ Y ih =>
    intro m m' hY hs hm hm'
    obtain ⟨y1, y2, y3⟩ := lw_y S hS h0 Y hY hs
    obtain ⟨m, rfl⟩ : ∃ a, m = a + 2 := ⟨m - 2, by omega⟩
    obtain ⟨m', rfl⟩ : ∃ a, m' = a + 1 := ⟨m' - 1, by omega⟩
    show f (Y ||| 2 ^ lw S) + (if Y ||| 2 ^ lw S = 0 then 0 else (f (((Y ||| 2 ^ lw S) - 1) &&& S) + (if ((Y ||| 2 ^ lw S) - 1) &&& S = 0 then 0 else lp S f m (((((Y ||| 2 ^ lw S) - 1) &&& S) - 1) &&& S)))) = f (Y ||| 2 ^ lw S) + f Y + (if Y = 0 then 0 else lp (S &&& (S - 1)) (fun Y => f (Y ||| 2 ^ lw S) + f Y) m' ((Y - 1) &&& (S &&& (S - 1))))
    rw [if_neg y1, y2]
    by_cases z : Y = 0
    · rw [if_pos z, if_pos z]
      omega
    · have le : (Y - 1) &&& (S &&& (S - 1)) ≤ Y - 1 := Nat.and_le_left
      rw [if_neg z, if_neg z, y3 z, ih ((Y - 1) &&& (S &&& (S - 1))) (by omega) m m' (by omega) (by rw [Nat.and_assoc, Nat.and_self]) (by omega) (by omega)]
      omega
/-- a cell's weight by a set of signs and those of them that are there -/
def wt (q : Nat → Nat) (S Y : Nat) (r : Nat → Nat) (c : Nat) : Nat → Nat
  | 0 => r c
  | n + 1 => if S.testBit n then wt q S Y r c n * tms q n (Y.testBit n) c else wt q S Y r c n
theorem wt_0 (q : Nat → Nat) (Y : Nat) (r : Nat → Nat) (c : Nat) : ∀ n, wt q 0 Y r c n = r c := by
  intro n
  induction n with
  | zero => rfl
  | succ n ih =>
    show (if (0 : Nat).testBit n then _ else _) = _
    rw [Nat.zero_testBit, if_neg (by decide)]
    exact ih
theorem wt_low {q : Nat → Nat} {S Y : Nat} {r : Nat → Nat} {c : Nat} : ∀ n, (∀ j, j < n → S.testBit j = false) → wt q S Y r c n = r c := by
  intro n
  induction n with
  | zero => intro _; rfl
  | succ n ih =>
    intro h
    show (if S.testBit n then _ else _) = _
    rw [h n (by omega), if_neg (by decide)]
    exact ih (fun j hj => h j (by omega))
theorem wt_half {q : Nat → Nat} {S : Nat} (hS : S < 256) (h0 : S ≠ 0) {Y : Nat} (hs : Y &&& (S &&& (S - 1)) = Y) (r : Nat → Nat) (c : Nat) (b : Bool) : ∀ n, lw S < n → n ≤ 8 →
    wt q S (if b then Y ||| 2 ^ lw S else Y) r c n = wt q (S &&& (S - 1)) Y (mul q (lw S) b r) c n := by
  have l8 := (lw_f S hS h0).1
  have lo : ∀ j, j < 8 → j ≤ lw S → (S &&& (S - 1)).testBit j = false := fun j h1 h2 => by
    cases e : (S &&& (S - 1)).testBit j
    · rfl
    · have := (lw_t S hS h0 j h1).2 e
      omega
  have ylo : ∀ j, j < 8 → j ≤ lw S → Y.testBit j = false := fun j h1 h2 => by
    rw [← hs, Nat.testBit_and, lo j h1 h2, Bool.and_false]
  intro n
  induction n with
  | zero => intro h; omega
  | succ n ih =>
    intro h1 h2
    have t := (lw_t S hS h0 n (by omega)).1
    show (if S.testBit n then wt q S _ r c n * tms q n (Nat.testBit _ n) c else wt q S _ r c n) = (if (S &&& (S - 1)).testBit n then wt q (S &&& (S - 1)) Y (mul q (lw S) b r) c n * tms q n (Y.testBit n) c else wt q (S &&& (S - 1)) Y (mul q (lw S) b r) c n)
    by_cases e : lw S = n
    · rw [t, decide_eq_true e, Bool.or_true, if_pos rfl, lo n (by omega) (by omega), if_neg (show ¬ false = true by decide), wt_low n (fun j hj => lo j (by omega) (by omega)), wt_low n (fun j hj => by
        rw [(lw_t S hS h0 j (by omega)).1, lo j (by omega) (by omega), decide_eq_false (by omega)]
        rfl)]
      show r c * tms q n _ c = r c * tms q (lw S) b c
      rw [e]
      cases b
      · rw [if_neg (by decide), ylo n (by omega) (by omega)]
      · rw [if_pos rfl, or_tb, decide_eq_true rfl, Bool.or_true]
    · rw [t, decide_eq_false e, Bool.or_false]
      rw [ih (by omega) (by omega)]
      have ey : (if b then Y ||| 2 ^ lw S else Y).testBit n = Y.testBit n := by
        cases b
        · rw [if_neg (by decide)]
        · rw [if_pos rfl, or_tb, decide_eq_false e, Bool.or_false]
      rw [ey]
def FW (q : Nat → Nat) (S : Nat) (r : Nat → Nat) (T : Nat) : Nat → Nat := fun Y => mx (fun c => wt q S Y r c T) (q 56)
theorem pc_s : ∀ S, S < 256 → S ≠ 0 → S &&& (S - 1) < S ∧ pc (S &&& (S - 1)) + 1 = pc S := pc_st
theorem pc_le8 : ∀ S, S < 256 → pc S ≤ 8 := by decide +kernel
theorem pc_z : ∀ S, S < 256 → pc S = 0 → S = 0 := by decide +kernel
theorem lw_lt {S T : Nat} (hT : T ≤ 8) (hS : S < 2 ^ T) (h0 : S ≠ 0) : lw S < T := by
  have h8 : 2 ^ T ≤ 2 ^ 8 := Nat.pow_le_pow_right (by decide) hT
  have f := lw_f S (by omega) h0
  exact (Nat.pow_lt_pow_iff_right (show 1 < 2 by decide)).mp (by omega)
theorem wo_lp {q : Nat → Nat} {T : Nat} (hT : T ≤ 8) : ∀ n S r m, S < 2 ^ T → pc S ≤ n → 1000 ≤ m → wo q n S r = lp S (FW q S r T) m S := by
  have h8 : 2 ^ T ≤ 2 ^ 8 := Nat.pow_le_pow_right (by decide) hT
  have base : ∀ r m, 1000 ≤ m → mx r (q 56) = lp 0 (FW q 0 r T) m 0 := fun r m hm => by
    obtain ⟨m, rfl⟩ : ∃ a, m = a + 1 := ⟨m - 1, by omega⟩
    show _ = FW q 0 r T 0 + (if (0 : Nat) = 0 then 0 else _)
    rw [if_pos rfl, Nat.add_zero]
    exact mx_cong _ (fun c _ => (wt_0 q 0 r c T).symm)
  intro n
  induction n with
  | zero =>
    intro S r m hS hp hm
    have : S = 0 := pc_z S (by omega) (by omega)
    subst this
    exact base r m hm
  | succ n ih =>
    intro S r m hS hp hm
    by_cases z : S = 0
    · subst z
      exact (if_pos rfl).trans (base r m hm)
    · have p := pc_s S (by omega) z
      have f := lw_f S (by omega) z
      have l := lw_lt hT hS z
      have hself : (S &&& (S - 1)) &&& (S &&& (S - 1)) = S &&& (S - 1) := Nat.and_self _
      have e := lp_two (show S < 256 by omega) z (FW q S r T) (S &&& (S - 1)) m m (by omega) hself (by omega) (by omega)
      rw [← f.2.2] at e
      rw [show wo q (n + 1) S r = wo q n (S &&& (S - 1)) (mul q (lw S) true r) + wo q n (S &&& (S - 1)) (mul q (lw S) false r) from if_neg z, ih _ _ m (by omega) (by omega) hm, ih _ _ m (by omega) (by omega) hm, ← lp_add, e]
      refine lp_cong (fun Y hY => ?_) m _ hself
      have a1 : FW q (S &&& (S - 1)) (mul q (lw S) true r) T Y = FW q S r T (Y ||| 2 ^ lw S) := mx_cong _ (fun c _ => (wt_half (by omega) z hY r c true T l hT).symm)
      have a2 : FW q (S &&& (S - 1)) (mul q (lw S) false r) T Y = FW q S r T Y := mx_cong _ (fun c _ => (wt_half (by omega) z hY r c false T l hT).symm)
      show FW q (S &&& (S - 1)) (mul q (lw S) true r) T Y + FW q (S &&& (S - 1)) (mul q (lw S) false r) T Y = FW q S r T (Y ||| 2 ^ lw S) + FW q S r T Y
      rw [a1, a2]
/-- both halves of a row together are ten times it -/
theorem sm_half {q od : Nat → Nat} (hI : Inv q od) {i : Nat} (hi : i < q 62) (r : Nat → Nat) : ∀ n, sm (mul q i true r) n + sm (mul q i false r) n = 10 * sm r n := by
  intro n
  induction n with
  | zero => rfl
  | succ n ih =>
    show sm (mul q i true r) n + r n * tms q i true n + (sm (mul q i false r) n + r n * tms q i false n) = 10 * (sm r n + r n)
    have t := tn_le hI hi n
    have e : r n * tms q i true n + r n * tms q i false n = r n * 10 := by
      rw [← Nat.mul_add]
      show r n * (tn q i n + (10 - tn q i n)) = r n * 10
      rw [show tn q i n + (10 - tn q i n) = 10 by omega]
    omega
theorem wo_le {q od : Nat → Nat} (hI : Inv q od) : ∀ n S r, S < 2 ^ q 62 → pc S ≤ n → wo q n S r ≤ sm r (q 56) * 10 ^ pc S := by
  have hT := hI.sg.1
  have h8 : 2 ^ q 62 ≤ 2 ^ 8 := Nat.pow_le_pow_right (by decide) hT
  intro n
  induction n with
  | zero =>
    intro S r hS hp
    show mx r (q 56) ≤ _
    rw [show pc S = 0 by omega, Nat.pow_zero, Nat.mul_one]
    exact mx_sm r _
  | succ n ih =>
    intro S r hS hp
    by_cases z : S = 0
    · subst z
      show (if (0 : Nat) = 0 then mx r (q 56) else _) ≤ sm r (q 56) * 10 ^ 0
      rw [if_pos rfl, Nat.pow_zero, Nat.mul_one]
      exact mx_sm r _
    · have p := pc_s S (by omega) z
      have l := lw_lt hT hS z
      have a := ih (S &&& (S - 1)) (mul q (lw S) true r) (by omega) (by omega)
      have b := ih (S &&& (S - 1)) (mul q (lw S) false r) (by omega) (by omega)
      have e := sm_half hI l r (q 56)
      rw [show wo q (n + 1) S r = wo q n (S &&& (S - 1)) (mul q (lw S) true r) + wo q n (S &&& (S - 1)) (mul q (lw S) false r) from if_neg z, ← p.2, Nat.pow_succ, Nat.mul_comm (10 ^ _) 10, ← Nat.mul_assoc, Nat.mul_comm (sm r (q 56)) 10, ← e, Nat.add_mul]
      omega
theorem wo_0 {q : Nat → Nat} : ∀ n S r, (∀ c, c < q 56 → r c = 0) → wo q n S r = 0 := by
  intro n
  induction n with
  | zero => intro S r h; exact mx_0 _ h
  | succ n ih =>
    intro S r h
    show (if S = 0 then mx r (q 56) else _) = 0
    split
    · exact mx_0 _ h
    · rw [ih _ _ (fun c hc => by show r c * _ = 0; rw [h c hc, Nat.zero_mul]), ih _ _ (fun c hc => by show r c * _ = 0; rw [h c hc, Nat.zero_mul])]
