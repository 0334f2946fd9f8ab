/-! walks: sets of things as bits; odds that he knocks at none, what goes first, in what order -/
theorem or_n : ∀ b, b < 256 → ∀ j, j < 8 → nI b ||| ((1 : Int32) <<< (nI j &&& 31)) = nI (b ||| 2 ^ j) := by decide +kernel
theorem an_n : ∀ b, b < 256 → ∀ j, j < 8 → nI b &&& (((1 : Int32) <<< (nI j &&& 31)) ^^^ (-1 : Int32)) = nI (b &&& (255 ^^^ 2 ^ j)) := by decide +kernel
theorem tb_n : ∀ b, b < 256 → ∀ j, j < 8 → ((nI b >>> (nI j &&& 31)) &&& (1 : Int32)) = nI (b.testBit j).toNat := by decide +kernel
theorem or_lt {b j : Nat} (hb : b < 256) (hj : j < 8) : b ||| 2 ^ j < 256 := Nat.or_lt_two_pow (n := 8) hb (Nat.pow_lt_pow_right (by decide) hj)
theorem an_lt {b m : Nat} (hb : b < 256) : b &&& m < 256 := by
  rw [Nat.and_comm]
  exact Nat.and_lt_two_pow (n := 8) m hb
theorem or_tb (b : Nat) {i j : Nat} : (b ||| 2 ^ j).testBit i = (b.testBit i || decide (j = i)) := by rw [Nat.testBit_or, Nat.testBit_two_pow]
theorem an_tb0 : ∀ i, i < 8 → ∀ j, j < 8 → (255 ^^^ 2 ^ j).testBit i = !decide (j = i) := by decide +kernel
theorem an_tb (b : Nat) {i j : Nat} (hi : i < 8) (hj : j < 8) : (b &&& (255 ^^^ 2 ^ j)).testBit i = (b.testBit i && !decide (j = i)) := by rw [Nat.testBit_and, an_tb0 i hi j hj]
/-- whether thing i stands on the way from f to t -/
def ow (q : Nat → Nat) (f t i : Nat) : Bool := decide (i < q 63) && decide ((if t ≤ f then t else f) ≤ q (32 + i)) && decide (q (32 + i) ≤ (if t ≤ f then f else t))
def mis (q : Nat → Nat) (i : Nat) : Nat := 100 - q (48 + i) * (if q (40 + i) = 1 then 10 else 10 - q 61)
/-- the product over those of the first n that are in p -/
def pr (q : Nat → Nat) (p : Nat → Bool) : Nat → Nat
  | 0 => 1
  | n + 1 => if p n then pr q p n * mis q n else pr q p n
def rm (p : Nat → Bool) (i : Nat) : Nat → Bool := fun j => p j && !decide (i = j)
/-- the first of those without which it is greatest, among the first n -/
def fi (q : Nat → Nat) (p : Nat → Bool) (T : Nat) : Nat → Option (Nat × Nat)
  | 0 => none
  | n + 1 => if p n then (match fi q p T n with
      | none => some (n, pr q (rm p n) T)
      | some (b, s) => if s < pr q (rm p n) T then some (n, pr q (rm p n) T) else some (b, s)) else fi q p T n
theorem pr_cong {q : Nat → Nat} {p p' : Nat → Bool} : ∀ n, (∀ i, i < n → p i = p' i) → pr q p n = pr q p' n := by
  intro n
  induction n with
  | zero => intro _; rfl
  | succ n ih =>
    intro h
    show (if p n then _ else _) = (if p' n then _ else _)
    rw [h n (by omega), ih (fun i hi => h i (by omega))]
theorem fi_cong {q : Nat → Nat} {p p' : Nat → Bool} {T : Nat} (h : ∀ i, i < T → p i = p' i) : ∀ n, n ≤ T → fi q p T n = fi q p' T n := by
  intro n
  induction n with
  | zero => intro _; rfl
  | succ n ih =>
    intro hn
    have e : pr q (rm p n) T = pr q (rm p' n) T := pr_cong T (fun i hi => by unfold rm; rw [h i hi])
    unfold fi
    rw [h n (by omega), ih (by omega), e]
theorem mis_le (q : Nat → Nat) (i : Nat) : mis q i ≤ 100 := by
  unfold mis
  omega
theorem pr_le (q : Nat → Nat) (p : Nat → Bool) : ∀ n, n ≤ 8 → pr q p n ≤ 100 ^ n := by
  intro n
  induction n with
  | zero => intro _; exact Nat.le_refl _
  | succ n ih =>
    intro hn
    show (if p n then _ else _) ≤ _
    have := ih (by omega)
    split
    · rw [Nat.pow_succ]
      exact Nat.mul_le_mul this (mis_le q n)
    · exact Nat.le_trans this (Nat.pow_le_pow_right (by decide) (by omega))
theorem pr_big (q : Nat → Nat) (p : Nat → Bool) {n : Nat} (hn : n ≤ 8) : pr q p n < 9223372036854775808 :=
  Nat.lt_of_le_of_lt (Nat.le_trans (pr_le q p n hn) (Nat.pow_le_pow_right (show 0 < 100 by decide) hn)) (by decide)
theorem fi_lt {q : Nat → Nat} {p : Nat → Bool} {T : Nat} : ∀ n, ∀ b s, fi q p T n = some (b, s) → b < n ∧ p b = true ∧ s = pr q (rm p b) T := by
  intro n
  induction n with
  | zero => intro b s h; cases h
  | succ n ih =>
    intro b s h
    unfold fi at h
    by_cases z : p n = true
    · rw [if_pos z] at h
      cases e : fi q p T n with
      | none =>
        rw [e] at h
        cases h
        exact ⟨by omega, z, rfl⟩
      | some x =>
        obtain ⟨b', s'⟩ := x
        rw [e] at h
        dsimp only at h
        have := ih b' s' e
        by_cases y : s' < pr q (rm p n) T
        · rw [if_pos y] at h
          cases h
          exact ⟨by omega, z, rfl⟩
        · rw [if_neg y] at h
          cases h
          exact ⟨by omega, this.2.1, this.2.2⟩
    · rw [if_neg z] at h
      have := ih b s h
      exact ⟨by omega, this.2⟩
/-- how many of the first n are in p -/
def cd (p : Nat → Bool) : Nat → Nat
  | 0 => 0
  | n + 1 => (if p n then 1 else 0) + cd p n
theorem fi_none {q : Nat → Nat} {p : Nat → Bool} {T : Nat} : ∀ n, fi q p T n = none ↔ cd p n = 0 := by
  intro n
  induction n with
  | zero => exact ⟨fun _ => rfl, fun _ => rfl⟩
  | succ n ih =>
    show (if p n then _ else _) = none ↔ (if p n then 1 else 0) + cd p n = 0
    by_cases z : p n = true
    · rw [if_pos z, if_pos z]
      constructor
      · intro h
        cases e : fi q p T n with
        | none => rw [e] at h; cases h
        | some x =>
          rw [e] at h
          dsimp only at h
          split at h <;> cases h
      · intro h; omega
    · rw [if_neg z, if_neg z, Nat.zero_add]
      exact ih
theorem cd_rm {p : Nat → Bool} {b : Nat} (hb : p b = true) : ∀ n, cd (rm p b) n + (if b < n then 1 else 0) = cd p n := by
  intro n
  induction n with
  | zero => rfl
  | succ n ih =>
    show (if rm p b n then 1 else 0) + cd (rm p b) n + _ = (if p n then 1 else 0) + cd p n
    by_cases e : b = n
    · subst e
      rw [if_neg (Nat.lt_irrefl _)] at ih
      have r : rm p b b = false := by unfold rm; simp
      rw [hb, r, if_neg (show ¬ (false = true) by decide), if_pos (show true = true from rfl), if_pos (show b < b + 1 by omega)]
      omega
    · have e2 : rm p b n = p n := by unfold rm; rw [decide_eq_false e]; simp
      rw [e2]
      by_cases l : b < n
      · rw [if_pos l] at ih
        rw [if_pos (show b < n + 1 by omega)]
        omega
      · rw [if_neg l] at ih
        rw [if_neg (show ¬ b < n + 1 by omega)]
        omega
theorem cd_le (p : Nat → Bool) : ∀ n, cd p n ≤ n := by
  intro n
  induction n with
  | zero => exact Nat.le_refl _
  | succ n ih =>
    show (if p n then 1 else 0) + cd p n ≤ n + 1
    split <;> omega
/-- the k-th in order -/
def ord (q : Nat → Nat) (T : Nat) : Nat → (Nat → Bool) → Option Nat
  | 0, p => (fi q p T T).map Prod.fst
  | k + 1, p => match fi q p T T with
    | none => none
    | some (b, _) => ord q T k (rm p b)
theorem ord_succ {q : Nat → Nat} {T k b s : Nat} {p : Nat → Bool} (e : fi q p T T = some (b, s)) : ord q T (k + 1) p = ord q T k (rm p b) := by
  show (match fi q p T T with
    | none => none
    | some (b, _) => ord q T k (rm p b)) = _
  rw [e]
theorem ord_cong {q : Nat → Nat} {T : Nat} : ∀ k (p p' : Nat → Bool), (∀ i, i < T → p i = p' i) → ord q T k p = ord q T k p' := by
  intro k
  induction k with
  | zero => intro p p' h; unfold ord; rw [fi_cong h T (Nat.le_refl _)]
  | succ k ih =>
    intro p p' h
    unfold ord
    rw [fi_cong h T (Nat.le_refl _)]
    cases e : fi q p' T T with
    | none => rfl
    | some x => exact ih _ _ (fun i hi => by unfold rm; rw [h i hi])
theorem ord_none {q : Nat → Nat} {T : Nat} : ∀ k (p : Nat → Bool), ord q T k p = none ↔ cd p T ≤ k := by
  intro k
  induction k with
  | zero =>
    intro p
    unfold ord
    rw [Option.map_eq_none_iff, fi_none]
    omega
  | succ k ih =>
    intro p
    unfold ord
    cases e : fi q p T T with
    | none =>
      have := (fi_none T).mp e
      exact ⟨fun _ => by omega, fun _ => rfl⟩
    | some x =>
      obtain ⟨b, s⟩ := x
      have h := fi_lt T b s e
      have hc := cd_rm h.2.1 T
      rw [if_pos h.1] at hc
      dsimp only
      rw [ih]
      omega
theorem ord_lt {q : Nat → Nat} {T : Nat} : ∀ k (p : Nat → Bool) b, ord q T k p = some b → b < T := by
  intro k
  induction k with
  | zero =>
    intro p b h
    unfold ord at h
    cases e : fi q p T T with
    | none => rw [e] at h; cases h
    | some x =>
      obtain ⟨b', s'⟩ := x
      rw [e] at h
      have hb : b' = b := Option.some.inj h
      rw [← hb]
      exact (fi_lt T b' s' e).1
  | succ k ih =>
    intro p b h
    unfold ord at h
    cases e : fi q p T T with
    | none => rw [e] at h; cases h
    | some x =>
      rw [e] at h
      exact ih _ b h
