/-! a step heard: what its sums are -/
theorem u1_o {α : Type} (f : Nat → α) {a x : Nat} (v : α) (h : x ≠ a) : u1 f a v x = f x := if_neg h
theorem u1_at {α : Type} (f : Nat → α) (a : Nat) (v : α) : u1 f a v a = v := if_pos rfl
theorem u1_c {α : Type} (f : Nat → α) {a b : Nat} (v w : α) (h : a ≠ b) : u1 (u1 f a v) b w = u1 (u1 f b w) a v := by
  funext x
  unfold u1
  by_cases e : x = a
  · by_cases e2 : x = b
    · exact absurd (e.symm.trans e2) h
    · rw [if_neg e2, if_pos e, if_pos e]
  · rw [if_neg e, if_neg e]
theorem adt_o {f : Nat → Nat} {t v x : Nat} (h : x ≠ t) : adt f t v x = f x := if_neg h
theorem adt_a {f : Nat → Nat} {t v : Nat} : adt f t v t = f t + v := if_pos rfl
theorem sm_cong {f g : Nat → Nat} : ∀ n, (∀ c, c < n → f c = g c) → sm f n = sm g n := by
  intro n
  induction n with
  | zero => intro _; rfl
  | succ n ih =>
    intro h
    show sm f n + f n = sm g n + g n
    rw [ih (fun c hc => h c (by omega)), h n (by omega)]
theorem sm_mono {f g : Nat → Nat} (h : ∀ c, f c ≤ g c) : ∀ n, sm f n ≤ sm g n := by
  intro n
  induction n with
  | zero => exact Nat.le_refl _
  | succ n ih =>
    show sm f n + f n ≤ sm g n + g n
    have := h n
    omega
theorem sm_adt (f : Nat → Nat) {t v : Nat} : ∀ n, t < n → sm (adt f t v) n = sm f n + v := by
  intro n
  induction n with
  | zero => intro h; omega
  | succ n ih =>
    intro h
    show sm (adt f t v) n + adt f t v n = sm f n + f n + v
    by_cases e : t = n
    · subst e
      rw [sm_cong (f := adt f t v) (g := f) t (fun c hc => adt_o (by omega)), adt_a]
      omega
    · rw [ih (by omega), adt_o (by omega)]
      omega
theorem giv_o {L st tw : Nat} {bk : Bool} {od f : Nat → Nat} {c x : Nat} (hL : 2 ≤ L) (hc : c < L) (hx : L ≤ x) : giv L st tw bk od f c x = f x := by
  have h1 := gof_lt (d := 1) hL hc
  have h2 := gof_lt (d := 2) hL hc
  unfold giv
  cases bk
  · simp only [Bool.false_eq_true, ↓reduceIte]
    rw [adt_o (by omega), adt_o (by omega), adt_o (by omega)]
  · simp only [↓reduceIte]
    rw [adt_o (by omega), adt_o (by omega), adt_o (by omega)]
theorem gvs_o {L st tw : Nat} {bk : Bool} {od : Nat → Nat} (hL : 2 ≤ L) : ∀ n, n ≤ L → ∀ x, L ≤ x → gvs L st tw bk od n x = 0 := by
  intro n
  induction n with
  | zero => intro _ x _; rfl
  | succ n ih =>
    intro h x hx
    show giv L st tw bk od (gvs L st tw bk od n) n x = 0
    rw [giv_o hL (by omega) hx]
    exact ih (by omega) x hx
theorem sm_giv {L st tw : Nat} {bk : Bool} {od f : Nat → Nat} {c : Nat} (hL : 2 ≤ L ∧ L ≤ 24) (hc : c < L) (h : st + tw ≤ 10) : sm (giv L st tw bk od f c) 24 = sm f 24 + 10 * od c := by
  have h1 := gof_lt (d := 1) hL.1 hc
  have h2 := gof_lt (d := 2) hL.1 hc
  have e : od c * st + od c * (10 - st - tw) + od c * tw = od c * 10 := by
    rw [← Nat.mul_add, ← Nat.mul_add, show st + (10 - st - tw) + tw = 10 by omega]
  unfold giv
  cases bk
  · simp only [Bool.false_eq_true, ↓reduceIte]
    rw [sm_adt _ _ (by omega), sm_adt _ _ (by omega), sm_adt _ _ (by omega)]
    omega
  · simp only [↓reduceIte]
    rw [sm_adt _ _ (by omega), sm_adt _ _ (by omega), sm_adt _ _ (by omega)]
    omega
theorem sm_gvs {L st tw : Nat} {bk : Bool} {od : Nat → Nat} (hL : 2 ≤ L ∧ L ≤ 24) (h : st + tw ≤ 10) : ∀ n, n ≤ L → sm (gvs L st tw bk od n) 24 = 10 * sm od n := by
  intro n
  induction n with
  | zero => intro _; rfl
  | succ n ih =>
    intro hn
    show sm (giv L st tw bk od (gvs L st tw bk od n) n) 24 = 10 * (sm od n + od n)
    rw [sm_giv hL (by omega) h, ih (by omega)]
    omega
theorem les_le (od : Nat → Nat) (c : Nat) : les od c ≤ od c := by
  unfold les
  split
  · exact Nat.le_refl _
  · exact Nat.div_le_self _ _
theorem les_0 {od : Nat → Nat} {c : Nat} (h : od c = 0) : les od c = 0 := by
  have := les_le od c
  omega
/-- news and steps a step later; the odds -/
def stq (q : Nat → Nat) : Nat → Nat := u1 (u1 q 64 (q 64 + 1)) 65 (q 65 + 1)
def stg (q : Nat → Nat) (bk : Bool) (od : Nat → Nat) : Nat → Nat := gvs (q 56) (q 57) (q 58) bk od (q 56)
def sto (q : Nat → Nat) (bk : Bool) (od : Nat → Nat) : Nat → Nat := les (stg q bk od)
theorem stg_o {q od : Nat → Nat} (hI : Inv q od) (bk : Bool) : ∀ c, q 56 ≤ c → stg q bk od c = 0 := gvs_o hI.1.1 _ (Nat.le_refl _)
theorem Inv.smL {q od : Nat → Nat} (hI : Inv q od) : sm od (q 56) = sm od 24 := by
  have := sm_zero od (L := q 56) hI.od0 (24 - q 56)
  have hL := hI.1
  rw [← this, show q 56 + (24 - q 56) = 24 by omega]
theorem stg_s {q od : Nat → Nat} (hI : Inv q od) (bk : Bool) : sm (stg q bk od) 24 = 10 * sm od 24 := by
  rw [← hI.smL]
  exact sm_gvs hI.1 hI.2.1 _ (Nat.le_refl _)
theorem bnd_of {q od g : Nat → Nat} (hI : Inv q od) (h : ∀ c, q 56 ≤ c → g c = 0) (h2 : sm g 24 ≤ 10 * sm od 24) : ∀ c, g c ≤ 9223372036854775807 := by
  intro c
  have b := hI.big
  have hL := hI.1
  by_cases e : c < 24
  · have := sm_le g 24 e
    omega
  · rw [h c (by omega)]
    omega
theorem Inv.nw {q od od1 : Nat → Nat} (h : Inv q od) (h64 : q 64 ≤ 15) {v : Nat} (hv : v ≤ q 64 + 1) (h1 : ∀ c, q 56 ≤ c → od1 c = 0) (h2 : sm od1 24 ≤ 10 * sm od 24) : Inv (u1 (u1 q 64 (q 64 + 1)) 65 v) od1 := by
  obtain ⟨a1, a2, a3, a4, a5, a6, a7, a8, a9, a10, a11, a12, a13, a14, a15⟩ := h
  have e : ∀ i, i < 64 ∨ 65 < i → u1 (u1 q 64 (q 64 + 1)) 65 v i = q i := fun i hi => by rw [u1_o _ _ (by omega), u1_o _ _ (by omega)]
  have e64 : u1 (u1 q 64 (q 64 + 1)) 65 v 64 = q 64 + 1 := by rw [u1_o _ _ (by decide), u1_at]
  have e65 : u1 (u1 q 64 (q 64 + 1)) 65 v 65 = v := u1_at _ _ _
  refine ⟨by rw [e 56 (by omega)]; exact a1, by rw [e 57 (by omega), e 58 (by omega)]; exact a2, by rw [e 59 (by omega)]; exact a3, by rw [e 60 (by omega)]; exact a4, by rw [e 61 (by omega)]; exact a5, by rw [e 62 (by omega)]; exact a6, by rw [e 63 (by omega)]; exact a7, by rw [e64]; omega, by rw [e64, e65]; omega, by rw [e 66 (by omega), e 56 (by omega)]; exact a10, fun i hi => ?_, fun i hi => ?_, fun i hi => by rw [e i (by omega)]; exact a13 i hi, fun c hc => h1 c (by rw [e 56 (by omega)] at hc; exact hc), ?_⟩
  · rw [e 62 (by omega)] at hi
    rw [e i (by omega), e (8 + i) (by omega), e (16 + i) (by omega), e 56 (by omega)]
    exact a11 i hi
  · rw [e 63 (by omega)] at hi
    rw [e (32 + i) (by omega), e (40 + i) (by omega), e (48 + i) (by omega), e 56 (by omega)]
    exact a12 i hi
  · rw [e64, Nat.pow_succ]
    generalize 10 ^ q 64 = p at *
    omega
theorem Inv.st {q od : Nat → Nat} (h : Inv q od) (h64 : q 64 ≤ 15) (bk : Bool) : Inv (stq q) (sto q bk od) :=
  h.nw h64 (by have := h.2.2.2.2.2.2.2.2.1; omega) (fun c hc => les_0 (stg_o h bk c hc)) (Nat.le_trans (sm_mono (les_le _) 24) (Nat.le_of_eq (stg_s h bk)))
