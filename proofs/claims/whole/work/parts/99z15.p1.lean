/-! the class writes into no cell that was there before (written by kp.py) -/
def PA (A M : Mm) : Prop := 20 ≤ mT M ∧ ∀ o, o < 20 → mK M o = mK A o ∧ mI M o = mI A o
def HA (A : Mm) : Prop := ∀ o, o < 20 → (mK A o).1 = 0 ∨ 30 ≤ (mK A o).1
def KP {α : Type} (A : Mm) (x : Option (α × Mm)) : Prop := ∀ q, x = some q → PA A q.2
def KO (A : Mm) (x : Option Mm) : Prop := ∀ M1, x = some M1 → PA A M1
theorem KPn {α : Type} {A : Mm} : KP A (none : Option (α × Mm)) := fun _ h => by cases h
theorem KOn {A : Mm} : KO A none := fun _ h => by cases h
theorem KPs {α : Type} {A M : Mm} {r : α} (h : PA A M) : KP A (some (r, M)) := fun q e => by cases e; exact h
theorem KOs {A M : Mm} (h : PA A M) : KO A (some M) := fun q e => by cases e; exact h
theorem KPi {α : Type} {A : Mm} {c : Prop} [Decidable c] {a b : Option (α × Mm)} (h1 : KP A a) (h2 : KP A b) : KP A (if c then a else b) := by split <;> assumption
theorem KOi {A : Mm} {c : Prop} [Decidable c] {a b : Option Mm} (h1 : KO A a) (h2 : KO A b) : KO A (if c then a else b) := by split <;> assumption
theorem KPrd {α β : Type} {A : Mm} {x : Option β} {f : β → Option (α × Mm)} (h : ∀ b, KP A (f b)) : KP A (Option.bind x f) := fun q e => by obtain ⟨b, -, e2⟩ := bnd e; exact h b q e2
theorem KOrd {β : Type} {A : Mm} {x : Option β} {f : β → Option Mm} (h : ∀ b, KO A (f b)) : KO A (Option.bind x f) := fun q e => by obtain ⟨b, -, e2⟩ := bnd e; exact h b q e2
theorem KPpm {α : Type} {A : Mm} {x : Option Mm} {f : Mm → Option (α × Mm)} (h : KO A x) (h2 : ∀ M1, PA A M1 → KP A (f M1)) : KP A (Option.bind x f) := fun q e => by obtain ⟨b, e1, e2⟩ := bnd e; exact h2 b (h b e1) q e2
theorem KOpm {A : Mm} {x : Option Mm} {f : Mm → Option Mm} (h : KO A x) (h2 : ∀ M1, PA A M1 → KO A (f M1)) : KO A (Option.bind x f) := fun q e => by obtain ⟨b, e1, e2⟩ := bnd e; exact h2 b (h b e1) q e2
theorem KPpp {α β : Type} {A : Mm} {x : Option (β × Mm)} {f : β × Mm → Option (α × Mm)} (h : KP A x) (h2 : ∀ p, PA A p.2 → KP A (f p)) : KP A (Option.bind x f) := fun q e => by obtain ⟨b, e1, e2⟩ := bnd e; exact h2 b (h b e1) q e2
theorem KOpp {β : Type} {A : Mm} {x : Option (β × Mm)} {f : β × Mm → Option Mm} (h : KP A x) (h2 : ∀ p, PA A p.2 → KO A (f p)) : KO A (Option.bind x f) := fun q e => by obtain ⟨b, e1, e2⟩ := bnd e; exact h2 b (h b e1) q e2
theorem KPel {α β : Type} {A : Mm} {n : Option β} {a : Option (α × Mm)} {f : β → Option (α × Mm)} (h : KP A a) (h2 : ∀ o, KP A (f o)) : KP A (Option.elim n a f) := by cases n with
  | none => exact h
  | some o => exact h2 o
theorem KOel {β : Type} {A : Mm} {n : Option β} {a : Option Mm} {f : β → Option Mm} (h : KO A a) (h2 : ∀ o, KO A (f o)) : KO A (Option.elim n a f) := by cases n with
  | none => exact h
  | some o => exact h2 o
theorem PA.own {A M : Mm} (hA : HA A) (h : PA A M) {o k : Nat} (e : (mK M o).1 = k) (h1 : 1 ≤ k ∧ k < 30) : 20 ≤ o := by
  rcases Nat.lt_or_ge o 20 with q | q
  · have a := (h.2 o q).1
    rw [a] at e
    rcases hA o q with z | z <;> omega
  · exact q
theorem PA.sI {A M : Mm} (h : PA A M) {o : Nat} (ho : 20 ≤ o) (k : Nat) (v : Int32) : PA A (sI M o k v) := ⟨h.1, fun x hx => ⟨(h.2 x hx).1, funext fun j => by rw [mI_sI, if_neg (by omega)]; exact congrFun (h.2 x hx).2 j⟩⟩
theorem PA.sN {A M : Mm} (h : PA A M) (kd n w : Nat) : PA A (sN M kd n w) := by
  have h1 := h.1
  exact ⟨by rw [mT_sN]; omega, fun x hx => ⟨by rw [mK_sN, if_neg (by omega)]; exact (h.2 x hx).1, funext fun j => by rw [mI_sN, if_neg (by omega)]; exact congrFun (h.2 x hx).2 j⟩⟩
theorem kpI {A M : Mm} (hA : HA A) (h : PA A M) {c o k : Nat} {v : Int32} (hc : c < 29) : KO A (pI M c o k v) := fun q e => by
  unfold pI at e
  split at e
  · rename_i z
    cases e
    exact h.sI (h.own hA z ⟨by omega, by omega⟩) _ _
  · cases e
theorem kpZ {A M : Mm} (hA : HA A) (h : PA A M) {c o k : Nat} {v : Int32} (hc : c < 29) : KO A (pZ M c o k v) := fun q e => by
  unfold pZ at e
  split at e
  · rename_i z
    cases e
    exact h.sI (h.own hA z.1 ⟨by omega, by omega⟩) _ _
  · cases e
theorem kpRf {A M : Mm} (h : PA A M) {c o k v : Nat} : KO A (pR M c o k v) := fun q e => by
  unfold pR at e
  split at e
  · cases e
    exact ⟨h.1, h.2⟩
  · cases e
theorem ktI {A M : Mm} (hA : HA A) (h : PA A M) {o : Nat} {i v : Int32} : KO A (tI M o i v) := fun q e => by
  unfold tI at e
  split at e
  · rename_i z
    cases e
    exact h.sI (h.own hA z.1 ⟨by omega, by omega⟩) _ _
  · cases e
theorem ktJ {A M : Mm} (h : PA A M) {o : Nat} {i : Int32} {v : Int64} : KO A (tJ M o i v) := fun q e => by
  unfold tJ at e
  split at e
  · cases e
    exact ⟨h.1, h.2⟩
  · cases e
theorem ktR {A M : Mm} (h : PA A M) {kd c o : Nat} {i : Int32} {v : Option Nat} : KO A (tR M kd c o i v) := fun q e => by
  unfold tR at e
  split at e
  · cases e
    exact ⟨h.1, h.2⟩
  · cases e
theorem kcJ {A M : Mm} (h : PA A M) {a b : Nat} {i j n : Int32} : KO A (cJ M a i b j n) := fun q e => by
  unfold cJ at e
  split at e
  · cases e
    exact ⟨h.1, h.2⟩
  · cases e
theorem knO {A M : Mm} (h : PA A M) {c w : Nat} : KP A (nO M c w) := fun q e => by
  unfold nO at e
  cases e
  exact h.sN _ _ _
theorem knA {A M : Mm} (h : PA A M) {kd : Nat} {n : Int32} : KP A (nA M kd n) := fun q e => by
  unfold nA at e
  split at e
  · cases e
    exact h.sN _ _ _
  · cases e
theorem k_fX0_becomeEven_b2 {A : Mm} (hA : HA A)  : ∀ (n_ : Nat) (v0_ : Nat) (v1_ : Int32) (v2_ : Int32) (M : Mm), PA A M → KO A (fX0_becomeEven_b2  n_ v0_ v1_ v2_ M) := by
  intro n_
  induction n_ with
  | zero => intro v0_ v1_ v2_ M _; exact KOn
  | succ n_ ih =>
    intro v0_ v1_ v2_ M hM
    rw [fX0_becomeEven_b2]
    repeat' first | assumption | with_reducible exact KPn | with_reducible exact KOn | with_reducible apply KPs | with_reducible apply KOs | with_reducible apply ih | with_reducible apply ktJ | with_reducible apply KPi | with_reducible apply KOi | with_reducible apply KPel | with_reducible apply KOel | with_reducible apply KPpm | with_reducible apply KOpm | with_reducible apply KPpp | with_reducible apply KOpp | with_reducible apply KPrd | with_reducible apply KOrd | decide | intro _
theorem k_fX0_becomeEven {A : Mm} (hA : HA A) {a0 : Nat} {x1 : Int32} {M : Mm} (hM : PA A M) : KO A (fX0_becomeEven a0 x1 M) := by
  unfold fX0_becomeEven
  repeat' first | assumption | with_reducible exact KPn | with_reducible exact KOn | with_reducible apply KPs | with_reducible apply KOs | with_reducible apply k_fX0_becomeEven_b2 hA | with_reducible apply KPi | with_reducible apply KOi | with_reducible apply KPel | with_reducible apply KOel | with_reducible apply KPpm | with_reducible apply KOpm | with_reducible apply KPpp | with_reducible apply KOpp | with_reducible apply KPrd | with_reducible apply KOrd | decide | intro _
theorem k_fX8_shelfAt {A : Mm} (hA : HA A) {a0 : Nat} {x1 : Int32} {M : Mm} (hM : PA A M) : KP A (fX8_shelfAt a0 x1 M) := by
  unfold fX8_shelfAt
  repeat' first | assumption | with_reducible exact KPn | with_reducible exact KOn | with_reducible apply KPs | with_reducible apply KOs | with_reducible apply KPi | with_reducible apply KOi | with_reducible apply KPel | with_reducible apply KOel | with_reducible apply KPpm | with_reducible apply KOpm | with_reducible apply KPpp | with_reducible apply KOpp | with_reducible apply KPrd | with_reducible apply KOrd | decide | intro _
theorem k_fX8_refused {A : Mm} (hA : HA A) {a0 : Nat} {x1 : Int32} {M : Mm} (hM : PA A M) : KP A (fX8_refused a0 x1 M) := by
  unfold fX8_refused
  repeat' first | assumption | with_reducible exact KPn | with_reducible exact KOn | with_reducible apply KPs | with_reducible apply KOs | with_reducible apply ktI hA | with_reducible apply KPi | with_reducible apply KOi | with_reducible apply KPel | with_reducible apply KOel | with_reducible apply KPpm | with_reducible apply KOpm | with_reducible apply KPpp | with_reducible apply KOpp | with_reducible apply KPrd | with_reducible apply KOrd | decide | intro _
theorem k_fJ7_fill_d0a16_b6 {A : Mm} (hA : HA A)  : ∀ (n_ : Nat) (v0_ : Nat) (v1_ : Int64) (v2_ : Int32) (v3_ : Int32) (M : Mm), PA A M → KO A (fJ7_fill_d0a16_b6  n_ v0_ v1_ v2_ v3_ M) := by
  intro n_
  induction n_ with
  | zero => intro v0_ v1_ v2_ v3_ M _; exact KOn
  | succ n_ ih =>
    intro v0_ v1_ v2_ v3_ M hM
    rw [fJ7_fill_d0a16_b6]
    repeat' first | assumption | with_reducible exact KPn | with_reducible exact KOn | with_reducible apply KPs | with_reducible apply KOs | with_reducible apply ih | with_reducible apply ktJ | with_reducible apply KPi | with_reducible apply KOi | with_reducible apply KPel | with_reducible apply KOel | with_reducible apply KPpm | with_reducible apply KOpm | with_reducible apply KPpp | with_reducible apply KOpp | with_reducible apply KPrd | with_reducible apply KOrd | decide | intro _
theorem k_fJ7_fill_d0a16 {A : Mm} (hA : HA A) {a0 : Nat} {x1 : Int64} {M : Mm} (hM : PA A M) : KO A (fJ7_fill_d0a16 a0 x1 M) := by
  unfold fJ7_fill_d0a16
  repeat' first | assumption | with_reducible exact KPn | with_reducible exact KOn | with_reducible apply KPs | with_reducible apply KOs | with_reducible apply k_fJ7_fill_d0a16_b6 hA | with_reducible apply KPi | with_reducible apply KOi | with_reducible apply KPel | with_reducible apply KOel | with_reducible apply KPpm | with_reducible apply KOpm | with_reducible apply KPpp | with_reducible apply KOpp | with_reducible apply KPrd | with_reducible apply KOrd | decide | intro _
theorem k_fX3_takeRow {A : Mm} (hA : HA A) {a0 : Nat} {x1 : Int32} {x2 : Int32} {M : Mm} (hM : PA A M) : KO A (fX3_takeRow a0 x1 x2 M) := by
  unfold fX3_takeRow
  repeat' first | assumption | with_reducible exact KPn | with_reducible exact KOn | with_reducible apply KPs | with_reducible apply KOs | with_reducible apply k_fJ7_fill_d0a16 hA | with_reducible apply kpI hA | with_reducible apply KPi | with_reducible apply KOi | with_reducible apply KPel | with_reducible apply KOel | with_reducible apply KPpm | with_reducible apply KOpm | with_reducible apply KPpp | with_reducible apply KOpp | with_reducible apply KPrd | with_reducible apply KOrd | decide | intro _
theorem k_fX8_row {A : Mm} (hA : HA A) {a0 : Nat} {x1 : Int32} {x2 : Int32} {x3 : Int32} {M : Mm} (hM : PA A M) : KP A (fX8_row a0 x1 x2 x3 M) := by
  unfold fX8_row
  repeat' first | assumption | with_reducible exact KPn | with_reducible exact KOn | with_reducible apply KPs | with_reducible apply KOs | with_reducible apply k_fX8_shelfAt hA | with_reducible apply k_fX8_refused hA | with_reducible apply k_fX3_takeRow hA | with_reducible apply KPi | with_reducible apply KOi | with_reducible apply KPel | with_reducible apply KOel | with_reducible apply KPpm | with_reducible apply KOpm | with_reducible apply KPpp | with_reducible apply KOpp | with_reducible apply KPrd | with_reducible apply KOrd | decide | intro _
theorem k_fX3_holdsRow {A : Mm} (hA : HA A) {a0 : Nat} {M : Mm} (hM : PA A M) : KP A (fX3_holdsRow a0 M) := by
  unfold fX3_holdsRow
  repeat' first | assumption | with_reducible exact KPn | with_reducible exact KOn | with_reducible apply KPs | with_reducible apply KOs | with_reducible apply KPi | with_reducible apply KOi | with_reducible apply KPel | with_reducible apply KOel | with_reducible apply KPpm | with_reducible apply KOpm | with_reducible apply KPpp | with_reducible apply KOpp | with_reducible apply KPrd | with_reducible apply KOrd | decide | intro _
theorem k_fX8_rowTrouble {A : Mm} (hA : HA A) {a0 : Option Nat} {M : Mm} (hM : PA A M) : KP A (fX8_rowTrouble a0 M) := by
  unfold fX8_rowTrouble
  repeat' first | assumption | with_reducible exact KPn | with_reducible exact KOn | with_reducible apply KPs | with_reducible apply KOs | with_reducible apply k_fX3_holdsRow hA | with_reducible apply KPi | with_reducible apply KOi | with_reducible apply KPel | with_reducible apply KOel | with_reducible apply KPpm | with_reducible apply KOpm | with_reducible apply KPpp | with_reducible apply KOpp | with_reducible apply KPrd | with_reducible apply KOrd | decide | intro _
theorem k_fX3_hasRun {A : Mm} (hA : HA A) {a0 : Nat} {x1 : Int32} {x2 : Int32} {M : Mm} (hM : PA A M) : KP A (fX3_hasRun a0 x1 x2 M) := by
  unfold fX3_hasRun
  repeat' first | assumption | with_reducible exact KPn | with_reducible exact KOn | with_reducible apply KPs | with_reducible apply KOs | with_reducible apply KPi | with_reducible apply KOi | with_reducible apply KPel | with_reducible apply KOel | with_reducible apply KPpm | with_reducible apply KOpm | with_reducible apply KPpp | with_reducible apply KOpp | with_reducible apply KPrd | with_reducible apply KOrd | decide | intro _
theorem k_fX3_lowestBits {A : Mm} (hA : HA A) {a0 : Nat} {x1 : Int64} {M : Mm} (hM : PA A M) : KP A (fX3_lowestBits a0 x1 M) := by
  unfold fX3_lowestBits
  repeat' first | assumption | with_reducible exact KPn | with_reducible exact KOn | with_reducible apply KPs | with_reducible apply KOs | with_reducible apply KPi | with_reducible apply KOi | with_reducible apply KPel | with_reducible apply KOel | with_reducible apply KPpm | with_reducible apply KOpm | with_reducible apply KPpp | with_reducible apply KOpp | with_reducible apply KPrd | with_reducible apply KOrd | decide | intro _
theorem k_fX3_put {A : Mm} (hA : HA A) {a0 : Nat} {x1 : Int32} {x2 : Int64} {M : Mm} (hM : PA A M) : KO A (fX3_put a0 x1 x2 M) := by
  unfold fX3_put
  repeat' first | assumption | with_reducible exact KPn | with_reducible exact KOn | with_reducible apply KPs | with_reducible apply KOs | with_reducible apply k_fX3_lowestBits hA | with_reducible apply ktJ | with_reducible apply KPi | with_reducible apply KOi | with_reducible apply KPel | with_reducible apply KOel | with_reducible apply KPpm | with_reducible apply KOpm | with_reducible apply KPpp | with_reducible apply KOpp | with_reducible apply KPrd | with_reducible apply KOrd | decide | intro _
theorem k_fX8_set {A : Mm} (hA : HA A) {a0 : Nat} {x1 : Int32} {x2 : Int32} {x3 : Int64} {M : Mm} (hM : PA A M) : KP A (fX8_set a0 x1 x2 x3 M) := by
  unfold fX8_set
  repeat' first | assumption | with_reducible exact KPn | with_reducible exact KOn | with_reducible apply KPs | with_reducible apply KOs | with_reducible apply k_fX8_shelfAt hA | with_reducible apply k_fX8_rowTrouble hA | with_reducible apply k_fX8_refused hA | with_reducible apply k_fX3_hasRun hA | with_reducible apply k_fX3_put hA | with_reducible apply KPi | with_reducible apply KOi | with_reducible apply KPel | with_reducible apply KOel | with_reducible apply KPpm | with_reducible apply KOpm | with_reducible apply KPpp | with_reducible apply KOpp | with_reducible apply KPrd | with_reducible apply KOrd | decide | intro _
theorem k_fX8_pairTrouble {A : Mm} (hA : HA A) {a0 : Option Nat} {a1 : Option Nat} {M : Mm} (hM : PA A M) : KP A (fX8_pairTrouble a0 a1 M) := by
  unfold fX8_pairTrouble
  repeat' first | assumption | with_reducible exact KPn | with_reducible exact KOn | with_reducible apply KPs | with_reducible apply KOs | with_reducible apply k_fX8_rowTrouble hA | with_reducible apply KPi | with_reducible apply KOi | with_reducible apply KPel | with_reducible apply KOel | with_reducible apply KPpm | with_reducible apply KOpm | with_reducible apply KPpp | with_reducible apply KOpp | with_reducible apply KPrd | with_reducible apply KOrd | decide | intro _
theorem k_fX8_copy {A : Mm} (hA : HA A) {a0 : Nat} {x1 : Int32} {x2 : Int32} {x3 : Int32} {x4 : Int32} {x5 : Int32} {M : Mm} (hM : PA A M) : KP A (fX8_copy a0 x1 x2 x3 x4 x5 M) := by
  unfold fX8_copy
  repeat' first | assumption | with_reducible exact KPn | with_reducible exact KOn | with_reducible apply KPs | with_reducible apply KOs | with_reducible apply k_fX8_shelfAt hA | with_reducible apply k_fX8_pairTrouble hA | with_reducible apply k_fX8_refused hA | with_reducible apply k_fX3_hasRun hA | with_reducible apply kcJ | with_reducible apply KPi | with_reducible apply KOi | with_reducible apply KPel | with_reducible apply KOel | with_reducible apply KPpm | with_reducible apply KOpm | with_reducible apply KPpp | with_reducible apply KOpp | with_reducible apply KPrd | with_reducible apply KOrd | decide | intro _
theorem k_fX3_valueAt {A : Mm} (hA : HA A) {a0 : Nat} {x1 : Int32} {M : Mm} (hM : PA A M) : KP A (fX3_valueAt a0 x1 M) := by
  unfold fX3_valueAt
  repeat' first | assumption | with_reducible exact KPn | with_reducible exact KOn | with_reducible apply KPs | with_reducible apply KOs | with_reducible apply KPi | with_reducible apply KOi | with_reducible apply KPel | with_reducible apply KOel | with_reducible apply KPpm | with_reducible apply KOpm | with_reducible apply KPpp | with_reducible apply KOpp | with_reducible apply KPrd | with_reducible apply KOrd | decide | intro _
theorem k_fX8_element {A : Mm} (hA : HA A) {a0 : Nat} {x1 : Int32} {x2 : Int32} {M : Mm} (hM : PA A M) : KP A (fX8_element a0 x1 x2 M) := by
  unfold fX8_element
  repeat' first | assumption | with_reducible exact KPn | with_reducible exact KOn | with_reducible apply KPs | with_reducible apply KOs | with_reducible apply k_fX8_shelfAt hA | with_reducible apply k_fX3_valueAt hA | with_reducible apply KPi | with_reducible apply KOi | with_reducible apply KPel | with_reducible apply KOel | with_reducible apply KPpm | with_reducible apply KOpm | with_reducible apply KPpp | with_reducible apply KOpp | with_reducible apply KPrd | with_reducible apply KOrd | decide | intro _
theorem k_fX5_signAt {A : Mm} (hA : HA A) {a0 : Nat} {x1 : Int32} {M : Mm} (hM : PA A M) : KP A (fX5_signAt a0 x1 M) := by
  unfold fX5_signAt
  repeat' first | assumption | with_reducible exact KPn | with_reducible exact KOn | with_reducible apply KPs | with_reducible apply KOs | with_reducible apply KPi | with_reducible apply KOi | with_reducible apply KPel | with_reducible apply KOel | with_reducible apply KPpm | with_reducible apply KOpm | with_reducible apply KPpp | with_reducible apply KOpp | with_reducible apply KPrd | with_reducible apply KOrd | decide | intro _
theorem k_fX3_takeSign {A : Mm} (hA : HA A) {a0 : Nat} {x1 : Int32} {M : Mm} (hM : PA A M) : KO A (fX3_takeSign a0 x1 M) := by
  unfold fX3_takeSign
  repeat' first | assumption | with_reducible exact KPn | with_reducible exact KOn | with_reducible apply KPs | with_reducible apply KOs | with_reducible apply kpI hA | with_reducible apply KPi | with_reducible apply KOi | with_reducible apply KPel | with_reducible apply KOel | with_reducible apply KPpm | with_reducible apply KOpm | with_reducible apply KPpp | with_reducible apply KOpp | with_reducible apply KPrd | with_reducible apply KOrd | decide | intro _
theorem k_fX8_show_b32 {A : Mm} (hA : HA A) {x2 : Int32} {a3 : Nat} {M : Mm} (hM : PA A M) : KP A (fX8_show_b32 x2 a3 M) := by
  unfold fX8_show_b32
  repeat' first | assumption | with_reducible exact KPn | with_reducible exact KOn | with_reducible apply KPs | with_reducible apply KOs | with_reducible apply k_fX3_takeSign hA | with_reducible apply KPi | with_reducible apply KOi | with_reducible apply KPel | with_reducible apply KOel | with_reducible apply KPpm | with_reducible apply KOpm | with_reducible apply KPpp | with_reducible apply KOpp | with_reducible apply KPrd | with_reducible apply KOrd | decide | intro _
theorem k_fX8_show {A : Mm} (hA : HA A) {a0 : Nat} {x1 : Int32} {x2 : Int32} {M : Mm} (hM : PA A M) : KP A (fX8_show a0 x1 x2 M) := by
  unfold fX8_show
  repeat' first | assumption | with_reducible exact KPn | with_reducible exact KOn | with_reducible apply KPs | with_reducible apply KOs | with_reducible apply k_fX8_shelfAt hA | with_reducible apply k_fX8_refused hA | with_reducible apply k_fX8_show_b32 hA | with_reducible apply k_fX5_signAt hA | with_reducible apply KPi | with_reducible apply KOi | with_reducible apply KPel | with_reducible apply KOel | with_reducible apply KPpm | with_reducible apply KOpm | with_reducible apply KPpp | with_reducible apply KOpp | with_reducible apply KPrd | with_reducible apply KOrd | decide | intro _
theorem k_fX8_holds {A : Mm} (hA : HA A) {a0 : Nat} {x1 : Int32} {M : Mm} (hM : PA A M) : KP A (fX8_holds a0 x1 M) := by
  unfold fX8_holds
  repeat' first | assumption | with_reducible exact KPn | with_reducible exact KOn | with_reducible apply KPs | with_reducible apply KOs | with_reducible apply k_fX8_shelfAt hA | with_reducible apply KPi | with_reducible apply KOi | with_reducible apply KPel | with_reducible apply KOel | with_reducible apply KPpm | with_reducible apply KOpm | with_reducible apply KPpp | with_reducible apply KOpp | with_reducible apply KPrd | with_reducible apply KOrd | decide | intro _
theorem k_fX4_isOf_b7 {A : Mm} (hA : HA A)  : ∀ (n_ : Nat) (v0_ : Int32) (v1_ : Int32) (v2_ : Int32) (M : Mm), PA A M → KP A (fX4_isOf_b7  n_ v0_ v1_ v2_ M) := by
  intro n_
  induction n_ with
  | zero => intro v0_ v1_ v2_ M _; exact KPn
  | succ n_ ih =>
    intro v0_ v1_ v2_ M hM
    rw [fX4_isOf_b7]
    repeat' first | assumption | with_reducible exact KPn | with_reducible exact KOn | with_reducible apply KPs | with_reducible apply KOs | with_reducible apply ih | with_reducible apply KPi | with_reducible apply KOi | with_reducible apply KPel | with_reducible apply KOel | with_reducible apply KPpm | with_reducible apply KOpm | with_reducible apply KPpp | with_reducible apply KOpp | with_reducible apply KPrd | with_reducible apply KOrd | decide | intro _
theorem k_fX4_isOf {A : Mm} (hA : HA A) {a0 : Nat} {x1 : Int32} {M : Mm} (hM : PA A M) : KP A (fX4_isOf a0 x1 M) := by
  unfold fX4_isOf
  repeat' first | assumption | with_reducible exact KPn | with_reducible exact KOn | with_reducible apply KPs | with_reducible apply KOs | with_reducible apply k_fX4_isOf_b7 hA | with_reducible apply KPi | with_reducible apply KOi | with_reducible apply KPel | with_reducible apply KOel | with_reducible apply KPpm | with_reducible apply KOpm | with_reducible apply KPpp | with_reducible apply KOpp | with_reducible apply KPrd | with_reducible apply KOrd | decide | intro _
theorem k_fX5_loudness {A : Mm} (hA : HA A) {a0 : Nat} {x1 : Int32} {M : Mm} (hM : PA A M) : KP A (fX5_loudness a0 x1 M) := by
  unfold fX5_loudness
  repeat' first | assumption | with_reducible exact KPn | with_reducible exact KOn | with_reducible apply KPs | with_reducible apply KOs | with_reducible apply KPi | with_reducible apply KOi | with_reducible apply KPel | with_reducible apply KOel | with_reducible apply KPpm | with_reducible apply KOpm | with_reducible apply KPpp | with_reducible apply KOpp | with_reducible apply KPrd | with_reducible apply KOrd | decide | intro _
theorem k_fX5_otherCellOf {A : Mm} (hA : HA A) {a0 : Nat} {a1 : Nat} {M : Mm} (hM : PA A M) : KP A (fX5_otherCellOf a0 a1 M) := by
  unfold fX5_otherCellOf
  repeat' first | assumption | with_reducible exact KPn | with_reducible exact KOn | with_reducible apply KPs | with_reducible apply KOs | with_reducible apply KPi | with_reducible apply KOi | with_reducible apply KPel | with_reducible apply KOel | with_reducible apply KPpm | with_reducible apply KOpm | with_reducible apply KPpp | with_reducible apply KOpp | with_reducible apply KPrd | with_reducible apply KOrd | decide | intro _
theorem k_fX5_tenthsOf_b16 {A : Mm} (hA : HA A) {a0 : Nat} {a1 : Nat} {x2 : Int32} {s0 : Int32} {M : Mm} (hM : PA A M) : KP A (fX5_tenthsOf_b16 a0 a1 x2 s0 M) := by
  unfold fX5_tenthsOf_b16
  repeat' first | assumption | with_reducible exact KPn | with_reducible exact KOn | with_reducible apply KPs | with_reducible apply KOs | with_reducible apply k_fX5_loudness hA | with_reducible apply k_fX5_otherCellOf hA | with_reducible apply KPi | with_reducible apply KOi | with_reducible apply KPel | with_reducible apply KOel | with_reducible apply KPpm | with_reducible apply KOpm | with_reducible apply KPpp | with_reducible apply KOpp | with_reducible apply KPrd | with_reducible apply KOrd | decide | intro _
theorem k_fX5_tenthsOf {A : Mm} (hA : HA A) {a0 : Nat} {a1 : Nat} {x2 : Int32} {M : Mm} (hM : PA A M) : KP A (fX5_tenthsOf a0 a1 x2 M) := by
  unfold fX5_tenthsOf
  repeat' first | assumption | with_reducible exact KPn | with_reducible exact KOn | with_reducible apply KPs | with_reducible apply KOs | with_reducible apply k_fX5_tenthsOf_b16 hA | with_reducible apply KPi | with_reducible apply KOi | with_reducible apply KPel | with_reducible apply KOel | with_reducible apply KPpm | with_reducible apply KOpm | with_reducible apply KPpp | with_reducible apply KOpp | with_reducible apply KPrd | with_reducible apply KOrd | decide | intro _
theorem k_fJ6_bitCount_0f7a4 {A : Mm} (hA : HA A) {x0 : Int32} {M : Mm} (hM : PA A M) : KP A (fJ6_bitCount_0f7a4 x0 M) := by
  unfold fJ6_bitCount_0f7a4
  repeat' first | assumption | with_reducible exact KPn | with_reducible exact KOn | with_reducible apply KPs | with_reducible apply KOs | with_reducible apply KPi | with_reducible apply KOi | with_reducible apply KPel | with_reducible apply KOel | with_reducible apply KPpm | with_reducible apply KOpm | with_reducible apply KPpp | with_reducible apply KOpp | with_reducible apply KPrd | with_reducible apply KOrd | decide | intro _
theorem k_fX5_saidBy {A : Mm} (hA : HA A) {a0 : Nat} {a1 : Nat} {x2 : Int32} {M : Mm} (hM : PA A M) : KP A (fX5_saidBy a0 a1 x2 M) := by
  unfold fX5_saidBy
  repeat' first | assumption | with_reducible exact KPn | with_reducible exact KOn | with_reducible apply KPs | with_reducible apply KOs | with_reducible apply k_fX5_tenthsOf hA | with_reducible apply k_fJ6_bitCount_0f7a4 hA | with_reducible apply k_fX5_otherCellOf hA | with_reducible apply KPi | with_reducible apply KOi | with_reducible apply KPel | with_reducible apply KOel | with_reducible apply KPpm | with_reducible apply KOpm | with_reducible apply KPpp | with_reducible apply KOpp | with_reducible apply KPrd | with_reducible apply KOrd | decide | intro _
theorem k_fX8_says {A : Mm} (hA : HA A) {a0 : Nat} {x1 : Int32} {x2 : Int32} {M : Mm} (hM : PA A M) : KP A (fX8_says a0 x1 x2 M) := by
  unfold fX8_says
  repeat' first | assumption | with_reducible exact KPn | with_reducible exact KOn | with_reducible apply KPs | with_reducible apply KOs | with_reducible apply k_fX8_shelfAt hA | with_reducible apply k_fX8_refused hA | with_reducible apply k_fX5_signAt hA | with_reducible apply k_fX4_isOf hA | with_reducible apply k_fX5_saidBy hA | with_reducible apply KPi | with_reducible apply KOi | with_reducible apply KPel | with_reducible apply KOel | with_reducible apply KPpm | with_reducible apply KOpm | with_reducible apply KPpp | with_reducible apply KOpp | with_reducible apply KPrd | with_reducible apply KOrd | decide | intro _
theorem k_fX5_knowNothing {A : Mm} (hA : HA A) {a0 : Nat} {M : Mm} (hM : PA A M) : KO A (fX5_knowNothing a0 M) := by
  unfold fX5_knowNothing
  repeat' first | assumption | with_reducible exact KPn | with_reducible exact KOn | with_reducible apply KPs | with_reducible apply KOs | with_reducible apply k_fX0_becomeEven hA | with_reducible apply kpI hA | with_reducible apply KPi | with_reducible apply KOi | with_reducible apply KPel | with_reducible apply KOel | with_reducible apply KPpm | with_reducible apply KOpm | with_reducible apply KPpp | with_reducible apply KOpp | with_reducible apply KPrd | with_reducible apply KOrd | decide | intro _
theorem k_fX5_tellLength {A : Mm} (hA : HA A) {a0 : Nat} {x1 : Int32} {M : Mm} (hM : PA A M) : KO A (fX5_tellLength a0 x1 M) := by
  unfold fX5_tellLength
  repeat' first | assumption | with_reducible exact KPn | with_reducible exact KOn | with_reducible apply KPs | with_reducible apply KOs | with_reducible apply k_fX5_knowNothing hA | with_reducible apply kpI hA | with_reducible apply KPi | with_reducible apply KOi | with_reducible apply KPel | with_reducible apply KOel | with_reducible apply KPpm | with_reducible apply KOpm | with_reducible apply KPpp | with_reducible apply KOpp | with_reducible apply KPrd | with_reducible apply KOrd | decide | intro _
theorem k_fX8_dropSignsFrom_b2 {A : Mm} (hA : HA A)  : ∀ (n_ : Nat) (v0_ : Nat) (v1_ : Int32) (v2_ : Int32) (M : Mm), PA A M → KO A (fX8_dropSignsFrom_b2  n_ v0_ v1_ v2_ M) := by
  intro n_
  induction n_ with
  | zero => intro v0_ v1_ v2_ M _; exact KOn
  | succ n_ ih =>
    intro v0_ v1_ v2_ M hM
    rw [fX8_dropSignsFrom_b2]
    repeat' first | assumption | with_reducible exact KPn | with_reducible exact KOn | with_reducible apply KPs | with_reducible apply KOs | with_reducible apply k_fX3_holdsRow hA | with_reducible apply k_fX3_takeSign hA | with_reducible apply ih | with_reducible apply KPi | with_reducible apply KOi | with_reducible apply KPel | with_reducible apply KOel | with_reducible apply KPpm | with_reducible apply KOpm | with_reducible apply KPpp | with_reducible apply KOpp | with_reducible apply KPrd | with_reducible apply KOrd | decide | intro _
theorem k_fX8_dropSignsFrom {A : Mm} (hA : HA A) {a0 : Nat} {x1 : Int32} {M : Mm} (hM : PA A M) : KO A (fX8_dropSignsFrom a0 x1 M) := by
  unfold fX8_dropSignsFrom
  repeat' first | assumption | with_reducible exact KPn | with_reducible exact KOn | with_reducible apply KPs | with_reducible apply KOs | with_reducible apply k_fX8_dropSignsFrom_b2 hA | with_reducible apply KPi | with_reducible apply KOi | with_reducible apply KPel | with_reducible apply KOel | with_reducible apply KPpm | with_reducible apply KOpm | with_reducible apply KPpp | with_reducible apply KOpp | with_reducible apply KPrd | with_reducible apply KOrd | decide | intro _
theorem k_fX8_street {A : Mm} (hA : HA A) {a0 : Nat} {x1 : Int32} {M : Mm} (hM : PA A M) : KP A (fX8_street a0 x1 M) := by
  unfold fX8_street
  repeat' first | assumption | with_reducible exact KPn | with_reducible exact KOn | with_reducible apply KPs | with_reducible apply KOs | with_reducible apply k_fX8_refused hA | with_reducible apply k_fX5_tellLength hA | with_reducible apply k_fX8_dropSignsFrom hA | with_reducible apply KPi | with_reducible apply KOi | with_reducible apply KPel | with_reducible apply KOel | with_reducible apply KPpm | with_reducible apply KOpm | with_reducible apply KPpp | with_reducible apply KOpp | with_reducible apply KPrd | with_reducible apply KOrd | decide | intro _
theorem k_fX5_hasCell {A : Mm} (hA : HA A) {a0 : Nat} {x1 : Int32} {M : Mm} (hM : PA A M) : KP A (fX5_hasCell a0 x1 M) := by
  unfold fX5_hasCell
  repeat' first | assumption | with_reducible exact KPn | with_reducible exact KOn | with_reducible apply KPs | with_reducible apply KOs | with_reducible apply KPi | with_reducible apply KOi | with_reducible apply KPel | with_reducible apply KOel | with_reducible apply KPpm | with_reducible apply KOpm | with_reducible apply KPpp | with_reducible apply KOpp | with_reducible apply KPrd | with_reducible apply KOrd | decide | intro _
theorem k_fX5_hasRoomForSign {A : Mm} (hA : HA A) {a0 : Nat} {M : Mm} (hM : PA A M) : KP A (fX5_hasRoomForSign a0 M) := by
  unfold fX5_hasRoomForSign
  repeat' first | assumption | with_reducible exact KPn | with_reducible exact KOn | with_reducible apply KPs | with_reducible apply KOs | with_reducible apply KPi | with_reducible apply KOi | with_reducible apply KPel | with_reducible apply KOel | with_reducible apply KPpm | with_reducible apply KOpm | with_reducible apply KPpp | with_reducible apply KOpp | with_reducible apply KPrd | with_reducible apply KOrd | decide | intro _
theorem k_fX4_init {A : Mm} (hA : HA A) {a0 : Nat} {x1 : Int32} {x2 : Int32} {x3 : Int32} {x4 : Int32} {x5 : Int32} {M : Mm} (hM : PA A M) : KO A (fX4_init a0 x1 x2 x3 x4 x5 M) := by
  unfold fX4_init
  repeat' first | assumption | with_reducible exact KPn | with_reducible exact KOn | with_reducible apply KPs | with_reducible apply KOs | with_reducible apply kpI hA | with_reducible apply KPi | with_reducible apply KOi | with_reducible apply KPel | with_reducible apply KOel | with_reducible apply KPpm | with_reducible apply KOpm | with_reducible apply KPpp | with_reducible apply KOpp | with_reducible apply KPrd | with_reducible apply KOrd | decide | intro _
theorem k_fX5_addSign {A : Mm} (hA : HA A) {a0 : Nat} {x1 : Int32} {x2 : Int32} {x3 : Int32} {x4 : Int32} {M : Mm} (hM : PA A M) : KP A (fX5_addSign a0 x1 x2 x3 x4 M) := by
  unfold fX5_addSign
  repeat' first | assumption | with_reducible exact KPn | with_reducible exact KOn | with_reducible apply KPs | with_reducible apply KOs | with_reducible apply k_fX4_init hA | with_reducible apply kpI hA | with_reducible apply ktR | with_reducible apply knO | with_reducible apply KPi | with_reducible apply KOi | with_reducible apply KPel | with_reducible apply KOel | with_reducible apply KPpm | with_reducible apply KOpm | with_reducible apply KPpp | with_reducible apply KOpp | with_reducible apply KPrd | with_reducible apply KOrd | decide | intro _
theorem k_fX8_sign {A : Mm} (hA : HA A) {a0 : Nat} {x1 : Int32} {x2 : Int32} {x3 : Int32} {x4 : Int32} {M : Mm} (hM : PA A M) : KP A (fX8_sign a0 x1 x2 x3 x4 M) := by
  unfold fX8_sign
  repeat' first | assumption | with_reducible exact KPn | with_reducible exact KOn | with_reducible apply KPs | with_reducible apply KOs | with_reducible apply k_fX8_refused hA | with_reducible apply k_fX5_hasCell hA | with_reducible apply k_fX5_hasRoomForSign hA | with_reducible apply k_fX5_addSign hA | with_reducible apply KPi | with_reducible apply KOi | with_reducible apply KPel | with_reducible apply KOel | with_reducible apply KPpm | with_reducible apply KOpm | with_reducible apply KPpp | with_reducible apply KOpp | with_reducible apply KPrd | with_reducible apply KOrd | decide | intro _
theorem k_fX5_hasRoomForThing {A : Mm} (hA : HA A) {a0 : Nat} {M : Mm} (hM : PA A M) : KP A (fX5_hasRoomForThing a0 M) := by
  unfold fX5_hasRoomForThing
  repeat' first | assumption | with_reducible exact KPn | with_reducible exact KOn | with_reducible apply KPs | with_reducible apply KOs | with_reducible apply KPi | with_reducible apply KOi | with_reducible apply KPel | with_reducible apply KOel | with_reducible apply KPpm | with_reducible apply KOpm | with_reducible apply KPpp | with_reducible apply KOpp | with_reducible apply KPrd | with_reducible apply KOrd | decide | intro _
theorem k_fX6_init {A : Mm} (hA : HA A) {a0 : Nat} {x1 : Int32} {x2 : Int32} {x3 : Int32} {M : Mm} (hM : PA A M) : KO A (fX6_init a0 x1 x2 x3 M) := by
  unfold fX6_init
  repeat' first | assumption | with_reducible exact KPn | with_reducible exact KOn | with_reducible apply KPs | with_reducible apply KOs | with_reducible apply kpI hA | with_reducible apply kpZ hA | with_reducible apply KPi | with_reducible apply KOi | with_reducible apply KPel | with_reducible apply KOel | with_reducible apply KPpm | with_reducible apply KOpm | with_reducible apply KPpp | with_reducible apply KOpp | with_reducible apply KPrd | with_reducible apply KOrd | decide | intro _
theorem k_fX5_addThing {A : Mm} (hA : HA A) {a0 : Nat} {x1 : Int32} {x2 : Int32} {x3 : Int32} {M : Mm} (hM : PA A M) : KP A (fX5_addThing a0 x1 x2 x3 M) := by
  unfold fX5_addThing
  repeat' first | assumption | with_reducible exact KPn | with_reducible exact KOn | with_reducible apply KPs | with_reducible apply KOs | with_reducible apply k_fX6_init hA | with_reducible apply kpI hA | with_reducible apply ktR | with_reducible apply knO | with_reducible apply KPi | with_reducible apply KOi | with_reducible apply KPel | with_reducible apply KOel | with_reducible apply KPpm | with_reducible apply KOpm | with_reducible apply KPpp | with_reducible apply KOpp | with_reducible apply KPrd | with_reducible apply KOrd | decide | intro _
theorem k_fX8_thing {A : Mm} (hA : HA A) {a0 : Nat} {x1 : Int32} {x2 : Int32} {x3 : Int32} {M : Mm} (hM : PA A M) : KP A (fX8_thing a0 x1 x2 x3 M) := by
  unfold fX8_thing
  repeat' first | assumption | with_reducible exact KPn | with_reducible exact KOn | with_reducible apply KPs | with_reducible apply KOs | with_reducible apply k_fX5_hasCell hA | with_reducible apply k_fX8_refused hA | with_reducible apply k_fX5_hasRoomForThing hA | with_reducible apply k_fX5_addThing hA | with_reducible apply KPi | with_reducible apply KOi | with_reducible apply KPel | with_reducible apply KOel | with_reducible apply KPpm | with_reducible apply KOpm | with_reducible apply KPpp | with_reducible apply KOpp | with_reducible apply KPrd | with_reducible apply KOrd | decide | intro _
theorem k_fX3_intAt {A : Mm} (hA : HA A) {a0 : Nat} {x1 : Int32} {M : Mm} (hM : PA A M) : KP A (fX3_intAt a0 x1 M) := by
  unfold fX3_intAt
  repeat' first | assumption | with_reducible exact KPn | with_reducible exact KOn | with_reducible apply KPs | with_reducible apply KOs | with_reducible apply KPi | with_reducible apply KOi | with_reducible apply KPel | with_reducible apply KOel | with_reducible apply KPpm | with_reducible apply KOpm | with_reducible apply KPpp | with_reducible apply KOpp | with_reducible apply KPrd | with_reducible apply KOrd | decide | intro _
theorem k_fX8_addThingFrom_b21 {A : Mm} (hA : HA A) {a0 : Nat} {a1 : Nat} {x2 : Int32} {x3 : Int32} {s0 : Int32} {M : Mm} (hM : PA A M) : KP A (fX8_addThingFrom_b21 a0 a1 x2 x3 s0 M) := by
  unfold fX8_addThingFrom_b21
  repeat' first | assumption | with_reducible exact KPn | with_reducible exact KOn | with_reducible apply KPs | with_reducible apply KOs | with_reducible apply k_fX3_intAt hA | with_reducible apply k_fX5_hasCell hA | with_reducible apply k_fX5_hasRoomForThing hA | with_reducible apply k_fX5_addThing hA | with_reducible apply KPi | with_reducible apply KOi | with_reducible apply KPel | with_reducible apply KOel | with_reducible apply KPpm | with_reducible apply KOpm | with_reducible apply KPpp | with_reducible apply KOpp | with_reducible apply KPrd | with_reducible apply KOrd | decide | intro _
theorem k_fX8_addThingFrom {A : Mm} (hA : HA A) {a0 : Nat} {a1 : Nat} {x2 : Int32} {M : Mm} (hM : PA A M) : KP A (fX8_addThingFrom a0 a1 x2 M) := by
  unfold fX8_addThingFrom
  repeat' first | assumption | with_reducible exact KPn | with_reducible exact KOn | with_reducible apply KPs | with_reducible apply KOs | with_reducible apply k_fX3_intAt hA | with_reducible apply k_fX8_addThingFrom_b21 hA | with_reducible apply KPi | with_reducible apply KOi | with_reducible apply KPel | with_reducible apply KOel | with_reducible apply KPpm | with_reducible apply KOpm | with_reducible apply KPpp | with_reducible apply KOpp | with_reducible apply KPrd | with_reducible apply KOrd | decide | intro _
theorem k_fX8_things_b75 {A : Mm} (hA : HA A)  : ∀ (n_ : Nat) (v0_ : Nat) (v1_ : Int32) (v2_ : Int32) (v3_ : Nat) (v4_ : Int32) (M : Mm), PA A M → KP A (fX8_things_b75  n_ v0_ v1_ v2_ v3_ v4_ M) := by
  intro n_
  induction n_ with
  | zero => intro v0_ v1_ v2_ v3_ v4_ M _; exact KPn
  | succ n_ ih =>
    intro v0_ v1_ v2_ v3_ v4_ M hM
    rw [fX8_things_b75]
    repeat' first | assumption | with_reducible exact KPn | with_reducible exact KOn | with_reducible apply KPs | with_reducible apply KOs | with_reducible apply k_fX8_addThingFrom hA | with_reducible apply ih | with_reducible apply KPi | with_reducible apply KOi | with_reducible apply KPel | with_reducible apply KOel | with_reducible apply KPpm | with_reducible apply KOpm | with_reducible apply KPpp | with_reducible apply KOpp | with_reducible apply KPrd | with_reducible apply KOrd | decide | intro _
theorem k_fX8_things {A : Mm} (hA : HA A) {a0 : Nat} {x1 : Int32} {x2 : Int32} {x3 : Int32} {M : Mm} (hM : PA A M) : KP A (fX8_things a0 x1 x2 x3 M) := by
  unfold fX8_things
  repeat' first | assumption | with_reducible exact KPn | with_reducible exact KOn | with_reducible apply KPs | with_reducible apply KOs | with_reducible apply k_fX8_shelfAt hA | with_reducible apply k_fX8_rowTrouble hA | with_reducible apply k_fX8_refused hA | with_reducible apply k_fX3_hasRun hA | with_reducible apply k_fX8_things_b75 hA | with_reducible apply KPi | with_reducible apply KOi | with_reducible apply KPel | with_reducible apply KOel | with_reducible apply KPpm | with_reducible apply KOpm | with_reducible apply KPpp | with_reducible apply KOpp | with_reducible apply KPrd | with_reducible apply KOrd | decide | intro _
theorem k_fX8_wander {A : Mm} (hA : HA A) {a0 : Nat} {x1 : Int32} {x2 : Int32} {M : Mm} (hM : PA A M) : KP A (fX8_wander a0 x1 x2 M) := by
  unfold fX8_wander
  repeat' first | assumption | with_reducible exact KPn | with_reducible exact KOn | with_reducible apply KPs | with_reducible apply KOs | with_reducible apply k_fX8_refused hA | with_reducible apply kpI hA | with_reducible apply KPi | with_reducible apply KOi | with_reducible apply KPel | with_reducible apply KOel | with_reducible apply KPpm | with_reducible apply KOpm | with_reducible apply KPpp | with_reducible apply KOpp | with_reducible apply KPrd | with_reducible apply KOrd | decide | intro _
theorem k_fX8_askHour {A : Mm} (hA : HA A) {a0 : Nat} {x1 : Int32} {M : Mm} (hM : PA A M) : KP A (fX8_askHour a0 x1 M) := by
  unfold fX8_askHour
  repeat' first | assumption | with_reducible exact KPn | with_reducible exact KOn | with_reducible apply KPs | with_reducible apply KOs | with_reducible apply kpI hA | with_reducible apply KPi | with_reducible apply KOi | with_reducible apply KPel | with_reducible apply KOel | with_reducible apply KPpm | with_reducible apply KOpm | with_reducible apply KPpp | with_reducible apply KOpp | with_reducible apply KPrd | with_reducible apply KOrd | decide | intro _
theorem k_fX8_askSnow_b15 {A : Mm} (hA : HA A) {a0 : Nat} {x1 : Int32} {s0 : Int32} {M : Mm} (hM : PA A M) : KP A (fX8_askSnow_b15 a0 x1 s0 M) := by
  unfold fX8_askSnow_b15
  repeat' first | assumption | with_reducible exact KPn | with_reducible exact KOn | with_reducible apply KPs | with_reducible apply KOs | with_reducible apply kpZ hA | with_reducible apply KPi | with_reducible apply KOi | with_reducible apply KPel | with_reducible apply KOel | with_reducible apply KPpm | with_reducible apply KOpm | with_reducible apply KPpp | with_reducible apply KOpp | with_reducible apply KPrd | with_reducible apply KOrd | decide | intro _
theorem k_fX8_askSnow {A : Mm} (hA : HA A) {a0 : Nat} {x1 : Int32} {M : Mm} (hM : PA A M) : KP A (fX8_askSnow a0 x1 M) := by
  unfold fX8_askSnow
  repeat' first | assumption | with_reducible exact KPn | with_reducible exact KOn | with_reducible apply KPs | with_reducible apply KOs | with_reducible apply k_fX8_askSnow_b15 hA | with_reducible apply KPi | with_reducible apply KOi | with_reducible apply KPel | with_reducible apply KOel | with_reducible apply KPpm | with_reducible apply KOpm | with_reducible apply KPpp | with_reducible apply KOpp | with_reducible apply KPrd | with_reducible apply KOrd | decide | intro _
theorem k_fX8_askArc {A : Mm} (hA : HA A) {a0 : Nat} {x1 : Int32} {M : Mm} (hM : PA A M) : KP A (fX8_askArc a0 x1 M) := by
  unfold fX8_askArc
  repeat' first | assumption | with_reducible exact KPn | with_reducible exact KOn | with_reducible apply KPs | with_reducible apply KOs | with_reducible apply kpI hA | with_reducible apply KPi | with_reducible apply KOi | with_reducible apply KPel | with_reducible apply KOel | with_reducible apply KPpm | with_reducible apply KOpm | with_reducible apply KPpp | with_reducible apply KOpp | with_reducible apply KPrd | with_reducible apply KOrd | decide | intro _
theorem k_fX8_ask {A : Mm} (hA : HA A) {a0 : Nat} {x1 : Int32} {x2 : Int32} {M : Mm} (hM : PA A M) : KP A (fX8_ask a0 x1 x2 M) := by
  unfold fX8_ask
  repeat' first | assumption | with_reducible exact KPn | with_reducible exact KOn | with_reducible apply KPs | with_reducible apply KOs | with_reducible apply k_fX8_refused hA | with_reducible apply k_fX8_askHour hA | with_reducible apply k_fX8_askSnow hA | with_reducible apply k_fX8_askArc hA | with_reducible apply KPi | with_reducible apply KOi | with_reducible apply KPel | with_reducible apply KOel | with_reducible apply KPpm | with_reducible apply KOpm | with_reducible apply KPpp | with_reducible apply KOpp | with_reducible apply KPrd | with_reducible apply KOrd | decide | intro _
theorem k_fX8_signOf {A : Mm} (hA : HA A) {a0 : Nat} {x1 : Int32} {x2 : Int32} {M : Mm} (hM : PA A M) : KP A (fX8_signOf a0 x1 x2 M) := by
  unfold fX8_signOf
  repeat' first | assumption | with_reducible exact KPn | with_reducible exact KOn | with_reducible apply KPs | with_reducible apply KOs | with_reducible apply k_fX5_signAt hA | with_reducible apply k_fX8_refused hA | with_reducible apply KPi | with_reducible apply KOi | with_reducible apply KPel | with_reducible apply KOel | with_reducible apply KPpm | with_reducible apply KOpm | with_reducible apply KPpp | with_reducible apply KOpp | with_reducible apply KPrd | with_reducible apply KOrd | decide | intro _
theorem k_fX5_thingAt {A : Mm} (hA : HA A) {a0 : Nat} {x1 : Int32} {M : Mm} (hM : PA A M) : KP A (fX5_thingAt a0 x1 M) := by
  unfold fX5_thingAt
  repeat' first | assumption | with_reducible exact KPn | with_reducible exact KOn | with_reducible apply KPs | with_reducible apply KOs | with_reducible apply KPi | with_reducible apply KOi | with_reducible apply KPel | with_reducible apply KOel | with_reducible apply KPpm | with_reducible apply KOpm | with_reducible apply KPpp | with_reducible apply KOpp | with_reducible apply KPrd | with_reducible apply KOrd | decide | intro _
theorem k_fX8_thingOf {A : Mm} (hA : HA A) {a0 : Nat} {x1 : Int32} {x2 : Int32} {M : Mm} (hM : PA A M) : KP A (fX8_thingOf a0 x1 x2 M) := by
  unfold fX8_thingOf
  repeat' first | assumption | with_reducible exact KPn | with_reducible exact KOn | with_reducible apply KPs | with_reducible apply KOs | with_reducible apply k_fX5_thingAt hA | with_reducible apply k_fX8_refused hA | with_reducible apply KPi | with_reducible apply KOi | with_reducible apply KPel | with_reducible apply KOel | with_reducible apply KPpm | with_reducible apply KOpm | with_reducible apply KPpp | with_reducible apply KOpp | with_reducible apply KPrd | with_reducible apply KOrd | decide | intro _
theorem k_fX5_removeThing_b44 {A : Mm} (hA : HA A) {a0 : Nat} {M : Mm} (hM : PA A M) : KO A (fX5_removeThing_b44 a0 M) := by
  unfold fX5_removeThing_b44
  repeat' first | assumption | with_reducible exact KPn | with_reducible exact KOn | with_reducible apply KPs | with_reducible apply KOs | with_reducible apply kpI hA | with_reducible apply KPi | with_reducible apply KOi | with_reducible apply KPel | with_reducible apply KOel | with_reducible apply KPpm | with_reducible apply KOpm | with_reducible apply KPpp | with_reducible apply KOpp | with_reducible apply KPrd | with_reducible apply KOrd | decide | intro _
theorem k_fX5_removeThing_b6 {A : Mm} (hA : HA A)  : ∀ (n_ : Nat) (v0_ : Nat) (v1_ : Int32) (M : Mm), PA A M → KO A (fX5_removeThing_b6  n_ v0_ v1_ M) := by
  intro n_
  induction n_ with
  | zero => intro v0_ v1_ M _; exact KOn
  | succ n_ ih =>
    intro v0_ v1_ M hM
    rw [fX5_removeThing_b6]
    repeat' first | assumption | with_reducible exact KPn | with_reducible exact KOn | with_reducible apply KPs | with_reducible apply KOs | with_reducible apply k_fX5_removeThing_b44 hA | with_reducible apply ih | with_reducible apply ktR | with_reducible apply KPi | with_reducible apply KOi | with_reducible apply KPel | with_reducible apply KOel | with_reducible apply KPpm | with_reducible apply KOpm | with_reducible apply KPpp | with_reducible apply KOpp | with_reducible apply KPrd | with_reducible apply KOrd | decide | intro _
theorem k_fX5_removeThing {A : Mm} (hA : HA A) {a0 : Nat} {x1 : Int32} {M : Mm} (hM : PA A M) : KO A (fX5_removeThing a0 x1 M) := by
  unfold fX5_removeThing
  repeat' first | assumption | with_reducible exact KPn | with_reducible exact KOn | with_reducible apply KPs | with_reducible apply KOs | with_reducible apply k_fX5_removeThing_b6 hA | with_reducible apply KPi | with_reducible apply KOi | with_reducible apply KPel | with_reducible apply KOel | with_reducible apply KPpm | with_reducible apply KOpm | with_reducible apply KPpp | with_reducible apply KOpp | with_reducible apply KPrd | with_reducible apply KOrd | decide | intro _
theorem k_fX8_clear {A : Mm} (hA : HA A) {a0 : Nat} {x1 : Int32} {M : Mm} (hM : PA A M) : KP A (fX8_clear a0 x1 M) := by
  unfold fX8_clear
  repeat' first | assumption | with_reducible exact KPn | with_reducible exact KOn | with_reducible apply KPs | with_reducible apply KOs | with_reducible apply k_fX5_thingAt hA | with_reducible apply k_fX8_refused hA | with_reducible apply k_fX5_removeThing hA | with_reducible apply KPi | with_reducible apply KOi | with_reducible apply KPel | with_reducible apply KOel | with_reducible apply KPpm | with_reducible apply KOpm | with_reducible apply KPpp | with_reducible apply KOpp | with_reducible apply KPrd | with_reducible apply KOrd | decide | intro _
theorem k_fX0_becomeLike {A : Mm} (hA : HA A) {a0 : Nat} {a1 : Nat} {M : Mm} (hM : PA A M) : KO A (fX0_becomeLike a0 a1 M) := by
  unfold fX0_becomeLike
  repeat' first | assumption | with_reducible exact KPn | with_reducible exact KOn | with_reducible apply KPs | with_reducible apply KOs | with_reducible apply kcJ | with_reducible apply KPi | with_reducible apply KOi | with_reducible apply KPel | with_reducible apply KOel | with_reducible apply KPpm | with_reducible apply KOpm | with_reducible apply KPpp | with_reducible apply KOpp | with_reducible apply KPrd | with_reducible apply KOrd | decide | intro _
theorem k_fX5_becomeLike_b84 {A : Mm} (hA : HA A)  : ∀ (n_ : Nat) (v0_ : Nat) (v1_ : Nat) (v2_ : Int32) (M : Mm), PA A M → KO A (fX5_becomeLike_b84  n_ v0_ v1_ v2_ M) := by
  intro n_
  induction n_ with
  | zero => intro v0_ v1_ v2_ M _; exact KOn
  | succ n_ ih =>
    intro v0_ v1_ v2_ M hM
    rw [fX5_becomeLike_b84]
    repeat' first | assumption | with_reducible exact KPn | with_reducible exact KOn | with_reducible apply KPs | with_reducible apply KOs | with_reducible apply k_fX0_becomeLike hA | with_reducible apply ih | with_reducible apply kpI hA | with_reducible apply ktR | with_reducible apply KPi | with_reducible apply KOi | with_reducible apply KPel | with_reducible apply KOel | with_reducible apply KPpm | with_reducible apply KOpm | with_reducible apply KPpp | with_reducible apply KOpp | with_reducible apply KPrd | with_reducible apply KOrd | decide | intro _
theorem k_fX5_becomeLike_b50 {A : Mm} (hA : HA A)  : ∀ (n_ : Nat) (v0_ : Nat) (v1_ : Nat) (v2_ : Int32) (M : Mm), PA A M → KO A (fX5_becomeLike_b50  n_ v0_ v1_ v2_ M) := by
  intro n_
  induction n_ with
  | zero => intro v0_ v1_ v2_ M _; exact KOn
  | succ n_ ih =>
    intro v0_ v1_ v2_ M hM
    rw [fX5_becomeLike_b50]
    repeat' first | assumption | with_reducible exact KPn | with_reducible exact KOn | with_reducible apply KPs | with_reducible apply KOs | with_reducible apply k_fX5_becomeLike_b84 hA | with_reducible apply ih | with_reducible apply kpI hA | with_reducible apply ktR | with_reducible apply KPi | with_reducible apply KOi | with_reducible apply KPel | with_reducible apply KOel | with_reducible apply KPpm | with_reducible apply KOpm | with_reducible apply KPpp | with_reducible apply KOpp | with_reducible apply KPrd | with_reducible apply KOrd | decide | intro _
theorem k_fX5_becomeLike {A : Mm} (hA : HA A) {a0 : Nat} {a1 : Nat} {M : Mm} (hM : PA A M) : KO A (fX5_becomeLike a0 a1 M) := by
  unfold fX5_becomeLike
  repeat' first | assumption | with_reducible exact KPn | with_reducible exact KOn | with_reducible apply KPs | with_reducible apply KOs | with_reducible apply k_fX5_becomeLike_b50 hA | with_reducible apply kpI hA | with_reducible apply kpZ hA | with_reducible apply KPi | with_reducible apply KOi | with_reducible apply KPel | with_reducible apply KOel | with_reducible apply KPpm | with_reducible apply KOpm | with_reducible apply KPpp | with_reducible apply KOpp | with_reducible apply KPrd | with_reducible apply KOrd | decide | intro _
theorem k_fX2_init {A : Mm} (hA : HA A) {a0 : Nat} {a1 : Nat} {a2 : Nat} {M : Mm} (hM : PA A M) : KO A (fX2_init a0 a1 a2 M) := by
  unfold fX2_init
  repeat' first | assumption | with_reducible exact KPn | with_reducible exact KOn | with_reducible apply KPs | with_reducible apply KOs | with_reducible apply kpI hA | with_reducible apply kpZ hA | with_reducible apply kpRf | with_reducible apply KPi | with_reducible apply KOi | with_reducible apply KPel | with_reducible apply KOel | with_reducible apply KPpm | with_reducible apply KOpm | with_reducible apply KPpp | with_reducible apply KOpp | with_reducible apply KPrd | with_reducible apply KOrd | decide | intro _
theorem k_fX2_letter {A : Mm} (hA : HA A) {a0 : Nat} {M : Mm} (hM : PA A M) : KP A (fX2_letter a0 M) := by
  unfold fX2_letter
  repeat' first | assumption | with_reducible exact KPn | with_reducible exact KOn | with_reducible apply KPs | with_reducible apply KOs | with_reducible apply KPi | with_reducible apply KOi | with_reducible apply KPel | with_reducible apply KOel | with_reducible apply KPpm | with_reducible apply KOpm | with_reducible apply KPpp | with_reducible apply KOpp | with_reducible apply KPrd | with_reducible apply KOrd | decide | intro _
theorem k_fX2_wordWith {A : Mm} (hA : HA A) {x0 : Int32} {M : Mm} (hM : PA A M) : KP A (fX2_wordWith x0 M) := by
  unfold fX2_wordWith
  repeat' first | assumption | with_reducible exact KPn | with_reducible exact KOn | with_reducible apply KPs | with_reducible apply KOs | with_reducible apply KPi | with_reducible apply KOi | with_reducible apply KPel | with_reducible apply KOel | with_reducible apply KPpm | with_reducible apply KOpm | with_reducible apply KPpp | with_reducible apply KOpp | with_reducible apply KPrd | with_reducible apply KOrd | decide | intro _
theorem k_fX2_pass {A : Mm} (hA : HA A) {a0 : Nat} {x1 : Int32} {M : Mm} (hM : PA A M) : KO A (fX2_pass a0 x1 M) := by
  unfold fX2_pass
  repeat' first | assumption | with_reducible exact KPn | with_reducible exact KOn | with_reducible apply KPs | with_reducible apply KOs | with_reducible apply k_fX2_letter hA | with_reducible apply kpI hA | with_reducible apply KPi | with_reducible apply KOi | with_reducible apply KPel | with_reducible apply KOel | with_reducible apply KPpm | with_reducible apply KOpm | with_reducible apply KPpp | with_reducible apply KOpp | with_reducible apply KPrd | with_reducible apply KOrd | decide | intro _
theorem k_fX2_readNumber_b90 {A : Mm} (hA : HA A) {a0 : Nat} {x1 : Int32} {x2 : Int32} {x3 : Int32} {x4 : Int32} {M : Mm} (hM : PA A M) : KP A (fX2_readNumber_b90 a0 x1 x2 x3 x4 M) := by
  unfold fX2_readNumber_b90
  repeat' first | assumption | with_reducible exact KPn | with_reducible exact KOn | with_reducible apply KPs | with_reducible apply KOs | with_reducible apply kpI hA | with_reducible apply KPi | with_reducible apply KOi | with_reducible apply KPel | with_reducible apply KOel | with_reducible apply KPpm | with_reducible apply KOpm | with_reducible apply KPpp | with_reducible apply KOpp | with_reducible apply KPrd | with_reducible apply KOrd | decide | intro _
theorem k_fX2_readNumber_b35 {A : Mm} (hA : HA A)  : ∀ (n_ : Nat) (v0_ : Nat) (v1_ : Int32) (v2_ : Int32) (v3_ : Int32) (v4_ : Int32) (v5_ : Int32) (M : Mm), PA A M → KP A (fX2_readNumber_b35  n_ v0_ v1_ v2_ v3_ v4_ v5_ M) := by
  intro n_
  induction n_ with
  | zero => intro v0_ v1_ v2_ v3_ v4_ v5_ M _; exact KPn
  | succ n_ ih =>
    intro v0_ v1_ v2_ v3_ v4_ v5_ M hM
    rw [fX2_readNumber_b35]
    repeat' first | assumption | with_reducible exact KPn | with_reducible exact KOn | with_reducible apply KPs | with_reducible apply KOs | with_reducible apply k_fX2_readNumber_b90 hA | with_reducible apply k_fX2_letter hA | with_reducible apply ih | with_reducible apply kpI hA | with_reducible apply KPi | with_reducible apply KOi | with_reducible apply KPel | with_reducible apply KOel | with_reducible apply KPpm | with_reducible apply KOpm | with_reducible apply KPpp | with_reducible apply KOpp | with_reducible apply KPrd | with_reducible apply KOrd | decide | intro _
theorem k_fX2_readNumber_b14 {A : Mm} (hA : HA A) {a0 : Nat} {x1 : Int32} {x2 : Int32} {M : Mm} (hM : PA A M) : KP A (fX2_readNumber_b14 a0 x1 x2 M) := by
  unfold fX2_readNumber_b14
  repeat' first | assumption | with_reducible exact KPn | with_reducible exact KOn | with_reducible apply KPs | with_reducible apply KOs | with_reducible apply k_fX2_readNumber_b35 hA | with_reducible apply KPi | with_reducible apply KOi | with_reducible apply KPel | with_reducible apply KOel | with_reducible apply KPpm | with_reducible apply KOpm | with_reducible apply KPpp | with_reducible apply KOpp | with_reducible apply KPrd | with_reducible apply KOrd | decide | intro _
theorem k_fX2_readNumber {A : Mm} (hA : HA A) {a0 : Nat} {x1 : Int32} {x2 : Int32} {M : Mm} (hM : PA A M) : KP A (fX2_readNumber a0 x1 x2 M) := by
  unfold fX2_readNumber
  repeat' first | assumption | with_reducible exact KPn | with_reducible exact KOn | with_reducible apply KPs | with_reducible apply KOs | with_reducible apply k_fX2_pass hA | with_reducible apply k_fX2_readNumber_b14 hA | with_reducible apply KPi | with_reducible apply KOi | with_reducible apply KPel | with_reducible apply KOel | with_reducible apply KPpm | with_reducible apply KOpm | with_reducible apply KPpp | with_reducible apply KOpp | with_reducible apply KPrd | with_reducible apply KOrd | decide | intro _
theorem k_fJ0_isEmpty_aae02 {A : Mm} (hA : HA A) {a0 : Nat} {M : Mm} (hM : PA A M) : KP A (fJ0_isEmpty_aae02 a0 M) := by
  unfold fJ0_isEmpty_aae02
  repeat' first | assumption | with_reducible exact KPn | with_reducible exact KOn | with_reducible apply KPs | with_reducible apply KOs | with_reducible apply KPi | with_reducible apply KOi | with_reducible apply KPel | with_reducible apply KOel | with_reducible apply KPpm | with_reducible apply KOpm | with_reducible apply KPpp | with_reducible apply KOpp | with_reducible apply KPrd | with_reducible apply KOrd | decide | intro _
theorem k_fJ0_coder_7d493 {A : Mm} (hA : HA A) {a0 : Nat} {M : Mm} (hM : PA A M) : KP A (fJ0_coder_7d493 a0 M) := by
  unfold fJ0_coder_7d493
  repeat' first | assumption | with_reducible exact KPn | with_reducible exact KOn | with_reducible apply KPs | with_reducible apply KOs | with_reducible apply KPi | with_reducible apply KOi | with_reducible apply KPel | with_reducible apply KOel | with_reducible apply KPpm | with_reducible apply KOpm | with_reducible apply KPpp | with_reducible apply KOpp | with_reducible apply KPrd | with_reducible apply KOrd | decide | intro _
theorem k_fJ0_length_8abf5 {A : Mm} (hA : HA A) {a0 : Nat} {M : Mm} (hM : PA A M) : KP A (fJ0_length_8abf5 a0 M) := by
  unfold fJ0_length_8abf5
  repeat' first | assumption | with_reducible exact KPn | with_reducible exact KOn | with_reducible apply KPs | with_reducible apply KOs | with_reducible apply k_fJ0_coder_7d493 hA | with_reducible apply KPi | with_reducible apply KOi | with_reducible apply KPel | with_reducible apply KOel | with_reducible apply KPpm | with_reducible apply KOpm | with_reducible apply KPpp | with_reducible apply KOpp | with_reducible apply KPrd | with_reducible apply KOrd | decide | intro _
theorem k_fJ0_isLatin1_aae02 {A : Mm} (hA : HA A) {a0 : Nat} {M : Mm} (hM : PA A M) : KP A (fJ0_isLatin1_aae02 a0 M) := by
  unfold fJ0_isLatin1_aae02
  repeat' first | assumption | with_reducible exact KPn | with_reducible exact KOn | with_reducible apply KPs | with_reducible apply KOs | with_reducible apply KPi | with_reducible apply KOi | with_reducible apply KPel | with_reducible apply KOel | with_reducible apply KPpm | with_reducible apply KOpm | with_reducible apply KPpp | with_reducible apply KOpp | with_reducible apply KPrd | with_reducible apply KOrd | decide | intro _
theorem k_fJ3_checkIndex_8e157 {A : Mm} (hA : HA A) {x0 : Int32} {x1 : Int32} {a2 : Option Nat} {M : Mm} (hM : PA A M) : KP A (fJ3_checkIndex_8e157 x0 x1 a2 M) := by
  unfold fJ3_checkIndex_8e157
  repeat' first | assumption | with_reducible exact KPn | with_reducible exact KOn | with_reducible apply KPs | with_reducible apply KOs | with_reducible apply KPi | with_reducible apply KOi | with_reducible apply KPel | with_reducible apply KOel | with_reducible apply KPpm | with_reducible apply KOpm | with_reducible apply KPpp | with_reducible apply KOpp | with_reducible apply KPrd | with_reducible apply KOrd | decide | intro _
theorem k_fJ0_checkIndex_df160 {A : Mm} (hA : HA A) {x0 : Int32} {x1 : Int32} {M : Mm} (hM : PA A M) : KO A (fJ0_checkIndex_df160 x0 x1 M) := by
  unfold fJ0_checkIndex_df160
  repeat' first | assumption | with_reducible exact KPn | with_reducible exact KOn | with_reducible apply KPs | with_reducible apply KOs | with_reducible apply k_fJ3_checkIndex_8e157 hA | with_reducible apply KPi | with_reducible apply KOi | with_reducible apply KPel | with_reducible apply KOel | with_reducible apply KPpm | with_reducible apply KOpm | with_reducible apply KPpp | with_reducible apply KOpp | with_reducible apply KPrd | with_reducible apply KOrd | decide | intro _
theorem k_fJ1_charAt_3b067 {A : Mm} (hA : HA A) {a0 : Nat} {x1 : Int32} {M : Mm} (hM : PA A M) : KP A (fJ1_charAt_3b067 a0 x1 M) := by
  unfold fJ1_charAt_3b067
  repeat' first | assumption | with_reducible exact KPn | with_reducible exact KOn | with_reducible apply KPs | with_reducible apply KOs | with_reducible apply k_fJ0_checkIndex_df160 hA | with_reducible apply KPi | with_reducible apply KOi | with_reducible apply KPel | with_reducible apply KOel | with_reducible apply KPpm | with_reducible apply KOpm | with_reducible apply KPpp | with_reducible apply KOpp | with_reducible apply KPrd | with_reducible apply KOrd | decide | intro _
theorem k_fJ0_charAt_5068e {A : Mm} (hA : HA A) {a0 : Nat} {x1 : Int32} {M : Mm} (hM : PA A M) : KP A (fJ0_charAt_5068e a0 x1 M) := by
  unfold fJ0_charAt_5068e
  repeat' first | assumption | with_reducible exact KPn | with_reducible exact KOn | with_reducible apply KPs | with_reducible apply KOs | with_reducible apply k_fJ0_isLatin1_aae02 hA | with_reducible apply k_fJ1_charAt_3b067 hA | with_reducible apply KPi | with_reducible apply KOi | with_reducible apply KPel | with_reducible apply KOel | with_reducible apply KPpm | with_reducible apply KOpm | with_reducible apply KPpp | with_reducible apply KOpp | with_reducible apply KPrd | with_reducible apply KOrd | decide | intro _
theorem k_fX2_readWord_b17 {A : Mm} (hA : HA A)  : ∀ (n_ : Nat) (v0_ : Nat) (v1_ : Nat) (v2_ : Int32) (M : Mm), PA A M → KO A (fX2_readWord_b17  n_ v0_ v1_ v2_ M) := by
  intro n_
  induction n_ with
  | zero => intro v0_ v1_ v2_ M _; exact KOn
  | succ n_ ih =>
    intro v0_ v1_ v2_ M hM
    rw [fX2_readWord_b17]
    repeat' first | assumption | with_reducible exact KPn | with_reducible exact KOn | with_reducible apply KPs | with_reducible apply KOs | with_reducible apply k_fJ0_length_8abf5 hA | with_reducible apply k_fJ0_charAt_5068e hA | with_reducible apply k_fX2_pass hA | with_reducible apply ih | with_reducible apply KPi | with_reducible apply KOi | with_reducible apply KPel | with_reducible apply KOel | with_reducible apply KPpm | with_reducible apply KOpm | with_reducible apply KPpp | with_reducible apply KOpp | with_reducible apply KPrd | with_reducible apply KOrd | decide | intro _
theorem k_fX2_readWord {A : Mm} (hA : HA A) {a0 : Nat} {a1 : Nat} {M : Mm} (hM : PA A M) : KO A (fX2_readWord a0 a1 M) := by
  unfold fX2_readWord
  repeat' first | assumption | with_reducible exact KPn | with_reducible exact KOn | with_reducible apply KPs | with_reducible apply KOs | with_reducible apply k_fJ0_isEmpty_aae02 hA | with_reducible apply k_fX2_readWord_b17 hA | with_reducible apply kpI hA | with_reducible apply KPi | with_reducible apply KOi | with_reducible apply KPel | with_reducible apply KOel | with_reducible apply KPpm | with_reducible apply KOpm | with_reducible apply KPpp | with_reducible apply KOpp | with_reducible apply KPrd | with_reducible apply KOrd | decide | intro _
theorem k_fX2_readLength {A : Mm} (hA : HA A) {a0 : Nat} {M : Mm} (hM : PA A M) : KO A (fX2_readLength a0 M) := by
  unfold fX2_readLength
  repeat' first | assumption | with_reducible exact KPn | with_reducible exact KOn | with_reducible apply KPs | with_reducible apply KOs | with_reducible apply k_fX2_readNumber hA | with_reducible apply k_fX5_tellLength hA | with_reducible apply kpZ hA | with_reducible apply KPi | with_reducible apply KOi | with_reducible apply KPel | with_reducible apply KOel | with_reducible apply KPpm | with_reducible apply KOpm | with_reducible apply KPpp | with_reducible apply KOpp | with_reducible apply KPrd | with_reducible apply KOrd | decide | intro _
theorem k_fX2_readSign_b15 {A : Mm} (hA : HA A) {a0 : Nat} {M : Mm} (hM : PA A M) : KO A (fX2_readSign_b15 a0 M) := by
  unfold fX2_readSign_b15
  repeat' first | assumption | with_reducible exact KPn | with_reducible exact KOn | with_reducible apply KPs | with_reducible apply KOs | with_reducible apply k_fX2_readNumber hA | with_reducible apply k_fX5_addSign hA | with_reducible apply KPi | with_reducible apply KOi | with_reducible apply KPel | with_reducible apply KOel | with_reducible apply KPpm | with_reducible apply KOpm | with_reducible apply KPpp | with_reducible apply KOpp | with_reducible apply KPrd | with_reducible apply KOrd | decide | intro _
theorem k_fX2_readSign {A : Mm} (hA : HA A) {a0 : Nat} {x1 : Int32} {M : Mm} (hM : PA A M) : KO A (fX2_readSign a0 x1 M) := by
  unfold fX2_readSign
  repeat' first | assumption | with_reducible exact KPn | with_reducible exact KOn | with_reducible apply KPs | with_reducible apply KOs | with_reducible apply k_fX5_hasRoomForSign hA | with_reducible apply k_fX2_readSign_b15 hA | with_reducible apply kpI hA | with_reducible apply KPi | with_reducible apply KOi | with_reducible apply KPel | with_reducible apply KOel | with_reducible apply KPpm | with_reducible apply KOpm | with_reducible apply KPpp | with_reducible apply KOpp | with_reducible apply KPrd | with_reducible apply KOrd | decide | intro _
theorem k_fX2_readThing_b15 {A : Mm} (hA : HA A) {a0 : Nat} {M : Mm} (hM : PA A M) : KO A (fX2_readThing_b15 a0 M) := by
  unfold fX2_readThing_b15
  repeat' first | assumption | with_reducible exact KPn | with_reducible exact KOn | with_reducible apply KPs | with_reducible apply KOs | with_reducible apply k_fX2_readNumber hA | with_reducible apply k_fX5_addThing hA | with_reducible apply KPi | with_reducible apply KOi | with_reducible apply KPel | with_reducible apply KOel | with_reducible apply KPpm | with_reducible apply KOpm | with_reducible apply KPpp | with_reducible apply KOpp | with_reducible apply KPrd | with_reducible apply KOrd | decide | intro _
theorem k_fX2_readThing {A : Mm} (hA : HA A) {a0 : Nat} {x1 : Int32} {M : Mm} (hM : PA A M) : KO A (fX2_readThing a0 x1 M) := by
  unfold fX2_readThing
  repeat' first | assumption | with_reducible exact KPn | with_reducible exact KOn | with_reducible apply KPs | with_reducible apply KOs | with_reducible apply k_fX5_hasRoomForThing hA | with_reducible apply k_fX2_readThing_b15 hA | with_reducible apply kpI hA | with_reducible apply KPi | with_reducible apply KOi | with_reducible apply KPel | with_reducible apply KOel | with_reducible apply KPpm | with_reducible apply KOpm | with_reducible apply KPpp | with_reducible apply KOpp | with_reducible apply KPrd | with_reducible apply KOrd | decide | intro _
theorem k_fX2_readWander {A : Mm} (hA : HA A) {a0 : Nat} {M : Mm} (hM : PA A M) : KO A (fX2_readWander a0 M) := by
  unfold fX2_readWander
  repeat' first | assumption | with_reducible exact KPn | with_reducible exact KOn | with_reducible apply KPs | with_reducible apply KOs | with_reducible apply k_fX2_readNumber hA | with_reducible apply kpI hA | with_reducible apply KPi | with_reducible apply KOi | with_reducible apply KPel | with_reducible apply KOel | with_reducible apply KPpm | with_reducible apply KOpm | with_reducible apply KPpp | with_reducible apply KOpp | with_reducible apply KPrd | with_reducible apply KOrd | decide | intro _
theorem k_fX2_readItem {A : Mm} (hA : HA A) {a0 : Nat} {M : Mm} (hM : PA A M) : KO A (fX2_readItem a0 M) := by
  unfold fX2_readItem
  repeat' first | assumption | with_reducible exact KPn | with_reducible exact KOn | with_reducible apply KPs | with_reducible apply KOs | with_reducible apply k_fX2_letter hA | with_reducible apply k_fX2_wordWith hA | with_reducible apply k_fX2_readWord hA | with_reducible apply k_fX2_readNumber hA | with_reducible apply k_fX2_readLength hA | with_reducible apply k_fX2_readSign hA | with_reducible apply k_fX2_readThing hA | with_reducible apply k_fX2_readWander hA | with_reducible apply kpI hA | with_reducible apply KPi | with_reducible apply KOi | with_reducible apply KPel | with_reducible apply KOel | with_reducible apply KPpm | with_reducible apply KOpm | with_reducible apply KPpp | with_reducible apply KOpp | with_reducible apply KPrd | with_reducible apply KOrd | decide | intro _
theorem k_fX2_readItems_b4 {A : Mm} (hA : HA A)  : ∀ (n_ : Nat) (v0_ : Nat) (v1_ : Int32) (v2_ : Int32) (M : Mm), PA A M → KP A (fX2_readItems_b4  n_ v0_ v1_ v2_ M) := by
  intro n_
  induction n_ with
  | zero => intro v0_ v1_ v2_ M _; exact KPn
  | succ n_ ih =>
    intro v0_ v1_ v2_ M hM
    rw [fX2_readItems_b4]
    repeat' first | assumption | with_reducible exact KPn | with_reducible exact KOn | with_reducible apply KPs | with_reducible apply KOs | with_reducible apply k_fX2_readItem hA | with_reducible apply k_fX2_pass hA | with_reducible apply ih | with_reducible apply KPi | with_reducible apply KOi | with_reducible apply KPel | with_reducible apply KOel | with_reducible apply KPpm | with_reducible apply KOpm | with_reducible apply KPpp | with_reducible apply KOpp | with_reducible apply KPrd | with_reducible apply KOrd | decide | intro _
theorem k_fX2_readItems {A : Mm} (hA : HA A) {a0 : Nat} {M : Mm} (hM : PA A M) : KP A (fX2_readItems a0 M) := by
  unfold fX2_readItems
  repeat' first | assumption | with_reducible exact KPn | with_reducible exact KOn | with_reducible apply KPs | with_reducible apply KOs | with_reducible apply k_fX2_readItems_b4 hA | with_reducible apply KPi | with_reducible apply KOi | with_reducible apply KPel | with_reducible apply KOel | with_reducible apply KPpm | with_reducible apply KOpm | with_reducible apply KPpp | with_reducible apply KOpp | with_reducible apply KPrd | with_reducible apply KOrd | decide | intro _
theorem k_fX8_town {A : Mm} (hA : HA A) {a0 : Nat} {x1 : Int32} {M : Mm} (hM : PA A M) : KP A (fX8_town a0 x1 M) := by
  unfold fX8_town
  repeat' first | assumption | with_reducible exact KPn | with_reducible exact KOn | with_reducible apply KPs | with_reducible apply KOs | with_reducible apply k_fX8_shelfAt hA | with_reducible apply k_fX8_rowTrouble hA | with_reducible apply k_fX8_refused hA | with_reducible apply k_fX5_becomeLike hA | with_reducible apply k_fX2_init hA | with_reducible apply k_fX2_readItems hA | with_reducible apply k_fX5_knowNothing hA | with_reducible apply k_fX8_dropSignsFrom hA | with_reducible apply kpI hA | with_reducible apply knO | with_reducible apply KPi | with_reducible apply KOi | with_reducible apply KPel | with_reducible apply KOel | with_reducible apply KPpm | with_reducible apply KOpm | with_reducible apply KPpp | with_reducible apply KOpp | with_reducible apply KPrd | with_reducible apply KOrd | decide | intro _
theorem k_fX8_fault {A : Mm} (hA : HA A) {a0 : Nat} {M : Mm} (hM : PA A M) : KP A (fX8_fault a0 M) := by
  unfold fX8_fault
  repeat' first | assumption | with_reducible exact KPn | with_reducible exact KOn | with_reducible apply KPs | with_reducible apply KOs | with_reducible apply KPi | with_reducible apply KOi | with_reducible apply KPel | with_reducible apply KOel | with_reducible apply KPpm | with_reducible apply KOpm | with_reducible apply KPpp | with_reducible apply KOpp | with_reducible apply KPrd | with_reducible apply KOrd | decide | intro _
theorem k_fX0_becomeSure_b2 {A : Mm} (hA : HA A)  : ∀ (n_ : Nat) (v0_ : Nat) (v1_ : Int32) (v2_ : Int32) (M : Mm), PA A M → KO A (fX0_becomeSure_b2  n_ v0_ v1_ v2_ M) := by
  intro n_
  induction n_ with
  | zero => intro v0_ v1_ v2_ M _; exact KOn
  | succ n_ ih =>
    intro v0_ v1_ v2_ M hM
    rw [fX0_becomeSure_b2]
    repeat' first | assumption | with_reducible exact KPn | with_reducible exact KOn | with_reducible apply KPs | with_reducible apply KOs | with_reducible apply ih | with_reducible apply ktJ | with_reducible apply KPi | with_reducible apply KOi | with_reducible apply KPel | with_reducible apply KOel | with_reducible apply KPpm | with_reducible apply KOpm | with_reducible apply KPpp | with_reducible apply KOpp | with_reducible apply KPrd | with_reducible apply KOrd | decide | intro _
theorem k_fX0_becomeSure {A : Mm} (hA : HA A) {a0 : Nat} {x1 : Int32} {M : Mm} (hM : PA A M) : KO A (fX0_becomeSure a0 x1 M) := by
  unfold fX0_becomeSure
  repeat' first | assumption | with_reducible exact KPn | with_reducible exact KOn | with_reducible apply KPs | with_reducible apply KOs | with_reducible apply k_fX0_becomeSure_b2 hA | with_reducible apply KPi | with_reducible apply KOi | with_reducible apply KPel | with_reducible apply KOel | with_reducible apply KPpm | with_reducible apply KOpm | with_reducible apply KPpp | with_reducible apply KOpp | with_reducible apply KPrd | with_reducible apply KOrd | decide | intro _
theorem k_fX5_knowCell {A : Mm} (hA : HA A) {a0 : Nat} {x1 : Int32} {M : Mm} (hM : PA A M) : KO A (fX5_knowCell a0 x1 M) := by
  unfold fX5_knowCell
  repeat' first | assumption | with_reducible exact KPn | with_reducible exact KOn | with_reducible apply KPs | with_reducible apply KOs | with_reducible apply k_fX0_becomeSure hA | with_reducible apply kpI hA | with_reducible apply KPi | with_reducible apply KOi | with_reducible apply KPel | with_reducible apply KOel | with_reducible apply KPpm | with_reducible apply KOpm | with_reducible apply KPpp | with_reducible apply KOpp | with_reducible apply KPrd | with_reducible apply KOrd | decide | intro _
theorem k_fX8_lost_b22 {A : Mm} (hA : HA A) {a0 : Nat} {x1 : Int32} {M : Mm} (hM : PA A M) : KP A (fX8_lost_b22 a0 x1 M) := by
  unfold fX8_lost_b22
  repeat' first | assumption | with_reducible exact KPn | with_reducible exact KOn | with_reducible apply KPs | with_reducible apply KOs | with_reducible apply k_fX5_knowNothing hA | with_reducible apply k_fX5_knowCell hA | with_reducible apply KPi | with_reducible apply KOi | with_reducible apply KPel | with_reducible apply KOel | with_reducible apply KPpm | with_reducible apply KOpm | with_reducible apply KPpp | with_reducible apply KOpp | with_reducible apply KPrd | with_reducible apply KOrd | decide | intro _
theorem k_fX8_lost {A : Mm} (hA : HA A) {a0 : Nat} {x1 : Int32} {M : Mm} (hM : PA A M) : KP A (fX8_lost a0 x1 M) := by
  unfold fX8_lost
  repeat' first | assumption | with_reducible exact KPn | with_reducible exact KOn | with_reducible apply KPs | with_reducible apply KOs | with_reducible apply k_fX8_lost_b22 hA | with_reducible apply k_fX5_hasCell hA | with_reducible apply k_fX8_refused hA | with_reducible apply KPi | with_reducible apply KOi | with_reducible apply KPel | with_reducible apply KOel | with_reducible apply KPpm | with_reducible apply KOpm | with_reducible apply KPpp | with_reducible apply KOpp | with_reducible apply KPrd | with_reducible apply KOrd | decide | intro _
theorem k_fX0_all_b4 {A : Mm} (hA : HA A)  : ∀ (n_ : Nat) (v0_ : Nat) (v1_ : Int64) (v2_ : Int32) (M : Mm), PA A M → KP A (fX0_all_b4  n_ v0_ v1_ v2_ M) := by
  intro n_
  induction n_ with
  | zero => intro v0_ v1_ v2_ M _; exact KPn
  | succ n_ ih =>
    intro v0_ v1_ v2_ M hM
    rw [fX0_all_b4]
    repeat' first | assumption | with_reducible exact KPn | with_reducible exact KOn | with_reducible apply KPs | with_reducible apply KOs | with_reducible apply ih | with_reducible apply KPi | with_reducible apply KOi | with_reducible apply KPel | with_reducible apply KOel | with_reducible apply KPpm | with_reducible apply KOpm | with_reducible apply KPpp | with_reducible apply KOpp | with_reducible apply KPrd | with_reducible apply KOrd | decide | intro _
theorem k_fX0_all {A : Mm} (hA : HA A) {a0 : Nat} {M : Mm} (hM : PA A M) : KP A (fX0_all a0 M) := by
  unfold fX0_all
  repeat' first | assumption | with_reducible exact KPn | with_reducible exact KOn | with_reducible apply KPs | with_reducible apply KOs | with_reducible apply k_fX0_all_b4 hA | with_reducible apply KPi | with_reducible apply KOi | with_reducible apply KPel | with_reducible apply KOel | with_reducible apply KPpm | with_reducible apply KOpm | with_reducible apply KPpp | with_reducible apply KOpp | with_reducible apply KPrd | with_reducible apply KOrd | decide | intro _
theorem k_fX0_at {A : Mm} (hA : HA A) {a0 : Nat} {x1 : Int32} {M : Mm} (hM : PA A M) : KP A (fX0_at a0 x1 M) := by
  unfold fX0_at
  repeat' first | assumption | with_reducible exact KPn | with_reducible exact KOn | with_reducible apply KPs | with_reducible apply KOs | with_reducible apply KPi | with_reducible apply KOi | with_reducible apply KPel | with_reducible apply KOel | with_reducible apply KPpm | with_reducible apply KOpm | with_reducible apply KPpp | with_reducible apply KOpp | with_reducible apply KPrd | with_reducible apply KOrd | decide | intro _
theorem k_fX8_odds {A : Mm} (hA : HA A) {a0 : Nat} {x1 : Int32} {M : Mm} (hM : PA A M) : KP A (fX8_odds a0 x1 M) := by
  unfold fX8_odds
  repeat' first | assumption | with_reducible exact KPn | with_reducible exact KOn | with_reducible apply KPs | with_reducible apply KOs | with_reducible apply k_fX0_all hA | with_reducible apply k_fX5_hasCell hA | with_reducible apply k_fX8_refused hA | with_reducible apply k_fX0_at hA | with_reducible apply KPi | with_reducible apply KOi | with_reducible apply KPel | with_reducible apply KOel | with_reducible apply KPpm | with_reducible apply KOpm | with_reducible apply KPpp | with_reducible apply KOpp | with_reducible apply KPrd | with_reducible apply KOrd | decide | intro _
theorem k_fX8_strength {A : Mm} (hA : HA A) {a0 : Nat} {x1 : Int32} {x2 : Int32} {M : Mm} (hM : PA A M) : KP A (fX8_strength a0 x1 x2 M) := by
  unfold fX8_strength
  repeat' first | assumption | with_reducible exact KPn | with_reducible exact KOn | with_reducible apply KPs | with_reducible apply KOs | with_reducible apply k_fX5_signAt hA | with_reducible apply k_fX8_refused hA | with_reducible apply k_fX5_hasCell hA | with_reducible apply k_fX5_tenthsOf hA | with_reducible apply KPi | with_reducible apply KOi | with_reducible apply KPel | with_reducible apply KOel | with_reducible apply KPpm | with_reducible apply KOpm | with_reducible apply KPpp | with_reducible apply KOpp | with_reducible apply KPrd | with_reducible apply KOrd | decide | intro _
theorem k_fX0_move {A : Mm} (hA : HA A) {a0 : Nat} {x1 : Int32} {x2 : Int32} {x3 : Int32} {M : Mm} (hM : PA A M) : KO A (fX0_move a0 x1 x2 x3 M) := by
  unfold fX0_move
  repeat' first | assumption | with_reducible exact KPn | with_reducible exact KOn | with_reducible apply KPs | with_reducible apply KOs | with_reducible apply k_fX0_at hA | with_reducible apply ktJ | with_reducible apply KPi | with_reducible apply KOi | with_reducible apply KPel | with_reducible apply KOel | with_reducible apply KPpm | with_reducible apply KOpm | with_reducible apply KPpp | with_reducible apply KOpp | with_reducible apply KPrd | with_reducible apply KOrd | decide | intro _
theorem k_fX5_reach {A : Mm} (hA : HA A) {a0 : Nat} {x1 : Int32} {x2 : Int32} {M : Mm} (hM : PA A M) : KP A (fX5_reach a0 x1 x2 M) := by
  unfold fX5_reach
  repeat' first | assumption | with_reducible exact KPn | with_reducible exact KOn | with_reducible apply KPs | with_reducible apply KOs | with_reducible apply KPi | with_reducible apply KOi | with_reducible apply KPel | with_reducible apply KOel | with_reducible apply KPpm | with_reducible apply KOpm | with_reducible apply KPpp | with_reducible apply KOpp | with_reducible apply KPrd | with_reducible apply KOrd | decide | intro _
theorem k_fX0_endMoves {A : Mm} (hA : HA A) {a0 : Nat} {M : Mm} (hM : PA A M) : KO A (fX0_endMoves a0 M) := by
  unfold fX0_endMoves
  repeat' first | assumption | with_reducible exact KPn | with_reducible exact KOn | with_reducible apply KPs | with_reducible apply KOs | with_reducible apply k_fJ7_fill_d0a16 hA | with_reducible apply kcJ | with_reducible apply KPi | with_reducible apply KOi | with_reducible apply KPel | with_reducible apply KOel | with_reducible apply KPpm | with_reducible apply KOpm | with_reducible apply KPpp | with_reducible apply KOpp | with_reducible apply KPrd | with_reducible apply KOrd | decide | intro _
theorem k_fX0_commonPart_b9 {A : Mm} (hA : HA A)  : ∀ (n_ : Nat) (v0_ : Int64) (v1_ : Int64) (v2_ : Int32) (M : Mm), PA A M → KP A (fX0_commonPart_b9  n_ v0_ v1_ v2_ M) := by
  intro n_
  induction n_ with
  | zero => intro v0_ v1_ v2_ M _; exact KPn
  | succ n_ ih =>
    intro v0_ v1_ v2_ M hM
    rw [fX0_commonPart_b9]
    repeat' first | assumption | with_reducible exact KPn | with_reducible exact KOn | with_reducible apply KPs | with_reducible apply KOs | with_reducible apply ih | with_reducible apply KPi | with_reducible apply KOi | with_reducible apply KPel | with_reducible apply KOel | with_reducible apply KPpm | with_reducible apply KOpm | with_reducible apply KPpp | with_reducible apply KOpp | with_reducible apply KPrd | with_reducible apply KOrd | decide | intro _
theorem k_fX0_commonPart {A : Mm} (hA : HA A) {x0 : Int64} {x2 : Int64} {M : Mm} (hM : PA A M) : KP A (fX0_commonPart x0 x2 M) := by
  unfold fX0_commonPart
  repeat' first | assumption | with_reducible exact KPn | with_reducible exact KOn | with_reducible apply KPs | with_reducible apply KOs | with_reducible apply k_fX0_commonPart_b9 hA | with_reducible apply KPi | with_reducible apply KOi | with_reducible apply KPel | with_reducible apply KOel | with_reducible apply KPpm | with_reducible apply KOpm | with_reducible apply KPpp | with_reducible apply KOpp | with_reducible apply KPrd | with_reducible apply KOrd | decide | intro _
theorem k_fX0_lessen_b35 {A : Mm} (hA : HA A)  : ∀ (n_ : Nat) (v0_ : Nat) (v1_ : Int64) (v2_ : Int32) (M : Mm), PA A M → KO A (fX0_lessen_b35  n_ v0_ v1_ v2_ M) := by
  intro n_
  induction n_ with
  | zero => intro v0_ v1_ v2_ M _; exact KOn
  | succ n_ ih =>
    intro v0_ v1_ v2_ M hM
    rw [fX0_lessen_b35]
    repeat' first | assumption | with_reducible exact KPn | with_reducible exact KOn | with_reducible apply KPs | with_reducible apply KOs | with_reducible apply ih | with_reducible apply ktJ | with_reducible apply KPi | with_reducible apply KOi | with_reducible apply KPel | with_reducible apply KOel | with_reducible apply KPpm | with_reducible apply KOpm | with_reducible apply KPpp | with_reducible apply KOpp | with_reducible apply KPrd | with_reducible apply KOrd | decide | intro _
theorem k_fX0_lessen_b4 {A : Mm} (hA : HA A)  : ∀ (n_ : Nat) (v0_ : Nat) (v1_ : Int64) (v2_ : Int32) (M : Mm), PA A M → KO A (fX0_lessen_b4  n_ v0_ v1_ v2_ M) := by
  intro n_
  induction n_ with
  | zero => intro v0_ v1_ v2_ M _; exact KOn
  | succ n_ ih =>
    intro v0_ v1_ v2_ M hM
    rw [fX0_lessen_b4]
    repeat' first | assumption | with_reducible exact KPn | with_reducible exact KOn | with_reducible apply KPs | with_reducible apply KOs | with_reducible apply k_fX0_lessen_b35 hA | with_reducible apply k_fX0_commonPart hA | with_reducible apply ih | with_reducible apply KPi | with_reducible apply KOi | with_reducible apply KPel | with_reducible apply KOel | with_reducible apply KPpm | with_reducible apply KOpm | with_reducible apply KPpp | with_reducible apply KOpp | with_reducible apply KPrd | with_reducible apply KOrd | decide | intro _
theorem k_fX0_lessen {A : Mm} (hA : HA A) {a0 : Nat} {M : Mm} (hM : PA A M) : KO A (fX0_lessen a0 M) := by
  unfold fX0_lessen
  repeat' first | assumption | with_reducible exact KPn | with_reducible exact KOn | with_reducible apply KPs | with_reducible apply KOs | with_reducible apply k_fX0_lessen_b4 hA | with_reducible apply KPi | with_reducible apply KOi | with_reducible apply KPel | with_reducible apply KOel | with_reducible apply KPpm | with_reducible apply KOpm | with_reducible apply KPpp | with_reducible apply KOpp | with_reducible apply KPrd | with_reducible apply KOrd | decide | intro _
theorem k_fX5_hearStep_b12 {A : Mm} (hA : HA A)  : ∀ (n_ : Nat) (v0_ : Nat) (v1_ : Int32) (v2_ : Int32) (M : Mm), PA A M → KO A (fX5_hearStep_b12  n_ v0_ v1_ v2_ M) := by
  intro n_
  induction n_ with
  | zero => intro v0_ v1_ v2_ M _; exact KOn
  | succ n_ ih =>
    intro v0_ v1_ v2_ M hM
    rw [fX5_hearStep_b12]
    repeat' first | assumption | with_reducible exact KPn | with_reducible exact KOn | with_reducible apply KPs | with_reducible apply KOs | with_reducible apply k_fX0_endMoves hA | with_reducible apply k_fX0_lessen hA | with_reducible apply k_fX0_move hA | with_reducible apply k_fX5_reach hA | with_reducible apply ih | with_reducible apply kpI hA | with_reducible apply KPi | with_reducible apply KOi | with_reducible apply KPel | with_reducible apply KOel | with_reducible apply KPpm | with_reducible apply KOpm | with_reducible apply KPpp | with_reducible apply KOpp | with_reducible apply KPrd | with_reducible apply KOrd | decide | intro _
theorem k_fX5_hearStep {A : Mm} (hA : HA A) {a0 : Nat} {x1 : Int32} {M : Mm} (hM : PA A M) : KO A (fX5_hearStep a0 x1 M) := by
  unfold fX5_hearStep
  repeat' first | assumption | with_reducible exact KPn | with_reducible exact KOn | with_reducible apply KPs | with_reducible apply KOs | with_reducible apply k_fX5_hearStep_b12 hA | with_reducible apply KPi | with_reducible apply KOi | with_reducible apply KPel | with_reducible apply KOel | with_reducible apply KPpm | with_reducible apply KOpm | with_reducible apply KPpp | with_reducible apply KOpp | with_reducible apply KPrd | with_reducible apply KOrd | decide | intro _
theorem k_fX8_step {A : Mm} (hA : HA A) {a0 : Nat} {x1 : Int32} {M : Mm} (hM : PA A M) : KP A (fX8_step a0 x1 M) := by
  unfold fX8_step
  repeat' first | assumption | with_reducible exact KPn | with_reducible exact KOn | with_reducible apply KPs | with_reducible apply KOs | with_reducible apply k_fX5_hearStep hA | with_reducible apply k_fX8_refused hA | with_reducible apply KPi | with_reducible apply KOi | with_reducible apply KPel | with_reducible apply KOel | with_reducible apply KPpm | with_reducible apply KOpm | with_reducible apply KPpp | with_reducible apply KOpp | with_reducible apply KPrd | with_reducible apply KOrd | decide | intro _
theorem k_fX5_timesOf {A : Mm} (hA : HA A) {a0 : Nat} {a1 : Nat} {x2 : Int32} {x3 : Int32} {M : Mm} (hM : PA A M) : KP A (fX5_timesOf a0 a1 x2 x3 M) := by
  unfold fX5_timesOf
  repeat' first | assumption | with_reducible exact KPn | with_reducible exact KOn | with_reducible apply KPs | with_reducible apply KOs | with_reducible apply k_fX5_tenthsOf hA | with_reducible apply KPi | with_reducible apply KOi | with_reducible apply KPel | with_reducible apply KOel | with_reducible apply KPpm | with_reducible apply KOpm | with_reducible apply KPpp | with_reducible apply KOpp | with_reducible apply KPrd | with_reducible apply KOrd | decide | intro _
theorem k_fX5_canBe_b2 {A : Mm} (hA : HA A)  : ∀ (n_ : Nat) (v0_ : Nat) (v1_ : Nat) (v2_ : Int32) (v3_ : Int32) (M : Mm), PA A M → KP A (fX5_canBe_b2  n_ v0_ v1_ v2_ v3_ M) := by
  intro n_
  induction n_ with
  | zero => intro v0_ v1_ v2_ v3_ M _; exact KPn
  | succ n_ ih =>
    intro v0_ v1_ v2_ v3_ M hM
    rw [fX5_canBe_b2]
    repeat' first | assumption | with_reducible exact KPn | with_reducible exact KOn | with_reducible apply KPs | with_reducible apply KOs | with_reducible apply k_fX0_at hA | with_reducible apply k_fX5_timesOf hA | with_reducible apply ih | with_reducible apply KPi | with_reducible apply KOi | with_reducible apply KPel | with_reducible apply KOel | with_reducible apply KPpm | with_reducible apply KOpm | with_reducible apply KPpp | with_reducible apply KOpp | with_reducible apply KPrd | with_reducible apply KOrd | decide | intro _
theorem k_fX5_canBe {A : Mm} (hA : HA A) {a0 : Nat} {a1 : Nat} {x2 : Int32} {M : Mm} (hM : PA A M) : KP A (fX5_canBe a0 a1 x2 M) := by
  unfold fX5_canBe
  repeat' first | assumption | with_reducible exact KPn | with_reducible exact KOn | with_reducible apply KPs | with_reducible apply KOs | with_reducible apply k_fX5_canBe_b2 hA | with_reducible apply KPi | with_reducible apply KOi | with_reducible apply KPel | with_reducible apply KOel | with_reducible apply KPpm | with_reducible apply KOpm | with_reducible apply KPpp | with_reducible apply KOpp | with_reducible apply KPrd | with_reducible apply KOrd | decide | intro _
theorem k_fX0_multiply {A : Mm} (hA : HA A) {a0 : Nat} {x1 : Int32} {x2 : Int32} {M : Mm} (hM : PA A M) : KO A (fX0_multiply a0 x1 x2 M) := by
  unfold fX0_multiply
  repeat' first | assumption | with_reducible exact KPn | with_reducible exact KOn | with_reducible apply KPs | with_reducible apply KOs | with_reducible apply ktJ | with_reducible apply KPi | with_reducible apply KOi | with_reducible apply KPel | with_reducible apply KOel | with_reducible apply KPpm | with_reducible apply KOpm | with_reducible apply KPpp | with_reducible apply KOpp | with_reducible apply KPrd | with_reducible apply KOrd | decide | intro _
theorem k_fX5_hearSign_b2 {A : Mm} (hA : HA A)  : ∀ (n_ : Nat) (v0_ : Nat) (v1_ : Nat) (v2_ : Int32) (v3_ : Int32) (M : Mm), PA A M → KO A (fX5_hearSign_b2  n_ v0_ v1_ v2_ v3_ M) := by
  intro n_
  induction n_ with
  | zero => intro v0_ v1_ v2_ v3_ M _; exact KOn
  | succ n_ ih =>
    intro v0_ v1_ v2_ v3_ M hM
    rw [fX5_hearSign_b2]
    repeat' first | assumption | with_reducible exact KPn | with_reducible exact KOn | with_reducible apply KPs | with_reducible apply KOs | with_reducible apply k_fX0_lessen hA | with_reducible apply k_fX5_timesOf hA | with_reducible apply k_fX0_multiply hA | with_reducible apply ih | with_reducible apply kpI hA | with_reducible apply KPi | with_reducible apply KOi | with_reducible apply KPel | with_reducible apply KOel | with_reducible apply KPpm | with_reducible apply KOpm | with_reducible apply KPpp | with_reducible apply KOpp | with_reducible apply KPrd | with_reducible apply KOrd | decide | intro _
theorem k_fX5_hearSign {A : Mm} (hA : HA A) {a0 : Nat} {a1 : Nat} {x2 : Int32} {M : Mm} (hM : PA A M) : KO A (fX5_hearSign a0 a1 x2 M) := by
  unfold fX5_hearSign
  repeat' first | assumption | with_reducible exact KPn | with_reducible exact KOn | with_reducible apply KPs | with_reducible apply KOs | with_reducible apply k_fX5_hearSign_b2 hA | with_reducible apply KPi | with_reducible apply KOi | with_reducible apply KPel | with_reducible apply KOel | with_reducible apply KPpm | with_reducible apply KOpm | with_reducible apply KPpp | with_reducible apply KOpp | with_reducible apply KPrd | with_reducible apply KOrd | decide | intro _
theorem k_fX8_feel {A : Mm} (hA : HA A) {a0 : Nat} {x1 : Int32} {x2 : Int32} {M : Mm} (hM : PA A M) : KP A (fX8_feel a0 x1 x2 M) := by
  unfold fX8_feel
  repeat' first | assumption | with_reducible exact KPn | with_reducible exact KOn | with_reducible apply KPs | with_reducible apply KOs | with_reducible apply k_fX5_signAt hA | with_reducible apply k_fX8_refused hA | with_reducible apply k_fX5_canBe hA | with_reducible apply k_fX5_hearSign hA | with_reducible apply KPi | with_reducible apply KOi | with_reducible apply KPel | with_reducible apply KOel | with_reducible apply KPpm | with_reducible apply KOpm | with_reducible apply KPpp | with_reducible apply KOpp | with_reducible apply KPrd | with_reducible apply KOrd | decide | intro _
theorem k_fX0_surest_b4 {A : Mm} (hA : HA A)  : ∀ (n_ : Nat) (v0_ : Nat) (v1_ : Int32) (v2_ : Int32) (M : Mm), PA A M → KP A (fX0_surest_b4  n_ v0_ v1_ v2_ M) := by
  intro n_
  induction n_ with
  | zero => intro v0_ v1_ v2_ M _; exact KPn
  | succ n_ ih =>
    intro v0_ v1_ v2_ M hM
    rw [fX0_surest_b4]
    repeat' first | assumption | with_reducible exact KPn | with_reducible exact KOn | with_reducible apply KPs | with_reducible apply KOs | with_reducible apply ih | with_reducible apply KPi | with_reducible apply KOi | with_reducible apply KPel | with_reducible apply KOel | with_reducible apply KPpm | with_reducible apply KOpm | with_reducible apply KPpp | with_reducible apply KOpp | with_reducible apply KPrd | with_reducible apply KOrd | decide | intro _
theorem k_fX0_surest {A : Mm} (hA : HA A) {a0 : Nat} {M : Mm} (hM : PA A M) : KP A (fX0_surest a0 M) := by
  unfold fX0_surest
  repeat' first | assumption | with_reducible exact KPn | with_reducible exact KOn | with_reducible apply KPs | with_reducible apply KOs | with_reducible apply k_fX0_surest_b4 hA | with_reducible apply KPi | with_reducible apply KOi | with_reducible apply KPel | with_reducible apply KOel | with_reducible apply KPpm | with_reducible apply KOpm | with_reducible apply KPpp | with_reducible apply KOpp | with_reducible apply KPrd | with_reducible apply KOrd | decide | intro _
theorem k_fX8_where {A : Mm} (hA : HA A) {a0 : Nat} {M : Mm} (hM : PA A M) : KP A (fX8_where a0 M) := by
  unfold fX8_where
  repeat' first | assumption | with_reducible exact KPn | with_reducible exact KOn | with_reducible apply KPs | with_reducible apply KOs | with_reducible apply k_fX0_surest hA | with_reducible apply KPi | with_reducible apply KOi | with_reducible apply KPel | with_reducible apply KOel | with_reducible apply KPpm | with_reducible apply KOpm | with_reducible apply KPpp | with_reducible apply KOpp | with_reducible apply KPrd | with_reducible apply KOrd | decide | intro _
theorem k_fX8_isLost {A : Mm} (hA : HA A) {a0 : Nat} {M : Mm} (hM : PA A M) : KP A (fX8_isLost a0 M) := by
  unfold fX8_isLost
  repeat' first | assumption | with_reducible exact KPn | with_reducible exact KOn | with_reducible apply KPs | with_reducible apply KOs | with_reducible apply k_fX0_surest hA | with_reducible apply k_fX0_at hA | with_reducible apply k_fX0_all hA | with_reducible apply KPi | with_reducible apply KOi | with_reducible apply KPel | with_reducible apply KOel | with_reducible apply KPpm | with_reducible apply KOpm | with_reducible apply KPpp | with_reducible apply KOpp | with_reducible apply KPrd | with_reducible apply KOrd | decide | intro _
theorem k_fX8_newsTrouble {A : Mm} (hA : HA A) {a0 : Option Nat} {x1 : Int32} {M : Mm} (hM : PA A M) : KP A (fX8_newsTrouble a0 x1 M) := by
  unfold fX8_newsTrouble
  repeat' first | assumption | with_reducible exact KPn | with_reducible exact KOn | with_reducible apply KPs | with_reducible apply KOs | with_reducible apply k_fX8_rowTrouble hA | with_reducible apply k_fX3_hasRun hA | with_reducible apply KPi | with_reducible apply KOi | with_reducible apply KPel | with_reducible apply KOel | with_reducible apply KPpm | with_reducible apply KOpm | with_reducible apply KPpp | with_reducible apply KOpp | with_reducible apply KPrd | with_reducible apply KOrd | decide | intro _
theorem k_fX5_hears_b20 {A : Mm} (hA : HA A) {a0 : Nat} {x1 : Int32} {M : Mm} (hM : PA A M) : KP A (fX5_hears_b20 a0 x1 M) := by
  unfold fX5_hears_b20
  repeat' first | assumption | with_reducible exact KPn | with_reducible exact KOn | with_reducible apply KPs | with_reducible apply KOs | with_reducible apply k_fX5_hearStep hA | with_reducible apply KPi | with_reducible apply KOi | with_reducible apply KPel | with_reducible apply KOel | with_reducible apply KPpm | with_reducible apply KOpm | with_reducible apply KPpp | with_reducible apply KOpp | with_reducible apply KPrd | with_reducible apply KOrd | decide | intro _
theorem k_fX5_hears_b70 {A : Mm} (hA : HA A) {a0 : Nat} {x2 : Int32} {s0 : Nat} {s1 : Int32} {M : Mm} (hM : PA A M) : KP A (fX5_hears_b70 a0 x2 s0 s1 M) := by
  unfold fX5_hears_b70
  repeat' first | assumption | with_reducible exact KPn | with_reducible exact KOn | with_reducible apply KPs | with_reducible apply KOs | with_reducible apply k_fX5_signAt hA | with_reducible apply k_fX5_canBe hA | with_reducible apply k_fX5_hearSign hA | with_reducible apply KPi | with_reducible apply KOi | with_reducible apply KPel | with_reducible apply KOel | with_reducible apply KPpm | with_reducible apply KOpm | with_reducible apply KPpp | with_reducible apply KOpp | with_reducible apply KPrd | with_reducible apply KOrd | decide | intro _
theorem k_fX5_hears_b53 {A : Mm} (hA : HA A) {a0 : Nat} {x1 : Int32} {s0 : Int32} {M : Mm} (hM : PA A M) : KP A (fX5_hears_b53 a0 x1 s0 M) := by
  unfold fX5_hears_b53
  repeat' first | assumption | with_reducible exact KPn | with_reducible exact KOn | with_reducible apply KPs | with_reducible apply KOs | with_reducible apply k_fX5_hears_b70 hA | with_reducible apply KPi | with_reducible apply KOi | with_reducible apply KPel | with_reducible apply KOel | with_reducible apply KPpm | with_reducible apply KOpm | with_reducible apply KPpp | with_reducible apply KOpp | with_reducible apply KPrd | with_reducible apply KOrd | decide | intro _
theorem k_fX5_hears_b52 {A : Mm} (hA : HA A) {a0 : Nat} {x1 : Int32} {M : Mm} (hM : PA A M) : KP A (fX5_hears_b52 a0 x1 M) := by
  unfold fX5_hears_b52
  repeat' first | assumption | with_reducible exact KPn | with_reducible exact KOn | with_reducible apply KPs | with_reducible apply KOs | with_reducible apply k_fX5_hears_b53 hA | with_reducible apply KPi | with_reducible apply KOi | with_reducible apply KPel | with_reducible apply KOel | with_reducible apply KPpm | with_reducible apply KOpm | with_reducible apply KPpp | with_reducible apply KOpp | with_reducible apply KPrd | with_reducible apply KOrd | decide | intro _
theorem k_fX5_hears {A : Mm} (hA : HA A) {a0 : Nat} {x1 : Int32} {M : Mm} (hM : PA A M) : KP A (fX5_hears a0 x1 M) := by
  unfold fX5_hears
  repeat' first | assumption | with_reducible exact KPn | with_reducible exact KOn | with_reducible apply KPs | with_reducible apply KOs | with_reducible apply k_fX5_hears_b20 hA | with_reducible apply k_fX5_hears_b52 hA | with_reducible apply k_fX5_hears_b53 hA | with_reducible apply KPi | with_reducible apply KOi | with_reducible apply KPel | with_reducible apply KOel | with_reducible apply KPpm | with_reducible apply KOpm | with_reducible apply KPpp | with_reducible apply KOpp | with_reducible apply KPrd | with_reducible apply KOrd | decide | intro _
theorem k_fX8_tryNews_b13 {A : Mm} (hA : HA A)  : ∀ (n_ : Nat) (v0_ : Nat) (v1_ : Nat) (v2_ : Int32) (v3_ : Int32) (M : Mm), PA A M → KP A (fX8_tryNews_b13  n_ v0_ v1_ v2_ v3_ M) := by
  intro n_
  induction n_ with
  | zero => intro v0_ v1_ v2_ v3_ M _; exact KPn
  | succ n_ ih =>
    intro v0_ v1_ v2_ v3_ M hM
    rw [fX8_tryNews_b13]
    repeat' first | assumption | with_reducible exact KPn | with_reducible exact KOn | with_reducible apply KPs | with_reducible apply KOs | with_reducible apply k_fX3_intAt hA | with_reducible apply k_fX5_hears hA | with_reducible apply ih | with_reducible apply KPi | with_reducible apply KOi | with_reducible apply KPel | with_reducible apply KOel | with_reducible apply KPpm | with_reducible apply KOpm | with_reducible apply KPpp | with_reducible apply KOpp | with_reducible apply KPrd | with_reducible apply KOrd | decide | intro _
theorem k_fX8_tryNews {A : Mm} (hA : HA A) {a0 : Nat} {a1 : Nat} {x2 : Int32} {M : Mm} (hM : PA A M) : KP A (fX8_tryNews a0 a1 x2 M) := by
  unfold fX8_tryNews
  repeat' first | assumption | with_reducible exact KPn | with_reducible exact KOn | with_reducible apply KPs | with_reducible apply KOs | with_reducible apply k_fX5_becomeLike hA | with_reducible apply k_fX8_tryNews_b13 hA | with_reducible apply KPi | with_reducible apply KOi | with_reducible apply KPel | with_reducible apply KOel | with_reducible apply KPpm | with_reducible apply KOpm | with_reducible apply KPpp | with_reducible apply KOpp | with_reducible apply KPrd | with_reducible apply KOrd | decide | intro _
theorem k_fX8_judge {A : Mm} (hA : HA A) {a0 : Nat} {x1 : Int32} {x2 : Int32} {M : Mm} (hM : PA A M) : KP A (fX8_judge a0 x1 x2 M) := by
  unfold fX8_judge
  repeat' first | assumption | with_reducible exact KPn | with_reducible exact KOn | with_reducible apply KPs | with_reducible apply KOs | with_reducible apply k_fX8_shelfAt hA | with_reducible apply k_fX8_newsTrouble hA | with_reducible apply k_fX8_refused hA | with_reducible apply k_fX8_tryNews hA | with_reducible apply KPi | with_reducible apply KOi | with_reducible apply KPel | with_reducible apply KOel | with_reducible apply KPpm | with_reducible apply KOpm | with_reducible apply KPpp | with_reducible apply KOpp | with_reducible apply KPrd | with_reducible apply KOrd | decide | intro _
theorem k_fX8_told {A : Mm} (hA : HA A) {a0 : Nat} {x1 : Int32} {x2 : Int32} {M : Mm} (hM : PA A M) : KP A (fX8_told a0 x1 x2 M) := by
  unfold fX8_told
  repeat' first | assumption | with_reducible exact KPn | with_reducible exact KOn | with_reducible apply KPs | with_reducible apply KOs | with_reducible apply k_fX8_shelfAt hA | with_reducible apply k_fX8_newsTrouble hA | with_reducible apply k_fX8_refused hA | with_reducible apply k_fX8_tryNews hA | with_reducible apply k_fX0_surest hA | with_reducible apply KPi | with_reducible apply KOi | with_reducible apply KPel | with_reducible apply KOel | with_reducible apply KPpm | with_reducible apply KOpm | with_reducible apply KPpp | with_reducible apply KOpp | with_reducible apply KPrd | with_reducible apply KOrd | decide | intro _
theorem k_fX1_lookFrom_b63 {A : Mm} (hA : HA A) {k48 : Nat → Nat → Int32 → Mm → Option (Mm)} (h_k48 : ∀ (w0_ : Nat) (w1_ : Nat) (w2_ : Int32) (Mm_ : Mm), PA A Mm_ → KO A (k48 w0_ w1_ w2_ Mm_)) : ∀ (n_ : Nat) (v0_ : Nat) (v1_ : Nat) (v2_ : Int32) (v3_ : Option Nat) (v4_ : Int32) (M : Mm), PA A M → KO A (fX1_lookFrom_b63 k48 n_ v0_ v1_ v2_ v3_ v4_ M) := by
  intro n_
  induction n_ with
  | zero => intro v0_ v1_ v2_ v3_ v4_ M _; exact KOn
  | succ n_ ih =>
    intro v0_ v1_ v2_ v3_ v4_ M hM
    rw [fX1_lookFrom_b63]
    repeat' first | assumption | with_reducible exact KPn | with_reducible exact KOn | with_reducible apply KPs | with_reducible apply KOs | with_reducible apply k_fX5_tenthsOf hA | with_reducible apply ih | with_reducible apply h_k48 | with_reducible apply ktI hA | with_reducible apply KPi | with_reducible apply KOi | with_reducible apply KPel | with_reducible apply KOel | with_reducible apply KPpm | with_reducible apply KOpm | with_reducible apply KPpp | with_reducible apply KOpp | with_reducible apply KPrd | with_reducible apply KOrd | decide | intro _
theorem k_fX1_lookFrom_b48 {A : Mm} (hA : HA A)  : ∀ (n_ : Nat) (v0_ : Nat) (v1_ : Nat) (v2_ : Int32) (M : Mm), PA A M → KO A (fX1_lookFrom_b48  n_ v0_ v1_ v2_ M) := by
  intro n_
  induction n_ with
  | zero => intro v0_ v1_ v2_ M _; exact KOn
  | succ n_ ih =>
    intro v0_ v1_ v2_ M hM
    rw [fX1_lookFrom_b48]
    repeat' first | assumption | with_reducible exact KPn | with_reducible exact KOn | with_reducible apply KPs | with_reducible apply KOs | with_reducible apply k_fX5_signAt hA | with_reducible apply k_fX1_lookFrom_b63 hA | with_reducible apply ih | with_reducible apply KPi | with_reducible apply KOi | with_reducible apply KPel | with_reducible apply KOel | with_reducible apply KPpm | with_reducible apply KOpm | with_reducible apply KPpp | with_reducible apply KOpp | with_reducible apply KPrd | with_reducible apply KOrd | decide | intro _
theorem k_fX1_lookFrom_b18 {A : Mm} (hA : HA A)  : ∀ (n_ : Nat) (v0_ : Nat) (v1_ : Nat) (v2_ : Int32) (M : Mm), PA A M → KO A (fX1_lookFrom_b18  n_ v0_ v1_ v2_ M) := by
  intro n_
  induction n_ with
  | zero => intro v0_ v1_ v2_ M _; exact KOn
  | succ n_ ih =>
    intro v0_ v1_ v2_ M hM
    rw [fX1_lookFrom_b18]
    repeat' first | assumption | with_reducible exact KPn | with_reducible exact KOn | with_reducible apply KPs | with_reducible apply KOs | with_reducible apply k_fX1_lookFrom_b48 hA | with_reducible apply k_fX0_at hA | with_reducible apply ih | with_reducible apply ktJ | with_reducible apply KPi | with_reducible apply KOi | with_reducible apply KPel | with_reducible apply KOel | with_reducible apply KPpm | with_reducible apply KOpm | with_reducible apply KPpp | with_reducible apply KOpp | with_reducible apply KPrd | with_reducible apply KOrd | decide | intro _
theorem k_fX1_lookFrom {A : Mm} (hA : HA A) {a0 : Nat} {a1 : Nat} {M : Mm} (hM : PA A M) : KO A (fX1_lookFrom a0 a1 M) := by
  unfold fX1_lookFrom
  repeat' first | assumption | with_reducible exact KPn | with_reducible exact KOn | with_reducible apply KPs | with_reducible apply KOs | with_reducible apply k_fX1_lookFrom_b18 hA | with_reducible apply kpI hA | with_reducible apply KPi | with_reducible apply KOi | with_reducible apply KPel | with_reducible apply KOel | with_reducible apply KPpm | with_reducible apply KOpm | with_reducible apply KPpp | with_reducible apply KOpp | with_reducible apply KPrd | with_reducible apply KOrd | decide | intro _
theorem k_fX1_greatest_b24 {A : Mm} (hA : HA A)  : ∀ (n_ : Nat) (v0_ : Nat) (v1_ : Option Nat) (v2_ : Int64) (v3_ : Int32) (M : Mm), PA A M → KP A (fX1_greatest_b24  n_ v0_ v1_ v2_ v3_ M) := by
  intro n_
  induction n_ with
  | zero => intro v0_ v1_ v2_ v3_ M _; exact KPn
  | succ n_ ih =>
    intro v0_ v1_ v2_ v3_ M hM
    rw [fX1_greatest_b24]
    repeat' first | assumption | with_reducible exact KPn | with_reducible exact KOn | with_reducible apply KPs | with_reducible apply KOs | with_reducible apply ih | with_reducible apply KPi | with_reducible apply KOi | with_reducible apply KPel | with_reducible apply KOel | with_reducible apply KPpm | with_reducible apply KOpm | with_reducible apply KPpp | with_reducible apply KOpp | with_reducible apply KPrd | with_reducible apply KOrd | decide | intro _
theorem k_fX1_greatest {A : Mm} (hA : HA A) {a0 : Nat} {x1 : Int32} {M : Mm} (hM : PA A M) : KP A (fX1_greatest a0 x1 M) := by
  unfold fX1_greatest
  repeat' first | assumption | with_reducible exact KPn | with_reducible exact KOn | with_reducible apply KPs | with_reducible apply KOs | with_reducible apply k_fX1_greatest_b24 hA | with_reducible apply KPi | with_reducible apply KOi | with_reducible apply KPel | with_reducible apply KOel | with_reducible apply KPpm | with_reducible apply KOpm | with_reducible apply KPpp | with_reducible apply KOpp | with_reducible apply KPrd | with_reducible apply KOrd | decide | intro _
theorem k_fX1_lowestOf_b2 {A : Mm} (hA : HA A)  : ∀ (n_ : Nat) (v0_ : Int32) (v1_ : Int32) (M : Mm), PA A M → KP A (fX1_lowestOf_b2  n_ v0_ v1_ M) := by
  intro n_
  induction n_ with
  | zero => intro v0_ v1_ M _; exact KPn
  | succ n_ ih =>
    intro v0_ v1_ M hM
    rw [fX1_lowestOf_b2]
    repeat' first | assumption | with_reducible exact KPn | with_reducible exact KOn | with_reducible apply KPs | with_reducible apply KOs | with_reducible apply ih | with_reducible apply KPi | with_reducible apply KOi | with_reducible apply KPel | with_reducible apply KOel | with_reducible apply KPpm | with_reducible apply KOpm | with_reducible apply KPpp | with_reducible apply KOpp | with_reducible apply KPrd | with_reducible apply KOrd | decide | intro _
theorem k_fX1_lowestOf {A : Mm} (hA : HA A) {x0 : Int32} {M : Mm} (hM : PA A M) : KP A (fX1_lowestOf x0 M) := by
  unfold fX1_lowestOf
  repeat' first | assumption | with_reducible exact KPn | with_reducible exact KOn | with_reducible apply KPs | with_reducible apply KOs | with_reducible apply k_fX1_lowestOf_b2 hA | with_reducible apply KPi | with_reducible apply KOi | with_reducible apply KPel | with_reducible apply KOel | with_reducible apply KPpm | with_reducible apply KOpm | with_reducible apply KPpp | with_reducible apply KOpp | with_reducible apply KPrd | with_reducible apply KOrd | decide | intro _
theorem k_fX1_weigh_b118 {A : Mm} (hA : HA A) {x7 : Int64} {M : Mm} (hM : PA A M) : KP A (fX1_weigh_b118 x7 M) := by
  unfold fX1_weigh_b118
  repeat' first | assumption | with_reducible exact KPn | with_reducible exact KOn | with_reducible apply KPs | with_reducible apply KOs | with_reducible apply KPi | with_reducible apply KOi | with_reducible apply KPel | with_reducible apply KOel | with_reducible apply KPpm | with_reducible apply KOpm | with_reducible apply KPpp | with_reducible apply KOpp | with_reducible apply KPrd | with_reducible apply KOrd | decide | intro _
theorem k_fX1_weigh_b99 {A : Mm} (hA : HA A) {k54 : Nat → Int32 → Option Nat → Option Nat → Option Nat → Int64 → Int32 → Mm → Option (Int32 × Mm)} {a0 : Nat} {x3 : Int32} {a4 : Option Nat} {a5 : Option Nat} {a6 : Option Nat} {x7 : Int64} {x9 : Int32} {s0 : Option Nat} {s1 : Int32} {s2 : Int64} {s3 : Int32} {M : Mm} (h_k54 : ∀ (w0_ : Nat) (w1_ : Int32) (w2_ : Option Nat) (w3_ : Option Nat) (w4_ : Option Nat) (w5_ : Int64) (w6_ : Int32) (Mm_ : Mm), PA A Mm_ → KP A (k54 w0_ w1_ w2_ w3_ w4_ w5_ w6_ Mm_)) (hM : PA A M) : KP A (fX1_weigh_b99 k54 a0 x3 a4 a5 a6 x7 x9 s0 s1 s2 s3 M) := by
  unfold fX1_weigh_b99
  repeat' first | assumption | with_reducible exact KPn | with_reducible exact KOn | with_reducible apply KPs | with_reducible apply KOs | with_reducible apply h_k54 | with_reducible apply ktJ | with_reducible apply KPi | with_reducible apply KOi | with_reducible apply KPel | with_reducible apply KOel | with_reducible apply KPpm | with_reducible apply KOpm | with_reducible apply KPpp | with_reducible apply KOpp | with_reducible apply KPrd | with_reducible apply KOrd | decide | intro _
theorem k_fX1_weigh_b54 {A : Mm} (hA : HA A)  : ∀ (n_ : Nat) (v0_ : Nat) (v1_ : Int32) (v2_ : Option Nat) (v3_ : Option Nat) (v4_ : Option Nat) (v5_ : Int64) (v6_ : Int32) (M : Mm), PA A M → KP A (fX1_weigh_b54  n_ v0_ v1_ v2_ v3_ v4_ v5_ v6_ M) := by
  intro n_
  induction n_ with
  | zero => intro v0_ v1_ v2_ v3_ v4_ v5_ v6_ M _; exact KPn
  | succ n_ ih =>
    intro v0_ v1_ v2_ v3_ v4_ v5_ v6_ M hM
    rw [fX1_weigh_b54]
    repeat' first | assumption | with_reducible exact KPn | with_reducible exact KOn | with_reducible apply KPs | with_reducible apply KOs | with_reducible apply k_fX1_weigh_b118 hA | with_reducible apply k_fX1_weigh_b99 hA | with_reducible apply ih | with_reducible apply KPi | with_reducible apply KOi | with_reducible apply KPel | with_reducible apply KOel | with_reducible apply KPpm | with_reducible apply KOpm | with_reducible apply KPpp | with_reducible apply KOpp | with_reducible apply KPrd | with_reducible apply KOrd | decide | intro _
theorem k_fX1_weigh {A : Mm} (hA : HA A) {a0 : Nat} {x1 : Int32} {x2 : Int32} {x3 : Int32} {M : Mm} (hM : PA A M) : KP A (fX1_weigh a0 x1 x2 x3 M) := by
  unfold fX1_weigh
  repeat' first | assumption | with_reducible exact KPn | with_reducible exact KOn | with_reducible apply KPs | with_reducible apply KOs | with_reducible apply k_fX1_weigh_b54 hA | with_reducible apply KPi | with_reducible apply KOi | with_reducible apply KPel | with_reducible apply KOel | with_reducible apply KPpm | with_reducible apply KOpm | with_reducible apply KPpp | with_reducible apply KOpp | with_reducible apply KPrd | with_reducible apply KOrd | decide | intro _
theorem k_fX1_worthBehind {A : Mm} (hA : HA A)  : ∀ (n_ : Nat) (v0_ : Nat) (v1_ : Int32) (v2_ : Int32) (M : Mm), PA A M → KP A (fX1_worthBehind  n_ v0_ v1_ v2_ M) := by
  intro n_
  induction n_ with
  | zero => intro v0_ v1_ v2_ M _; exact KPn
  | succ n_ ih =>
    intro v0_ v1_ v2_ M hM
    rw [fX1_worthBehind]
    repeat' first | assumption | with_reducible exact KPn | with_reducible exact KOn | with_reducible apply KPs | with_reducible apply KOs | with_reducible apply k_fX1_greatest hA | with_reducible apply k_fX1_lowestOf hA | with_reducible apply k_fX1_weigh hA | with_reducible apply ih | with_reducible apply KPi | with_reducible apply KOi | with_reducible apply KPel | with_reducible apply KOel | with_reducible apply KPpm | with_reducible apply KOpm | with_reducible apply KPpp | with_reducible apply KOpp | with_reducible apply KPrd | with_reducible apply KOrd | decide | intro _
theorem k_fX1_worthOf {A : Mm} (hA : HA A) {a0 : Nat} {x1 : Int32} {M : Mm} (hM : PA A M) : KP A (fX1_worthOf a0 x1 M) := by
  unfold fX1_worthOf
  repeat' first | assumption | with_reducible exact KPn | with_reducible exact KOn | with_reducible apply KPs | with_reducible apply KOs | with_reducible apply k_fX1_worthBehind hA | with_reducible apply KPi | with_reducible apply KOi | with_reducible apply KPel | with_reducible apply KOel | with_reducible apply KPpm | with_reducible apply KOpm | with_reducible apply KPpp | with_reducible apply KOpp | with_reducible apply KPrd | with_reducible apply KOrd | decide | intro _
theorem k_fX8_worth {A : Mm} (hA : HA A) {a0 : Nat} {x1 : Int32} {M : Mm} (hM : PA A M) : KP A (fX8_worth a0 x1 M) := by
  unfold fX8_worth
  repeat' first | assumption | with_reducible exact KPn | with_reducible exact KOn | with_reducible apply KPs | with_reducible apply KOs | with_reducible apply k_fX8_refused hA | with_reducible apply k_fJ6_bitCount_0f7a4 hA | with_reducible apply k_fX1_lookFrom hA | with_reducible apply k_fX1_worthOf hA | with_reducible apply KPi | with_reducible apply KOi | with_reducible apply KPel | with_reducible apply KOel | with_reducible apply KPpm | with_reducible apply KOpm | with_reducible apply KPpp | with_reducible apply KOpp | with_reducible apply KPrd | with_reducible apply KOrd | decide | intro _
theorem k_fX1_bestAlone_b9 {A : Mm} (hA : HA A)  : ∀ (n_ : Nat) (v0_ : Nat) (v1_ : Int32) (v2_ : Int64) (v3_ : Int32) (M : Mm), PA A M → KP A (fX1_bestAlone_b9  n_ v0_ v1_ v2_ v3_ M) := by
  intro n_
  induction n_ with
  | zero => intro v0_ v1_ v2_ v3_ M _; exact KPn
  | succ n_ ih =>
    intro v0_ v1_ v2_ v3_ M hM
    rw [fX1_bestAlone_b9]
    repeat' first | assumption | with_reducible exact KPn | with_reducible exact KOn | with_reducible apply KPs | with_reducible apply KOs | with_reducible apply k_fX1_worthBehind hA | with_reducible apply ih | with_reducible apply KPi | with_reducible apply KOi | with_reducible apply KPel | with_reducible apply KOel | with_reducible apply KPpm | with_reducible apply KOpm | with_reducible apply KPpp | with_reducible apply KOpp | with_reducible apply KPrd | with_reducible apply KOrd | decide | intro _
theorem k_fX1_bestAlone {A : Mm} (hA : HA A) {a0 : Nat} {M : Mm} (hM : PA A M) : KP A (fX1_bestAlone a0 M) := by
  unfold fX1_bestAlone
  repeat' first | assumption | with_reducible exact KPn | with_reducible exact KOn | with_reducible apply KPs | with_reducible apply KOs | with_reducible apply k_fX1_bestAlone_b9 hA | with_reducible apply KPi | with_reducible apply KOi | with_reducible apply KPel | with_reducible apply KOel | with_reducible apply KPpm | with_reducible apply KOpm | with_reducible apply KPpp | with_reducible apply KOpp | with_reducible apply KPrd | with_reducible apply KOrd | decide | intro _
theorem k_fX8_next {A : Mm} (hA : HA A) {a0 : Nat} {M : Mm} (hM : PA A M) : KP A (fX8_next a0 M) := by
  unfold fX8_next
  repeat' first | assumption | with_reducible exact KPn | with_reducible exact KOn | with_reducible apply KPs | with_reducible apply KOs | with_reducible apply k_fX8_refused hA | with_reducible apply k_fX1_lookFrom hA | with_reducible apply k_fX1_bestAlone hA | with_reducible apply KPi | with_reducible apply KOi | with_reducible apply KPel | with_reducible apply KOel | with_reducible apply KPpm | with_reducible apply KOpm | with_reducible apply KPpp | with_reducible apply KOpp | with_reducible apply KPrd | with_reducible apply KOrd | decide | intro _
theorem k_fX1_bestMoreBut_b13 {A : Mm} (hA : HA A)  : ∀ (n_ : Nat) (v0_ : Nat) (v1_ : Int32) (v2_ : Int64) (v3_ : Int32) (M : Mm), PA A M → KP A (fX1_bestMoreBut_b13  n_ v0_ v1_ v2_ v3_ M) := by
  intro n_
  induction n_ with
  | zero => intro v0_ v1_ v2_ v3_ M _; exact KPn
  | succ n_ ih =>
    intro v0_ v1_ v2_ v3_ M hM
    rw [fX1_bestMoreBut_b13]
    repeat' first | assumption | with_reducible exact KPn | with_reducible exact KOn | with_reducible apply KPs | with_reducible apply KOs | with_reducible apply k_fX1_worthBehind hA | with_reducible apply ih | with_reducible apply KPi | with_reducible apply KOi | with_reducible apply KPel | with_reducible apply KOel | with_reducible apply KPpm | with_reducible apply KOpm | with_reducible apply KPpp | with_reducible apply KOpp | with_reducible apply KPrd | with_reducible apply KOrd | decide | intro _
theorem k_fX1_bestMoreBut {A : Mm} (hA : HA A) {a0 : Nat} {x1 : Int32} {M : Mm} (hM : PA A M) : KP A (fX1_bestMoreBut a0 x1 M) := by
  unfold fX1_bestMoreBut
  repeat' first | assumption | with_reducible exact KPn | with_reducible exact KOn | with_reducible apply KPs | with_reducible apply KOs | with_reducible apply k_fX1_greatest hA | with_reducible apply k_fX1_bestMoreBut_b13 hA | with_reducible apply KPi | with_reducible apply KOi | with_reducible apply KPel | with_reducible apply KOel | with_reducible apply KPpm | with_reducible apply KOpm | with_reducible apply KPpp | with_reducible apply KOpp | with_reducible apply KPrd | with_reducible apply KOrd | decide | intro _
theorem k_fX1_bestOfTwo_b9 {A : Mm} (hA : HA A)  : ∀ (n_ : Nat) (v0_ : Nat) (v1_ : Int32) (v2_ : Int64) (v3_ : Int32) (M : Mm), PA A M → KP A (fX1_bestOfTwo_b9  n_ v0_ v1_ v2_ v3_ M) := by
  intro n_
  induction n_ with
  | zero => intro v0_ v1_ v2_ v3_ M _; exact KPn
  | succ n_ ih =>
    intro v0_ v1_ v2_ v3_ M hM
    rw [fX1_bestOfTwo_b9]
    repeat' first | assumption | with_reducible exact KPn | with_reducible exact KOn | with_reducible apply KPs | with_reducible apply KOs | with_reducible apply k_fX1_weigh hA | with_reducible apply k_fX1_bestMoreBut hA | with_reducible apply ih | with_reducible apply KPi | with_reducible apply KOi | with_reducible apply KPel | with_reducible apply KOel | with_reducible apply KPpm | with_reducible apply KOpm | with_reducible apply KPpp | with_reducible apply KOpp | with_reducible apply KPrd | with_reducible apply KOrd | decide | intro _
theorem k_fX1_bestOfTwo {A : Mm} (hA : HA A) {a0 : Nat} {M : Mm} (hM : PA A M) : KP A (fX1_bestOfTwo a0 M) := by
  unfold fX1_bestOfTwo
  repeat' first | assumption | with_reducible exact KPn | with_reducible exact KOn | with_reducible apply KPs | with_reducible apply KOs | with_reducible apply k_fX1_bestOfTwo_b9 hA | with_reducible apply KPi | with_reducible apply KOi | with_reducible apply KPel | with_reducible apply KOel | with_reducible apply KPpm | with_reducible apply KOpm | with_reducible apply KPpp | with_reducible apply KOpp | with_reducible apply KPrd | with_reducible apply KOrd | decide | intro _
theorem k_fX8_ahead {A : Mm} (hA : HA A) {a0 : Nat} {M : Mm} (hM : PA A M) : KP A (fX8_ahead a0 M) := by
  unfold fX8_ahead
  repeat' first | assumption | with_reducible exact KPn | with_reducible exact KOn | with_reducible apply KPs | with_reducible apply KOs | with_reducible apply k_fX8_refused hA | with_reducible apply k_fX1_lookFrom hA | with_reducible apply k_fX1_bestOfTwo hA | with_reducible apply KPi | with_reducible apply KOi | with_reducible apply KPel | with_reducible apply KOel | with_reducible apply KPpm | with_reducible apply KOpm | with_reducible apply KPpp | with_reducible apply KOpp | with_reducible apply KPrd | with_reducible apply KOrd | decide | intro _
theorem k_fX1_reaches_b43 {A : Mm} (hA : HA A)  : ∀ (n_ : Nat) (v0_ : Int32) (v1_ : Int64) (v2_ : Int64) (v3_ : Int32) (M : Mm), PA A M → KP A (fX1_reaches_b43  n_ v0_ v1_ v2_ v3_ M) := by
  intro n_
  induction n_ with
  | zero => intro v0_ v1_ v2_ v3_ M _; exact KPn
  | succ n_ ih =>
    intro v0_ v1_ v2_ v3_ M hM
    rw [fX1_reaches_b43]
    repeat' first | assumption | with_reducible exact KPn | with_reducible exact KOn | with_reducible apply KPs | with_reducible apply KOs | with_reducible apply ih | with_reducible apply KPi | with_reducible apply KOi | with_reducible apply KPel | with_reducible apply KOel | with_reducible apply KPpm | with_reducible apply KOpm | with_reducible apply KPpp | with_reducible apply KOpp | with_reducible apply KPrd | with_reducible apply KOrd | decide | intro _
theorem k_fX1_reaches {A : Mm} (hA : HA A) {a0 : Nat} {x1 : Int32} {x2 : Int32} {x3 : Int32} {x4 : Int64} {M : Mm} (hM : PA A M) : KP A (fX1_reaches a0 x1 x2 x3 x4 M) := by
  unfold fX1_reaches
  repeat' first | assumption | with_reducible exact KPn | with_reducible exact KOn | with_reducible apply KPs | with_reducible apply KOs | with_reducible apply k_fX1_worthBehind hA | with_reducible apply k_fX1_reaches_b43 hA | with_reducible apply KPi | with_reducible apply KOi | with_reducible apply KPel | with_reducible apply KOel | with_reducible apply KPpm | with_reducible apply KOpm | with_reducible apply KPpp | with_reducible apply KOpp | with_reducible apply KPrd | with_reducible apply KOrd | decide | intro _
theorem k_fX1_fewestFor_b15 {A : Mm} (hA : HA A) {k3 : Nat → Int32 → Int64 → Int32 → Mm → Option (Int32 × Mm)} (h_k3 : ∀ (w0_ : Nat) (w1_ : Int32) (w2_ : Int64) (w3_ : Int32) (Mm_ : Mm), PA A Mm_ → KP A (k3 w0_ w1_ w2_ w3_ Mm_)) : ∀ (n_ : Nat) (v0_ : Nat) (v1_ : Int32) (v2_ : Int64) (v3_ : Int32) (v4_ : Int32) (M : Mm), PA A M → KP A (fX1_fewestFor_b15 k3 n_ v0_ v1_ v2_ v3_ v4_ M) := by
  intro n_
  induction n_ with
  | zero => intro v0_ v1_ v2_ v3_ v4_ M _; exact KPn
  | succ n_ ih =>
    intro v0_ v1_ v2_ v3_ v4_ M hM
    rw [fX1_fewestFor_b15]
    repeat' first | assumption | with_reducible exact KPn | with_reducible exact KOn | with_reducible apply KPs | with_reducible apply KOs | with_reducible apply k_fJ6_bitCount_0f7a4 hA | with_reducible apply k_fX1_reaches hA | with_reducible apply ih | with_reducible apply h_k3 | with_reducible apply KPi | with_reducible apply KOi | with_reducible apply KPel | with_reducible apply KOel | with_reducible apply KPpm | with_reducible apply KOpm | with_reducible apply KPpp | with_reducible apply KOpp | with_reducible apply KPrd | with_reducible apply KOrd | decide | intro _
theorem k_fX1_fewestFor_b3 {A : Mm} (hA : HA A)  : ∀ (n_ : Nat) (v0_ : Nat) (v1_ : Int32) (v2_ : Int64) (v3_ : Int32) (M : Mm), PA A M → KP A (fX1_fewestFor_b3  n_ v0_ v1_ v2_ v3_ M) := by
  intro n_
  induction n_ with
  | zero => intro v0_ v1_ v2_ v3_ M _; exact KPn
  | succ n_ ih =>
    intro v0_ v1_ v2_ v3_ M hM
    rw [fX1_fewestFor_b3]
    repeat' first | assumption | with_reducible exact KPn | with_reducible exact KOn | with_reducible apply KPs | with_reducible apply KOs | with_reducible apply k_fX1_fewestFor_b15 hA | with_reducible apply ih | with_reducible apply KPi | with_reducible apply KOi | with_reducible apply KPel | with_reducible apply KOel | with_reducible apply KPpm | with_reducible apply KOpm | with_reducible apply KPpp | with_reducible apply KOpp | with_reducible apply KPrd | with_reducible apply KOrd | decide | intro _
theorem k_fX1_fewestFor {A : Mm} (hA : HA A) {a0 : Nat} {x1 : Int32} {x2 : Int64} {M : Mm} (hM : PA A M) : KP A (fX1_fewestFor a0 x1 x2 M) := by
  unfold fX1_fewestFor
  repeat' first | assumption | with_reducible exact KPn | with_reducible exact KOn | with_reducible apply KPs | with_reducible apply KOs | with_reducible apply k_fX1_fewestFor_b3 hA | with_reducible apply KPi | with_reducible apply KOi | with_reducible apply KPel | with_reducible apply KOel | with_reducible apply KPpm | with_reducible apply KOpm | with_reducible apply KPpp | with_reducible apply KOpp | with_reducible apply KPrd | with_reducible apply KOrd | decide | intro _
theorem k_fX8_least {A : Mm} (hA : HA A) {a0 : Nat} {x1 : Int32} {M : Mm} (hM : PA A M) : KP A (fX8_least a0 x1 M) := by
  unfold fX8_least
  repeat' first | assumption | with_reducible exact KPn | with_reducible exact KOn | with_reducible apply KPs | with_reducible apply KOs | with_reducible apply k_fX8_refused hA | with_reducible apply k_fX1_lookFrom hA | with_reducible apply k_fX0_all hA | with_reducible apply k_fX1_fewestFor hA | with_reducible apply KPi | with_reducible apply KOi | with_reducible apply KPel | with_reducible apply KOel | with_reducible apply KPpm | with_reducible apply KOpm | with_reducible apply KPpp | with_reducible apply KOpp | with_reducible apply KPrd | with_reducible apply KOrd | decide | intro _
theorem k_fX5_standsOnWalk {A : Mm} (hA : HA A) {a0 : Nat} {x1 : Int32} {x2 : Int32} {x3 : Int32} {x4 : Int32} {M : Mm} (hM : PA A M) : KP A (fX5_standsOnWalk a0 x1 x2 x3 x4 M) := by
  unfold fX5_standsOnWalk
  repeat' first | assumption | with_reducible exact KPn | with_reducible exact KOn | with_reducible apply KPs | with_reducible apply KOs | with_reducible apply k_fX5_thingAt hA | with_reducible apply KPi | with_reducible apply KOi | with_reducible apply KPel | with_reducible apply KOel | with_reducible apply KPpm | with_reducible apply KOpm | with_reducible apply KPpp | with_reducible apply KOpp | with_reducible apply KPrd | with_reducible apply KOrd | decide | intro _
theorem k_fX5_missedOfHundred {A : Mm} (hA : HA A) {a0 : Nat} {x1 : Int32} {M : Mm} (hM : PA A M) : KP A (fX5_missedOfHundred a0 x1 M) := by
  unfold fX5_missedOfHundred
  repeat' first | assumption | with_reducible exact KPn | with_reducible exact KOn | with_reducible apply KPs | with_reducible apply KOs | with_reducible apply k_fX5_thingAt hA | with_reducible apply KPi | with_reducible apply KOi | with_reducible apply KPel | with_reducible apply KOel | with_reducible apply KPpm | with_reducible apply KOpm | with_reducible apply KPpp | with_reducible apply KOpp | with_reducible apply KPrd | with_reducible apply KOrd | decide | intro _
theorem k_fX5_safeBut_b6 {A : Mm} (hA : HA A)  : ∀ (n_ : Nat) (v0_ : Nat) (v1_ : Int32) (v2_ : Int32) (v3_ : Int32) (v4_ : Int64) (v5_ : Int32) (M : Mm), PA A M → KP A (fX5_safeBut_b6  n_ v0_ v1_ v2_ v3_ v4_ v5_ M) := by
  intro n_
  induction n_ with
  | zero => intro v0_ v1_ v2_ v3_ v4_ v5_ M _; exact KPn
  | succ n_ ih =>
    intro v0_ v1_ v2_ v3_ v4_ v5_ M hM
    rw [fX5_safeBut_b6]
    repeat' first | assumption | with_reducible exact KPn | with_reducible exact KOn | with_reducible apply KPs | with_reducible apply KOs | with_reducible apply k_fX5_standsOnWalk hA | with_reducible apply k_fX5_missedOfHundred hA | with_reducible apply ih | with_reducible apply KPi | with_reducible apply KOi | with_reducible apply KPel | with_reducible apply KOel | with_reducible apply KPpm | with_reducible apply KOpm | with_reducible apply KPpp | with_reducible apply KOpp | with_reducible apply KPrd | with_reducible apply KOrd | decide | intro _
theorem k_fX5_safeBut {A : Mm} (hA : HA A) {a0 : Nat} {x1 : Int32} {x2 : Int32} {x3 : Int32} {M : Mm} (hM : PA A M) : KP A (fX5_safeBut a0 x1 x2 x3 M) := by
  unfold fX5_safeBut
  repeat' first | assumption | with_reducible exact KPn | with_reducible exact KOn | with_reducible apply KPs | with_reducible apply KOs | with_reducible apply k_fX5_safeBut_b6 hA | with_reducible apply KPi | with_reducible apply KOi | with_reducible apply KPel | with_reducible apply KOel | with_reducible apply KPpm | with_reducible apply KOpm | with_reducible apply KPpp | with_reducible apply KOpp | with_reducible apply KPrd | with_reducible apply KOrd | decide | intro _
theorem k_fX8_safe {A : Mm} (hA : HA A) {a0 : Nat} {x1 : Int32} {x2 : Int32} {M : Mm} (hM : PA A M) : KP A (fX8_safe a0 x1 x2 M) := by
  unfold fX8_safe
  repeat' first | assumption | with_reducible exact KPn | with_reducible exact KOn | with_reducible apply KPs | with_reducible apply KOs | with_reducible apply k_fX5_hasCell hA | with_reducible apply k_fX8_refused hA | with_reducible apply k_fX5_safeBut hA | with_reducible apply KPi | with_reducible apply KOi | with_reducible apply KPel | with_reducible apply KOel | with_reducible apply KPpm | with_reducible apply KOpm | with_reducible apply KPpp | with_reducible apply KOpp | with_reducible apply KPrd | with_reducible apply KOrd | decide | intro _
theorem k_fX5_firstBut_b11 {A : Mm} (hA : HA A)  : ∀ (n_ : Nat) (v0_ : Nat) (v1_ : Int32) (v2_ : Int32) (v3_ : Int32) (v4_ : Int32) (v5_ : Int64) (v6_ : Int32) (M : Mm), PA A M → KP A (fX5_firstBut_b11  n_ v0_ v1_ v2_ v3_ v4_ v5_ v6_ M) := by
  intro n_
  induction n_ with
  | zero => intro v0_ v1_ v2_ v3_ v4_ v5_ v6_ M _; exact KPn
  | succ n_ ih =>
    intro v0_ v1_ v2_ v3_ v4_ v5_ v6_ M hM
    rw [fX5_firstBut_b11]
    repeat' first | assumption | with_reducible exact KPn | with_reducible exact KOn | with_reducible apply KPs | with_reducible apply KOs | with_reducible apply k_fX5_standsOnWalk hA | with_reducible apply k_fX5_safeBut hA | with_reducible apply ih | with_reducible apply KPi | with_reducible apply KOi | with_reducible apply KPel | with_reducible apply KOel | with_reducible apply KPpm | with_reducible apply KOpm | with_reducible apply KPpp | with_reducible apply KOpp | with_reducible apply KPrd | with_reducible apply KOrd | decide | intro _
theorem k_fX5_firstBut {A : Mm} (hA : HA A) {a0 : Nat} {x1 : Int32} {x2 : Int32} {x3 : Int32} {M : Mm} (hM : PA A M) : KP A (fX5_firstBut a0 x1 x2 x3 M) := by
  unfold fX5_firstBut
  repeat' first | assumption | with_reducible exact KPn | with_reducible exact KOn | with_reducible apply KPs | with_reducible apply KOs | with_reducible apply k_fX5_firstBut_b11 hA | with_reducible apply KPi | with_reducible apply KOi | with_reducible apply KPel | with_reducible apply KOel | with_reducible apply KPpm | with_reducible apply KOpm | with_reducible apply KPpp | with_reducible apply KOpp | with_reducible apply KPrd | with_reducible apply KOrd | decide | intro _
theorem k_fX8_first {A : Mm} (hA : HA A) {a0 : Nat} {x1 : Int32} {x2 : Int32} {M : Mm} (hM : PA A M) : KP A (fX8_first a0 x1 x2 M) := by
  unfold fX8_first
  repeat' first | assumption | with_reducible exact KPn | with_reducible exact KOn | with_reducible apply KPs | with_reducible apply KOs | with_reducible apply k_fX5_hasCell hA | with_reducible apply k_fX8_refused hA | with_reducible apply k_fX5_firstBut hA | with_reducible apply KPi | with_reducible apply KOi | with_reducible apply KPel | with_reducible apply KOel | with_reducible apply KPpm | with_reducible apply KOpm | with_reducible apply KPpp | with_reducible apply KOpp | with_reducible apply KPrd | with_reducible apply KOrd | decide | intro _
theorem k_fX5_orderedAt_b6 {A : Mm} (hA : HA A)  : ∀ (n_ : Nat) (v0_ : Nat) (v1_ : Int32) (v2_ : Int32) (v3_ : Int32) (v4_ : Int32) (v5_ : Int32) (M : Mm), PA A M → KP A (fX5_orderedAt_b6  n_ v0_ v1_ v2_ v3_ v4_ v5_ M) := by
  intro n_
  induction n_ with
  | zero => intro v0_ v1_ v2_ v3_ v4_ v5_ M _; exact KPn
  | succ n_ ih =>
    intro v0_ v1_ v2_ v3_ v4_ v5_ M hM
    rw [fX5_orderedAt_b6]
    repeat' first | assumption | with_reducible exact KPn | with_reducible exact KOn | with_reducible apply KPs | with_reducible apply KOs | with_reducible apply k_fX5_firstBut hA | with_reducible apply ih | with_reducible apply KPi | with_reducible apply KOi | with_reducible apply KPel | with_reducible apply KOel | with_reducible apply KPpm | with_reducible apply KOpm | with_reducible apply KPpp | with_reducible apply KOpp | with_reducible apply KPrd | with_reducible apply KOrd | decide | intro _
theorem k_fX5_orderedAt {A : Mm} (hA : HA A) {a0 : Nat} {x1 : Int32} {x2 : Int32} {x3 : Int32} {M : Mm} (hM : PA A M) : KP A (fX5_orderedAt a0 x1 x2 x3 M) := by
  unfold fX5_orderedAt
  repeat' first | assumption | with_reducible exact KPn | with_reducible exact KOn | with_reducible apply KPs | with_reducible apply KOs | with_reducible apply k_fX5_orderedAt_b6 hA | with_reducible apply KPi | with_reducible apply KOi | with_reducible apply KPel | with_reducible apply KOel | with_reducible apply KPpm | with_reducible apply KOpm | with_reducible apply KPpp | with_reducible apply KOpp | with_reducible apply KPrd | with_reducible apply KOrd | decide | intro _
theorem k_fX8_order {A : Mm} (hA : HA A) {a0 : Nat} {x1 : Int32} {x2 : Int32} {x3 : Int32} {M : Mm} (hM : PA A M) : KP A (fX8_order a0 x1 x2 x3 M) := by
  unfold fX8_order
  repeat' first | assumption | with_reducible exact KPn | with_reducible exact KOn | with_reducible apply KPs | with_reducible apply KOs | with_reducible apply k_fX5_hasCell hA | with_reducible apply k_fX8_refused hA | with_reducible apply k_fX5_orderedAt hA | with_reducible apply KPi | with_reducible apply KOi | with_reducible apply KPel | with_reducible apply KOel | with_reducible apply KPpm | with_reducible apply KOpm | with_reducible apply KPpp | with_reducible apply KOpp | with_reducible apply KPrd | with_reducible apply KOrd | decide | intro _
theorem k_fX8_driftAt {A : Mm} (hA : HA A) {a0 : Nat} {x1 : Int32} {M : Mm} (hM : PA A M) : KP A (fX8_driftAt a0 x1 M) := by
  unfold fX8_driftAt
  repeat' first | assumption | with_reducible exact KPn | with_reducible exact KOn | with_reducible apply KPs | with_reducible apply KOs | with_reducible apply KPi | with_reducible apply KOi | with_reducible apply KPel | with_reducible apply KOel | with_reducible apply KPpm | with_reducible apply KOpm | with_reducible apply KPpp | with_reducible apply KOpp | with_reducible apply KPrd | with_reducible apply KOrd | decide | intro _
theorem k_fX8_driftedBy_b41 {A : Mm} (hA : HA A) {k26 : Nat → Int32 → Int32 → Int32 → Int32 → Int32 → Int32 → Mm → Option (Int64 × Mm)} (h_k26 : ∀ (w0_ : Nat) (w1_ : Int32) (w2_ : Int32) (w3_ : Int32) (w4_ : Int32) (w5_ : Int32) (w6_ : Int32) (Mm_ : Mm), PA A Mm_ → KP A (k26 w0_ w1_ w2_ w3_ w4_ w5_ w6_ Mm_)) : ∀ (n_ : Nat) (v0_ : Nat) (v1_ : Int32) (v2_ : Int32) (v3_ : Int32) (v4_ : Int32) (v5_ : Int32) (v6_ : Int32) (v7_ : Int32) (M : Mm), PA A M → KP A (fX8_driftedBy_b41 k26 n_ v0_ v1_ v2_ v3_ v4_ v5_ v6_ v7_ M) := by
  intro n_
  induction n_ with
  | zero => intro v0_ v1_ v2_ v3_ v4_ v5_ v6_ v7_ M _; exact KPn
  | succ n_ ih =>
    intro v0_ v1_ v2_ v3_ v4_ v5_ v6_ v7_ M hM
    rw [fX8_driftedBy_b41]
    repeat' first | assumption | with_reducible exact KPn | with_reducible exact KOn | with_reducible apply KPs | with_reducible apply KOs | with_reducible apply k_fX8_driftAt hA | with_reducible apply ih | with_reducible apply h_k26 | with_reducible apply ktJ | with_reducible apply KPi | with_reducible apply KOi | with_reducible apply KPel | with_reducible apply KOel | with_reducible apply KPpm | with_reducible apply KOpm | with_reducible apply KPpp | with_reducible apply KOpp | with_reducible apply KPrd | with_reducible apply KOrd | decide | intro _
theorem k_fX8_driftedBy_b26 {A : Mm} (hA : HA A)  : ∀ (n_ : Nat) (v0_ : Nat) (v1_ : Int32) (v2_ : Int32) (v3_ : Int32) (v4_ : Int32) (v5_ : Int32) (v6_ : Int32) (M : Mm), PA A M → KP A (fX8_driftedBy_b26  n_ v0_ v1_ v2_ v3_ v4_ v5_ v6_ M) := by
  intro n_
  induction n_ with
  | zero => intro v0_ v1_ v2_ v3_ v4_ v5_ v6_ M _; exact KPn
  | succ n_ ih =>
    intro v0_ v1_ v2_ v3_ v4_ v5_ v6_ M hM
    rw [fX8_driftedBy_b26]
    repeat' first | assumption | with_reducible exact KPn | with_reducible exact KOn | with_reducible apply KPs | with_reducible apply KOs | with_reducible apply k_fX8_driftAt hA | with_reducible apply k_fX8_driftedBy_b41 hA | with_reducible apply ih | with_reducible apply KPi | with_reducible apply KOi | with_reducible apply KPel | with_reducible apply KOel | with_reducible apply KPpm | with_reducible apply KOpm | with_reducible apply KPpp | with_reducible apply KOpp | with_reducible apply KPrd | with_reducible apply KOrd | decide | intro _
theorem k_fX8_driftedBy {A : Mm} (hA : HA A) {a0 : Nat} {x1 : Int32} {x2 : Int32} {x3 : Int32} {x4 : Int32} {M : Mm} (hM : PA A M) : KP A (fX8_driftedBy a0 x1 x2 x3 x4 M) := by
  unfold fX8_driftedBy
  repeat' first | assumption | with_reducible exact KPn | with_reducible exact KOn | with_reducible apply KPs | with_reducible apply KOs | with_reducible apply k_fJ7_fill_d0a16 hA | with_reducible apply k_fX8_driftedBy_b26 hA | with_reducible apply ktJ | with_reducible apply KPi | with_reducible apply KOi | with_reducible apply KPel | with_reducible apply KOel | with_reducible apply KPpm | with_reducible apply KOpm | with_reducible apply KPpp | with_reducible apply KOpp | with_reducible apply KPrd | with_reducible apply KOrd | decide | intro _
theorem k_fX8_over {A : Mm} (hA : HA A) {a0 : Nat} {x1 : Int32} {x2 : Int32} {x3 : Int32} {x4 : Int32} {M : Mm} (hM : PA A M) : KP A (fX8_over a0 x1 x2 x3 x4 M) := by
  unfold fX8_over
  repeat' first | assumption | with_reducible exact KPn | with_reducible exact KOn | with_reducible apply KPs | with_reducible apply KOs | with_reducible apply k_fX8_refused hA | with_reducible apply k_fX8_driftedBy hA | with_reducible apply KPi | with_reducible apply KOi | with_reducible apply KPel | with_reducible apply KOel | with_reducible apply KPpm | with_reducible apply KOpm | with_reducible apply KPpp | with_reducible apply KOpp | with_reducible apply KPrd | with_reducible apply KOrd | decide | intro _
theorem k_fX8_knownOfHundred_b34 {A : Mm} (hA : HA A)  : ∀ (n_ : Nat) (v0_ : Int32) (v1_ : Int32) (v2_ : Int32) (M : Mm), PA A M → KP A (fX8_knownOfHundred_b34  n_ v0_ v1_ v2_ M) := by
  intro n_
  induction n_ with
  | zero => intro v0_ v1_ v2_ M _; exact KPn
  | succ n_ ih =>
    intro v0_ v1_ v2_ M hM
    rw [fX8_knownOfHundred_b34]
    repeat' first | assumption | with_reducible exact KPn | with_reducible exact KOn | with_reducible apply KPs | with_reducible apply KOs | with_reducible apply ih | with_reducible apply KPi | with_reducible apply KOi | with_reducible apply KPel | with_reducible apply KOel | with_reducible apply KPpm | with_reducible apply KOpm | with_reducible apply KPpp | with_reducible apply KOpp | with_reducible apply KPrd | with_reducible apply KOrd | decide | intro _
theorem k_fX8_knownOfHundred_b26 {A : Mm} (hA : HA A) {x1 : Int32} {x2 : Int32} {M : Mm} (hM : PA A M) : KP A (fX8_knownOfHundred_b26 x1 x2 M) := by
  unfold fX8_knownOfHundred_b26
  repeat' first | assumption | with_reducible exact KPn | with_reducible exact KOn | with_reducible apply KPs | with_reducible apply KOs | with_reducible apply k_fX8_knownOfHundred_b34 hA | with_reducible apply KPi | with_reducible apply KOi | with_reducible apply KPel | with_reducible apply KOel | with_reducible apply KPpm | with_reducible apply KOpm | with_reducible apply KPpp | with_reducible apply KOpp | with_reducible apply KPrd | with_reducible apply KOrd | decide | intro _
theorem k_fX8_knownOfHundred_b5 {A : Mm} (hA : HA A)  : ∀ (n_ : Nat) (v0_ : Int32) (v1_ : Int32) (v2_ : Int32) (v3_ : Int32) (M : Mm), PA A M → KP A (fX8_knownOfHundred_b5  n_ v0_ v1_ v2_ v3_ M) := by
  intro n_
  induction n_ with
  | zero => intro v0_ v1_ v2_ v3_ M _; exact KPn
  | succ n_ ih =>
    intro v0_ v1_ v2_ v3_ M hM
    rw [fX8_knownOfHundred_b5]
    repeat' first | assumption | with_reducible exact KPn | with_reducible exact KOn | with_reducible apply KPs | with_reducible apply KOs | with_reducible apply k_fX8_knownOfHundred_b26 hA | with_reducible apply ih | with_reducible apply KPi | with_reducible apply KOi | with_reducible apply KPel | with_reducible apply KOel | with_reducible apply KPpm | with_reducible apply KOpm | with_reducible apply KPpp | with_reducible apply KOpp | with_reducible apply KPrd | with_reducible apply KOrd | decide | intro _
theorem k_fX8_knownOfHundred {A : Mm} (hA : HA A) {x0 : Int32} {x1 : Int32} {M : Mm} (hM : PA A M) : KP A (fX8_knownOfHundred x0 x1 M) := by
  unfold fX8_knownOfHundred
  repeat' first | assumption | with_reducible exact KPn | with_reducible exact KOn | with_reducible apply KPs | with_reducible apply KOs | with_reducible apply k_fX8_knownOfHundred_b5 hA | with_reducible apply KPi | with_reducible apply KOi | with_reducible apply KPel | with_reducible apply KOel | with_reducible apply KPpm | with_reducible apply KOpm | with_reducible apply KPpp | with_reducible apply KOpp | with_reducible apply KPrd | with_reducible apply KOrd | decide | intro _
theorem k_fX8_learnt {A : Mm} (hA : HA A) {a0 : Nat} {x1 : Int32} {x2 : Int32} {M : Mm} (hM : PA A M) : KP A (fX8_learnt a0 x1 x2 M) := by
  unfold fX8_learnt
  repeat' first | assumption | with_reducible exact KPn | with_reducible exact KOn | with_reducible apply KPs | with_reducible apply KOs | with_reducible apply k_fX8_refused hA | with_reducible apply k_fX8_knownOfHundred hA | with_reducible apply KPi | with_reducible apply KOi | with_reducible apply KPel | with_reducible apply KOel | with_reducible apply KPpm | with_reducible apply KOpm | with_reducible apply KPpp | with_reducible apply KOpp | with_reducible apply KPrd | with_reducible apply KOrd | decide | intro _
theorem k_fX8_goings_b32 {A : Mm} (hA : HA A)  : ∀ (n_ : Nat) (v0_ : Int32) (v1_ : Int32) (v2_ : Int32) (M : Mm), PA A M → KP A (fX8_goings_b32  n_ v0_ v1_ v2_ M) := by
  intro n_
  induction n_ with
  | zero => intro v0_ v1_ v2_ M _; exact KPn
  | succ n_ ih =>
    intro v0_ v1_ v2_ M hM
    rw [fX8_goings_b32]
    repeat' first | assumption | with_reducible exact KPn | with_reducible exact KOn | with_reducible apply KPs | with_reducible apply KOs | with_reducible apply k_fX8_knownOfHundred hA | with_reducible apply ih | with_reducible apply KPi | with_reducible apply KOi | with_reducible apply KPel | with_reducible apply KOel | with_reducible apply KPpm | with_reducible apply KOpm | with_reducible apply KPpp | with_reducible apply KOpp | with_reducible apply KPrd | with_reducible apply KOrd | decide | intro _
theorem k_fX8_goings {A : Mm} (hA : HA A) {a0 : Nat} {x1 : Int32} {x2 : Int32} {M : Mm} (hM : PA A M) : KP A (fX8_goings a0 x1 x2 M) := by
  unfold fX8_goings
  repeat' first | assumption | with_reducible exact KPn | with_reducible exact KOn | with_reducible apply KPs | with_reducible apply KOs | with_reducible apply k_fX8_refused hA | with_reducible apply k_fX8_goings_b32 hA | with_reducible apply KPi | with_reducible apply KOi | with_reducible apply KPel | with_reducible apply KOel | with_reducible apply KPpm | with_reducible apply KOpm | with_reducible apply KPpp | with_reducible apply KOpp | with_reducible apply KPrd | with_reducible apply KOrd | decide | intro _
theorem k_fX8_begin {A : Mm} (hA : HA A) {a0 : Nat} {x1 : Int32} {M : Mm} (hM : PA A M) : KP A (fX8_begin a0 x1 M) := by
  unfold fX8_begin
  repeat' first | assumption | with_reducible exact KPn | with_reducible exact KOn | with_reducible apply KPs | with_reducible apply KOs | with_reducible apply k_fX5_hasCell hA | with_reducible apply k_fX8_refused hA | with_reducible apply kpI hA | with_reducible apply KPi | with_reducible apply KOi | with_reducible apply KPel | with_reducible apply KOel | with_reducible apply KPpm | with_reducible apply KOpm | with_reducible apply KPpp | with_reducible apply KOpp | with_reducible apply KPrd | with_reducible apply KOrd | decide | intro _
theorem k_fX8_seedBehind {A : Mm} (hA : HA A) {x0 : Int32} {M : Mm} (hM : PA A M) : KP A (fX8_seedBehind x0 M) := by
  unfold fX8_seedBehind
  repeat' first | assumption | with_reducible exact KPn | with_reducible exact KOn | with_reducible apply KPs | with_reducible apply KOs | with_reducible apply KPi | with_reducible apply KOi | with_reducible apply KPel | with_reducible apply KOel | with_reducible apply KPpm | with_reducible apply KOpm | with_reducible apply KPpp | with_reducible apply KOpp | with_reducible apply KPrd | with_reducible apply KOrd | decide | intro _
theorem k_fX8_drawOf {A : Mm} (hA : HA A) {x0 : Int32} {M : Mm} (hM : PA A M) : KP A (fX8_drawOf x0 M) := by
  unfold fX8_drawOf
  repeat' first | assumption | with_reducible exact KPn | with_reducible exact KOn | with_reducible apply KPs | with_reducible apply KOs | with_reducible apply KPi | with_reducible apply KOi | with_reducible apply KPel | with_reducible apply KOel | with_reducible apply KPpm | with_reducible apply KOpm | with_reducible apply KPpp | with_reducible apply KOpp | with_reducible apply KPrd | with_reducible apply KOrd | decide | intro _
theorem k_fX8_goes_b130 {A : Mm} (hA : HA A) {a0 : Nat} {x1 : Int32} {x3 : Int32} {s0 : Nat} {s1 : Nat} {s2 : Int32} {s3 : Int32} {M : Mm} (hM : PA A M) : KP A (fX8_goes_b130 a0 x1 x3 s0 s1 s2 s3 M) := by
  unfold fX8_goes_b130
  repeat' first | assumption | with_reducible exact KPn | with_reducible exact KOn | with_reducible apply KPs | with_reducible apply KOs | with_reducible apply k_fX5_reach hA | with_reducible apply k_fX5_hearStep hA | with_reducible apply kpI hA | with_reducible apply KPi | with_reducible apply KOi | with_reducible apply KPel | with_reducible apply KOel | with_reducible apply KPpm | with_reducible apply KOpm | with_reducible apply KPpp | with_reducible apply KOpp | with_reducible apply KPrd | with_reducible apply KOrd | decide | intro _
theorem k_fX8_goes_b104 {A : Mm} (hA : HA A) {a0 : Nat} {x1 : Int32} {s0 : Int32} {M : Mm} (hM : PA A M) : KP A (fX8_goes_b104 a0 x1 s0 M) := by
  unfold fX8_goes_b104
  repeat' first | assumption | with_reducible exact KPn | with_reducible exact KOn | with_reducible apply KPs | with_reducible apply KOs | with_reducible apply k_fX8_goes_b130 hA | with_reducible apply KPi | with_reducible apply KOi | with_reducible apply KPel | with_reducible apply KOel | with_reducible apply KPpm | with_reducible apply KOpm | with_reducible apply KPpp | with_reducible apply KOpp | with_reducible apply KPrd | with_reducible apply KOrd | decide | intro _
theorem k_fX8_goes {A : Mm} (hA : HA A) {a0 : Nat} {x1 : Int32} {M : Mm} (hM : PA A M) : KP A (fX8_goes a0 x1 M) := by
  unfold fX8_goes
  repeat' first | assumption | with_reducible exact KPn | with_reducible exact KOn | with_reducible apply KPs | with_reducible apply KOs | with_reducible apply k_fX8_refused hA | with_reducible apply k_fX8_seedBehind hA | with_reducible apply k_fX8_drawOf hA | with_reducible apply k_fX8_goes_b104 hA | with_reducible apply kpI hA | with_reducible apply KPi | with_reducible apply KOi | with_reducible apply KPel | with_reducible apply KOel | with_reducible apply KPpm | with_reducible apply KOpm | with_reducible apply KPpp | with_reducible apply KOpp | with_reducible apply KPrd | with_reducible apply KOrd | decide | intro _
theorem k_fX8_looks_b75 {A : Mm} (hA : HA A) {a0 : Nat} {a2 : Nat} {x3 : Int32} {s0 : Int32} {M : Mm} (hM : PA A M) : KP A (fX8_looks_b75 a0 a2 x3 s0 M) := by
  unfold fX8_looks_b75
  repeat' first | assumption | with_reducible exact KPn | with_reducible exact KOn | with_reducible apply KPs | with_reducible apply KOs | with_reducible apply k_fX5_canBe hA | with_reducible apply k_fX8_refused hA | with_reducible apply k_fX5_hearSign hA | with_reducible apply kpI hA | with_reducible apply KPi | with_reducible apply KOi | with_reducible apply KPel | with_reducible apply KOel | with_reducible apply KPpm | with_reducible apply KOpm | with_reducible apply KPpp | with_reducible apply KOpp | with_reducible apply KPrd | with_reducible apply KOrd | decide | intro _
theorem k_fX8_looks {A : Mm} (hA : HA A) {a0 : Nat} {x1 : Int32} {M : Mm} (hM : PA A M) : KP A (fX8_looks a0 x1 M) := by
  unfold fX8_looks
  repeat' first | assumption | with_reducible exact KPn | with_reducible exact KOn | with_reducible apply KPs | with_reducible apply KOs | with_reducible apply k_fX5_signAt hA | with_reducible apply k_fX8_refused hA | with_reducible apply k_fX8_seedBehind hA | with_reducible apply k_fX8_drawOf hA | with_reducible apply k_fX5_tenthsOf hA | with_reducible apply k_fX8_looks_b75 hA | with_reducible apply KPi | with_reducible apply KOi | with_reducible apply KPel | with_reducible apply KOel | with_reducible apply KPpm | with_reducible apply KOpm | with_reducible apply KPpp | with_reducible apply KOpp | with_reducible apply KPrd | with_reducible apply KOrd | decide | intro _
theorem k_fX8_right {A : Mm} (hA : HA A) {a0 : Nat} {M : Mm} (hM : PA A M) : KP A (fX8_right a0 M) := by
  unfold fX8_right
  repeat' first | assumption | with_reducible exact KPn | with_reducible exact KOn | with_reducible apply KPs | with_reducible apply KOs | with_reducible apply k_fX8_refused hA | with_reducible apply k_fX0_surest hA | with_reducible apply KPi | with_reducible apply KOi | with_reducible apply KPel | with_reducible apply KOel | with_reducible apply KPpm | with_reducible apply KOpm | with_reducible apply KPpp | with_reducible apply KOpp | with_reducible apply KPrd | with_reducible apply KOrd | decide | intro _
theorem k_fX8_seed {A : Mm} (hA : HA A) {a0 : Nat} {x1 : Int32} {M : Mm} (hM : PA A M) : KP A (fX8_seed a0 x1 M) := by
  unfold fX8_seed
  repeat' first | assumption | with_reducible exact KPn | with_reducible exact KOn | with_reducible apply KPs | with_reducible apply KOs | with_reducible apply kpI hA | with_reducible apply KPi | with_reducible apply KOi | with_reducible apply KPel | with_reducible apply KOel | with_reducible apply KPpm | with_reducible apply KOpm | with_reducible apply KPpp | with_reducible apply KOpp | with_reducible apply KPrd | with_reducible apply KOrd | decide | intro _
theorem k_fX7_wipe {A : Mm} (hA : HA A) {a0 : Nat} {M : Mm} (hM : PA A M) : KO A (fX7_wipe a0 M) := by
  unfold fX7_wipe
  repeat' first | assumption | with_reducible exact KPn | with_reducible exact KOn | with_reducible apply KPs | with_reducible apply KOs | with_reducible apply kpI hA | with_reducible apply KPi | with_reducible apply KOi | with_reducible apply KPel | with_reducible apply KOel | with_reducible apply KPpm | with_reducible apply KOpm | with_reducible apply KPpp | with_reducible apply KOpp | with_reducible apply KPrd | with_reducible apply KOrd | decide | intro _
theorem k_fX8_bodyOf {A : Mm} (hA : HA A) {x0 : Int32} {x1 : Int32} {M : Mm} (hM : PA A M) : KP A (fX8_bodyOf x0 x1 M) := by
  unfold fX8_bodyOf
  repeat' first | assumption | with_reducible exact KPn | with_reducible exact KOn | with_reducible apply KPs | with_reducible apply KOs | with_reducible apply KPi | with_reducible apply KOi | with_reducible apply KPel | with_reducible apply KOel | with_reducible apply KPpm | with_reducible apply KOpm | with_reducible apply KPpp | with_reducible apply KOpp | with_reducible apply KPrd | with_reducible apply KOrd | decide | intro _
theorem k_fX8_kindWithBody_b4 {A : Mm} (hA : HA A)  : ∀ (n_ : Nat) (v0_ : Int32) (v1_ : Int32) (v2_ : Int32) (M : Mm), PA A M → KP A (fX8_kindWithBody_b4  n_ v0_ v1_ v2_ M) := by
  intro n_
  induction n_ with
  | zero => intro v0_ v1_ v2_ M _; exact KPn
  | succ n_ ih =>
    intro v0_ v1_ v2_ M hM
    rw [fX8_kindWithBody_b4]
    repeat' first | assumption | with_reducible exact KPn | with_reducible exact KOn | with_reducible apply KPs | with_reducible apply KOs | with_reducible apply k_fX8_bodyOf hA | with_reducible apply ih | with_reducible apply KPi | with_reducible apply KOi | with_reducible apply KPel | with_reducible apply KOel | with_reducible apply KPpm | with_reducible apply KOpm | with_reducible apply KPpp | with_reducible apply KOpp | with_reducible apply KPrd | with_reducible apply KOrd | decide | intro _
theorem k_fX8_kindWithBody {A : Mm} (hA : HA A) {x0 : Int32} {x1 : Int32} {M : Mm} (hM : PA A M) : KP A (fX8_kindWithBody x0 x1 M) := by
  unfold fX8_kindWithBody
  repeat' first | assumption | with_reducible exact KPn | with_reducible exact KOn | with_reducible apply KPs | with_reducible apply KOs | with_reducible apply k_fX8_kindWithBody_b4 hA | with_reducible apply KPi | with_reducible apply KOi | with_reducible apply KPel | with_reducible apply KOel | with_reducible apply KPpm | with_reducible apply KOpm | with_reducible apply KPpp | with_reducible apply KOpp | with_reducible apply KPrd | with_reducible apply KOrd | decide | intro _
theorem k_fX7_add_b26 {A : Mm} (hA : HA A) {a0 : Nat} {M : Mm} (hM : PA A M) : KO A (fX7_add_b26 a0 M) := by
  unfold fX7_add_b26
  repeat' first | assumption | with_reducible exact KPn | with_reducible exact KOn | with_reducible apply KPs | with_reducible apply KOs | with_reducible apply kpI hA | with_reducible apply KPi | with_reducible apply KOi | with_reducible apply KPel | with_reducible apply KOel | with_reducible apply KPpm | with_reducible apply KOpm | with_reducible apply KPpp | with_reducible apply KOpp | with_reducible apply KPrd | with_reducible apply KOrd | decide | intro _
theorem k_fX7_add {A : Mm} (hA : HA A) {a0 : Nat} {x1 : Int32} {M : Mm} (hM : PA A M) : KO A (fX7_add a0 x1 M) := by
  unfold fX7_add
  repeat' first | assumption | with_reducible exact KPn | with_reducible exact KOn | with_reducible apply KPs | with_reducible apply KOs | with_reducible apply k_fX7_add_b26 hA | with_reducible apply ktI hA | with_reducible apply KPi | with_reducible apply KOi | with_reducible apply KPel | with_reducible apply KOel | with_reducible apply KPpm | with_reducible apply KOpm | with_reducible apply KPpp | with_reducible apply KOpp | with_reducible apply KPrd | with_reducible apply KOrd | decide | intro _
theorem k_fX8_perform {A : Mm} (hA : HA A)  : ∀ (n_ : Nat) (v0_ : Nat) (v1_ : Int32) (v2_ : Int32) (v3_ : Int32) (v4_ : Nat) (v5_ : Int32) (M : Mm), PA A M → KP A (fX8_perform  n_ v0_ v1_ v2_ v3_ v4_ v5_ M) := by
  intro n_
  induction n_ with
  | zero => intro v0_ v1_ v2_ v3_ v4_ v5_ M _; exact KPn
  | succ n_ ih =>
    intro v0_ v1_ v2_ v3_ v4_ v5_ M hM
    rw [fX8_perform]
    repeat' first | assumption | with_reducible exact KPn | with_reducible exact KOn | with_reducible apply KPs | with_reducible apply KOs | with_reducible apply k_fX8_kindWithBody hA | with_reducible apply k_fX8_bodyOf hA | with_reducible apply k_fX7_add hA | with_reducible apply ih | with_reducible apply KPi | with_reducible apply KOi | with_reducible apply KPel | with_reducible apply KOel | with_reducible apply KPpm | with_reducible apply KOpm | with_reducible apply KPpp | with_reducible apply KOpp | with_reducible apply KPrd | with_reducible apply KOrd | decide | intro _
theorem k_fX8_act {A : Mm} (hA : HA A) {a0 : Nat} {x1 : Int32} {x2 : Int32} {x3 : Int32} {M : Mm} (hM : PA A M) : KP A (fX8_act a0 x1 x2 x3 M) := by
  unfold fX8_act
  repeat' first | assumption | with_reducible exact KPn | with_reducible exact KOn | with_reducible apply KPs | with_reducible apply KOs | with_reducible apply k_fX7_wipe hA | with_reducible apply k_fX5_signAt hA | with_reducible apply k_fX8_perform hA | with_reducible apply KPi | with_reducible apply KOi | with_reducible apply KPel | with_reducible apply KOel | with_reducible apply KPpm | with_reducible apply KOpm | with_reducible apply KPpp | with_reducible apply KOpp | with_reducible apply KPrd | with_reducible apply KOrd | decide | intro _
theorem k_fX7_bodyAt {A : Mm} (hA : HA A) {a0 : Nat} {x1 : Int32} {M : Mm} (hM : PA A M) : KP A (fX7_bodyAt a0 x1 M) := by
  unfold fX7_bodyAt
  repeat' first | assumption | with_reducible exact KPn | with_reducible exact KOn | with_reducible apply KPs | with_reducible apply KOs | with_reducible apply KPi | with_reducible apply KOi | with_reducible apply KPel | with_reducible apply KOel | with_reducible apply KPpm | with_reducible apply KOpm | with_reducible apply KPpp | with_reducible apply KOpp | with_reducible apply KPrd | with_reducible apply KOrd | decide | intro _
theorem k_fX8_trace {A : Mm} (hA : HA A) {a0 : Nat} {x1 : Int32} {M : Mm} (hM : PA A M) : KP A (fX8_trace a0 x1 M) := by
  unfold fX8_trace
  repeat' first | assumption | with_reducible exact KPn | with_reducible exact KOn | with_reducible apply KPs | with_reducible apply KOs | with_reducible apply k_fX7_bodyAt hA | with_reducible apply KPi | with_reducible apply KOi | with_reducible apply KPel | with_reducible apply KOel | with_reducible apply KPpm | with_reducible apply KOpm | with_reducible apply KPpp | with_reducible apply KOpp | with_reducible apply KPrd | with_reducible apply KOrd | decide | intro _
theorem k_fX8_image {A : Mm} (hA : HA A) {a0 : Nat} {M : Mm} (hM : PA A M) : KP A (fX8_image a0 M) := by
  unfold fX8_image
  repeat' first | assumption | with_reducible exact KPn | with_reducible exact KOn | with_reducible apply KPs | with_reducible apply KOs | with_reducible apply k_fX5_becomeLike hA | with_reducible apply kpZ hA | with_reducible apply KPi | with_reducible apply KOi | with_reducible apply KPel | with_reducible apply KOel | with_reducible apply KPpm | with_reducible apply KOpm | with_reducible apply KPpp | with_reducible apply KOpp | with_reducible apply KPrd | with_reducible apply KOrd | decide | intro _
theorem k_fX8_restore {A : Mm} (hA : HA A) {a0 : Nat} {M : Mm} (hM : PA A M) : KP A (fX8_restore a0 M) := by
  unfold fX8_restore
  repeat' first | assumption | with_reducible exact KPn | with_reducible exact KOn | with_reducible apply KPs | with_reducible apply KOs | with_reducible apply k_fX8_refused hA | with_reducible apply k_fX5_becomeLike hA | with_reducible apply k_fX8_dropSignsFrom hA | with_reducible apply KPi | with_reducible apply KOi | with_reducible apply KPel | with_reducible apply KOel | with_reducible apply KPpm | with_reducible apply KOpm | with_reducible apply KPpp | with_reducible apply KOpp | with_reducible apply KPrd | with_reducible apply KOrd | decide | intro _
theorem k_fX8_refusalsOf {A : Mm} (hA : HA A) {a0 : Nat} {x1 : Int32} {M : Mm} (hM : PA A M) : KP A (fX8_refusalsOf a0 x1 M) := by
  unfold fX8_refusalsOf
  repeat' first | assumption | with_reducible exact KPn | with_reducible exact KOn | with_reducible apply KPs | with_reducible apply KOs | with_reducible apply KPi | with_reducible apply KOi | with_reducible apply KPel | with_reducible apply KOel | with_reducible apply KPpm | with_reducible apply KOpm | with_reducible apply KPpp | with_reducible apply KOpp | with_reducible apply KPrd | with_reducible apply KOrd | decide | intro _
theorem k_fX8_status {A : Mm} (hA : HA A) {a0 : Nat} {x1 : Int32} {M : Mm} (hM : PA A M) : KP A (fX8_status a0 x1 M) := by
  unfold fX8_status
  repeat' first | assumption | with_reducible exact KPn | with_reducible exact KOn | with_reducible apply KPs | with_reducible apply KOs | with_reducible apply k_fX8_refusalsOf hA | with_reducible apply KPi | with_reducible apply KOi | with_reducible apply KPel | with_reducible apply KOel | with_reducible apply KPpm | with_reducible apply KOpm | with_reducible apply KPpp | with_reducible apply KOpp | with_reducible apply KPrd | with_reducible apply KOrd | decide | intro _
