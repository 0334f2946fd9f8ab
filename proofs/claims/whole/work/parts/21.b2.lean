/-! The two views of a street: St (the class's street object at s), MD (the reference's own), MK (the reference's image), over one state: q (as the reference packs it: 0 kind, 8 cell, 16 a, 24 b, 32 place, 40 high, 48 days, 56 length, 57 stays, 58 twos, 59 hour, 60 snow, 61 arc, 62 signs, 63 things, 64 news, 65 steps, 66 truth + 1), od (the odds), sd (the seed). -/
def SCL : List (Nat × Nat) := [(0, 56), (1, 57), (2, 58), (3, 59), (4, 60), (5, 61), (7, 62), (9, 63), (11, 65), (12, 64)]
def Sg (M : Mm) (r i : Nat) (q : Nat → Nat) : Prop := 107 ≤ r ∧ r < mT M ∧ mK M r = (5, 0) ∧ mI M r 0 = nI i ∧ mI M r 1 = nI (q i) ∧ mI M r 2 = nI (q (8 + i)) ∧ mI M r 3 = nI (q (16 + i)) ∧ mI M r 4 = nI (q (24 + i))
def Th (M : Mm) (r i : Nat) (q : Nat → Nat) : Prop := 107 ≤ r ∧ r < mT M ∧ mK M r = (7, 0) ∧ mI M r 0 = nI (q (32 + i)) ∧ mI M r 1 = nI (q (40 + i)) ∧ mI M r 2 = nI (q (48 + i))
/-- what holds of a street object whatever it holds -/
def Sw (s : Nat) (M : Mm) : Prop := (∀ i, i < 8 → ∀ r, mR M (s + 1) i = some r → 107 ≤ r ∧ r < mT M ∧ mK M r = (5, 0)) ∧ (∀ i, i < 8 → ∀ r, mR M (s + 2) i = some r → 107 ≤ r ∧ r < mT M ∧ mK M r = (7, 0)) ∧ ∀ c, c < 24 → mJ M (s + 5) c = 0
def St (s : Nat) (q : Nat → Nat) (od : Nat → Nat) (sd : Int32) (M : Mm) : Prop :=
  (∀ t ∈ SCL, mI M s t.1 = nI (q t.2)) ∧ mI M s 13 = nI (q 66) - nI 1 ∧ mI M s 14 = sd ∧
  (∀ i, i < q 62 → ∃ r, mR M (s + 1) i = some r ∧ Sg M r i q) ∧ (∀ i, i < q 63 → ∃ r, mR M (s + 2) i = some r ∧ Th M r i q) ∧
  (∀ c, c < 24 → mJ M (s + 4) c = lN (od c)) ∧ Sw s M
def MD (q : Nat → Nat) (od : Nat → Nat) (sd : Int32) (M : Mm) : Prop :=
  (∀ k, k < 10 → mI M 80 k = nI (q (56 + k))) ∧ mI M 80 10 = nI (q 66) - nI 1 ∧ mI M 80 11 = sd ∧
  (∀ a, a < 7 → ∀ i, i < 8 → mI M (82 + a) i = nI (q (8 * a + i))) ∧ ∀ c, c < 24 → mJ M 89 c = lN (od c)
def MK (q : Nat → Nat) (od : Nat → Nat) (sd : Int32) (M : Mm) : Prop :=
  (∀ k, k < 66 → mI M 100 k = nI (q k)) ∧ mI M 100 66 = nI (q 66) - nI 1 ∧ mI M 100 67 = sd ∧ ∀ c, c < 24 → mJ M 102 c = lN (od c)
/-- the sum of the first n -/
def sm (od : Nat → Nat) : Nat → Nat
  | 0 => 0
  | n + 1 => sm od n + od n
def Inv (q : Nat → Nat) (od : Nat → Nat) : Prop :=
  (2 ≤ q 56 ∧ q 56 ≤ 24) ∧ q 57 + q 58 ≤ 10 ∧ q 59 ≤ 7 ∧ q 60 ≤ 1 ∧ (1 ≤ q 61 ∧ q 61 ≤ 9) ∧ q 62 ≤ 8 ∧ q 63 ≤ 8 ∧ q 64 ≤ 16 ∧ q 65 ≤ q 64 ∧ q 66 ≤ q 56 ∧
  (∀ i, i < q 62 → q i ≤ 6 ∧ q (8 + i) < q 56 ∧ 1 ≤ q (16 + i) ∧ q (16 + i) ≤ 10) ∧ (∀ i, i < q 63 → q (32 + i) < q 56 ∧ q (40 + i) ≤ 1 ∧ 1 ≤ q (48 + i) ∧ q (48 + i) ≤ 10) ∧
  (∀ i, i < 56 → q i ≤ 255) ∧ (∀ c, q 56 ≤ c → od c = 0) ∧ sm od 24 ≤ 24 * 10 ^ q 64
/-- shelf s -/
def Sh (s : Nat) (q : Nat → Nat) (M : Mm) : Prop :=
  (mI M 91 s = nI 0 ∧ mI M (64 + 2 * s) 0 = -nI 1 ∧ mI M (64 + 2 * s) 1 = nI 0) ∨
  (mI M 91 s = nI 1 ∧ ∃ o n, o < 4 ∧ n ≤ 160 ∧ mI M (64 + 2 * s) 0 = nI (100 + o) ∧ mI M 92 s = nI o ∧ mI M (64 + 2 * s) 1 = nI n ∧ mI M 93 s = nI n ∧ ∀ i, i < 160 → mJ M (65 + 2 * s) i = mJ M 95 (160 * s + i)) ∨
  (mI M 91 s = nI 2 ∧ ∃ g, g < q 62 ∧ mI M (64 + 2 * s) 0 = nI g ∧ mI M 94 s = nI g ∧ mI M (64 + 2 * s) 1 = nI 0)
/-- only the cells ds and the places es changed, and new ones came; references change nowhere but in the lists of signs and things -/
def rcs : List Nat := [23, 24, 29, 30, 35, 36]
def Fr (ds : List Nat) (es : List (Nat × Nat)) (M M1 : Mm) : Prop := (mT M ≤ mT M1 ∧ mW M ≤ mW M1) ∧ (∀ o, o < mT M → mK M1 o = mK M o) ∧ (∀ o, o < mT M → (¬ o ∈ ds ∨ ¬ o ∈ rcs) → mR M1 o = mR M o) ∧
  ∀ o, o < mT M → ¬ o ∈ ds → mJ M1 o = mJ M o ∧ ∀ k, ¬ (o, k) ∈ es → mI M1 o k = mI M o k
theorem Fr.rfl {ds : List Nat} {es : List (Nat × Nat)} {M : Mm} : Fr ds es M M := ⟨⟨Nat.le_refl _, Nat.le_refl _⟩, fun _ _ => Eq.refl _, fun _ _ _ => Eq.refl _, fun _ _ _ => ⟨Eq.refl _, fun _ _ => Eq.refl _⟩⟩
theorem Fr.trans {ds ds2 : List Nat} {es es2 : List (Nat × Nat)} {M M1 M2 : Mm} (h : Fr ds es M M1) (h2 : Fr ds2 es2 M1 M2) : Fr (ds ++ ds2) (es ++ es2) M M2 := by
  have ha := h.1.1
  refine ⟨⟨Nat.le_trans h.1.1 h2.1.1, Nat.le_trans h.1.2 h2.1.2⟩, fun o ho => by rw [h2.2.1 o (by omega), h.2.1 o ho], fun o ho hn => ?_, fun o ho hn => ?_⟩
  · rw [List.mem_append, not_or] at hn
    rw [h2.2.2.1 o (by omega) (hn.elim (fun z => Or.inl z.2) Or.inr), h.2.2.1 o ho (hn.elim (fun z => Or.inl z.1) Or.inr)]
  · rw [List.mem_append, not_or] at hn
    have a := h.2.2.2 o ho hn.1
    have b := h2.2.2.2 o (by omega) hn.2
    refine ⟨by rw [b.1, a.1], fun k hk => ?_⟩
    rw [List.mem_append, not_or] at hk
    rw [b.2 k hk.2, a.2 k hk.1]
theorem Fr.wk {ds ds2 : List Nat} {es es2 : List (Nat × Nat)} {M M1 : Mm} (h : Fr ds es M M1) (hs : ∀ o ∈ ds, o ∈ ds2) (he : ∀ o ∈ es, o ∈ es2) : Fr ds2 es2 M M1 := ⟨h.1, h.2.1, fun o ho hn => h.2.2.1 o ho (hn.elim (fun z => Or.inl fun q => z (hs o q)) Or.inr), fun o ho hn => ⟨(h.2.2.2 o ho (fun q => hn (hs o q))).1, fun k hk => (h.2.2.2 o ho (fun q => hn (hs o q))).2 k (fun q => hk (he _ q))⟩⟩
theorem Fr.tr {ds : List Nat} {es : List (Nat × Nat)} {M M1 M2 : Mm} (h : Fr ds es M M1) (h2 : Fr ds es M1 M2) : Fr ds es M M2 := (h.trans h2).wk (fun o ho => by rw [List.mem_append] at ho; exact ho.elim id id) (fun o ho => by rw [List.mem_append] at ho; exact ho.elim id id)
theorem Fr.oI {ds : List Nat} {es : List (Nat × Nat)} {M : Mm} {a : Nat} (k : Nat) (v : Int32) (h : a ∈ ds ∨ (a, k) ∈ es) : Fr ds es M (sI M a k v) := ⟨⟨Nat.le_refl _, Nat.le_refl _⟩, fun _ _ => Eq.refl _, fun _ _ _ => Eq.refl _, fun o _ hn => ⟨Eq.refl _, fun j hj => by
  rw [mI_sI, if_neg]
  rintro ⟨rfl, rfl⟩
  exact h.elim hn hj⟩⟩
theorem Fr.oJ {ds : List Nat} {es : List (Nat × Nat)} {M : Mm} {a : Nat} (k : Nat) (v : Int64) (h : a ∈ ds) : Fr ds es M (sJ M a k v) := ⟨⟨Nat.le_refl _, Nat.le_refl _⟩, fun _ _ => Eq.refl _, fun _ _ _ => Eq.refl _, fun o _ hn => ⟨funext fun j => by rw [mJ_sJ, if_neg (by rintro ⟨rfl, -⟩; exact hn h)], fun _ _ => Eq.refl _⟩⟩
theorem Fr.oR {ds : List Nat} {es : List (Nat × Nat)} {M : Mm} {a : Nat} (k : Nat) (v : Option Nat) (h : a ∈ ds) (hr : a ∈ rcs) : Fr ds es M (sR M a k v) := ⟨⟨Nat.le_refl _, Nat.le_refl _⟩, fun _ _ => Eq.refl _, fun o _ hn => funext fun j => by rw [mR_sR, if_neg (by rintro ⟨rfl, -⟩; exact hn.elim (fun z => z h) (fun z => z hr))], fun o _ hn => ⟨Eq.refl _, fun _ _ => Eq.refl _⟩⟩
theorem Fr.qI {ds : List Nat} {es : List (Nat × Nat)} {M : Mm} {a : Nat} (n : Nat) (g : Nat → Int32) (h : a ∈ ds) : Fr ds es M (wI M a n g) := ⟨⟨Nat.le_refl _, Nat.le_refl _⟩, fun _ _ => Eq.refl _, fun _ _ _ => Eq.refl _, fun o _ hn => ⟨Eq.refl _, fun j _ => by rw [mI_wI, if_neg (by rintro ⟨rfl, -⟩; exact hn h)]⟩⟩
theorem Fr.qJ {ds : List Nat} {es : List (Nat × Nat)} {M : Mm} {a : Nat} (n : Nat) (g : Nat → Int64) (h : a ∈ ds) : Fr ds es M (wJ M a n g) := ⟨⟨Nat.le_refl _, Nat.le_refl _⟩, fun _ _ => Eq.refl _, fun _ _ _ => Eq.refl _, fun o _ hn => ⟨funext fun j => by rw [mJ_wJ, if_neg (by rintro ⟨rfl, -⟩; exact hn h)], fun _ _ => Eq.refl _⟩⟩
theorem Fr.qR {ds : List Nat} {es : List (Nat × Nat)} {M : Mm} {a : Nat} (n : Nat) (g : Nat → Option Nat) (h : a ∈ ds) (hr : a ∈ rcs) : Fr ds es M (wR M a n g) := ⟨⟨Nat.le_refl _, Nat.le_refl _⟩, fun _ _ => Eq.refl _, fun o _ hn => funext fun j => by rw [mR_wR, if_neg (by rintro ⟨rfl, -⟩; exact hn.elim (fun z => z h) (fun z => z hr))], fun o _ hn => ⟨Eq.refl _, fun _ _ => Eq.refl _⟩⟩
theorem Fr.oN {ds : List Nat} {es : List (Nat × Nat)} {M : Mm} (kd n w : Nat) : Fr ds es M (sN M kd n w) := ⟨⟨by rw [mT_sN]; omega, by rw [mW_sN]; omega⟩, fun o ho => by rw [mK_sN, if_neg (by omega)], fun o ho _ => funext fun j => by rw [mR_sN, if_neg (by omega)], fun o ho _ => ⟨funext fun j => by rw [mJ_sN, if_neg (by omega)], fun j _ => by rw [mI_sN, if_neg (by omega)]⟩⟩
/-- a write into a cell that came later -/
theorem Fr.xI {ds : List Nat} {es : List (Nat × Nat)} {M M1 : Mm} (h : Fr ds es M M1) {a : Nat} (k : Nat) (v : Int32) (ha : mT M ≤ a) : Fr ds es M (sI M1 a k v) := ⟨h.1, h.2.1, h.2.2.1, fun o ho hn => ⟨(h.2.2.2 o ho hn).1, fun j hj => by rw [mI_sI, if_neg (by omega)]; exact (h.2.2.2 o ho hn).2 j hj⟩⟩
theorem Fr.xR {ds : List Nat} {es : List (Nat × Nat)} {M M1 : Mm} (h : Fr ds es M M1) {a : Nat} (k : Nat) (v : Option Nat) (ha : mT M ≤ a) : Fr ds es M (sR M1 a k v) := ⟨h.1, h.2.1, fun o ho hn => funext fun j => by rw [mR_sR, if_neg (by omega), h.2.2.1 o ho hn], h.2.2.2⟩
theorem Fr.I {ds : List Nat} {es : List (Nat × Nat)} {M M1 : Mm} (h : Fr ds es M M1) {o : Nat} (ho : o < mT M) (hn : ¬ o ∈ ds) {k : Nat} (hk : ¬ (o, k) ∈ es) : mI M1 o k = mI M o k := (h.2.2.2 o ho hn).2 k hk
theorem Fr.J {ds : List Nat} {es : List (Nat × Nat)} {M M1 : Mm} (h : Fr ds es M M1) {o : Nat} (ho : o < mT M) (hn : ¬ o ∈ ds) (k : Nat) : mJ M1 o k = mJ M o k := by rw [(h.2.2.2 o ho hn).1]
theorem Fr.R {ds : List Nat} {es : List (Nat × Nat)} {M M1 : Mm} (h : Fr ds es M M1) {o : Nat} (ho : o < mT M) (hn : ¬ o ∈ ds ∨ ¬ o ∈ rcs) (k : Nat) : mR M1 o k = mR M o k := by rw [h.2.2.1 o ho hn]
theorem Fr.fix {ds : List Nat} {es : List (Nat × Nat)} {M M1 : Mm} (h : Fr ds es M M1) (hF : FIX M) : FIX M1 := by
  have h0 := hF.1
  refine hF.mk2 h.1.1 (fun o a b => h.2.1 o (by omega)) (fun o k hq => ?_)
  refine h.R (by omega) (Or.inr fun z => ?_) k
  simp only [rcs, List.mem_cons, List.not_mem_nil, or_false] at z
  omega
/-! each view holds on where its cells stand -/
theorem Sg.fr {ds : List Nat} {es : List (Nat × Nat)} {M M1 : Mm} (f : Fr ds es M M1) {r i : Nat} {q : Nat → Nat} (h : Sg M r i q) (hd : ∀ o ∈ ds, o < 107) (he : ∀ o ∈ es, o.1 < 107) : Sg M1 r i q := by
  obtain ⟨a, b, c, d⟩ := h
  have hn : ¬ r ∈ ds := fun x => by have := hd r x; omega
  have hk : ∀ k, ¬ (r, k) ∈ es := fun k x => by have : r < 107 := he _ x; omega
  refine ⟨a, Nat.lt_of_lt_of_le b f.1.1, by rw [f.2.1 r b]; exact c, ?_⟩
  rw [f.I b hn (hk _), f.I b hn (hk _), f.I b hn (hk _), f.I b hn (hk _), f.I b hn (hk _)]
  exact d
theorem Th.fr {ds : List Nat} {es : List (Nat × Nat)} {M M1 : Mm} (f : Fr ds es M M1) {r i : Nat} {q : Nat → Nat} (h : Th M r i q) (hd : ∀ o ∈ ds, o < 107) (he : ∀ o ∈ es, o.1 < 107) : Th M1 r i q := by
  obtain ⟨a, b, c, d⟩ := h
  have hn : ¬ r ∈ ds := fun x => by have := hd r x; omega
  have hk : ∀ k, ¬ (r, k) ∈ es := fun k x => by have : r < 107 := he _ x; omega
  refine ⟨a, Nat.lt_of_lt_of_le b f.1.1, by rw [f.2.1 r b]; exact c, ?_⟩
  rw [f.I b hn (hk _), f.I b hn (hk _), f.I b hn (hk _)]
  exact d
theorem Sw.fr {ds : List Nat} {es : List (Nat × Nat)} {M M1 : Mm} (hF : FIX M) (f : Fr ds es M M1) {s : Nat} (hs : s < 100) (h : Sw s M) (h1 : ¬ (s + 1) ∈ ds) (h2 : ¬ (s + 2) ∈ ds) (h5 : ¬ (s + 5) ∈ ds) : Sw s M1 := by
  have h0 := hF.1
  refine ⟨fun i hi r hr => ?_, fun i hi r hr => ?_, fun c hc => by rw [f.J (by omega) h5]; exact h.2.2 c hc⟩
  · rw [f.R (by omega) (Or.inl h1)] at hr
    obtain ⟨a, b, c⟩ := h.1 i hi r hr
    exact ⟨a, Nat.lt_of_lt_of_le b f.1.1, by rw [f.2.1 r b]; exact c⟩
  · rw [f.R (by omega) (Or.inl h2)] at hr
    obtain ⟨a, b, c⟩ := h.2.1 i hi r hr
    exact ⟨a, Nat.lt_of_lt_of_le b f.1.1, by rw [f.2.1 r b]; exact c⟩
theorem St.fr {ds : List Nat} {es : List (Nat × Nat)} {M M1 : Mm} (hF : FIX M) (f : Fr ds es M M1) {s : Nat} {q od : Nat → Nat} {sd : Int32} (h : St s q od sd M) (hs : s < 100) (hd : ∀ o ∈ ds, o < 107 ∧ o ≠ s ∧ o ≠ s + 1 ∧ o ≠ s + 2 ∧ o ≠ s + 4 ∧ o ≠ s + 5) (he : ∀ o ∈ es, o.1 < 107 ∧ o.1 ≠ s) : St s q od sd M1 := by
  have h0 := hF.1
  have hx : ∀ o ∈ ds, o < 107 := fun o ho => (hd o ho).1
  have hy : ∀ o ∈ es, o.1 < 107 := fun o ho => (he o ho).1
  have n0 : ¬ s ∈ ds := fun x => (hd _ x).2.1 rfl
  have n1 : ¬ (s + 1) ∈ ds := fun x => (hd _ x).2.2.1 rfl
  have n2 : ¬ (s + 2) ∈ ds := fun x => (hd _ x).2.2.2.1 rfl
  have n4 : ¬ (s + 4) ∈ ds := fun x => (hd _ x).2.2.2.2.1 rfl
  have n5 : ¬ (s + 5) ∈ ds := fun x => (hd _ x).2.2.2.2.2 rfl
  have ne : ∀ k, ¬ (s, k) ∈ es := fun k x => (he _ x).2 rfl
  obtain ⟨a, b, c, d, e, g, w⟩ := h
  refine ⟨fun t ht => by rw [f.I (by omega) n0 (ne _)]; exact a t ht, by rw [f.I (by omega) n0 (ne _)]; exact b, by rw [f.I (by omega) n0 (ne _)]; exact c, fun i hi => ?_, fun i hi => ?_, fun k hk => by rw [f.J (by omega) n4]; exact g k hk, Sw.fr hF f hs w n1 n2 n5⟩
  · obtain ⟨r, hr, x⟩ := d i hi
    exact ⟨r, by rw [f.R (by omega) (Or.inl n1)]; exact hr, x.fr f hx hy⟩
  · obtain ⟨r, hr, x⟩ := e i hi
    exact ⟨r, by rw [f.R (by omega) (Or.inl n2)]; exact hr, x.fr f hx hy⟩
theorem MD.fr {ds : List Nat} {es : List (Nat × Nat)} {M M1 : Mm} (hF : FIX M) (f : Fr ds es M M1) {q od : Nat → Nat} {sd : Int32} (h : MD q od sd M) (hd : ∀ o ∈ ds, o < 80 ∨ o = 81 ∨ 90 ≤ o) (he : ∀ o ∈ es, (o.1 < 80 ∨ o.1 = 81 ∨ 90 ≤ o.1) ∨ o.1 = 80 ∧ 12 ≤ o.2) : MD q od sd M1 := by
  have h0 := hF.1
  have n0 : ∀ o, o = 80 ∨ (82 ≤ o ∧ o ≤ 89) → ¬ o ∈ ds := fun o ho x => by have := hd o x; omega
  have ne : ∀ o, (82 ≤ o ∧ o ≤ 89) → ∀ k, ¬ (o, k) ∈ es := fun o ho k x => by
    have := he _ x
    simp only at this
    omega
  have n8 : ∀ k, k < 12 → ¬ (80, k) ∈ es := fun k hk x => by
    have := he _ x
    simp only at this
    omega
  obtain ⟨a, b, c, d, e⟩ := h
  refine ⟨fun k hk => by rw [f.I (by omega) (n0 80 (by omega)) (n8 k (by omega))]; exact a k hk, by rw [f.I (by omega) (n0 80 (by omega)) (n8 _ (by omega))]; exact b, by rw [f.I (by omega) (n0 80 (by omega)) (n8 _ (by omega))]; exact c, fun x hx i hi => by rw [f.I (by omega) (n0 (82 + x) (by omega)) (ne _ (by omega) _)]; exact d x hx i hi, fun k hk => by rw [f.J (by omega) (n0 89 (by omega))]; exact e k hk⟩
theorem MK.fr {ds : List Nat} {es : List (Nat × Nat)} {M M1 : Mm} (hF : FIX M) (f : Fr ds es M M1) {q od : Nat → Nat} {sd : Int32} (h : MK q od sd M) (h1 : ¬ 100 ∈ ds) (h2 : ¬ 102 ∈ ds) (he : ∀ o ∈ es, o.1 ≠ 100) : MK q od sd M1 := by
  have h0 := hF.1
  have ne : ∀ k, ¬ (100, k) ∈ es := fun k x => he _ x rfl
  obtain ⟨a, b, c, d⟩ := h
  refine ⟨fun k hk => by rw [f.I (by omega) h1 (ne _)]; exact a k hk, by rw [f.I (by omega) h1 (ne _)]; exact b, by rw [f.I (by omega) h1 (ne _)]; exact c, fun k hk => by rw [f.J (by omega) h2]; exact d k hk⟩
theorem Sh.fr {ds : List Nat} {es : List (Nat × Nat)} {M M1 : Mm} (hF : FIX M) (f : Fr ds es M M1) {s : Nat} {q : Nat → Nat} (h : Sh s q M) (hs : s < 8) (hd : ∀ o ∈ ds, (o < 64 ∨ 80 ≤ o) ∧ ¬ (91 ≤ o ∧ o ≤ 95)) (he : ∀ o ∈ es, (o.1 < 64 ∨ 80 ≤ o.1) ∧ ¬ (91 ≤ o.1 ∧ o.1 ≤ 95)) : Sh s q M1 := by
  have h0 := hF.1
  have n0 : ∀ o, ¬ (o < 64 ∨ 80 ≤ o) ∨ (91 ≤ o ∧ o ≤ 95) → ¬ o ∈ ds := fun o ho x => by have := hd o x; omega
  have ne : ∀ o, ¬ (o < 64 ∨ 80 ≤ o) ∨ (91 ≤ o ∧ o ≤ 95) → ∀ k, ¬ (o, k) ∈ es := fun o ho k x => by
    have := he _ x
    simp only at this
    omega
  unfold Sh
  rw [f.I (by omega) (n0 91 (by omega)) (ne _ (by omega) _), f.I (by omega) (n0 92 (by omega)) (ne _ (by omega) _), f.I (by omega) (n0 93 (by omega)) (ne _ (by omega) _), f.I (by omega) (n0 94 (by omega)) (ne _ (by omega) _), f.I (by omega) (n0 (64 + 2 * s) (by omega)) (ne _ (by omega) _), f.I (by omega) (n0 (64 + 2 * s) (by omega)) (ne _ (by omega) _), (f.2.2.2 (65 + 2 * s) (by omega) (n0 _ (by omega))).1, (f.2.2.2 95 (by omega) (n0 _ (by omega))).1]
  exact h
/-- the cells that were there before stay -/
def RO (A M : Mm) : Prop := ∀ o, o < 20 → mK M o = mK A o ∧ mI M o = mI A o ∧ mR M o = mR A o
theorem RO.fr {ds : List Nat} {es : List (Nat × Nat)} {A M M1 : Mm} (hF : FIX M) (f : Fr ds es M M1) (h : RO A M) (hd : ∀ o ∈ ds, 20 ≤ o) (he : ∀ o ∈ es, 20 ≤ o.1) : RO A M1 := by
  have h0 := hF.1
  intro o ho
  have hn : ¬ o ∈ ds := fun x => by have := hd o x; omega
  have hk : ∀ k, ¬ (o, k) ∈ es := fun k x => by have : 20 ≤ o := he _ x; omega
  obtain ⟨a, b, c⟩ := h o ho
  exact ⟨by rw [f.2.1 o (by omega)]; exact a, by rw [← b]; exact funext fun k => f.I (by omega) hn (hk k), by rw [f.2.2.1 o (by omega) (Or.inl hn)]; exact c⟩
/-! the rest of what both sides keep -/
/-- the reference's words -/
def WT : List Nat := [108, 111, 110, 103, 32, 0, 115, 105, 103, 110, 32, 0, 116, 104, 105, 110, 103, 32, 0, 119, 97, 110, 100, 101, 114, 32, 0, 97, 114, 99, 32, 0, 104, 111, 117, 114, 32, 0]
def Ws (M : Mm) : Prop := ∀ k, k < 38 → mI M 97 k = nI (WT.getD k 0)
/-- the refusals -/
def Rf (M : Mm) : Prop := ∀ k, 1 ≤ k → k < 8 → mI M 40 k = mI M 81 k
/-- the bodies that ran -/
def Tr (M : Mm) : Prop := ∃ n, n < 100 ∧ mI M 61 1 = nI n ∧ mI M 80 47 = nI n ∧ ∀ i, i < 20 → i < n → mI M 62 i = mI M 106 i
/-- the image -/
def Im (b : Nat) (q od : Nat → Nat) (sd : Int32) (M : Mm) : Prop := mI M 20 4 = nI b ∧ mI M 80 48 = nI b ∧ (b = 0 ∨ b = 1 ∧ Inv q od ∧ St 34 q od sd M ∧ MK q od sd M)
def REL (A : Mm) (q od : Nat → Nat) (sd : Int32) (b : Nat) (q2 od2 : Nat → Nat) (sd2 : Int32) (M : Mm) : Prop :=
  FIX M ∧ RO A M ∧ Inv q od ∧ St 22 q od sd M ∧ MD q od sd M ∧ Sw 28 M ∧ Sw 34 M ∧ Im b q2 od2 sd2 M ∧ (∀ s, s < 8 → Sh s q M) ∧ Rf M ∧ mI M 20 6 = mI M 80 12 ∧ Tr M ∧ Ws M
/-- what a call may make -/
def Gr (M M1 : Mm) : Prop := mT M1 ≤ mT M + 400 ∧ mW M1 ≤ mW M + 4000
def Rel (A M : Mm) : Prop := ∃ q od sd b q2 od2 sd2, REL A q od sd b q2 od2 sd2 M
/-- a call of both -/
def Eqv {α : Type} (A : Mm) (f g : Mm → Option (α × Mm)) : Prop := ∀ M, Rel A M → ∃ r M1 M2, f M = some (r, M1) ∧ g M1 = some (r, M2) ∧ Rel A M2 ∧ Gr M M2
