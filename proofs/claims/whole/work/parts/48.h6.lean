theorem ali_sh {M M1 M2 : Mm} {v : Nat} {x : Int32} {q q1 : Nat → Nat} (hF : FIX M) (hX : x = nI 0) (f1 : Fr HS [] (aX M 22 v) M1) (g1 : ∀ s, s < 8 → ∀ k, mI M1 (64 + 2 * s) k = if 0 ≤ s then dr x (aX M 22 v) s k else mI (aX M 22 v) (64 + 2 * s) k)
    (e2 : M2 = gI (aY M1 v) 91 0 8 (fun s => if mI (aY M1 v) 91 s = nI 2 then nI 0 else mI (aY M1 v) 91 s)) {s : Nat} (hs : s < 8) (h : Sh s q M) (hq : q 62 ≤ 8) : Sh s q1 M2 := by
  subst hX
  have h0 := hF.1
  have fa := frX M 22 v
  have hFa := fa.fix hF
  have h0a := hFa.1
  have hF1 := f1.fix hFa
  have h01 := hF1.1
  have fb := frY M1 v
  have hFb := fb.fix hF1
  have h0b := hFb.1
  have fc : Fr [91] [] (aY M1 v) M2 := by rw [e2]; exact Fr.gI _ _ _ List.mem_cons_self
  have n1 : ∀ s, s < 8 → ¬ 65 + 2 * s ∈ HS := by decide
  have n2 : ∀ s, s < 8 → ¬ 64 + 2 * s ∈ [22 + 4] ∧ ¬ 65 + 2 * s ∈ [22 + 4] ∧ ¬ 64 + 2 * s ∈ [89] ∧ ¬ 65 + 2 * s ∈ [89] ∧ ¬ 64 + 2 * s ∈ [91] ∧ ¬ 65 + 2 * s ∈ [91] := by decide
  obtain ⟨p1, p2, p3, p4, p5, p6⟩ := n2 s hs
  have nx : ∀ k, ¬ (64 + 2 * s, k) ∈ [(22, 0), (22, 7), (22, 9), (22, 13), (22, 12), (22, 11)] := fun k z => by
    simp only [List.mem_cons, Prod.mk.injEq, List.not_mem_nil, or_false] at z
    omega
  have ny : ∀ k, ¬ (64 + 2 * s, k) ∈ [(80, 0), (80, 29), (80, 6), (80, 7), (80, 10), (80, 8), (80, 9)] := fun k z => by
    simp only [List.mem_cons, Prod.mk.injEq, List.not_mem_nil, or_false] at z
    omega
  have mx : ∀ o k, 91 ≤ o → ¬ (o, k) ∈ [(22, 0), (22, 7), (22, 9), (22, 13), (22, 12), (22, 11)] := fun o k ho z => by
    simp only [List.mem_cons, Prod.mk.injEq, List.not_mem_nil, or_false] at z
    omega
  have my : ∀ o k, 91 ≤ o → ¬ (o, k) ∈ [(80, 0), (80, 29), (80, 6), (80, 7), (80, 10), (80, 8), (80, 9)] := fun o k ho z => by
    simp only [List.mem_cons, Prod.mk.injEq, List.not_mem_nil, or_false] at z
    omega
  have ax : ∀ k, mI (aX M 22 v) (64 + 2 * s) k = mI M (64 + 2 * s) k := fun k => fa.I (by omega) p1 (nx k)
  have i1 : ∀ k, mI M2 (64 + 2 * s) k = dr (nI 0) (aX M 22 v) s k := fun k => by rw [fc.I (by omega) p5 List.not_mem_nil, fb.I (by omega) p3 (ny k), g1 s hs k, if_pos (Nat.zero_le _)]
  have a9 : ∀ o k, o = 91 ∨ o = 92 ∨ o = 93 ∨ o = 94 → mI (aY M1 v) o k = mI M o k := fun o k ho => by
    have w1 : ¬ o ∈ [89] := by simp; omega
    have w2 : ¬ o ∈ HS := by simp [HS]; omega
    have w3 : ¬ o ∈ [22 + 4] := by simp; omega
    rw [fb.I (by omega) w1 (my o k (by omega)), f1.I (by omega) w2 List.not_mem_nil, fa.I (by omega) w3 (mx o k (by omega))]
  have b9 : ∀ o k, o = 92 ∨ o = 93 ∨ o = 94 → mI M2 o k = mI M o k := fun o k ho => by
    have w1 : ¬ o ∈ [91] := by simp; omega
    rw [fc.I (by omega) w1 List.not_mem_nil, a9 o k (by omega)]
  have b91 : mI M2 91 s = if mI M 91 s = nI 2 then nI 0 else mI M 91 s := by
    rw [e2, mI_gI, if_pos ⟨rfl, Nat.zero_le _, hs⟩, a9 91 s (by omega)]
  have j1 : ∀ k, mJ M2 (65 + 2 * s) k = mJ M (65 + 2 * s) k := fun k => by rw [fc.J (by omega) p6, fb.J (by omega) p4, f1.J (by omega) (n1 s hs), fa.J (by omega) p2]
  have j2 : ∀ k, mJ M2 95 k = mJ M 95 k := fun k => by rw [fc.J (by omega) (by decide), fb.J (by omega) (by decide), f1.J (by omega) (by decide), fa.J (by omega) (by decide)]
  have hm : -nI 1 < nI 0 := mi_lt (by decide) (by decide)
  rcases h with ⟨m, x, w⟩ | ⟨m, o, n, ho, hn, x, y, n1, n2, w⟩ | ⟨m, g, hg, x, y, w⟩
  · left
    have d : ∀ k, dr (nI 0) (aX M 22 v) s k = mI M (64 + 2 * s) k := fun k => by
      unfold dr
      rw [ax, ax, x, if_neg (fun z => z.2 hm)]
    rw [b91, m, i1, i1, d, d]
    exact ⟨by rw [if_neg (by rw [eq_nn (by decide) (by decide)]; decide)], x, w⟩
  · right; left
    have d : ∀ k, dr (nI 0) (aX M 22 v) s k = mI M (64 + 2 * s) k := fun k => by
      unfold dr
      rw [ax, ax, x, if_neg (fun z => by have := z.1; rw [lt_nn (by omega) (by decide)] at this; omega)]
    rw [b91, m, i1, i1, d, d, b9 92 s (by omega), b9 93 s (by omega)]
    exact ⟨by rw [if_neg (by rw [eq_nn (by decide) (by decide)]; decide)], o, n, ho, hn, x, y, n1, n2, fun i hi => by rw [j1, j2]; exact w i hi⟩
  · left
    have d : ∀ k, dr (nI 0) (aX M 22 v) s k = (if k = 0 then -nI 1 else if k = 1 then nI 0 else mI M (64 + 2 * s) k) := fun k => by
      unfold dr
      rw [ax, ax, x, if_pos ⟨nI_lt (by omega) (by decide), nI_pos (by omega)⟩]
    rw [b91, m, i1, i1, d, d]
    exact ⟨if_pos rfl, if_pos rfl, by rw [if_neg (by decide), if_pos rfl]⟩
