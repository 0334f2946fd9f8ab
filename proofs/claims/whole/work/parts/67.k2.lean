/-! a step heard, the class -/
def bI (b : Bool) : Int32 := if b then nI 1 else nI 0
theorem gJ_self {M : Mm} {a n : Nat} {g : Nat → Int64} (h : ∀ j, j < n → mJ M a j = g j) : gJ M a 0 n g = M := Jeta (funext fun x => funext fun j => by
  show (if x = a ∧ 0 ≤ j ∧ j < n then g j else mJ M x j) = mJ M x j
  by_cases e : x = a ∧ 0 ≤ j ∧ j < n
  · rw [if_pos e, e.1]; exact (h j e.2.2).symm
  · rw [if_neg e])
theorem St.od2 {ds : List Nat} {M M1 : Mm} (hF : FIX M) (f : Fr ds [] M M1) {s : Nat} {q od od1 : Nat → Nat} {sd : Int32} (h : St s q od sd M) (hs : s < 100) (hd : ∀ o ∈ ds, o < 107 ∧ o ≠ s ∧ o ≠ s + 1 ∧ o ≠ s + 2) (e : ∀ c, c < 24 → mJ M1 (s + 4) c = lN (od1 c)) (z : ∀ c, c < 24 → mJ M1 (s + 5) c = 0) : St s q od1 sd M1 := by
  have h0 := hF.1
  have hx : ∀ o ∈ ds, o < 107 := fun o ho => (hd o ho).1
  have n0 : ¬ s ∈ ds := fun x => (hd _ x).2.1 rfl
  have n1 : ¬ (s + 1) ∈ ds := fun x => (hd _ x).2.2.1 rfl
  have n2 : ¬ (s + 2) ∈ ds := fun x => (hd _ x).2.2.2 rfl
  have ne : ∀ k, ¬ (s, k) ∈ ([] : List (Nat × Nat)) := fun k => List.not_mem_nil
  obtain ⟨a, b, c, d, e2, g, w⟩ := h
  refine ⟨fun t ht => by rw [f.I (by omega) n0 (ne _)]; exact a t ht, by rw [f.I (by omega) n0 (ne _)]; exact b, by rw [f.I (by omega) n0 (ne _)]; exact c, fun i hi => ?_, fun i hi => ?_, e, fun i hi r hr => ?_, fun i hi r hr => ?_, z⟩
  · obtain ⟨r, hr, x⟩ := d i hi
    exact ⟨r, by rw [f.R (by omega) (Or.inl n1)]; exact hr, x.fr f hx mem0⟩
  · obtain ⟨r, hr, x⟩ := e2 i hi
    exact ⟨r, by rw [f.R (by omega) (Or.inl n2)]; exact hr, x.fr f hx mem0⟩
  · rw [f.R (by omega) (Or.inl n1)] at hr
    obtain ⟨a, b, c⟩ := w.1 i hi r hr
    exact ⟨a, Nat.lt_of_lt_of_le b f.1.1, by rw [f.2.1 r b]; exact c⟩
  · rw [f.R (by omega) (Or.inl n2)] at hr
    obtain ⟨a, b, c⟩ := w.2.1 i hi r hr
    exact ⟨a, Nat.lt_of_lt_of_le b f.1.1, by rw [f.2.1 r b]; exact c⟩
theorem mem2 {P : Nat → Prop} {a b : Nat} (h : P a) (h2 : P b) : ∀ o ∈ [a, b], P o := memc h (mem1 h2)
theorem in20 {a b : Nat} : a ∈ [a, b] := List.mem_cons_self
theorem in21 {a b : Nat} : b ∈ [a, b] := List.mem_cons_of_mem _ List.mem_cons_self
theorem inc0 {α : Type} {a b : α} : a ∈ [a, b] := List.mem_cons_self
theorem inc1 {α : Type} {a b : α} : b ∈ [a, b] := List.mem_cons_of_mem _ List.mem_cons_self
theorem hear8 {s : Nat} (hs : sl s) {M : Mm} (hF : FIX M) {q od : Nat → Nat} {sd : Int32} (h : St s q od sd M) (hI : Inv q od) (bk : Bool) :
    ∃ M1, fX5_hearStep s (bI bk) M = some M1 ∧ Fr [s + 4, s + 5] [(s, 11), (s, 12)] M M1 ∧ (mT M1 = mT M ∧ mW M1 = mW M) ∧ St s (stq q) (sto q bk od) sd M1 := by
  have hl := sl_lt hs
  have hL := hI.1
  have hq := hI.sg
  have w5 := h.2.2.2.2.2.2.2.2
  obtain ⟨G, hG⟩ : ∃ G, G = stg q bk od := ⟨_, rfl⟩
  have hGo : ∀ c, q 56 ≤ c → G c = 0 := by rw [hG]; exact stg_o hI bk
  have hGs : sm G 24 ≤ 10 * sm od 24 := by rw [hG]; exact Nat.le_of_eq (stg_s hI bk)
  have hGb := bnd_of hI hGo hGs
  have hM0 : gJ M (s + 5) 0 24 (fun j => lN (gvs (q 56) (q 57) (q 58) bk od 0 j)) = M := gJ_self (fun j hj => (w5 j hj).trans lN0)
  have hs8 := hsX hs hF h hI bk (q 56) (FU - q 56) 0 (Nat.add_zero _)
  rw [hM0, show FU - q 56 + q 56 = FU by unfold FU; omega] at hs8
  obtain ⟨N, hN⟩ : ∃ N, N = gJ M (s + 5) 0 24 (fun j => lN (G j)) := ⟨_, rfl⟩
  have hN2 : gJ M (s + 5) 0 24 (fun j => lN (gvs (q 56) (q 57) (q 58) bk od (q 56) j)) = N := by rw [hN, hG]; rfl
  rw [hN2] at hs8
  have hFN : FIX N := by rw [hN, FIX_gJ]; exact hF
  have fN : Fr [s + 4, s + 5] [] M N := by rw [hN]; exact Fr.gJ _ _ _ in21
  have e0 : mI N s 0 = nI (q 56) := by rw [hN, mI_gJ]; exact h.f56
  have gN : ∀ c, c < 24 → mJ N (s + 5) c = lN (G c) := fun c hc => by rw [hN, mJ_gJ, if_pos ⟨rfl, Nat.zero_le _, hc⟩]
  have tN : mT N = mT M ∧ mW N = mW M := by rw [hN]; exact ⟨mT_gJ _ _ _ _ _, mW_gJ _ _ _ _ _⟩
  have e2 := enM hs hFN
  obtain ⟨N2, hN3⟩ : ∃ N2, N2 = gJ (gJ N (s + 4) 0 24 (fun k => mJ N (s + 5) k)) (s + 5) 0 24 (fun _ => 0) := ⟨_, rfl⟩
  rw [← hN3] at e2
  have hFN2 : FIX N2 := by rw [hN3, FIX_gJ, FIX_gJ]; exact hFN
  have fN2 : Fr [s + 4, s + 5] [] N N2 := by rw [hN3]; exact (Fr.gJ _ _ _ in20).tr (Fr.gJ _ _ _ in21)
  have gN2 : ∀ c, c < 24 → mJ N2 (s + 4) c = lN (G c) := fun c hc => by rw [hN3, mJ_gJ, if_neg (by omega), mJ_gJ, if_pos ⟨rfl, Nat.zero_le _, hc⟩, gN c hc]
  have zN2 : ∀ c, c < 24 → mJ N2 (s + 5) c = 0 := fun c hc => by rw [hN3, mJ_gJ, if_pos ⟨rfl, Nat.zero_le _, hc⟩]
  have tN2 : mT N2 = mT N ∧ mW N2 = mW N := by rw [hN3]; exact ⟨by rw [mT_gJ, mT_gJ], by rw [mW_gJ, mW_gJ]⟩
  obtain ⟨M3, e3, f3, t3, g3⟩ := les8 hs hFN2 gN2 hGb
  have hF3 := f3.fix hFN2
  have fA : Fr [s + 4, s + 5] [] M M3 := (fN.tr fN2).tr (f3.wk (fun o ho => by rw [List.mem_singleton.mp ho]; exact in20) mem0)
  have z3 : ∀ c, c < 24 → mJ M3 (s + 5) c = 0 := fun c hc => by
    have := hFN2.1
    rw [f3.J (by omega) (fun z => by have := List.mem_singleton.mp z; omega)]
    exact zN2 c hc
  have h3 : St s q (les G) sd M3 := h.od2 hF fA (by omega) (fun o ho => by simp only [List.mem_cons, List.not_mem_nil, or_false] at ho; omega) g3 z3
  have hst := ((h3.put (by omega) hq (11, 65) (by decide) (by decide) (q 65 + 1)).put (by omega) hq (12, 64) (by decide) (by decide) (q 64 + 1))
  refine ⟨sI (sI M3 s 11 (nI (q 65 + 1))) s 12 (nI (q 64 + 1)), ?_, (fA.wk (fun _ z => z) mem0).tr ((Fr.oI _ _ (Or.inr inc0)).tr (Fr.oI _ _ (Or.inr inc1))), ⟨?_, ?_⟩, ?_⟩
  · have e4 : fX5_hearStep s (bI bk) M = fX5_hearStep_b12 FU s (wy bk) (nI 0) M := by
      unfold fX5_hearStep bI wy
      rw [kbS hs hF]
      cases bk
      · simp only [Bool.false_eq_true, ↓reduceIte, l0, l1]
      · simp only [↓reduceIte, l0, l1, eq_nn (show 1 < 2147483648 by decide) (show 0 < 2147483648 by decide), Nat.reduceEqDiff]
    obtain ⟨m, hm⟩ : ∃ m, FU - q 56 = m + 1 := ⟨FU - q 56 - 1, by unfold FU; omega⟩
    have hF4 : FIX (sI M3 s 11 (nI (q 65 + 1))) := by rw [FIX_sI]; exact hF3
    rw [e4, hs8, hm, fX5_hearStep_b12, ibS hs hFN, e0, if_pos (by rw [le_nn (by omega) (by omega)]; exact Nat.le_refl _), rbS10 hs hFN, bnd1 e2, rbS10 hs hFN2, bnd1 e3, ibS hs hF3, h3.f65, show nI (q 65) + (1 : Int32) = nI (q 65 + 1) from add_nn _ 1, pbS hs hF3, ibS hs hF4, mI_sI, if_neg (by omega), h3.f64, show nI (q 64) + (1 : Int32) = nI (q 64 + 1) from add_nn _ 1, pbS hs hF4]
  · rw [mT_sI, mT_sI, t3.1, tN2.1, tN.1]
  · rw [mW_sI, mW_sI, t3.2, tN2.2, tN.2]
  · unfold stq sto
    rw [← hG, u1_c _ _ _ (by decide)]
    exact hst
