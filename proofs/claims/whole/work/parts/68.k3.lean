/-! a step heard, the reference -/
theorem gnY {M : Mm} (hF : FIX M) {L c d : Nat} (bk : Bool) (h : mI M 80 0 = nI L) (hL : 2 ≤ L ∧ L ≤ 24) (hc : c < L) (hd : d ≤ 2) : fX9_goneTo 80 (nI c) (nI d) (bI bk) M = some (nI (if bk then c - d else gof L c d), M) := by
  unfold bI
  cases bk
  · simp only [Bool.false_eq_true, ↓reduceIte]
    exact gon9 hF h hL hc hd
  · simp only [↓reduceIte]
    exact gob9 hF h hL hc hd
theorem stz9 {L : Nat} (hL : L ≤ 24) (x : Int32) : ∀ n i (M : Mm), FIX M → mI M 80 0 = nI L → i ≤ L → L - i < n → fX9_steps_b2 n 80 x (nI i) M = fX9_steps_b25 FU 80 x (nI 0) (gJ M 90 i L (fun _ => lN 0)) := by
  intro n
  induction n with
  | zero => intro i M _ _ h1 h2; omega
  | succ n ih =>
    intro i M hF e0 h1 h2
    rw [fX9_steps_b2]
    by_cases c : L ≤ i
    · have e : i = L := by omega
      subst e
      rw [ib80 hF, e0, if_pos (by rw [le_nn (by omega) (by omega)]; exact Nat.le_refl _), gJ_end]
      rfl
    · have ci : i < 24 := by omega
      rw [ib80 hF, e0, if_neg (by rw [le_nn (by omega) (by omega)]; exact c), rb80_22 hF, tb90 hF ci, show nI i + (1 : Int32) = nI (i + 1) from add_nn i 1, ih (i + 1) (sJ M 90 i 0) (by simp only [FIX_sI, FIX_sJ, FIX_gI, FIX_gJ]; exact hF) (by rw [mI_sJ]; exact e0) (by omega) (by omega), gJ_step (g := fun _ => lN 0) (by omega) lN0]
theorem hsY {M : Mm} (hF : FIX M) {q od : Nat → Nat} {sd : Int32} (h : MD q od sd M) (hI : Inv q od) (bk : Bool) : ∀ d n i, d + i = q 56 →
    fX9_steps_b25 (n + d) 80 (bI bk) (nI i) (gJ M 90 0 (q 56) (fun j => lN (gvs (q 56) (q 57) (q 58) bk od i j))) = fX9_steps_b25 n 80 (bI bk) (nI (q 56)) (gJ M 90 0 (q 56) (fun j => lN (gvs (q 56) (q 57) (q 58) bk od (q 56) j))) := by
  have hL := hI.1
  have h5 := hI.2.1
  have w4 := h.2.2.2.2
  intro d
  induction d with
  | zero => intro n i hi; rw [show i = q 56 by omega]; rfl
  | succ d ih =>
    intro n i hi
    have ci : i < q 56 := by omega
    have ci2 : ¬ q 56 ≤ i := by omega
    have ci4 : i < 24 := by omega
    have hg : ∀ (f : Nat → Int64), FIX (gJ M 90 0 (q 56) f) := fun f => (by simp only [FIX_sI, FIX_sJ, FIX_gI, FIX_gJ]; exact hF)
    have e0 : ∀ (f : Nat → Int64), mI (gJ M 90 0 (q 56) f) 80 0 = nI (q 56) := fun f => by rw [mI_gJ]; exact h.f56
    have e1 : ∀ (f : Nat → Int64), mI (gJ M 90 0 (q 56) f) 80 1 = nI (q 57) := fun f => by rw [mI_gJ]; exact h.f57
    have e2 : ∀ (f : Nat → Int64), mI (gJ M 90 0 (q 56) f) 80 2 = nI (q 58) := fun f => by rw [mI_gJ]; exact h.f58
    have r1 := fun (f : Nat → Int64) => gnY (hg f) bk (e0 f) hL ci (show 1 ≤ 2 by decide)
    have r2 := fun (f : Nat → Int64) => gnY (hg f) bk (e0 f) hL ci (show 2 ≤ 2 by decide)
    have t1 : (if bk then i - 1 else gof (q 56) i 1) < q 56 := by
      have := gof_lt (d := 1) hL.1 ci
      split <;> omega
    have t2 : (if bk then i - 2 else gof (q 56) i 2) < q 56 := by
      have := gof_lt (d := 2) hL.1 ci
      split <;> omega
    have rd : ∀ (f : Nat → Nat) t, t < q 56 → mJ (gJ M 90 0 (q 56) (fun j => lN (f j))) 90 t = lN (f t) := fun f t ht => by rw [mJ_gJ, if_pos ⟨rfl, Nat.zero_le _, ht⟩]
    have rw9 : ∀ (f : Nat → Int64), mJ (gJ M 90 0 (q 56) f) 89 i = lN (od i) := fun f => by rw [mJ_gJ, if_neg (by omega)]; exact w4 i ci4
    have wr : ∀ (f : Nat → Nat) (t k : Nat), t < q 56 → ∀ {β : Type} (F : Mm → Option β), Option.bind (tJ (gJ M 90 0 (q 56) (fun j => lN (f j))) 90 (nI t) (lN (f t) + lN k)) F = F (gJ M 90 0 (q 56) (fun j => lN (adt f t k j))) := fun f t k ht β F => by
      rw [lN_add, tb90 (hg _) (show t < 24 by omega), adt_g ht]
    rw [show n + (d + 1) = (n + d) + 1 by omega, fX9_steps_b25, ib80 (hg _), e0, if_neg (by rw [le_nn (by omega) (by omega)]; exact ci2)]
    rw [rb80_22 (hg _), ab90 (hg _) ci4, ib80 (hg _), e1, rb80_21 (hg _), ab89 (hg _) ci4, rw9, rd _ i ci, nI_l (show q 57 < 2147483648 by omega), lN_mul, wr _ i _ ci]
    rw [rb80_22 (hg _), show (2 : Int32) = nI 2 from rfl, bnd1 (r2 _), ab90 (hg _) (Nat.lt_of_lt_of_le t2 hL.2), ib80 (hg _), e2, rb80_21 (hg _), ab89 (hg _) ci4, rw9, rd _ _ t2, nI_l (show q 58 < 2147483648 by omega), lN_mul, wr _ _ _ t2]
    rw [rb80_22 (hg _), show (1 : Int32) = nI 1 from rfl, bnd1 (r1 _), ab90 (hg _) (Nat.lt_of_lt_of_le t1 hL.2), ib80 (hg _), e1, ib80 (hg _), e2, rb80_21 (hg _), ab89 (hg _) ci4, rw9, rd _ _ t1, show (10 : Int32) - nI (q 57) - nI (q 58) = nI (10 - q 57 - q 58) by rw [l10, sub_nn (by omega), sub_nn (by omega)], nI_l (show 10 - q 57 - q 58 < 2147483648 by omega), lN_mul, wr _ _ _ t1]
    have := ih n (i + 1) (by omega)
    rw [show nI i + nI 1 = nI (i + 1) from add_nn i 1, adt_comm, Nat.mul_comm (q 57), Nat.mul_comm (q 58), Nat.mul_comm (10 - q 57 - q 58)]
    exact this
theorem stc9 {L : Nat} (hL : L ≤ 24) {G : Nat → Nat} : ∀ d n i (M : Mm), FIX M → mI M 80 0 = nI L → (∀ c, c < L → mJ M 90 c = lN (G c)) → d + i = L → fX9_steps_b124 (n + d) 80 (nI i) M = fX9_steps_b124 n 80 (nI L) (gJ M 89 i L (fun c => lN (G c))) := by
  intro d
  induction d with
  | zero => intro n i M _ _ _ hi; rw [show i = L by omega, gJ_end]; rfl
  | succ d ih =>
    intro n i M hF e0 g hi
    have ci : i < 24 := by omega
    rw [show n + (d + 1) = (n + d) + 1 by omega, fX9_steps_b124, ib80 hF, e0, if_neg (by rw [le_nn (by omega) (by omega)]; omega), rb80_21 hF, rb80_22 hF, ab90 hF ci, g i (by omega), tb89 hF ci, show nI i + (1 : Int32) = nI (i + 1) from add_nn i 1, ih n (i + 1) (sJ M 89 i (lN (G i))) (by simp only [FIX_sI, FIX_sJ, FIX_gI, FIX_gJ]; exact hF) (by rw [mI_sJ]; exact e0) (fun c hc => by rw [mJ_sJ, if_neg (by omega)]; exact g c hc) (by omega), gJ_step (g := fun c => lN (G c)) (by omega) rfl]
theorem hear9 {M : Mm} (hF : FIX M) {q od : Nat → Nat} {sd : Int32} (h : MD q od sd M) (hI : Inv q od) (bk : Bool) :
    ∃ M1, fX9_steps 80 (bI bk) M = some M1 ∧ Fr [89, 90] [(80, 8), (80, 9)] M M1 ∧ (mT M1 = mT M ∧ mW M1 = mW M) ∧ MD (stq q) (sto q bk od) sd M1 := by
  have hL := hI.1
  obtain ⟨G, hG⟩ : ∃ G, G = stg q bk od := ⟨_, rfl⟩
  have hGo : ∀ c, q 56 ≤ c → G c = 0 := by rw [hG]; exact stg_o hI bk
  have hGs : sm G 24 ≤ 10 * sm od 24 := by rw [hG]; exact Nat.le_of_eq (stg_s hI bk)
  have hGb := bnd_of hI hGo hGs
  have ez := stz9 hL.2 (bI bk) FU 0 M hF h.f56 (Nat.zero_le _) (by unfold FU; omega)
  have hs9 := hsY hF h hI bk (q 56) (FU - q 56) 0 (Nat.add_zero _)
  rw [show FU - q 56 + q 56 = FU by unfold FU; omega] at hs9
  obtain ⟨N, hN⟩ : ∃ N, N = gJ M 90 0 (q 56) (fun j => lN (G j)) := ⟨_, rfl⟩
  have hN2 : gJ M 90 0 (q 56) (fun j => lN (gvs (q 56) (q 57) (q 58) bk od (q 56) j)) = N := by rw [hN, hG]; rfl
  rw [hN2] at hs9
  have hFN : FIX N := by rw [hN, FIX_gJ]; exact hF
  have fN : Fr [89, 90] [] M N := by rw [hN]; exact Fr.gJ _ _ _ in21
  have e0 : mI N 80 0 = nI (q 56) := by rw [hN, mI_gJ]; exact h.f56
  have gN : ∀ c, c < q 56 → mJ N 90 c = lN (G c) := fun c hc => by rw [hN, mJ_gJ, if_pos ⟨rfl, Nat.zero_le _, hc⟩]
  have tN : mT N = mT M ∧ mW N = mW M := by rw [hN]; exact ⟨mT_gJ _ _ _ _ _, mW_gJ _ _ _ _ _⟩
  have ec := stc9 hL.2 (q 56) (FU - q 56) 0 N hFN e0 gN (Nat.add_zero _)
  rw [show FU - q 56 + q 56 = FU by unfold FU; omega] at ec
  obtain ⟨N2, hN3⟩ : ∃ N2, N2 = gJ N 89 0 (q 56) (fun c => lN (G c)) := ⟨_, rfl⟩
  rw [← hN3] at ec
  have hFN2 : FIX N2 := by rw [hN3, FIX_gJ]; exact hFN
  have fN2 : Fr [89, 90] [] N N2 := by rw [hN3]; exact Fr.gJ _ _ _ in20
  have e02 : mI N2 80 0 = nI (q 56) := by rw [hN3, mI_gJ]; exact e0
  have gN2 : ∀ c, c < 24 → mJ N2 89 c = lN (G c) := fun c hc => by
    rw [hN3, mJ_gJ]
    by_cases z : c < q 56
    · rw [if_pos ⟨rfl, Nat.zero_le _, z⟩]
    · rw [if_neg (fun y => z y.2.2), hN, mJ_gJ, if_neg (by omega), h.2.2.2.2 c hc, hI.od0 c (by omega), hGo c (by omega)]
  have tN2 : mT N2 = mT N ∧ mW N2 = mW N := by rw [hN3]; exact ⟨mT_gJ _ _ _ _ _, mW_gJ _ _ _ _ _⟩
  obtain ⟨M3, e3, f3, t3, g3⟩ := les9 hFN2 e02 hL.2 hGo gN2 hGb
  have hF3 := f3.fix hFN2
  have fA : Fr [89, 90] [] M M3 := (fN.tr fN2).tr (f3.wk (fun o ho => by rw [List.mem_singleton.mp ho]; exact in20) mem0)
  have h3 : MD q (les G) sd M3 := h.od hF fA (fun o ho => by simp only [List.mem_cons, List.not_mem_nil, or_false] at ho; omega) g3
  have hst := (h3.put (show 8 < 10 by decide) (q 64 + 1)).put (show 9 < 10 by decide) (q 65 + 1)
  refine ⟨sI (sI M3 80 8 (nI (q 64 + 1))) 80 9 (nI (q 65 + 1)), ?_, (fA.wk (fun _ z => z) mem0).tr ((Fr.oI _ _ (Or.inr inc0)).tr (Fr.oI _ _ (Or.inr inc1))), ⟨?_, ?_⟩, ?_⟩
  · obtain ⟨m, hm⟩ : ∃ m, FU - q 56 = m + 1 := ⟨FU - q 56 - 1, by unfold FU; omega⟩
    have hF4 : FIX (sI M3 80 8 (nI (q 64 + 1))) := by rw [FIX_sI]; exact hF3
    unfold fX9_steps
    rw [kb80 hF, show (0 : Int32) = nI 0 from rfl, ez]
    refine Eq.trans hs9 ?_
    rw [hm, fX9_steps_b25, ib80 hFN, e0, if_pos (by rw [le_nn (by omega) (by omega)]; exact Nat.le_refl _), show (0 : Int32) = nI 0 from rfl, ec, hm, fX9_steps_b124, ib80 hFN2, e02, if_pos (by rw [le_nn (by omega) (by omega)]; exact Nat.le_refl _), bnd1 e3, ib80 hF3, h3.f64, show nI (q 64) + (1 : Int32) = nI (q 64 + 1) from add_nn _ 1, pb80 hF3, ib80 hF4, mI_sI, if_neg (by omega), h3.f65, show nI (q 65) + (1 : Int32) = nI (q 65 + 1) from add_nn _ 1, pb80 hF4]
  · rw [mT_sI, mT_sI, t3.1, tN2.1, tN.1]
  · rw [mW_sI, mW_sI, t3.2, tN2.2, tN.2]
  · unfold stq sto
    rw [← hG]
    exact hst
