/-! news told by a row: the loops of both sides -/
theorem bad20 {n : Nat} (hn : n ≤ 8) {v : Int32} (h : v < nI 10) : BadN n (v - nI 20) := by
  rcases bn_cases n (v - nI 20) with hb | ⟨s, hs, hs2, e⟩
  · exact hb
  · exfalso
    have : v = nI (s + 20) := by
      have e2 := congrArg (· + nI 20) e
      simp only [Int32.sub_add_cancel] at e2
      rw [e2, add_nn]
    rw [this, lt_nn (by omega) (by omega)] at h
    omega
theorem plStop (K : Nat → Int32 → Int32 → Int32 → Int32 → Int32 → Mm → Option (Int32 × Mm)) {N : Mm} (hF : FIX N) (S NN x4 x5 : Int32) (i : Nat) (x7 x8 x9 : Int32) : fX9_played_b209 K 80 S NN x4 x5 (nI i) x7 x8 x9 N = K 80 S NN x4 x5 (nI (i + 1)) (sI N 80 42 (nI i)) := by
  unfold fX9_played_b209 fX9_played_b210
  rw [if_pos rfl, pb80 hF, show nI i + (1 : Int32) = nI (i + 1) from add_nn i 1]
theorem plStep (K : Nat → Int32 → Int32 → Int32 → Int32 → Int32 → Mm → Option (Int32 × Mm)) {N N1 : Mm} {bk : Bool} (h : fX9_steps 80 (bI bk) N = some N1) (S NN x4 x5 : Int32) (i : Nat) (x8 : Int32) : fX9_played_b205 K 80 S NN x4 x5 (nI i) (bI bk) x8 1 N = K 80 S NN x4 x5 (nI (i + 1)) N1 := by
  unfold fX9_played_b205 fX9_played_b210
  rw [if_neg (by decide), if_neg (by decide)]
  unfold fX9_played_b243
  cases bk
  · rw [if_neg (by decide), show (0 : Int32) = bI false from rfl, bnd1 h, show nI i + (1 : Int32) = nI (i + 1) from add_nn i 1]
  · rw [if_pos (show bI true = 1 from rfl), show (1 : Int32) = bI true from rfl, bnd1 h, show nI i + bI true = nI (i + 1) from add_nn i 1]
theorem plFeel (K : Nat → Int32 → Int32 → Int32 → Int32 → Int32 → Mm → Option (Int32 × Mm)) {N N1 : Mm} {g : Nat} {is : Bool} {v : Int32} (hv : (is = false ∧ nI 20 ≤ v) ∨ (is = true ∧ ¬ nI 20 ≤ v)) (h : fX9_feels 80 (nI g) (bI is) N = some N1) (S NN x4 x5 : Int32) (i : Nat) : fX9_played_b205 K 80 S NN x4 x5 (nI i) v (nI g) 0 N = K 80 S NN x4 x5 (nI (i + 1)) N1 := by
  unfold fX9_played_b205 fX9_played_b210
  rw [if_neg (by decide), if_pos rfl]
  rcases hv with ⟨rfl, hv⟩ | ⟨rfl, hv⟩
  · rw [if_pos (show (20 : Int32) ≤ v from hv), show (0 : Int32) = bI false from rfl, bnd1 h, show nI i + (1 : Int32) = nI (i + 1) from add_nn i 1]
  · rw [if_neg (show ¬ (20 : Int32) ≤ v from hv), show (1 : Int32) = bI true from rfl, bnd1 h, show nI i + bI true = nI (i + 1) from add_nn i 1]
theorem plEnd {N : Mm} (hF : FIX N) {S x4 x5 : Int32} {i NN m : Nat} (hi : i < 100) (hN : NN < 100) : fX9_played_b91 (m + 1) 80 S (nI NN) x4 x5 (nI (i + 1)) (sI N 80 42 (nI i)) = fX9_played_b273 80 x4 x5 (sI N 80 42 (nI i)) := by
  have hF2 : FIX (sI N 80 42 (nI i)) := by rw [FIX_sI]; exact hF
  have v42 : mI (sI N 80 42 (nI i)) 80 42 = nI i := by rw [mI_sI, if_pos ⟨rfl, rfl⟩]
  rw [fX9_played_b91]
  by_cases c : NN ≤ i + 1
  · rw [if_pos (by rw [le_nn (by omega) (by omega)]; exact c)]
  · rw [if_neg (by rw [le_nn (by omega) (by omega)]; exact c), ib80 hF2, v42, if_neg (show ¬ nI i = -1 by rw [l1, mi_ne (by omega) (by decide) (by decide)]; exact id)]
theorem nwB {s n NN : Nat} (hs : s < 8) (hn : n ≤ 160) {V : Nat → Int64} {sd : Int32} (hk : NN ≤ n) (hN : NN ≤ 16) : ∀ d m i (q od : Nat → Nat) (M : Mm), FIX M → St 28 q od sd M → Inv q od → mI M (64 + 2 * s) 1 = nI n → (∀ y, y < 160 → mJ M (65 + 2 * s) y = V y) → d + i = NN →
    ∃ w q' od' M1, fX8_tryNews_b13 (m + d + 1) 20 (64 + 2 * s) (nI NN) (nI i) M = some (w, M1) ∧ Fr [32, 33] [(28, 11), (28, 12)] M M1 ∧ (mT M1 = mT M ∧ mW M1 = mW M) ∧ St 28 q' od' sd M1 ∧ Inv q' od' ∧ (w = -nI 1 ∨ ∃ j, j < 100 ∧ w = nI j) ∧
      ∀ m2 (N : Mm) (x4 x5 : Int32), FIX N → MD q od sd N → mI N 80 42 = -nI 1 → (∀ y, y < 160 → mJ N 95 (160 * s + y) = V y) → ∃ N1, fX9_played_b91 (m2 + d + 2) 80 (nI s) (nI NN) x4 x5 (nI i) N = fX9_played_b273 80 x4 x5 N1 ∧ Fr [89, 90] [(80, 8), (80, 9), (80, 42)] N N1 ∧ (mT N1 = mT N ∧ mW N1 = mW N) ∧ MD q' od' sd N1 ∧ mI N1 80 42 = w := by
  intro d
  induction d with
  | zero =>
    intro m i q od M hF hS hI h1 hV hi
    refine ⟨-nI 1, q, od, M, ?_, Fr.rfl, ⟨rfl, rfl⟩, hS, hI, Or.inl rfl, fun m2 N x4 x5 hFN hM h42 _ => ⟨N, ?_, Fr.rfl, ⟨rfl, rfl⟩, hM, h42⟩⟩
    · rw [fX8_tryNews_b13, if_pos (by rw [le_nn (by omega) (by omega)]; omega)]
      rfl
    · rw [fX9_played_b91, if_pos (by rw [le_nn (by omega) (by omega)]; omega)]
  | succ d ih =>
    intro m i q od M hF hS hI h1 hV hi
    have hL := hI.1
    have hq := hI.sg
    have h0 := hF.1
    have h16 : q 64 ≤ 16 := hI.2.2.2.2.2.2.2.1
    obtain ⟨v, hv⟩ : ∃ v, v = (V i).toInt32 := ⟨_, rfl⟩
    have i8 := iA8 hF hs hn h1 (show i < n by omega)
    rw [hV i (by omega), ← hv] at i8
    have C : ∀ w M', fX5_hears 28 v M = some (w, M') → fX8_tryNews_b13 (m + (d + 1) + 1) 20 (64 + 2 * s) (nI NN) (nI i) M = if w = 0 then some (nI i, M') else fX8_tryNews_b13 (m + d + 1) 20 (64 + 2 * s) (nI NN) (nI (i + 1)) M' := fun w M' hw => by
      rw [show m + (d + 1) + 1 = (m + d + 1) + 1 by omega, fX8_tryNews_b13, if_neg (by rw [le_nn (by omega) (by omega)]; omega), rb20_2 hF, bnd1 i8]
      dsimp only
      rw [bnd1 hw, show nI i + (1 : Int32) = nI (i + 1) from add_nn i 1]
    have R : ∀ m2 (N : Mm) (x4 x5 : Int32), FIX N → mI N 80 42 = -nI 1 → (∀ y, y < 160 → mJ N 95 (160 * s + y) = V y) → fX9_played_b91 (m2 + (d + 1) + 2) 80 (nI s) (nI NN) x4 x5 (nI i) N =
        if v < nI 20 then fX9_played_b134 (fX9_played_b91 (m2 + d + 2)) 80 (nI s) (nI NN) x4 x5 (nI i) v (v - nI 10) N else fX9_played_b134 (fX9_played_b91 (m2 + d + 2)) 80 (nI s) (nI NN) x4 x5 (nI i) v (v - nI 20) N := fun m2 N x4 x5 hFN h42 hVN => by
      have j0 := iA9 hFN hs (show i < 160 by omega)
      rw [hVN _ (by omega), ← hv] at j0
      rw [show m2 + (d + 1) + 2 = (m2 + d + 2) + 1 by omega, fX9_played_b91, if_neg (by rw [le_nn (by omega) (by omega)]; omega), ib80 hFN, h42, if_pos (show -nI 1 = -1 from rfl), bnd1 j0]
      rfl
    have stop : fX5_hears 28 v M = some (nI 0, M) → (∀ m2 (N : Mm) (x4 x5 : Int32), FIX N → MD q od sd N → mI N 80 42 = -nI 1 → (∀ y, y < 160 → mJ N 95 (160 * s + y) = V y) → ∃ x7 x8 x9, fX9_played_b91 (m2 + (d + 1) + 2) 80 (nI s) (nI NN) x4 x5 (nI i) N = fX9_played_b209 (fX9_played_b91 (m2 + d + 2)) 80 (nI s) (nI NN) x4 x5 (nI i) x7 x8 x9 N) →
        ∃ w q' od' M1, fX8_tryNews_b13 (m + (d + 1) + 1) 20 (64 + 2 * s) (nI NN) (nI i) M = some (w, M1) ∧ Fr [32, 33] [(28, 11), (28, 12)] M M1 ∧ (mT M1 = mT M ∧ mW M1 = mW M) ∧ St 28 q' od' sd M1 ∧ Inv q' od' ∧ (w = -nI 1 ∨ ∃ j, j < 100 ∧ w = nI j) ∧
      ∀ m2 (N : Mm) (x4 x5 : Int32), FIX N → MD q od sd N → mI N 80 42 = -nI 1 → (∀ y, y < 160 → mJ N 95 (160 * s + y) = V y) → ∃ N1, fX9_played_b91 (m2 + (d + 1) + 2) 80 (nI s) (nI NN) x4 x5 (nI i) N = fX9_played_b273 80 x4 x5 N1 ∧ Fr [89, 90] [(80, 8), (80, 9), (80, 42)] N N1 ∧ (mT N1 = mT N ∧ mW N1 = mW N) ∧ MD q' od' sd N1 ∧ mI N1 80 42 = w := fun hx hy => by
      refine ⟨nI i, q, od, M, (C _ _ hx).trans (if_pos rfl), Fr.rfl, ⟨rfl, rfl⟩, hS, hI, Or.inr ⟨i, by omega, rfl⟩, fun m2 N x4 x5 hFN hM h42 hVN => ⟨sI N 80 42 (nI i), ?_, Fr.oI _ _ (Or.inr (by decide)), ⟨mT_sI _ _ _ _, mW_sI _ _ _ _⟩, hM.fr hFN (Fr.oI (ds := []) (es := [(80, 42)]) _ _ (Or.inr (by decide))) mem0 (by decide), by rw [mI_sI, if_pos ⟨rfl, rfl⟩]⟩⟩
      obtain ⟨x7, x8, x9, e⟩ := hy m2 N x4 x5 hFN hM h42 hVN
      rw [e, plStop _ hFN]
      exact plEnd hFN (by omega) (by omega)
    have go : ∀ q1 od1 M', fX5_hears 28 v M = some (nI 1, M') → Fr [32, 33] [(28, 11), (28, 12)] M M' → (mT M' = mT M ∧ mW M' = mW M) → St 28 q1 od1 sd M' → Inv q1 od1 → (∀ m2 (N : Mm) (x4 x5 : Int32), FIX N → MD q od sd N → mI N 80 42 = -nI 1 → (∀ y, y < 160 → mJ N 95 (160 * s + y) = V y) → ∃ N', fX9_played_b91 (m2 + (d + 1) + 2) 80 (nI s) (nI NN) x4 x5 (nI i) N = fX9_played_b91 (m2 + d + 2) 80 (nI s) (nI NN) x4 x5 (nI (i + 1)) N' ∧ Fr [89, 90] [(80, 8), (80, 9)] N N' ∧ (mT N' = mT N ∧ mW N' = mW N) ∧ MD q1 od1 sd N') →
        ∃ w q' od' M1, fX8_tryNews_b13 (m + (d + 1) + 1) 20 (64 + 2 * s) (nI NN) (nI i) M = some (w, M1) ∧ Fr [32, 33] [(28, 11), (28, 12)] M M1 ∧ (mT M1 = mT M ∧ mW M1 = mW M) ∧ St 28 q' od' sd M1 ∧ Inv q' od' ∧ (w = -nI 1 ∨ ∃ j, j < 100 ∧ w = nI j) ∧
      ∀ m2 (N : Mm) (x4 x5 : Int32), FIX N → MD q od sd N → mI N 80 42 = -nI 1 → (∀ y, y < 160 → mJ N 95 (160 * s + y) = V y) → ∃ N1, fX9_played_b91 (m2 + (d + 1) + 2) 80 (nI s) (nI NN) x4 x5 (nI i) N = fX9_played_b273 80 x4 x5 N1 ∧ Fr [89, 90] [(80, 8), (80, 9), (80, 42)] N N1 ∧ (mT N1 = mT N ∧ mW N1 = mW N) ∧ MD q' od' sd N1 ∧ mI N1 80 42 = w := fun q1 od1 M' hx hf ht hS1 hI1 hy => by
      have nk : ∀ k, ¬ (64 + 2 * s, k) ∈ [(28, 11), (28, 12)] := fun k z => by
        simp only [List.mem_cons, Prod.mk.injEq, List.not_mem_nil, or_false] at z
        omega
      have nd : ∀ o, 64 ≤ o → ¬ o ∈ [32, 33] := fun o ho z => by
        simp only [List.mem_cons, List.not_mem_nil, or_false] at z
        omega
      obtain ⟨w, q', od', M1, g1, g2, g3, g4, g5, g6, g7⟩ := ih m (i + 1) q1 od1 M' (hf.fix hF) hS1 hI1 (by rw [hf.I (by omega) (nd _ (by omega)) (nk 1)]; exact h1) (fun y hy => by rw [hf.J (by omega) (nd _ (by omega))]; exact hV y hy) (by omega)
      refine ⟨w, q', od', M1, (C _ _ hx).trans ((if_neg (by decide)).trans g1), hf.tr g2, ⟨g3.1.trans ht.1, g3.2.trans ht.2⟩, g4, g5, g6, fun m2 N x4 x5 hFN hM h42 hVN => ?_⟩
      obtain ⟨N', k1, k2, k3, k4⟩ := hy m2 N x4 x5 hFN hM h42 hVN
      have h0N := hFN.1
      obtain ⟨N1, p1, p2, p3, p4, p5⟩ := g7 m2 N' x4 x5 (k2.fix hFN) k4 (by rw [k2.I (by omega) (by decide) (by decide)]; exact h42) (fun y hy => by rw [k2.J (by omega) (by decide)]; exact hVN y hy)
      exact ⟨N1, k1.trans p1, (k2.wk (fun _ z => z) (by decide)).tr p2, ⟨p3.1.trans k3.1, p3.2.trans k3.2⟩, p4, p5⟩
    by_cases full : 16 ≤ q 64
    · refine stop ?_ (fun m2 N x4 x5 hFN hM h42 hVN => ?_)
      · unfold fX5_hears
        rw [kb28 hF, ib28 hF, hS.f64, if_neg (by rw [l16, lt_nn (by omega) (by omega)]; omega)]
        rfl
      · rw [R m2 N x4 x5 hFN h42 hVN]
        have st : ∀ x8 s0, fX9_played_b152 (fX9_played_b91 (m2 + d + 2)) 80 (nI s) (nI NN) x4 x5 (nI i) v x8 s0 N = fX9_played_b209 (fX9_played_b91 (m2 + d + 2)) 80 (nI s) (nI NN) x4 x5 (nI i) v x8 s0 N := fun x8 s0 => by
          unfold fX9_played_b152
          rw [ib80 hFN, hM.f64, if_pos (by rw [l16, le_nn (by omega) (by omega)]; exact full)]
        have st2 : ∀ x8, ∃ s0, fX9_played_b134 (fX9_played_b91 (m2 + d + 2)) 80 (nI s) (nI NN) x4 x5 (nI i) v x8 N = fX9_played_b209 (fX9_played_b91 (m2 + d + 2)) 80 (nI s) (nI NN) x4 x5 (nI i) v x8 s0 N := fun x8 => by
          unfold fX9_played_b134 fX9_played_b147
          rw [st, st]
          split
          · exact ⟨_, rfl⟩
          · split
            · exact ⟨_, rfl⟩
            · exact ⟨_, rfl⟩
        split
        · obtain ⟨s0, e⟩ := st2 (v - nI 10)
          exact ⟨_, _, _, e⟩
        · obtain ⟨s0, e⟩ := st2 (v - nI 20)
          exact ⟨_, _, _, e⟩
    have c16 : ¬ 16 ≤ q 64 := full
    have H : fX5_hears 28 v M = if v = 0 then fX5_hears_b20 28 v M else if v = 1 then fX5_hears_b20 28 v M else if v < 10 then fX5_hears_b52 28 v M else if 20 ≤ v then fX5_hears_b52 28 v M else fX5_hears_b53 28 v 1 M := by
      unfold fX5_hears
      rw [kb28 hF, ib28 hF, hS.f64, if_pos (by rw [l16, lt_nn (by omega) (by omega)]; omega)]
    have P : ∀ m2 (N : Mm) (x4 x5 : Int32), FIX N → MD q od sd N → ∀ x8 s0, fX9_played_b152 (fX9_played_b91 (m2 + d + 2)) 80 (nI s) (nI NN) x4 x5 (nI i) v x8 s0 N = if s0 = 0 then (if v < 10 then fX9_played_b209 (fX9_played_b91 (m2 + d + 2)) 80 (nI s) (nI NN) x4 x5 (nI i) v x8 s0 N else Option.bind (fX9_isSign 80 x8 N) fun q2_ => if q2_.1 = 0 then fX9_played_b209 (fX9_played_b91 (m2 + d + 2)) 80 (nI s) (nI NN) x4 x5 (nI i) v x8 s0 q2_.2 else if 20 ≤ v then fX9_played_b199 (fX9_played_b91 (m2 + d + 2)) 80 (nI s) (nI NN) x4 x5 (nI i) v x8 s0 80 x8 0 q2_.2 else fX9_played_b199 (fX9_played_b91 (m2 + d + 2)) 80 (nI s) (nI NN) x4 x5 (nI i) v x8 s0 80 x8 1 q2_.2) else fX9_played_b205 (fX9_played_b91 (m2 + d + 2)) 80 (nI s) (nI NN) x4 x5 (nI i) v x8 s0 N := fun m2 N x4 x5 hFN hM x8 s0 => by
      unfold fX9_played_b152
      rw [ib80 hFN, hM.f64, if_neg (by rw [l16, le_nn (by omega) (by omega)]; exact c16)]
    have stepcase : ∀ bk : Bool, v = bI bk → ∃ w q' od' M1, fX8_tryNews_b13 (m + (d + 1) + 1) 20 (64 + 2 * s) (nI NN) (nI i) M = some (w, M1) ∧ Fr [32, 33] [(28, 11), (28, 12)] M M1 ∧ (mT M1 = mT M ∧ mW M1 = mW M) ∧ St 28 q' od' sd M1 ∧ Inv q' od' ∧ (w = -nI 1 ∨ ∃ j, j < 100 ∧ w = nI j) ∧
      ∀ m2 (N : Mm) (x4 x5 : Int32), FIX N → MD q od sd N → mI N 80 42 = -nI 1 → (∀ y, y < 160 → mJ N 95 (160 * s + y) = V y) → ∃ N1, fX9_played_b91 (m2 + (d + 1) + 2) 80 (nI s) (nI NN) x4 x5 (nI i) N = fX9_played_b273 80 x4 x5 N1 ∧ Fr [89, 90] [(80, 8), (80, 9), (80, 42)] N N1 ∧ (mT N1 = mT N ∧ mW N1 = mW N) ∧ MD q' od' sd N1 ∧ mI N1 80 42 = w := fun bk hb => by
      obtain ⟨M', e1, f1, t1, s1⟩ := hear8 (Or.inr (Or.inl rfl)) hF hS hI bk
      refine go (stq q) (sto q bk od) M' ?_ f1 t1 s1 (hI.st (by omega) bk) (fun m2 N x4 x5 hFN hM h42 hVN => ?_)
      · have hb20 : fX5_hears_b20 28 (bI bk) M = some (nI 1, M') := by
          unfold fX5_hears_b20
          cases bk
          · rw [if_neg (by decide), show (0 : Int32) = bI false from rfl, bnd1 e1]
            rfl
          · rw [if_pos (show bI true = 1 from rfl), show (1 : Int32) = bI true from rfl, bnd1 e1]
            rfl
        rw [H, hb]
        cases bk
        · rw [if_pos (show bI false = 0 from rfl)]; exact hb20
        · rw [if_neg (by decide), if_pos (show bI true = 1 from rfl)]; exact hb20
      · obtain ⟨N', e2, f2, t2, s2⟩ := hear9 hFN hM hI bk
        refine ⟨N', ?_, f2, t2, s2⟩
        have e3 : ∀ x8, fX9_played_b134 (fX9_played_b91 (m2 + d + 2)) 80 (nI s) (nI NN) x4 x5 (nI i) v x8 N = fX9_played_b91 (m2 + d + 2) 80 (nI s) (nI NN) x4 x5 (nI (i + 1)) N' := fun x8 => by
          have e4 : fX9_played_b152 (fX9_played_b91 (m2 + d + 2)) 80 (nI s) (nI NN) x4 x5 (nI i) v x8 1 N = fX9_played_b91 (m2 + d + 2) 80 (nI s) (nI NN) x4 x5 (nI (i + 1)) N' := by
            rw [P m2 N x4 x5 hFN hM, if_neg (by decide), hb]
            exact plStep _ e2 _ _ _ _ _ _
          unfold fX9_played_b134 fX9_played_b147
          rw [e4]
          rw [hb]
          cases bk
          · rw [if_pos (show bI false = 0 from rfl)]
          · rw [if_neg (by decide), if_pos (show bI true = 1 from rfl)]
        rw [R m2 N x4 x5 hFN h42 hVN]
        split
        · exact e3 _
        · exact e3 _
    by_cases v0 : v = nI 0
    · exact stepcase false v0
    by_cases v1 : v = nI 1
    · exact stepcase true v1
    have v0' : ¬ v = 0 := v0
    have v1' : ¬ v = 1 := v1
    have Q : ∀ m2 (N : Mm) (x4 x5 : Int32) x8, fX9_played_b134 (fX9_played_b91 (m2 + d + 2)) 80 (nI s) (nI NN) x4 x5 (nI i) v x8 N = fX9_played_b152 (fX9_played_b91 (m2 + d + 2)) 80 (nI s) (nI NN) x4 x5 (nI i) v x8 0 N := fun m2 N x4 x5 x8 => by
      unfold fX9_played_b134
      rw [if_neg v0', if_neg v1']
    by_cases v10 : v < nI 10
    · have v10' : v < 10 := v10
      refine stop ?_ (fun m2 N x4 x5 hFN hM h42 hVN => ?_)
      · rw [H, if_neg v0', if_neg v1', if_pos v10']
        unfold fX5_hears_b52 fX5_hears_b53
        rw [if_pos rfl]
        unfold fX5_hears_b70
        rw [l20, bnd1 (gAt_no (Or.inr (Or.inl rfl)) hF hS hq (bad20 hq.1 v10))]
        rfl
      · have v20 : v < nI 20 := by
          rw [Int32.lt_iff_toInt_lt, I_n (by decide)] at v10 ⊢
          omega
        refine ⟨v, v - nI 10, 0, ?_⟩
        rw [R m2 N x4 x5 hFN h42 hVN, if_pos v20, Q, P m2 N x4 x5 hFN hM, if_pos rfl, if_pos v10']
    have v10' : ¬ v < 10 := v10
    obtain ⟨w, hw2, hvw⟩ : ∃ w : Nat, w < 2147483648 ∧ v = nI w := by
      rcases n_cases v with c | c
      · exfalso
        apply v10
        rw [ng_lt2 c (by decide)]
        trivial
      · exact c
    have w10 : 10 ≤ w := by
      rw [hvw, lt_nn hw2 (by decide)] at v10
      omega
    have signcase : ∀ (is : Bool) (gx : Int32), ((is = false ∧ nI 20 ≤ v) ∨ (is = true ∧ ¬ nI 20 ≤ v)) → fX5_hears 28 v M = fX5_hears_b70 28 (bI is) 28 gx M → (∀ m2 (N : Mm) (x4 x5 : Int32), FIX N → mI N 80 42 = -nI 1 → (∀ y, y < 160 → mJ N 95 (160 * s + y) = V y) → fX9_played_b91 (m2 + (d + 1) + 2) 80 (nI s) (nI NN) x4 x5 (nI i) N = fX9_played_b152 (fX9_played_b91 (m2 + d + 2)) 80 (nI s) (nI NN) x4 x5 (nI i) v gx 0 N) → (∃ gn : Nat, gn < 2147483648 ∧ gx = nI gn) → ∃ w q' od' M1, fX8_tryNews_b13 (m + (d + 1) + 1) 20 (64 + 2 * s) (nI NN) (nI i) M = some (w, M1) ∧ Fr [32, 33] [(28, 11), (28, 12)] M M1 ∧ (mT M1 = mT M ∧ mW M1 = mW M) ∧ St 28 q' od' sd M1 ∧ Inv q' od' ∧ (w = -nI 1 ∨ ∃ j, j < 100 ∧ w = nI j) ∧
      ∀ m2 (N : Mm) (x4 x5 : Int32), FIX N → MD q od sd N → mI N 80 42 = -nI 1 → (∀ y, y < 160 → mJ N 95 (160 * s + y) = V y) → ∃ N1, fX9_played_b91 (m2 + (d + 1) + 2) 80 (nI s) (nI NN) x4 x5 (nI i) N = fX9_played_b273 80 x4 x5 N1 ∧ Fr [89, 90] [(80, 8), (80, 9), (80, 42)] N N1 ∧ (mT N1 = mT N ∧ mW N1 = mW N) ∧ MD q' od' sd N1 ∧ mI N1 80 42 = w := fun is gx his hx hr hg => by
      obtain ⟨gn, hgn, rfl⟩ := hg
      have R9 : ∀ m2 (N : Mm) (x4 x5 : Int32), FIX N → MD q od sd N → mI N 80 42 = -nI 1 → (∀ y, y < 160 → mJ N 95 (160 * s + y) = V y) → fX9_played_b91 (m2 + (d + 1) + 2) 80 (nI s) (nI NN) x4 x5 (nI i) N = Option.bind (fX9_isSign 80 (nI gn) N) fun q2_ => if q2_.1 = 0 then fX9_played_b209 (fX9_played_b91 (m2 + d + 2)) 80 (nI s) (nI NN) x4 x5 (nI i) v (nI gn) 0 q2_.2 else fX9_played_b199 (fX9_played_b91 (m2 + d + 2)) 80 (nI s) (nI NN) x4 x5 (nI i) v (nI gn) 0 80 (nI gn) (bI is) q2_.2 := fun m2 N x4 x5 hFN hM h42 hVN => by
        rw [hr m2 N x4 x5 hFN h42 hVN, P m2 N x4 x5 hFN hM, if_pos rfl, if_neg v10']
        congr 1
        funext q2_
        rcases his with ⟨rfl, hv20⟩ | ⟨rfl, hv20⟩
        · rw [if_pos (show (20 : Int32) ≤ v from hv20)]
          rfl
        · rw [if_neg (show ¬ (20 : Int32) ≤ v from hv20)]
          rfl
      by_cases gl : gn < q 62
      rotate_left
      · have hbad : BadN (q 62) (nI gn) := Or.inr ⟨gn, by omega, hgn, rfl⟩
        refine stop ?_ (fun m2 N x4 x5 hFN hM h42 hVN => ⟨v, nI gn, 0, ?_⟩)
        · rw [hx]
          unfold fX5_hears_b70
          rw [bnd1 (gAt_no (Or.inr (Or.inl rfl)) hF hS hq hbad)]
          rfl
        · rw [R9 m2 N x4 x5 hFN hM h42 hVN, bnd1 (isG_no hFN hM hq hbad)]
          dsimp only
          rw [if_pos (show nI 0 = 0 from rfl)]
      obtain ⟨r, er, g⟩ := gAt (Or.inr (Or.inl rfl)) hF hS hq gl
      have c8 := cb8 (Or.inr (Or.inl rfl)) hF hS hI g gl is
      have R10 : ∀ m2 (N : Mm) (x4 x5 : Int32), FIX N → MD q od sd N → mI N 80 42 = -nI 1 → (∀ y, y < 160 → mJ N 95 (160 * s + y) = V y) → fX9_played_b91 (m2 + (d + 1) + 2) 80 (nI s) (nI NN) x4 x5 (nI i) N = if bI (cb q od gn is) = 0 then fX9_played_b209 (fX9_played_b91 (m2 + d + 2)) 80 (nI s) (nI NN) x4 x5 (nI i) v (nI gn) 0 N else fX9_played_b205 (fX9_played_b91 (m2 + d + 2)) 80 (nI s) (nI NN) x4 x5 (nI i) v (nI gn) 0 N := fun m2 N x4 x5 hFN hM h42 hVN => by
        rw [R9 m2 N x4 x5 hFN hM h42 hVN, bnd1 (isG hFN hM hq gl)]
        dsimp only
        rw [if_neg (by decide)]
        unfold fX9_played_b199
        rw [bnd1 (cb9 hFN hM hI gl is)]
      by_cases cc : cb q od gn is = false
      · refine stop ?_ (fun m2 N x4 x5 hFN hM h42 hVN => ⟨v, nI gn, 0, ?_⟩)
        · rw [hx]
          unfold fX5_hears_b70
          rw [bnd1 er]
          dsimp only
          rw [Option.bind_some, Option.elim_some, bnd1 c8]
          dsimp only
          rw [if_pos (by rw [bI_0]; exact cc)]
          rfl
        · rw [R10 m2 N x4 x5 hFN hM h42 hVN, if_pos (by rw [bI_0]; exact cc)]
      · obtain ⟨M', e1, f1, t1, s1⟩ := fel8 (Or.inr (Or.inl rfl)) hF hS hI g gl is
        refine go (feq q) (fel q gn is od) M' ?_ (f1.wk (by decide) (by decide)) t1 s1 (hI.fe (by omega) gl is) (fun m2 N x4 x5 hFN hM h42 hVN => ?_)
        · rw [hx]
          unfold fX5_hears_b70
          rw [bnd1 er]
          dsimp only
          rw [Option.bind_some, Option.elim_some, bnd1 c8]
          dsimp only
          rw [if_neg (by rw [bI_0]; exact cc), bnd1 e1]
          rfl
        · obtain ⟨N', e2, f2, t2, s2⟩ := fel9 hFN hM hI gl is
          refine ⟨N', ?_, f2.wk (by decide) (by decide), t2, s2⟩
          rw [R10 m2 N x4 x5 hFN hM h42 hVN, if_neg (by rw [bI_0]; exact cc)]
          exact plFeel _ his e2 _ _ _ _ _
    by_cases w20 : 20 ≤ w
    · have v20 : nI 20 ≤ v := by rw [hvw, le_nn (by decide) hw2]; exact w20
      have v20n : ¬ v < nI 20 := by rw [hvw, lt_nn hw2 (by decide)]; omega
      refine signcase false (v - nI 20) (Or.inl ⟨rfl, v20⟩) ?_ (fun m2 N x4 x5 hFN h42 hVN => by rw [R m2 N x4 x5 hFN h42 hVN, if_neg v20n, Q]) ⟨w - 20, by omega, by rw [hvw, sub_nn w20]⟩
      rw [H, if_neg v0', if_neg v1', if_neg v10', if_pos (show (20 : Int32) ≤ v from v20)]
      unfold fX5_hears_b52 fX5_hears_b53
      rw [if_pos rfl]
      rfl
    · have v20 : ¬ nI 20 ≤ v := by rw [hvw, le_nn (by decide) hw2]; exact w20
      have v20n : v < nI 20 := by rw [hvw, lt_nn hw2 (by decide)]; omega
      refine signcase true (v - nI 10) (Or.inr ⟨rfl, v20⟩) ?_ (fun m2 N x4 x5 hFN h42 hVN => by rw [R m2 N x4 x5 hFN h42 hVN, if_pos v20n, Q]) ⟨w - 10, by omega, by rw [hvw, sub_nn w10]⟩
      rw [H, if_neg v0', if_neg v1', if_neg v10', if_neg (show ¬ (20 : Int32) ≤ v from v20)]
      unfold fX5_hears_b53
      rw [if_neg (by decide)]
      rfl
