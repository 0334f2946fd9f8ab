/-! rows: arraycopy of longs, new T[n][m], comparisons of longs
-/
section RULES4
variable {l : Launch} {Γ : Gx} {y : MethodName} {cc : ByteArray} {nl : Nat} {rt : Option FieldType} {d t0 w0 pc : Nat} {lv : List (Nat × Value)} {st : List Value} {M M1 M2 : Mm} {r : Option Value}
theorem nfw_ac : nativeFrameWords "java/lang/System" "arraycopy" 5 ≤ 45 := by decide +kernel
theorem nn_toInt {z : Int32} (h : ¬ z < 0) : z.toInt = (z.toNatClampNeg : Int) := by
  have hz0 : (0 : Int) ≤ z.toInt := by
    have := Int32.not_lt.mp h
    simpa using Int32.le_iff_toInt_le.mp this
  show z.toInt = ((z.toInt.toNat : Nat) : Int)
  omega
set_option maxHeartbeats 2000000 in
theorem a_copyJ {index a b : Nat} {i j n : Int32} (hd : decode cc pc = .ok (.invokestatic index, 3)) (hw : Cond.methodLink y.cls index arraycopyName ∈ gw ∧ Cond.native arraycopyName ∈ gw ∧ Cond.static arraycopyName ∈ gw ∧ Cond.initialized "java/lang/System" ∈ gw) (ho : cJ M a i b j n = some M2) (hdd : 1 ≤ d) (h8 : (st.map fun v => v.category).sum ≤ 8)
    (h : AW l Γ y cc nl rt d t0 w0 (pc + 3) lv st M2 r M1) : AW l Γ y cc nl rt d t0 w0 pc lv (.int n :: .int j :: .ref b :: .int i :: .ref a :: st) M r M1 := by
  unfold cJ at ho
  split at ho
  · rename_i hc
    obtain ⟨ka, kb, hi, hj, hn, hla, hlb⟩ := hc
    have eM : M2 = _ := (Option.some.inj ho).symm
    refine AW.wr (M2 := M2) (by rw [eM]; rfl) (by rw [eM]; rfl) h (fun {p e R s m args below meth c' H locs cells slots Q ls} G g1 g2 hroom hsz w => ?_)
    have owa := g1.own ka (by omega) (by omega)
    have owb := g1.own kb (by omega) (by omega)
    have ea := (g1.2.1 a owa.1 owa.2).2 (by omega)
    have eb := (g1.2.1 b owb.1 owb.2).2 (by omega)
    rw [ka] at ea
    rw [kb] at eb
    have hts := G.2.2.2.2.2.2.2.1
    have hA := gY_at G.2.2.2.2.2.2.2.2 1 rfl
    obtain ⟨-, k0, hk0, cm0, hkk0⟩ := hA (mK M a).2 (eV Γ M 21 a)
    obtain ⟨-, k1, hk1, cm1, hkk1⟩ := hA (mK M b).2 (eV Γ M 21 b)
    intro T hT X
    obtain ⟨vm', X', step⟩ := X.arraycopy G.1 G.2.2.2.2.2.2.1 (hts _ hw.1) (hts _ hw.2.1) (hts _ hw.2.2.1) (hts _ hw.2.2.2) (src := ad Γ a) (dst := ad Γ b) (cs := arrV (gA Γ 21) (mK M a).2 (eV Γ M 21 a)) (cd := arrV (gA Γ 21) (mK M b).2 (eV Γ M 21 b)) (srcPos := i) (destPos := j) (n := n) (by rw [hT]; exact ea) (by rw [hT]; exact eb)
      (fun _ h => by cases h) (fun _ h => by cases h) (fun h => by cases h) (fun h => by cases h) hk0 hk1 hkk0 hkk1 (by simp [refKind]) hi hj hn
      (by rw [nn_toInt hi, nn_toInt hn, arrV_size]; omega)
      (by rw [nn_toInt hj, nn_toInt hn, arrV_size]; omega)
      (fun vm₁ _ x hx => by
        have e : (arrV (gA Γ 21) (mK M a).2 (eV Γ M 21 a)).slots.getD (i.toNatClampNeg + x) .null = .long (mJ M a (i.toNatClampNeg + x)) := by
          rw [Array.getD_eq_getD_getElem?, arrV_read _ _ (by omega)]
          rfl
        rw [e]
        exact ⟨rfl, trivial⟩)
      (g := F0 m pc ls (.int n :: .int j :: .ref (ad Γ b) :: .int i :: .ref (ad Γ a) :: ts Γ st)) rfl (by rw [G.2.2.1]; exact hsz) (rest := ts Γ st) rfl (by rw [G.2.1]; exact hd) (by omega) (by
        have := nfw_ac
        rw [ts_cat]
        show 2 * 0 + _ + _ ≤ _
        omega)
    have e1 : copied (arrV (gA Γ 21) (mK M a).2 (eV Γ M 21 a)) (arrV (gA Γ 21) (mK M b).2 (eV Γ M 21 b)) i j n = arrV (gA Γ 21) (mK M b).2 (eV Γ M2 21 b) := by
      refine (va_copied (fun z : Int64 => Value.long z) (gA Γ 21) (gA Γ 21) (n0 := (mK M a).2) (n1 := (mK M b).2) (sp := i.toNatClampNeg) (dp := j.toNatClampNeg) (n := n.toNatClampNeg) (mJ M a) (mJ M b) hla).trans ?_
      congr 1
      funext k
      rw [eM]
      show Value.long (va_cpy (mJ M a) (mJ M b) _ _ _ k) = Value.long (if b = b ∧ _ then _ else mJ M b k)
      unfold va_cpy
      congr 1
      by_cases hk : j.toNatClampNeg ≤ k ∧ k < j.toNatClampNeg + n.toNatClampNeg
      · rw [if_pos hk, if_pos ⟨rfl, hk⟩]
      · rw [if_neg hk, if_neg (fun z => hk z.2)]
    rw [e1] at X' step
    have hl : ad Γ b < H.size := (Array.getElem?_eq_some_iff.mp eb).1
    have hheap : ((T.setVm vm').setCell (ad Γ b) (arrV (gA Γ 21) (mK M b).2 (eV Γ M2 21 b))).heap = H.setIfInBounds (ad Γ b) (arrV (gA Γ 21) (mK M b).2 (eV Γ M2 21 b)) := by rw [← hT]; rfl
    have oq : ∀ q : Nat, q ≠ ad Γ b → (H.setIfInBounds (ad Γ b) (arrV (gA Γ 21) (mK M b).2 (eV Γ M2 21 b)))[q]? = H[q]? := fun q hq => by simp [Array.getElem?_setIfInBounds, Ne.symm hq]
    have hz9 : (H.setIfInBounds (ad Γ b) (arrV (gA Γ 21) (mK M b).2 (eV Γ M2 21 b))).size = H.size := by simp
    have hR : mRep Γ M2 (H.setIfInBounds (ad Γ b) (arrV (gA Γ 21) (mK M b).2 (eV Γ M2 21 b))) := by
      refine g1.put owb (by rw [eM]; rfl) (by rw [eM]; rfl) (fun x _ => by rw [eM]; rfl) (fun x hx => by
        rw [eM]
        funext k
        show (if x = b ∧ _ then _ else mJ M x k) = mJ M x k
        rw [if_neg (fun z => hx z.1)]) (fun x _ => by rw [eM]; rfl) hz9 oq ⟨fun c hc _ => ?_, fun _ => ?_⟩
      · have e5 : mK M2 b = mK M b := by rw [eM]; rfl
        rw [e5, kb] at hc
        omega
      · have e5 : mK M2 b = mK M b := by rw [eM]; rfl
        rw [e5, kb]
        simp [Array.getElem?_setIfInBounds, hl]
    obtain ⟨t, a1, b1⟩ := w _ _ hR ⟨by rw [hz9]; exact g2.1, fun q z1 z2 => by
        rw [oq q (fun e => z2 (by rw [e]; exact gF_own owb.1))]
        exact g2.2.1 q z1 z2, fun q hq => by
        rcases List.mem_append.mp hq with h | h
        · exact g2.2.2 q h
        · obtain ⟨z, -, hz⟩ := List.mem_map.mp h
          rw [← hz]
          exact gF_own owb.1⟩ _ hheap X'
    exact ⟨t, step t a1, b1⟩
  · cases ho
/-- what rows over an outer array are of -/
def GE (ko ki : Nat) (ty : FieldType) : Prop := (ko = 25 ∧ ki = 20 ∧ ty = .int) ∨ (ko = 26 ∧ ki = 21 ∧ ty = .long)
theorem nG_of {M : Mm} {ko ki : Nat} {n m : Int32} {q : Nat × Mm} (ho : nG M ko ki n m = some q) : ¬ n < 0 ∧ ¬ m < 0 ∧ n.toNatClampNeg ≤ 64 ∧ m.toNatClampNeg ≤ 64 ∧ q.1 = mT M ∧ mT q.2 = mT M + (1 + n.toNatClampNeg) ∧ mW q.2 = mW M + (n.toNatClampNeg + n.toNatClampNeg * m.toNatClampNeg) ∧
    (∀ x, mK q.2 x = if x = mT M then (ko, n.toNatClampNeg) else if mT M < x ∧ x < mT M + 1 + n.toNatClampNeg then (ki, m.toNatClampNeg) else mK M x) ∧ (∀ x j, mI q.2 x j = if mT M ≤ x ∧ x < mT M + 1 + n.toNatClampNeg then 0 else mI M x j) ∧ (∀ x j, mJ q.2 x j = if mT M ≤ x ∧ x < mT M + 1 + n.toNatClampNeg then 0 else mJ M x j) ∧
    (∀ x j, mR q.2 x j = if x = mT M then (if j < n.toNatClampNeg then some (mT M + 1 + j) else none) else if mT M < x ∧ x < mT M + 1 + n.toNatClampNeg then none else mR M x j) := by
  unfold nG at ho
  split at ho
  · rename_i hc
    obtain ⟨h1, h2, h3, h4⟩ := hc
    cases ho
    obtain ⟨a1, a2, a3, a4, a5, a6⟩ := sRows_of ki m.toNatClampNeg (sN M ko n.toNatClampNeg n.toNatClampNeg) n.toNatClampNeg
    have eT : mT (sN M ko n.toNatClampNeg n.toNatClampNeg) = mT M + 1 := rfl
    rw [eT] at a1 a3 a4 a5 a6
    refine ⟨h1, h2, h3, h4, rfl, ?_, ?_, fun x => ?_, fun x j => ?_, fun x j => ?_, fun x j => ?_⟩
    · show mT (sRows _ _ _ _) = _
      rw [a1]; omega
    · show mW (sRows _ _ _ _) = _
      rw [a2]
      show mW M + _ + _ = _
      omega
    · show mK (sRows _ _ _ _) x = _
      rw [a3]
      by_cases e : x = mT M
      · rw [if_neg (by omega), if_pos e]
        show u1 (mK M) (mT M) _ x = _
        rw [e, u1_eq]
      · rw [if_neg e]
        by_cases e2 : mT M < x ∧ x < mT M + 1 + n.toNatClampNeg
        · rw [if_pos e2, if_pos (by omega)]
        · rw [if_neg e2, if_neg (by omega)]
          show u1 (mK M) (mT M) _ x = _
          rw [u1_ne e]
    · show mI (sRows _ _ _ _) x j = _
      rw [a4]
      by_cases e : x = mT M
      · rw [if_neg (by omega), if_pos (by omega)]
        show u1 (mI M) (mT M) _ x j = _
        rw [e, u1_eq]
      · by_cases e2 : mT M + 1 ≤ x ∧ x < mT M + 1 + n.toNatClampNeg
        · rw [if_pos e2, if_pos (by omega)]
        · rw [if_neg e2, if_neg (by omega)]
          show u1 (mI M) (mT M) _ x j = _
          rw [u1_ne e]
    · show mJ (sRows _ _ _ _) x j = _
      rw [a5]
      by_cases e : x = mT M
      · rw [if_neg (by omega), if_pos (by omega)]
        show u1 (mJ M) (mT M) _ x j = _
        rw [e, u1_eq]
      · by_cases e2 : mT M + 1 ≤ x ∧ x < mT M + 1 + n.toNatClampNeg
        · rw [if_pos e2, if_pos (by omega)]
        · rw [if_neg e2, if_neg (by omega)]
          show u1 (mJ M) (mT M) _ x j = _
          rw [u1_ne e]
    · show u1 (mR (sRows _ _ _ _)) (mT M) _ x j = _
      by_cases e : x = mT M
      · rw [e, u1_eq, if_pos rfl]
      · rw [u1_ne e, if_neg e, a6]
        by_cases e2 : mT M + 1 ≤ x ∧ x < mT M + 1 + n.toNatClampNeg
        · rw [if_pos e2, if_pos (by omega)]
        · rw [if_neg e2, if_neg (by omega)]
          show u1 (mR M) (mT M) _ x j = _
          rw [u1_ne e]
  · cases ho
theorem outerC_arr (c : ClassId) (N h0 : Nat) : ∀ i : Nat, Jvm.Free.Multi.outerC c N h0 i = arrV c N (fun j => va_rf (if j < i then some (h0 + 1 + j) else none))
  | 0 => by
    show ({ cls := c, slots := Array.replicate N .null, vm := .none } : Cell) = _
    rw [arrV_new]
    refine congrArg (arrV c N) (funext fun j => ?_)
    simp [va_rf]
  | i + 1 => by
    show (Jvm.Free.Multi.outerC c N h0 i).setSlot i (.ref (h0 + 1 + i)) = _
    rw [outerC_arr c N h0 i, arrV_store]
    refine congrArg (arrV c N) (funext fun j => ?_)
    by_cases e : j = i
    · subst e
      simp [updV, va_rf]
    · by_cases h : j < i
      · simp [updV, e, h, Nat.lt_succ_of_lt h]
      · simp [updV, e, h, show ¬ j < i + 1 by omega]
set_option maxHeartbeats 2000000 in
theorem a_mna {index ko ki : Nat} {ty : FieldType} {n m9 : Int32} {q : Nat × Mm} (hd : decode cc pc = .ok (.multianewarray index 2, 4)) (hE : GE ko ki ty) (hcl : Cond.classLink y.cls index ("[" ++ (FieldType.array ty).toString) ∈ gw) (hac : Cond.arrayClass ty ∈ gw) (ho : nG M ko ki n m9 = some q) (h : AW l Γ y cc nl rt d t0 w0 (pc + 4) lv (.ref q.1 :: st) q.2 r M1) : AW l Γ y cc nl rt d t0 w0 pc lv (.int m9 :: .int n :: st) M r M1 := by
  obtain ⟨hn, hm, hln, hlm, eq1, eT, eW, eK, eI, eJ, eR⟩ := nG_of ho
  have hty : (ty = .int ∨ ty = .long) := by rcases hE with ⟨-, -, e⟩ | ⟨-, -, e⟩ <;> simp [e]
  refine AW.nw (M2 := q.2) (dc := 1 + n.toNatClampNeg) (dw := n.toNatClampNeg + n.toNatClampNeg * m9.toNatClampNeg) eT eW h (fun {p e R s m args below meth c' H locs cells slots Q ls} G g1 g2 hroom w => ?_)
  have hts := G.2.2.2.2.2.2.2.1
  have hV := G.2.2.2.2.2.2.2.2
  have hmul : n.toNatClampNeg * m9.toNatClampNeg ≤ 64 * 64 := Nat.mul_le_mul hln hlm
  intro T hT Xs
  obtain ⟨vm₁, cA, comp, -, fA, fC, hO, -, X', step⟩ := Xs.multianewarray2F (ty := ty) G.1 G.2.2.2.2.2.2.1 (hts _ hcl) (by
      rcases hty with rfl | rfl
      · exact hV.2.2.2.1.2.2.2.1
      · exact hV.2.2.2.1.2.2.2.2) (hts _ hac) (g := F0 m pc ls (.int m9 :: .int n :: ts Γ st)) rfl (by rw [G.2.1]; exact hd) rfl hn hm (by omega) (by rcases hty with rfl | rfl <;> (show _ * _ ≤ _; simp [componentBytes]; omega)) (by omega) (by rcases hty with rfl | rfl <;> rfl) (by rcases hty with rfl | rfl <;> rfl) (by omega) (by omega)
  have hTh : (T.setVm vm₁).heap = H := hT
  obtain ⟨f1, f2, -, -⟩ := Jvm.Free.Multi.fill_facts (T.setVm vm₁) cA comp n.toNatClampNeg m9.toNatClampNeg (defaultValue ty) n.toNatClampNeg
  have hold : ∀ x : Nat, x < H.size → (Jvm.Free.Multi.fill (T.setVm vm₁) cA comp n.toNatClampNeg m9.toNatClampNeg (defaultValue ty) n.toNatClampNeg).heap[x]? = H[x]? := fun x hx => by
    rw [← hTh]
    exact Jvm.Free.Multi.fill_old (T.setVm vm₁) cA comp n.toNatClampNeg m9.toNatClampNeg (defaultValue ty) (a := x) (by rw [hTh]; exact hx) n.toNatClampNeg
  have hrow : ∀ j : Nat, j < n.toNatClampNeg → (Jvm.Free.Multi.fill (T.setVm vm₁) cA comp n.toNatClampNeg m9.toNatClampNeg (defaultValue ty) n.toNatClampNeg).heap[H.size + 1 + j]? = some (Jvm.Free.Multi.innerC comp m9.toNatClampNeg (defaultValue ty)) := fun j hj => by
    rw [← hTh]
    exact Jvm.Free.Multi.fill_inner (T.setVm vm₁) cA comp n.toNatClampNeg m9.toNatClampNeg (defaultValue ty) n.toNatClampNeg j hj
  rw [hTh, outerC_arr] at f2
  rw [hTh] at f1
  generalize Jvm.Free.Multi.fill (T.setVm vm₁) cA comp n.toNatClampNeg m9.toNatClampNeg (defaultValue ty) n.toNatClampNeg = F at X' step f1 f2 hold hrow
  have cls1 : gA Γ ko = cA ∧ gA Γ ki = comp := by
    rcases hE with ⟨rfl, rfl, rfl⟩ | ⟨rfl, rfl, rfl⟩
    · exact ⟨Option.some.inj (((hV.1.2 5 _ rfl).2 : s.vm.findClass ("[" ++ (FieldType.array .int).toString) = some (gA Γ 25)).symm.trans fA), Option.some.inj (((hV.1.2 0 _ rfl).2 : s.vm.findClass ("[" ++ (FieldType.int).toString) = some (gA Γ 20)).symm.trans fC)⟩
    · exact ⟨Option.some.inj (((hV.1.2 6 _ rfl).2 : s.vm.findClass ("[" ++ (FieldType.array .long).toString) = some (gA Γ 26)).symm.trans fA), Option.some.inj (((hV.1.2 1 _ rfl).2 : s.vm.findClass ("[" ++ (FieldType.long).toString) = some (gA Γ 21)).symm.trans fC)⟩
  have hk9 : 20 ≤ ko ∧ ko < 27 ∧ 22 ≤ ko ∧ 20 ≤ ki ∧ ki < 22 := by rcases hE with ⟨rfl, rfl, -⟩ | ⟨rfl, rfl, -⟩ <;> omega
  have a1 := g1.1.1
  have a2 := g1.1.2
  have hR : mRep Γ q.2 F.heap := by
    refine ⟨⟨by rw [f1, eT]; omega, by rw [eT]; omega⟩, fun o ho1 ho2 => ?_, fun o ho1 => ?_, fun o ho1 => ?_, fun o ho1 => ?_⟩
    · rw [eT] at ho2
      by_cases e1 : o = mT M
      · subst e1
        refine ⟨fun c9 hc9 hl9 => ?_, fun _ => ?_⟩
        · rw [eK, if_pos rfl] at hc9
          have : ko = c9 + 1 := hc9
          omega
        · rw [eK, if_pos rfl, g1.adT, f2, cls1.1]
          congr 2
          funext j
          rw [eV_ref (show 22 ≤ (ko, n.toNatClampNeg).1 by show 22 ≤ ko; omega), eR, if_pos rfl]
          by_cases hj : j < n.toNatClampNeg
          · rw [if_pos hj, if_pos hj]
            show va_rf (some (H.size + 1 + j)) = va_rf (some (ad Γ (mT M + 1 + j)))
            rw [ad_own (by omega)]
            congr 2
            omega
          · rw [if_neg hj, if_neg hj]
            rfl
      · by_cases e2 : mT M < o
        · refine ⟨fun c9 hc9 hl9 => ?_, fun _ => ?_⟩
          · rw [eK, if_neg e1, if_pos ⟨e2, by omega⟩] at hc9
            have : ki = c9 + 1 := hc9
            omega
          · rw [eK, if_neg e1, if_pos ⟨e2, by omega⟩]
            have hr9 := hrow (o - mT M - 1) (by omega)
            have e5 : ad Γ o = H.size + 1 + (o - mT M - 1) := by rw [ad_own ho1]; omega
            rw [e5, hr9, cls1.2]
            show some ({ cls := comp, slots := Array.replicate m9.toNatClampNeg (defaultValue ty), vm := .none } : Cell) = _
            rw [arrV_new]
            congr 2
            funext j
            rcases hE with ⟨rfl, rfl, rfl⟩ | ⟨rfl, rfl, rfl⟩
            · show Value.int 0 = Value.int (mI q.2 o j)
              rw [eI, if_pos ⟨by omega, by omega⟩]
            · show Value.long 0 = Value.long (mJ q.2 o j)
              rw [eJ, if_pos ⟨by omega, by omega⟩]
        · refine (g1.2.1 o ho1 (by omega)).cong (by rw [eK, if_neg e1, if_neg (by omega)]) (fun j => by rw [eI, if_neg (by omega)]) (fun j => by rw [eJ, if_neg (by omega)]) (fun j => by rw [eR, if_neg e1, if_neg (by omega)]) (hold _ (by rw [ad_own ho1]; omega))
    · rw [eT] at ho1
      rw [eK, if_neg (by omega), if_neg (by omega)]
      exact g1.2.2.1 o (by omega)
    · have b1 := g1.2.2.2.1 o ho1
      have c1 : mK q.2 o = mK M o := by rw [eK, if_neg (by omega), if_neg (by omega)]
      have c2 : mI q.2 o = mI M o := funext fun j => by rw [eI, if_neg (by omega)]
      have c3 : mR q.2 o = mR M o := funext fun j => by rw [eR, if_neg (by omega), if_neg (by omega)]
      rw [c1, c2, c3]
      exact b1
    · rw [eK]
      by_cases e1 : o = mT M
      · rw [if_pos e1]; show ko < 30; omega
      · rw [if_neg e1]
        by_cases e2 : mT M < o ∧ o < mT M + 1 + n.toNatClampNeg
        · rw [if_pos e2]; show ki < 30; omega
        · rw [if_neg e2]; exact g1.2.2.2.2 o ho1
  have w1 := w F.heap hR (va_S.new g2 (by rw [f1]; omega) hold)
  have w2 : W p l e R s m args below meth c' F.heap locs (cells + (1 + n.toNatClampNeg)) (slots + (n.toNatClampNeg + n.toNatClampNeg * m9.toNatClampNeg)) Q (F0 m (pc + 4) ls (tv Γ (.ref q.1) :: ts Γ st)) := w1
  rw [eq1, adT_top g1] at w2
  obtain ⟨t, b1, b2⟩ := w2 F rfl (by
    have e3 : cells + (1 + n.toNatClampNeg) = cells + 1 + n.toNatClampNeg := by omega
    have e4 : slots + (n.toNatClampNeg + n.toNatClampNeg * m9.toNatClampNeg) = slots + n.toNatClampNeg + n.toNatClampNeg * m9.toNatClampNeg := by omega
    rw [e3, e4]
    exact X')
  exact ⟨t, step t (by rw [hT]; exact b1), b2⟩
end RULES4
