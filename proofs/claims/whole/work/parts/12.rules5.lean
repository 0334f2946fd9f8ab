/-! rows that the laid walks use -/
theorem el0 {α β : Type} {A : Option β} {B : α → Option β} {q : β} (h : Option.elim (none : Option α) A B = some q) : A = some q := h
theorem el1 {α β : Type} {a : α} {A : Option β} {B : α → Option β} {q : β} (h : Option.elim (some a) A B = some q) : B a = some q := h
theorem swne {x k : Int32} {k9 : Int} (h : ¬ x = k) (e : k.toInt = k9) : ¬ x.toInt = k9 := lv_neT h e
theorem lg_lt {x y : Int64} : lg_cmp x y < 0 ↔ x < y := by
  unfold lg_cmp
  by_cases h1 : x > y
  · have h2 : ¬ x < y := by
      have a := Int64.lt_iff_toInt_lt.mp h1
      intro h
      have b := Int64.lt_iff_toInt_lt.mp h
      omega
    rw [if_pos h1]
    exact ⟨fun h => absurd h (by decide), fun h => absurd h h2⟩
  · by_cases h2 : x = y
    · have h3 : ¬ x < y := by
        intro h
        have b := Int64.lt_iff_toInt_lt.mp h
        rw [h2] at b
        omega
      rw [if_neg h1, if_pos h2]
      exact ⟨fun h => absurd h (by decide), fun h => absurd h h3⟩
    · have h3 : x < y := by
        rw [Int64.lt_iff_toInt_lt]
        have a : ¬ y.toInt < x.toInt := fun z => h1 (Int64.lt_iff_toInt_lt.mpr z)
        have b : x.toInt ≠ y.toInt := fun z => h2 (Int64.toInt_inj.mp z)
        omega
      rw [if_neg h1, if_neg h2]
      exact ⟨fun _ => h3, fun _ => by decide⟩
theorem lg_gt {x y : Int64} : 0 < lg_cmp x y ↔ y < x := by
  unfold lg_cmp
  by_cases h1 : x > y
  · rw [if_pos h1]
    exact ⟨fun _ => h1, fun _ => by decide⟩
  · by_cases h2 : x = y
    · rw [if_neg h1, if_pos h2]
      exact ⟨fun h => absurd h (by decide), fun h => absurd h h1⟩
    · rw [if_neg h1, if_neg h2]
      exact ⟨fun h => absurd h (by decide), fun h => absurd h h1⟩
theorem lg_eq {x y : Int64} : lg_cmp x y = 0 ↔ x = y := by
  unfold lg_cmp
  by_cases h1 : x > y
  · have h2 : ¬ x = y := by
      intro h
      have b := Int64.lt_iff_toInt_lt.mp h1
      rw [h] at b
      omega
    rw [if_pos h1]
    exact ⟨fun h => absurd h (by decide), fun h => absurd h h2⟩
  · by_cases h2 : x = y
    · rw [if_neg h1, if_pos h2]
      exact ⟨fun _ => h2, fun _ => rfl⟩
    · rw [if_neg h1, if_neg h2]
      exact ⟨fun h => absurd h (by decide), fun h => absurd h h2⟩
theorem i32_le {x y : Int32} : x ≤ y ↔ ¬ y < x := by
  rw [Int32.le_iff_toInt_le, Int32.lt_iff_toInt_lt]
  omega
theorem i64_le {x y : Int64} : x ≤ y ↔ ¬ y < x := by
  rw [Int64.le_iff_toInt_le, Int64.lt_iff_toInt_lt]
  omega
theorem lg_ge {x y : Int64} : 0 ≤ lg_cmp x y ↔ y ≤ x := by rw [i32_le, lg_lt, i64_le]
theorem lg_le {x y : Int64} : lg_cmp x y ≤ 0 ↔ x ≤ y := by rw [i32_le, lg_gt, i64_le]
section RULES5
variable {l : Launch} {Γ : Gx} {y : MethodName} {cc : ByteArray} {nl : Nat} {rt : Option FieldType} {d t0 w0 pc : Nat} {lv : List (Nat × Value)} {st : List Value} {M M1 M2 : Mm} {r : Option Value}
theorem a_topI {x v : Int32} (e : some x = some v) (h : AW l Γ y cc nl rt d t0 w0 pc lv (.int v :: st) M r M1) : AW l Γ y cc nl rt d t0 w0 pc lv (.int x :: st) M r M1 := by cases e; exact h
theorem a_topJ {x v : Int64} (e : some x = some v) (h : AW l Γ y cc nl rt d t0 w0 pc lv (.long v :: st) M r M1) : AW l Γ y cc nl rt d t0 w0 pc lv (.long x :: st) M r M1 := by cases e; exact h
theorem a_topN {x v : Option Nat} (e : some x = some v) (h : AW l Γ y cc nl rt d t0 w0 pc lv (rv v :: st) M r M1) : AW l Γ y cc nl rt d t0 w0 pc lv (rv x :: st) M r M1 := by cases e; exact h
theorem a_ifnull0 {off : Int} {tgt : Nat} (hd : decode cc pc = .ok (.ifnull off, 3)) (ht : (pc : Int) + off = (tgt : Int)) (h : AW l Γ y cc nl rt d t0 w0 tgt lv st M r M1) : AW l Γ y cc nl rt d t0 w0 pc lv (.null :: st) M r M1 := AW.step1 h (fun G _ w => lv_ifnullN G.1 G.2.1 hd ht w)
theorem a_ifnull1 {off : Int} {a : Nat} (hd : decode cc pc = .ok (.ifnull off, 3)) (h : AW l Γ y cc nl rt d t0 w0 (pc + 3) lv st M r M1) : AW l Γ y cc nl rt d t0 w0 pc lv (.ref a :: st) M r M1 := AW.step1 h (fun G _ w => lv_ifnull G.1 G.2.1 hd w)
theorem a_ifnonnull0 {off : Int} (hd : decode cc pc = .ok (.ifnonnull off, 3)) (h : AW l Γ y cc nl rt d t0 w0 (pc + 3) lv st M r M1) : AW l Γ y cc nl rt d t0 w0 pc lv (.null :: st) M r M1 := AW.step1 h (fun G _ w => lv_ifnonnullN G.1 G.2.1 hd w)
theorem a_ifnonnull1 {off : Int} {tgt a : Nat} (hd : decode cc pc = .ok (.ifnonnull off, 3)) (ht : (pc : Int) + off = (tgt : Int)) (h : AW l Γ y cc nl rt d t0 w0 tgt lv st M r M1) : AW l Γ y cc nl rt d t0 w0 pc lv (.ref a :: st) M r M1 := AW.step1 h (fun G _ w => lv_ifnonnull G.1 G.2.1 hd ht w)
theorem a_lcmp_lt {x y1 : Int64} {off : Int} {tgt : Nat} (hd : decode cc pc = .ok (.lcmp, 1)) (hd2 : decode cc (pc + 1) = .ok (.ifCond .lt off, 3)) (ht : ((pc + 1 : Nat) : Int) + off = (tgt : Int)) (kt : x < y1 → AW l Γ y cc nl rt d t0 w0 tgt lv st M r M1) (kf : ¬ x < y1 → AW l Γ y cc nl rt d t0 w0 (pc + 1 + 3) lv st M r M1) : AW l Γ y cc nl rt d t0 w0 pc lv (.long y1 :: .long x :: st) M r M1 :=
  a_lcmp hd (a_if_lt hd2 ht (fun h => kt (lg_lt.mp h)) (fun h => kf (fun z => h (lg_lt.mpr z))))
theorem a_lcmp_ge {x y1 : Int64} {off : Int} {tgt : Nat} (hd : decode cc pc = .ok (.lcmp, 1)) (hd2 : decode cc (pc + 1) = .ok (.ifCond .ge off, 3)) (ht : ((pc + 1 : Nat) : Int) + off = (tgt : Int)) (kt : y1 ≤ x → AW l Γ y cc nl rt d t0 w0 tgt lv st M r M1) (kf : ¬ y1 ≤ x → AW l Γ y cc nl rt d t0 w0 (pc + 1 + 3) lv st M r M1) : AW l Γ y cc nl rt d t0 w0 pc lv (.long y1 :: .long x :: st) M r M1 :=
  a_lcmp hd (a_if_ge hd2 ht (fun h => kt (lg_ge.mp h)) (fun h => kf (fun z => h (lg_ge.mpr z))))
theorem a_lcmp_gt {x y1 : Int64} {off : Int} {tgt : Nat} (hd : decode cc pc = .ok (.lcmp, 1)) (hd2 : decode cc (pc + 1) = .ok (.ifCond .gt off, 3)) (ht : ((pc + 1 : Nat) : Int) + off = (tgt : Int)) (kt : y1 < x → AW l Γ y cc nl rt d t0 w0 tgt lv st M r M1) (kf : ¬ y1 < x → AW l Γ y cc nl rt d t0 w0 (pc + 1 + 3) lv st M r M1) : AW l Γ y cc nl rt d t0 w0 pc lv (.long y1 :: .long x :: st) M r M1 :=
  a_lcmp hd (a_if_gt hd2 ht (fun h => kt (lg_gt.mp h)) (fun h => kf (fun z => h (lg_gt.mpr z))))
theorem a_lcmp_le {x y1 : Int64} {off : Int} {tgt : Nat} (hd : decode cc pc = .ok (.lcmp, 1)) (hd2 : decode cc (pc + 1) = .ok (.ifCond .le off, 3)) (ht : ((pc + 1 : Nat) : Int) + off = (tgt : Int)) (kt : x ≤ y1 → AW l Γ y cc nl rt d t0 w0 tgt lv st M r M1) (kf : ¬ x ≤ y1 → AW l Γ y cc nl rt d t0 w0 (pc + 1 + 3) lv st M r M1) : AW l Γ y cc nl rt d t0 w0 pc lv (.long y1 :: .long x :: st) M r M1 :=
  a_lcmp hd (a_if_le hd2 ht (fun h => kt (lg_le.mp h)) (fun h => kf (fun z => h (lg_le.mpr z))))
theorem a_lcmp_eq {x y1 : Int64} {off : Int} {tgt : Nat} (hd : decode cc pc = .ok (.lcmp, 1)) (hd2 : decode cc (pc + 1) = .ok (.ifCond .eq off, 3)) (ht : ((pc + 1 : Nat) : Int) + off = (tgt : Int)) (kt : x = y1 → AW l Γ y cc nl rt d t0 w0 tgt lv st M r M1) (kf : ¬ x = y1 → AW l Γ y cc nl rt d t0 w0 (pc + 1 + 3) lv st M r M1) : AW l Γ y cc nl rt d t0 w0 pc lv (.long y1 :: .long x :: st) M r M1 :=
  a_lcmp hd (a_if_eq hd2 ht (fun h => kt (lg_eq.mp h)) (fun h => kf (fun z => h (lg_eq.mpr z))))
theorem a_lcmp_ne {x y1 : Int64} {off : Int} {tgt : Nat} (hd : decode cc pc = .ok (.lcmp, 1)) (hd2 : decode cc (pc + 1) = .ok (.ifCond .ne off, 3)) (ht : ((pc + 1 : Nat) : Int) + off = (tgt : Int)) (kt : ¬ x = y1 → AW l Γ y cc nl rt d t0 w0 tgt lv st M r M1) (kf : x = y1 → AW l Γ y cc nl rt d t0 w0 (pc + 1 + 3) lv st M r M1) : AW l Γ y cc nl rt d t0 w0 pc lv (.long y1 :: .long x :: st) M r M1 :=
  a_lcmp hd (a_if_ne hd2 ht (fun h => kt (fun z => h (lg_eq.mpr z))) (fun h => kf (lg_eq.mp h)))
theorem a_zretZ {v v1 : Int32} (hr : rt = some .boolean) (hd : decode cc pc = .ok (.ireturn, 1)) (hz : rZ v = some v1) (e : r = some (.int v1)) : AW l Γ y cc nl rt d t0 w0 pc lv [.int v] M1 r M1 := by
  unfold rZ at hz
  split at hz
  · rename_i hc
    cases hz
    exact a_zret hr (by show Value.int (v &&& 1) = _; rw [hc]) hd e
  · cases hz
theorem a_zretB {v v1 : Int32} (hr : rt = some .byte) (hd : decode cc pc = .ok (.ireturn, 1)) (hz : rB v = some v1) (e : r = some (.int v1)) : AW l Γ y cc nl rt d t0 w0 pc lv [.int v] M1 r M1 := by
  unfold rB at hz
  split at hz
  · rename_i hc
    cases hz
    exact a_zret hr (by show Value.int (v.toInt8.toInt32) = _; rw [hc]) hd e
  · cases hz
theorem a_zretC {v v1 : Int32} (hr : rt = some .char) (hd : decode cc pc = .ok (.ireturn, 1)) (hz : rC v = some v1) (e : r = some (.int v1)) : AW l Γ y cc nl rt d t0 w0 pc lv [.int v] M1 r M1 := by
  unfold rC at hz
  split at hz
  · rename_i hc
    cases hz
    exact a_zret hr (by show Value.int (v.toUInt32.toUInt16.toUInt32.toInt32) = _; rw [hc]) hd e
  · cases hz
theorem a_mmax {index : Nat} {x y1 : Int32} (hd : decode cc pc = .ok (.invokestatic index, 3)) (h1 : Cond.methodLink y.cls index Lib.Math.max.name ∈ gw) (h2 : Cond.static Lib.Math.max.name ∈ gw ∧ Cond.initialized "java/lang/Math" ∈ gw ∧ Cond.code Lib.Math.max.name Lib.Math.max.code 2 (some .int) ∈ gw) (hdd : 1 ≤ d) (h8 : (st.map fun v => v.category).sum ≤ 8)
    (h : AW l Γ y cc nl rt d t0 w0 (pc + 3) lv (.int (mxI x y1) :: st) M r M1) : AW l Γ y cc nl rt d t0 w0 pc lv (.int y1 :: .int x :: st) M r M1 := by
  refine ⟨h.1, fun p e R s m args below meth c H locs cells slots ls G q1 q2 q3 q4 q5 => ?_⟩
  have hts := G.2.2.2.2.2.2.2.1
  have f1 := h.1.1
  have f2 := h.1.2
  exact va_mmax G.1 G.2.1 (G.2.2.1.trans q5.1.symm) G.2.2.2.2.2.2.1 (hts _ h1) (hts _ h2.1) (hts _ h2.2.1) (hts _ h2.2.2) (by omega) (by have e9 := ts_cat Γ st; unfold ts at e9; rw [e9]; omega) (by omega) (by omega) hd (h.2 p e R s m args below meth c H locs cells slots ls G q1 q2 q3 q4 q5)
theorem a_mmin {index : Nat} {x y1 : Int32} (hd : decode cc pc = .ok (.invokestatic index, 3)) (h1 : Cond.methodLink y.cls index Lib.Math.min.name ∈ gw) (h2 : Cond.static Lib.Math.min.name ∈ gw ∧ Cond.initialized "java/lang/Math" ∈ gw ∧ Cond.code Lib.Math.min.name Lib.Math.min.code 2 (some .int) ∈ gw) (hdd : 1 ≤ d) (h8 : (st.map fun v => v.category).sum ≤ 8)
    (h : AW l Γ y cc nl rt d t0 w0 (pc + 3) lv (.int (mnI x y1) :: st) M r M1) : AW l Γ y cc nl rt d t0 w0 pc lv (.int y1 :: .int x :: st) M r M1 := by
  refine ⟨h.1, fun p e R s m args below meth c H locs cells slots ls G q1 q2 q3 q4 q5 => ?_⟩
  have hts := G.2.2.2.2.2.2.2.1
  have f1 := h.1.1
  have f2 := h.1.2
  exact va_mmin G.1 G.2.1 (G.2.2.1.trans q5.1.symm) G.2.2.2.2.2.2.1 (hts _ h1) (hts _ h2.1) (hts _ h2.2.1) (hts _ h2.2.2) (by omega) (by have e9 := ts_cat Γ st; unfold ts at e9; rw [e9]; omega) (by omega) (by omega) hd (h.2 p e R s m args below meth c H locs cells slots ls G q1 q2 q3 q4 q5)
theorem a_mabs {index : Nat} {x : Int32} (hd : decode cc pc = .ok (.invokestatic index, 3)) (h1 : Cond.methodLink y.cls index Lib.Math.abs.name ∈ gw) (h2 : Cond.static Lib.Math.abs.name ∈ gw ∧ Cond.initialized "java/lang/Math" ∈ gw ∧ Cond.code Lib.Math.abs.name Lib.Math.abs.code 1 (some .int) ∈ gw) (hdd : 1 ≤ d) (h8 : (st.map fun v => v.category).sum ≤ 8)
    (h : AW l Γ y cc nl rt d t0 w0 (pc + 3) lv (.int (abI x) :: st) M r M1) : AW l Γ y cc nl rt d t0 w0 pc lv (.int x :: st) M r M1 := by
  refine ⟨h.1, fun p e R s m args below meth c H locs cells slots ls G q1 q2 q3 q4 q5 => ?_⟩
  have hts := G.2.2.2.2.2.2.2.1
  have f1 := h.1.1
  have f2 := h.1.2
  exact va_mabs G.1 G.2.1 (G.2.2.1.trans q5.1.symm) G.2.2.2.2.2.2.1 (hts _ h1) (hts _ h2.1) (hts _ h2.2.1) (hts _ h2.2.2) (by omega) (by have e9 := ts_cat Γ st; unfold ts at e9; rw [e9]; omega) (by omega) (by omega) hd (h.2 p e R s m args below meth c H locs cells slots ls G q1 q2 q3 q4 q5)
theorem a_mmaxL {index : Nat} {x y1 : Int64} (hd : decode cc pc = .ok (.invokestatic index, 3)) (h1 : Cond.methodLink y.cls index Lib.MathLoose.max_long.x ∈ gw) (h2 : Cond.static Lib.MathLoose.max_long.x ∈ gw ∧ Cond.initialized "java/lang/Math" ∈ gw ∧ Cond.code Lib.MathLoose.max_long.x Lib.MathLoose.max_long.code 4 (some .long) ∈ gw) (hdd : 1 ≤ d) (h8 : (st.map fun v => v.category).sum ≤ 8)
    (h : AW l Γ y cc nl rt d t0 w0 (pc + 3) lv (.long (mxJ x y1) :: st) M r M1) : AW l Γ y cc nl rt d t0 w0 pc lv (.long y1 :: .long x :: st) M r M1 := by
  refine ⟨h.1, fun p e R s m args below meth c H locs cells slots ls G q1 q2 q3 q4 q5 => ?_⟩
  have hts := G.2.2.2.2.2.2.2.1
  have f1 := h.1.1
  have f2 := h.1.2
  exact va_mmax_long G.1 G.2.1 (G.2.2.1.trans q5.1.symm) G.2.2.2.2.2.2.1 (hts _ h1) (hts _ h2.1) (hts _ h2.2.1) (hts _ h2.2.2) (by omega) (by have e9 := ts_cat Γ st; unfold ts at e9; rw [e9]; omega) (by omega) (by omega) hd (h.2 p e R s m args below meth c H locs cells slots ls G q1 q2 q3 q4 q5)
end RULES5
